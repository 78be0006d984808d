/-! THROWS: a handler's search over classes that may be resolved only there -/
section NXF
variable {tb : Tables} {e : Env} {s s0 : State} {f g : JFrame} {a : Addr} {x y : ExceptionTableEntry} {t : List ExceptionTableEntry} {c c2 : ClassId} {vm' : Vm} {cell : Cell} {below : List Frame}
/-- the search, as from the tables that its resolution leaves -/
theorem nx_goCold {Q : Handler → Pre} {E : CtlPost} {d : Bool} {acts : List Action} (hx : covers x f.pc = true) (h0 : x.catchType ≠ 0) (hg : (Jvm.resolveClass f.method.cls x.catchType).Gives e.toSetting s.vm (.ok c) vm') (hr : vm'.classReady f.method.cls x.catchType c) (hsz : vm'.classes.size ≤ s.vm.classes.size) :
    wp (findHandler.go f a (x :: t)) Q E e d acts s ↔ wp (findHandler.go f a (x :: t)) Q E e d acts (s.setVm vm') := by
  obtain ⟨ha, ht⟩ := hg.op (op := VmOp.resolveClass f.method.cls x.catchType) rfl
  obtain ⟨k, hkd, hres⟩ := id hr
  simp only [covers] at hx
  have hm := resolveClass_memo (vm := vm') e hkd hres
  have hvv : (s.setVm vm').setVm vm' = s.setVm vm' := rfl
  simp [findHandler.go, hx, h0, ha, ht, hsz, hm, hvv, VmOp.dirties, VmOp.acts]
/-- one entry that covers the place -/
theorem nx_one (hW : s0.WarmedH s.vm) (hl : s0.vm.ClassLinks e.platform f.method.cls x.catchType c) (hx : covers x f.pc = true) (h0 : x.catchType ≠ 0) (hcell : s.heap[a]? = some cell) (hobj : ∀ k, cell.vm ≠ .statics k) (hk : ∃ k, s0.vm.classes[cell.cls]? = some k) :
    ∃ vm', s0.WarmedH vm' ∧ ∀ (Q : Handler → Pre) (E : CtlPost) (d : Bool) (acts : List Action), wp (findHandler.go f a (x :: t)) Q E e d acts s ↔ (if s0.vm.assignable cell.cls c = true then Q (.found x.handlerPc) d acts (s.setVm vm') else wp (findHandler.go f a t) Q E e d acts (s.setVm vm')) := by
  obtain ⟨h1, h2, h3⟩ := State.classEntry (e := e) hW hl
  generalize s.vm.noted f.method.cls x.catchType (.cls c) = vm₁ at h1 h2 h3
  refine ⟨vm₁, h2, fun Q E d acts => ?_⟩
  obtain ⟨k, hk⟩ := hk
  obtain ⟨_, _, _, ck, -, -, -, -, -, hck, -⟩ := hl.here
  obtain ⟨k2, hk2, -⟩ := h2.alike.2.2 _ _ hk
  obtain ⟨k3, hk3, -⟩ := h2.alike.2.2 _ _ hck
  rw [nx_goCold hx h0 h1 h3 (Vm.Alike.size_le (hW.alike.symm.trans h2.alike)), _root_.Jvm.W.findHandler_go_class (s := s.setVm vm₁) hx h0 h3 hcell hobj ⟨k2, hk2⟩ ⟨k3, hk3⟩, show (s.setVm vm₁).vm.assignable cell.cls c = s0.vm.assignable cell.cls c from h2.alike.assignable _ _]
def nx_Finds (e : Env) (s : State) (f : JFrame) (a : Addr) (pc : Nat) (vm' : Vm) : Prop := ∀ (Q : Handler → Pre) (E : CtlPost) (d : Bool) (acts : List Action), wp (findHandler f a) Q E e d acts s ↔ Q (.found pc) d acts (s.setVm vm')
theorem nx_step {r : List Frame} {pc : Nat} (hfind : nx_Finds e s f a pc vm') : (stepThrowing e s a (.java f :: r)).Is ((s.setVm vm').setFrames (.java { f with pc := pc, stack := [.ref a] } :: r)) [] := by
  simp only [stepThrowing, searchFrame, vmDo]
  generalize hr : Sem.go _ e false [] s = res
  obtain ⟨as, rfl, ha⟩ := Sem.eq_ok_of hr (a := Handler.found pc) (s' := s.setVm vm') (acts' := []) (by simp [hfind _ _ _ _])
  exact ⟨rfl, ha⟩
theorem nx_caught {cd : Code} {target : State} (h : At s g.method cd below) {pc : Nat} (hfind : nx_Finds e ((s.setTop g).pushFrame (.throwing a)) g a pc vm') (hrest : Steps tb e below ((s.setVm vm').setTop { g with pc := pc, stack := [.ref a] }) target) :
    Steps tb e below ((s.setTop g).pushFrame (.throwing a)) target := by
  obtain ⟨hgo, hw⟩ := h.throwing a
  refine Steps.head hgo hw ?_
  rw [stepThread_throwing (frames_entered h.top _), (nx_step (s := (s.setTop g).pushFrame (.throwing a)) hfind).1]
  obtain ⟨g₀, hg⟩ := Option.isSome_iff_exists.mp h.top
  obtain ⟨r, hr⟩ := State.topJava?_eq_some.mp hg
  have hr' : (s.setVm vm').frames = .java g₀ :: r := hr
  have e1 : (((s.setTop g).pushFrame (.throwing a)).setVm vm') = (((s.setVm vm').setTop g).pushFrame (.throwing a)) := rfl
  rw [e1, State.pushFrame, State.setFrames_setFrames, State.setTop_of_frames _ hr', State.setFrames_setFrames, hr]
  rw [State.setTop_of_frames _ hr'] at hrest
  exact hrest
end NXF
