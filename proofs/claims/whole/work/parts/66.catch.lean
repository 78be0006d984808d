/-! CATCHING -/
theorem nx_nocast {s0 U : State} {a : Array Value} {X Y : String} {c d : ClassId} (hB : s0.WarmedH U.vm) (h : (Cond.not (Cond.castable X Y)).before a s0 = true) (hc : U.vm.findClass X = some c) (hd : U.vm.findClass Y = some d) : U.vm.assignable c d = false := by
  rw [hB.alike.assignable]
  rw [hB.alike.findClass] at hc hd
  simp only [Cond.before, Cond.holds, Cond.value] at h
  simp [hc, hd] at h
  exact h
section NXH
variable {p : Program} {l : Launch} {e : Env} {R : Room} {s s0 : State} {m : MethodId} {args : Array Value} {below : List Frame} {meth : Method} {c : Code} {H1 : Heap} {locs : List Loc} {cells slots : Nat} {Q : State → Prop}
variable {pc : Nat} {ls : Array Slot} {rest : List Value} {X Y own : String} {x : Addr} {cell : Cell} {T : State} {i1 i2 a1 b1 h1 a2 b2 h2 : Nat} {tl : List (Nat × Nat × Nat × Nat)}
theorem nx_catch1 (he : c.exceptionTable.toList.map (fun h => (h.startPc, h.endPc, h.handlerPc, h.catchType)) = (a1, b1, h1, i1) :: tl) (hcov : (decide (a1 ≤ pc) && decide (pc < b1)) = true) (hi : i1 ≠ 0) (hown : s.vm.findClass own = some m.cls) (hlink : (Cond.classLink own i1 X).before args s = true) (hcast : (Cond.castable X X).before args s = true)
    (hcell : H1[x]? = some cell) (hst : cell.vm.isStatics = false) (hcls : s.vm.findClass X = some cell.cls) (hT : T.heap = H1) (X0 : Stand p l e R s m args below meth c T locs cells slots)
    (kk : W p l e R s m args below meth c H1 locs cells slots Q (F0 m h1 ls [.ref x])) : ∃ t, Steps p.tables e below ((T.setTop (F0 m pc ls rest)).pushFrame (.throwing x)) t ∧ Q t := by
  have hpl : e.platform.magicAccessors = ({} : Platform).magicAccessors := by rw [X0.admits.platform]
  obtain ⟨cX, hfX, hcl⟩ := Cond.classLink_spec hown hlink e.platform hpl
  obtain ⟨c3, c4, hc3, hc4, hasg⟩ := Cond.castable_spec hcast
  cases Option.some.inj (hfX.symm.trans hcls)
  cases Option.some.inj (hc3.symm.trans hfX)
  cases Option.some.inj (hc4.symm.trans hfX)
  obtain ⟨k0, hk0⟩ := Vm.classAt_of_findClass hfX
  cases hL : c.exceptionTable.toList with
  | nil => rw [hL] at he; cases he
  | cons y r =>
    rw [hL, List.map_cons] at he
    have e1 := (List.cons.inj he).1
    simp only [Prod.mk.injEq] at e1
    obtain ⟨q1, q2, q3, q4⟩ := e1
    have hm : ((T.setTop (F0 m pc ls rest)).pushFrame (.throwing x)).vm = T.vm := Stand.throwing_vm _ _ _
    have hh : ((T.setTop (F0 m pc ls rest)).pushFrame (.throwing x)).heap = T.heap := Stand.throwing_heap _ _ _
    obtain ⟨vm', hW', hgo⟩ := nx_one (e := e) (s := (T.setTop (F0 m pc ls rest)).pushFrame (.throwing x)) (s0 := s) (f := F0 m pc ls rest) (a := x) (x := y) (t := r) (c := cell.cls) (cell := cell) (by rw [hm]; exact X0.warmed) (by rw [q4]; exact hcl) (by rw [covers, q1, q2]; exact hcov) (by rw [q4]; exact hi) (by rw [hh, hT]; exact hcell) (VmData.ne_statics_of hst) ⟨k0, hk0⟩
    have hfind : nx_Finds e ((T.setTop (F0 m pc ls rest)).pushFrame (.throwing x)) (F0 m pc ls rest) x h1 vm' := by
      intro Q E d acts
      rw [_root_.Jvm.W.findHandler_eq (meth := meth) (code := c) (by rw [hm]; exact X0.method') X0.code, hL, hgo, if_pos hasg, q3]
    obtain ⟨t, st, hq⟩ := kk (T.setVm vm') hT (X0.noted hW')
    exact ⟨t, nx_caught (cd := c) X0.here hfind st, hq⟩
theorem nx_catch2 (he : c.exceptionTable.toList.map (fun h => (h.startPc, h.endPc, h.handlerPc, h.catchType)) = (a1, b1, h1, i1) :: (a2, b2, h2, i2) :: tl) (hcov : (decide (a1 ≤ pc) && decide (pc < b1)) = true) (hcov2 : (decide (a2 ≤ pc) && decide (pc < b2)) = true) (hi : i1 ≠ 0) (hi2 : i2 ≠ 0) (hown : s.vm.findClass own = some m.cls) (hlink1 : (Cond.classLink own i1 Y).before args s = true) (hlink : (Cond.classLink own i2 X).before args s = true) (hcast : (Cond.castable X X).before args s = true)
    (hB : nx_B s0 s) (hno : (Cond.not (Cond.castable X Y)).before #[] s0 = true)
    (hcell : H1[x]? = some cell) (hst : cell.vm.isStatics = false) (hcls : s.vm.findClass X = some cell.cls) (hT : T.heap = H1) (X0 : Stand p l e R s m args below meth c T locs cells slots)
    (kk : W p l e R s m args below meth c H1 locs cells slots Q (F0 m h2 ls [.ref x])) : ∃ t, Steps p.tables e below ((T.setTop (F0 m pc ls rest)).pushFrame (.throwing x)) t ∧ Q t := by
  have hpl : e.platform.magicAccessors = ({} : Platform).magicAccessors := by rw [X0.admits.platform]
  obtain ⟨cY, hfY, hclY⟩ := Cond.classLink_spec hown hlink1 e.platform hpl
  obtain ⟨cX, hfX, hcl⟩ := Cond.classLink_spec hown hlink e.platform hpl
  obtain ⟨c3, c4, hc3, hc4, hasg⟩ := Cond.castable_spec hcast
  cases Option.some.inj (hfX.symm.trans hcls)
  cases Option.some.inj (hc3.symm.trans hfX)
  cases Option.some.inj (hc4.symm.trans hfX)
  obtain ⟨k0, hk0⟩ := Vm.classAt_of_findClass hfX
  have hnot : s.vm.assignable cell.cls cY = false := nx_nocast hB.1 hno hfX hfY
  cases hL : c.exceptionTable.toList with
  | nil => rw [hL] at he; cases he
  | cons y r =>
    rw [hL, List.map_cons] at he
    obtain ⟨e1, he2⟩ := List.cons.inj he
    simp only [Prod.mk.injEq] at e1
    obtain ⟨q1, q2, q3, q4⟩ := e1
    cases r with
    | nil => cases he2
    | cons y2 r2 =>
      rw [List.map_cons] at he2
      have e2 := (List.cons.inj he2).1
      simp only [Prod.mk.injEq] at e2
      obtain ⟨z1, z2, z3, z4⟩ := e2
      have hm : ((T.setTop (F0 m pc ls rest)).pushFrame (.throwing x)).vm = T.vm := Stand.throwing_vm _ _ _
      have hh : ((T.setTop (F0 m pc ls rest)).pushFrame (.throwing x)).heap = T.heap := Stand.throwing_heap _ _ _
      obtain ⟨vm₁, hW₁, hgo1⟩ := nx_one (e := e) (s := (T.setTop (F0 m pc ls rest)).pushFrame (.throwing x)) (s0 := s) (f := F0 m pc ls rest) (a := x) (x := y) (t := y2 :: r2) (c := cY) (cell := cell) (by rw [hm]; exact X0.warmed) (by rw [q4]; exact hclY) (by rw [covers, q1, q2]; exact hcov) (by rw [q4]; exact hi) (by rw [hh, hT]; exact hcell) (VmData.ne_statics_of hst) ⟨k0, hk0⟩
      obtain ⟨vm', hW', hgo⟩ := nx_one (e := e) (s := ((T.setTop (F0 m pc ls rest)).pushFrame (.throwing x)).setVm vm₁) (s0 := s) (f := F0 m pc ls rest) (a := x) (x := y2) (t := r2) (c := cell.cls) (cell := cell) hW₁ (by rw [z4]; exact hcl) (by rw [covers, z1, z2]; exact hcov2) (by rw [z4]; exact hi2) (by show ((T.setTop (F0 m pc ls rest)).pushFrame (.throwing x)).heap[x]? = _; rw [hh, hT]; exact hcell) (VmData.ne_statics_of hst) ⟨k0, hk0⟩
      have hfind : nx_Finds e ((T.setTop (F0 m pc ls rest)).pushFrame (.throwing x)) (F0 m pc ls rest) x h2 vm' := by
        intro Q E d acts
        rw [_root_.Jvm.W.findHandler_eq (meth := meth) (code := c) (by rw [hm]; exact X0.method') X0.code, hL, hgo1, if_neg (by rw [hnot]; decide), hgo, if_pos hasg, z3]
        exact Iff.rfl
      obtain ⟨t, st, hq⟩ := kk (T.setVm vm') hT (X0.noted hW')
      exact ⟨t, nx_caught (cd := c) X0.here hfind st, hq⟩
end NXH
