/-! CALLS of methods that may throw -/
def nx_Run (p : Program) (l : Launch) (e : Env) (R : Room) (s : State) (m : MethodId) (args : Array Value) (below : List Frame) (meth : Method) (c : Code) (H : Heap) (locs : List Loc) (cells slots mc ms pc : Nat) (ls : Array Slot) (st0 rest : List Value) (Qa : State → Outcome → State → Prop) (free : Addr → Prop) : Prop :=
  ∀ T : State, T.heap = H → Stand p l e R s m args below meth c T locs cells slots → ∃ (o : Outcome) (st₀ t T' : State) (L : List Loc), st₀.heap = H ∧ s.WarmedH st₀.vm ∧ Stand p l e R s m args below meth c T' (locs ++ L) (cells + mc) (slots + ms) ∧ (∀ q ∈ L, free q.base) ∧ T'.heap = t.heap ∧ T'.vm = t.vm ∧ Qa st₀ o t ∧
    ((∃ v, o = .returned v ∧ ∀ tg, Steps p.tables e below (T'.setTop (F0 m (pc + 3) ls (v.toList ++ rest))) tg → Steps p.tables e below (T.setTop (F0 m pc ls st0)) tg) ∨
     (∃ x, o = .threw x ∧ ∀ tg, Steps p.tables e below ((T'.setTop (F0 m pc ls rest)).pushFrame (.throwing x)) tg → Steps p.tables e below (T.setTop (F0 m pc ls st0)) tg))
/-- the method y is there, with so many variables -/
def nx_Y (s : State) (y : MethodName) (maxL : Nat) : Prop := ∃ mk methY cY, s.methodNamed? y = some mk ∧ s.vm.method? mk = some methY ∧ methY.code = some cY ∧ cY.maxLocals = maxL ∧ parseMethodDescriptor y.desc = some methY.sig
theorem nx_Yof {s : State} {args : Array Value} {y : MethodName} {bytes : ByteArray} {maxL : Nat} {ret : Option FieldType} (h : (Cond.code y bytes maxL ret).before args s = true) : nx_Y s y maxL := by
  obtain ⟨mk, hn⟩ := Cond.code_named h
  obtain ⟨methM, cM, hm, hc, -, hl, -, -, -, hs⟩ := Cond.code_spec hn h
  exact ⟨mk, methM, cM, hn, hm, hc, hl, hs⟩
theorem nx_YofW {s : State} {args : Array Value} {y : MethodName} {bytes : ByteArray} {maxL : Nat} {ret : Option FieldType} {hd : List (Nat × Nat × Nat × Nat)} (h : (Cond.codeWith y bytes maxL ret hd).before args s = true) : nx_Y s y maxL := by
  obtain ⟨mk, methM, cM, hn, hm, hc, -, hl, -, -, -, hs⟩ := Cond.codeWith_spec h
  exact ⟨mk, methM, cM, hn, hm, hc, hl, hs⟩
section NXR
variable {p : Program} {l : Launch} {e : Env} {R : Room} {s : State} {m : MethodId} {args : Array Value} {below : List Frame} {meth : Method} {c : Code} {H : Heap} {locs : List Loc} {cells slots : Nat} {Q : State → Prop}
variable {cc : ByteArray} {pc : Nat} {ls : Array Slot} {rest st0 As : List Value} {mc ms maxL nL index n : Nat} {y : MethodName} {ws : List Cond} {rm : Room} {Pc : Array Value → State → Prop} {Qc : Array Value → State → Outcome → State → Prop} {free : Addr → Prop} {own C : String} {Ts : List Cond} {b : Addr}
theorem nx_runS (S : CallFix p m c cc nL s args Ts own) (hM : nx_Met l y ws rm Pc Qc mc ms free) (hY : nx_Y s y maxL) (hlink : (Cond.methodLink own index y).before args s = true) (hst : (Cond.static y).before args s = true) (hini : (Cond.initialized y.cls).before args s = true) (hws : ∀ w ∈ ws, ∀ (a' : Array Value) (U : State), s.WarmedH U.vm → w.before a' U = true)
    (hy : y.cls ≠ "java/lang/invoke/MethodHandle" ∧ y.cls ≠ "java/lang/invoke/VarHandle" ∧ (parseMethodDescriptor y.desc).map (fun d => d.parameters.length) = some n) (hp : PreS s H Pc As) (hrc : rm.cells = mc) (hrs : rm.slots = ms) (hR : rm.frames + 1 ≤ R.frames ∧ 8 + (maxL + 11) + rm.locals ≤ R.locals)
    (hn : As.length = n) (hsize : ls.size = nL) (hW : (rest.map fun v => v.category).sum ≤ 8) (hdg : decode cc pc = .ok (.invokestatic index, 3)) (hf : cells + mc ≤ R.cells ∧ slots + ms ≤ R.slots) :
    nx_Run p l e R s m args below meth c H locs cells slots mc ms pc ls (As.reverse ++ rest) rest (Qc As.toArray) free := by
  obtain ⟨hx, hb, hml, ho, -⟩ := S
  obtain ⟨mk, methM, cM, hnamed, hmethM, hcM, hlM, hsigM⟩ := hY
  have hstatic : methM.isStatic = true := Cond.static_spec hnamed hmethM hst
  obtain ⟨kP, hkP, -⟩ := className_of_methodNamed hnamed
  have hinitP : kP.init = .initialized := Cond.initialized_spec (findClass_of_methodNamed hnamed) hkP hini
  intro T hT X
  have hlen : As.length = methM.sig.parameters.length := by
    have h2 := hy.2.2
    rw [hsigM] at h2
    exact hn.trans (Option.some.inj h2).symm
  obtain ⟨vm₁, X₁, hstep₁⟩ := X.invokestatic hx ho hlink hnamed hmethM hstatic hkP hinitP ⟨hy.1, hy.2.1⟩ (g := F0 m pc ls (As.reverse ++ rest)) rfl (argsL := As) (rest := rest) hlen rfl (by rw [hb]; exact hdg)
  have hW1 : s.WarmedH vm₁ := X₁.warmed
  have hm1 : (T.setVm vm₁).vm.method? mk = some methM := by show vm₁.method? mk = _; rw [hW1.alike.method?]; exact hmethM
  obtain ⟨o, t, T', L, X', e1, e2, hL, hq, hh⟩ := nx_back (a := As.toArray) hM X₁ (g := F0 m pc ls rest) rfl (hsize.trans hml.symm) (by rw [hb]; exact hdg) (lv_room hW) (X₁.named hnamed) hm1 hcM hlM (word_at hW1 (Or.inl (by first | rfl | simp [Cond.onTables, Cond.keeps, Cond.steady])) hini) (fun w hw => hws w hw _ _ hW1) hrc hrs hR hf (hp.1 _ _ _ _ (hp.2 (T.setVm vm₁) hT hW1))
  refine ⟨o, (T.setVm vm₁).calling (F0 m pc ls rest) mk As.toArray, t, T', L, hT, hW1, X', hL, e1, e2, hq, ?_⟩
  rcases hh with ⟨v, hv, hs⟩ | ⟨x, hx1, hs⟩
  · exact Or.inl ⟨v, hv, fun tg h => hstep₁ _ fun acts => by rw [doInvoke_state]; exact hs.trans h⟩
  · exact Or.inr ⟨x, hx1, fun tg h => hstep₁ _ fun acts => by rw [doInvoke_state]; exact hs.trans h⟩
theorem nx_runV (S : CallFix p m c cc nL s args Ts own) (hM : nx_Met l y ws rm Pc Qc mc ms free) (hY : nx_Y s y maxL) (hlink : (Cond.methodLink own index y).before args s = true) (hinst : (Cond.instanceMethod y).before args s = true) (hsel : (Cond.selects C y y).before args s = true) (hini : (Cond.initialized y.cls).before args s = true) (hws : ∀ w ∈ ws, ∀ (a' : Array Value) (U : State), s.WarmedH U.vm → w.before a' U = true)
    (hy : y.cls ≠ "java/lang/invoke/MethodHandle" ∧ y.cls ≠ "java/lang/invoke/VarHandle" ∧ (parseMethodDescriptor y.desc).map (fun d => d.parameters.length) = some n) (hp : PreV s H C b Pc As) (hrc : rm.cells = mc) (hrs : rm.slots = ms) (hR : rm.frames + 1 ≤ R.frames ∧ 8 + (maxL + 11) + rm.locals ≤ R.locals)
    (hn : As.length = n) (hsize : ls.size = nL) (hW : (rest.map fun v => v.category).sum ≤ 8) (hdg : decode cc pc = .ok (.invokevirtual index, 3)) (hf : cells + mc ≤ R.cells ∧ slots + ms ≤ R.slots) :
    nx_Run p l e R s m args below meth c H locs cells slots mc ms pc ls (As.reverse ++ .ref b :: rest) rest (Qc (Value.ref b :: As).toArray) free := by
  obtain ⟨hx, hb, hml, ho, -⟩ := S
  obtain ⟨mk', methM', cM, hnamed', hmethM', hcM, hlM, hsigM⟩ := hY
  obtain ⟨mk, methM, hnamed, hmethM, hstM, habM⟩ := Cond.instanceMethod_spec hinst
  have e1 := Option.some.inj (hnamed.symm.trans hnamed')
  subst e1
  have e2 := Option.some.inj (hmethM.symm.trans hmethM')
  subst e2
  obtain ⟨hbl, ⟨cellB, hcB, hoB, hclB⟩, hPc⟩ := hp
  obtain ⟨c2, r2, m2, q1, q2, q3, q4, kP, hkP, hkPi⟩ := Cond.selects_spec hsel
  cases hclB.symm.trans q1
  cases (State.methodFound?_of_named hnamed ⟨hy.1, hy.2.1⟩).symm.trans q2
  cases hnamed.symm.trans q3
  intro T hT X
  have hselP : selectMethod e.platform s.vm cellB.cls mk = .method mk := by rw [Launch.admits_selectMethod X.admits]; exact q4
  have hlen : As.length = methM.sig.parameters.length := by
    have h2 := hy.2.2
    rw [hsigM] at h2
    exact hn.trans (Option.some.inj h2).symm
  obtain ⟨vm₁, X₁, hstep₁⟩ := X.invokevirtual hx ho hlink hnamed hmethM hstM hkP hkPi ⟨hy.1, hy.2.1⟩ (a := b) (cell := cellB) (by rw [hT]; exact hcB)
    (fun z h => by rw [h] at hoB; cases hoB) hselP hmethM habM hkP hkPi (g := F0 m pc ls (As.reverse ++ .ref b :: rest)) rfl (argsL := As) (rest := rest) hlen rfl (by rw [hb]; exact hdg)
  have hW1 : s.WarmedH vm₁ := X₁.warmed
  have hm1 : (T.setVm vm₁).vm.method? mk = some methM := by show vm₁.method? mk = _; rw [hW1.alike.method?]; exact hmethM
  obtain ⟨o, t, T', L, X', e1, e2, hL, hq, hh⟩ := nx_back (a := (Value.ref b :: As).toArray) hM X₁ (g := F0 m pc ls rest) rfl (hsize.trans hml.symm) (by rw [hb]; exact hdg) (lv_room hW) (X₁.named hnamed) hm1 hcM hlM (word_at hW1 (Or.inl (by first | rfl | simp [Cond.onTables, Cond.keeps, Cond.steady])) hini) (fun w hw => hws w hw _ _ hW1) hrc hrs hR hf (hbl _ _ _ _ (hPc (T.setVm vm₁) hT hW1))
  refine ⟨o, (T.setVm vm₁).calling (F0 m pc ls rest) mk (Value.ref b :: As).toArray, t, T', L, hT, hW1, X', hL, e1, e2, hq, ?_⟩
  rcases hh with ⟨v, hv, hs⟩ | ⟨x, hx1, hs⟩
  · exact Or.inl ⟨v, hv, fun tg h => hstep₁ _ fun acts => by rw [doInvoke_state]; exact hs.trans h⟩
  · exact Or.inr ⟨x, hx1, fun tg h => hstep₁ _ fun acts => by rw [doInvoke_state]; exact hs.trans h⟩
end NXR
section NXW
variable {p : Program} {l : Launch} {e : Env} {R : Room} {s : State} {m : MethodId} {args : Array Value} {below : List Frame} {meth : Method} {c : Code} {H : Heap} {locs : List Loc} {cells slots : Nat} {Q : State → Prop}
variable {cc : ByteArray} {pc : Nat} {ls : Array Slot} {rest st0 As : List Value} {D : va_G} {cl : List vw_C} {A : Nat → Prop} {H0 : Heap} {wn : nw_N} {ad : Nat → Nat} {mc ms : Nat} {a : Array Value} {Post Post' : nx_P} {k n : Nat}
/-- a call that may throw: what is thrown goes on out of the method -/
theorem nx_callP (hr : nx_Run p l e R s m args below meth c H locs cells slots mc ms pc ls st0 rest (nx_Q D cl A Post a) A) (hQ : Q = nx_MQ below (nx_Q D cl A Post') args s k n A) (hlocks : meth.locks = false) (hout : c.exceptionTable.toList = []) (hS : va_S A s.heap H locs) (hc : cells + mc ≤ k) (hs : slots + ms ≤ n)
    (hx : ∀ (X : String) (wn' : nw_N) (ad' : Nat → Nat), Post (.inr X) wn' ad' → Post' (.inr X) wn' ad')
    (kk : ∀ (v : Option Value) (wn' : nw_N) (ad' : Nat → Nat) (H1 : Heap) (locs1 : List Loc), Post (.inl v) wn' ad' → nw_W D cl A wn' ad' H1 → va_S A s.heap H1 locs1 → W p l e R s m args below meth c H1 locs1 (cells + mc) (slots + ms) Q (F0 m (pc + 3) ls (v.toList ++ rest))) : W p l e R s m args below meth c H locs cells slots Q (F0 m pc ls st0) := by
  intro T hT X
  obtain ⟨o, st₀, t, T', L, h0, hW0, X', hL, e1, e2, ⟨⟨r, wn', ad', ho, hp, hw⟩, hF⟩, hh⟩ := hr T hT X
  have hS' := nw_keep h0 e1 hS hL hF
  cases r with
  | inl v =>
    cases ho
    rcases hh with ⟨v', hv', st⟩ | ⟨x, hx', st⟩
    · cases hv'
      obtain ⟨t2, a1, b1⟩ := kk v wn' ad' T'.heap (locs ++ L) hp (by rw [e1]; exact hw) hS' T' rfl X'
      exact ⟨t2, st t2 a1, b1⟩
    · cases hx'
  | inr Y =>
    obtain ⟨x, cell, ho, hcell, hst, hcls⟩ := ho
    rcases hh with ⟨v', hv', st⟩ | ⟨x', hx', st⟩
    · rw [ho] at hv'; cases hv'
    · rw [ho] at hx'; cases hx'
      subst hQ
      have X2 := stand_widen X' hc hs
      obtain ⟨w1, w2, w3, w4, w5⟩ := X2.leaveThrown x (g := F0 m pc ls rest) rfl rfl rfl (fun y hy => by rw [hout] at hy; cases hy) hlocks
      refine ⟨_, st _ w1, .threw x, w2, w3, ⟨⟨.inr Y, wn', ad', ⟨x, cell, rfl, ?_, hst, ?_⟩, hx Y wn' ad' hp, ?_⟩, ?_⟩, locs ++ L, ⟨w4, w5⟩, hS'.2.2⟩
      · show T'.heap[x]? = some cell
        rw [e1]; exact hcell
      · rw [← hW0.alike.findClass]; exact hcls
      · show nw_W D cl A wn' ad' T'.heap
        rw [e1]; exact hw
      · exact hS'.F rfl
/-- a call that may throw, in a method that catches: the two roads -/
theorem nx_callC (hr : nx_Run p l e R s m args below meth c H locs cells slots mc ms pc ls st0 rest (nx_Q D cl A Post a) A) (hS : va_S A s.heap H locs)
    (kx : ∀ (X : String) (wn' : nw_N) (ad' : Nat → Nat) (H1 : Heap) (locs1 : List Loc) (x : Addr) (cell : Cell), Post (.inr X) wn' ad' → nw_W D cl A wn' ad' H1 → va_S A s.heap H1 locs1 → H1[x]? = some cell → cell.vm.isStatics = false → s.vm.findClass X = some cell.cls →
      ∀ T' : State, T'.heap = H1 → Stand p l e R s m args below meth c T' locs1 (cells + mc) (slots + ms) → ∃ t, Steps p.tables e below ((T'.setTop (F0 m pc ls rest)).pushFrame (.throwing x)) t ∧ Q t)
    (kk : ∀ (v : Option Value) (wn' : nw_N) (ad' : Nat → Nat) (H1 : Heap) (locs1 : List Loc), Post (.inl v) wn' ad' → nw_W D cl A wn' ad' H1 → va_S A s.heap H1 locs1 → W p l e R s m args below meth c H1 locs1 (cells + mc) (slots + ms) Q (F0 m (pc + 3) ls (v.toList ++ rest))) : W p l e R s m args below meth c H locs cells slots Q (F0 m pc ls st0) := by
  intro T hT X
  obtain ⟨o, st₀, t, T', L, h0, hW0, X', hL, e1, e2, ⟨⟨r, wn', ad', ho, hp, hw⟩, hF⟩, hh⟩ := hr T hT X
  have hS' := nw_keep h0 e1 hS hL hF
  cases r with
  | inl v =>
    cases ho
    rcases hh with ⟨v', hv', st⟩ | ⟨x, hx', st⟩
    · cases hv'
      obtain ⟨t2, a1, b1⟩ := kk v wn' ad' T'.heap (locs ++ L) hp (by rw [e1]; exact hw) hS' T' rfl X'
      exact ⟨t2, st t2 a1, b1⟩
    · cases hx'
  | inr Y =>
    obtain ⟨x, cell, ho, hcell, hst, hcls⟩ := ho
    rcases hh with ⟨v', hv', st⟩ | ⟨x', hx', st⟩
    · rw [ho] at hv'; cases hv'
    · rw [ho] at hx'; cases hx'
      obtain ⟨t2, a1, b1⟩ := kx Y wn' ad' T'.heap (locs ++ L) x cell hp (by rw [e1]; exact hw) hS' (by rw [e1]; exact hcell) hst (by rw [← hW0.alike.findClass]; exact hcls) T' rfl X'
      exact ⟨t2, st t2 a1, b1⟩
end NXW
