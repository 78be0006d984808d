/-! WHAT A METHOD THAT MAY THROW KNOWS AT ITS ENTRY -/
def nx_pre (D : va_G) (cl : List vw_C) (tys : List (ClassId × FieldType)) (A : Nat → Prop) (wn : nw_N) (ad : Nat → Nat) (s0 : State) : State → Prop := fun U => nw_pre D cl tys A wn ad U ∧ nx_B s0 U
theorem nx_blind {D : va_G} {cl : List vw_C} {tys : List (ClassId × FieldType)} {A : Nat → Prop} {wn : nw_N} {ad : Nat → Nat} {s0 : State} {av : List Value} : FrameBlind (va_Pc av (nx_pre D cl tys A wn ad s0)) := by
  intro a U g mk h
  obtain ⟨h1, ⟨h2, h3, h4⟩, h5⟩ := h
  exact ⟨h1, ⟨h2, h3, nw_K.warm h4 (State.WarmedH.refl U)⟩, h5⟩
theorem nx_B.now {s0 s U : State} {A : Nat → Prop} {H : Heap} {locs : List Loc} (h : nx_B s0 s) (hAs : ∀ q, A q → s0.heap.size ≤ q) (hS : va_S A s.heap H locs) (hU : U.heap = H) (hW : s.WarmedH U.vm) : nx_B s0 U := by
  refine ⟨State.WarmedH.trans h.1 hW, by rw [hU]; exact Nat.le_trans h.2.1 hS.1, fun q hq => ?_⟩
  rw [hU, hS.2.1 q (Nat.lt_of_lt_of_le hq h.2.1) (fun hA => by have := hAs q hA; omega)]
  exact h.2.2 q hq
abbrev nx_M (l : Launch) (y : MethodName) (ws : List Cond) (rm : Room) (D : va_G) (cl : List vw_C) (A : Nat → Prop) (av : List Value) (pre : State → Prop) (Post : nx_P) (mc ms : Nat) : Prop := nx_Met l y ws rm (va_Pc av pre) (nx_Q D cl A Post) mc ms A
section NXG
variable {p : Program} {l : Launch} {e : Env} {R : Room} {s s0 : State} {m : MethodId} {args : Array Value} {below : List Frame} {meth : Method} {c : Code} {H : Heap} {locs : List Loc} {cells slots : Nat} {Q : State → Prop}
variable {cc : ByteArray} {pc : Nat} {ls : Array Slot} {rest As : List Value} {D : va_G} {cl : List vw_C} {A : Nat → Prop} {tys : List (ClassId × FieldType)} {wn : nw_N} {ad : Nat → Nat} {mc ms nL maxL index n : Nat} {Post : nx_P} {own C : String} {y : MethodName} {bytes : ByteArray} {ret : Option FieldType} {rm : Room} {b : Addr}
theorem nx_preNow (hA : ∀ q, s.heap.size ≤ q → A q) (hKs : nw_K D cl tys s) (hB : nx_B s0 s) (hAs : ∀ q, A q → s0.heap.size ≤ q) (hw : nw_W D cl A wn ad H) (hS : va_S A s.heap H locs) {av : List Value} : ∀ U : State, U.heap = H → s.WarmedH U.vm → va_Pc av (nx_pre D cl tys A wn ad s0) av.toArray U := fun U hU hW =>
  ⟨rfl, ⟨fun q hq => hA q (Nat.le_trans hS.1 (by rw [← hU]; exact hq)), by rw [hU]; exact hw, hKs.warm hW⟩, hB.now hAs hS hU hW⟩
theorem nx_goS (S : CallFix p m c cc nL s args nw_T own) (hA : ∀ q, s.heap.size ≤ q → A q) (hKs : nw_K D cl tys s) (hB : nx_B s0 s) (hAs : ∀ q, A q → s0.heap.size ≤ q) (hw : nw_W D cl A wn ad H) (hS : va_S A s.heap H locs) (hM : nx_M l y [Cond.code y bytes maxL ret] rm D cl A As (nx_pre D cl tys A wn ad s0) Post mc ms)
    (hcode : Cond.code y bytes maxL ret ∈ nw_T) (hlink : Cond.methodLink own index y ∈ nw_T) (hst : Cond.static y ∈ nw_T) (hini : Cond.initialized y.cls ∈ nw_T) (hrc : rm.cells = mc) (hrs : rm.slots = ms) (hd : y.cls ≠ "java/lang/invoke/MethodHandle" ∧ y.cls ≠ "java/lang/invoke/VarHandle" ∧ (parseMethodDescriptor y.desc).map (fun d => d.parameters.length) = some n) (hR : rm.frames + 1 ≤ R.frames ∧ 8 + (maxL + 11) + rm.locals ≤ R.locals)
    (hn : As.length = n) (hsize : ls.size = nL) (hW : (rest.map fun v => v.category).sum ≤ 8) (hdg : decode cc pc = .ok (.invokestatic index, 3)) (hf : cells + mc ≤ R.cells ∧ slots + ms ≤ R.slots) :
    nx_Run p l e R s m args below meth c H locs cells slots mc ms pc ls (As.reverse ++ rest) rest (nx_Q D cl A Post As.toArray) A :=
  nx_runS S hM (nx_Yof (S.2.2.2.2 _ hcode)) (S.2.2.2.2 _ hlink) (S.2.2.2.2 _ hst) (S.2.2.2.2 _ hini) (pay_in S.2.2.2.2 (nw_T_good (nw_T1 hcode))) hd ⟨nx_blind, nx_preNow hA hKs hB hAs hw hS⟩ hrc hrs hR hn hsize hW hdg hf
theorem nx_goV (S : CallFix p m c cc nL s args nw_T own) (hA : ∀ q, s.heap.size ≤ q → A q) (hKs : nw_K D cl tys s) (hB : nx_B s0 s) (hAs : ∀ q, A q → s0.heap.size ≤ q) (hw : nw_W D cl A wn ad H) (hS : va_S A s.heap H locs) (hM : nx_M l y [Cond.code y bytes maxL ret] rm D cl A (.ref b :: As) (nx_pre D cl tys A wn ad s0) Post mc ms)
    (hcode : Cond.code y bytes maxL ret ∈ nw_T) (hlink : Cond.methodLink own index y ∈ nw_T) (hinst : Cond.instanceMethod y ∈ nw_T) (hsel : Cond.selects C y y ∈ nw_T) (hini : Cond.initialized y.cls ∈ nw_T) (hrc : rm.cells = mc) (hrs : rm.slots = ms) (hd : y.cls ≠ "java/lang/invoke/MethodHandle" ∧ y.cls ≠ "java/lang/invoke/VarHandle" ∧ (parseMethodDescriptor y.desc).map (fun d => d.parameters.length) = some n) (hR : rm.frames + 1 ≤ R.frames ∧ 8 + (maxL + 11) + rm.locals ≤ R.locals)
    (hrecv : ∃ cell : Cell, H[b]? = some cell ∧ cell.vm.isStatics = false ∧ s.vm.findClass C = some cell.cls) (hn : As.length = n) (hsize : ls.size = nL) (hW : (rest.map fun v => v.category).sum ≤ 8) (hdg : decode cc pc = .ok (.invokevirtual index, 3)) (hf : cells + mc ≤ R.cells ∧ slots + ms ≤ R.slots) :
    nx_Run p l e R s m args below meth c H locs cells slots mc ms pc ls (As.reverse ++ .ref b :: rest) rest (nx_Q D cl A Post (Value.ref b :: As).toArray) A :=
  nx_runV S hM (nx_Yof (S.2.2.2.2 _ hcode)) (S.2.2.2.2 _ hlink) (S.2.2.2.2 _ hinst) (S.2.2.2.2 _ hsel) (S.2.2.2.2 _ hini) (pay_in S.2.2.2.2 (nw_T_good (nw_T1 hcode))) hd ⟨nx_blind, hrecv, nx_preNow hA hKs hB hAs hw hS⟩ hrc hrs hR hn hsize hW hdg hf
/-- a call of one of the law's methods with handlers -/
theorem nx_goW {hd : List (Nat × Nat × Nat × Nat)} (S : CallFix p m c cc nL s args nw_T own) (hA : ∀ q, s.heap.size ≤ q → A q) (hKs : nw_K D cl tys s) (hF : nx_F s0) (hB : nx_B s0 s) (hAs : ∀ q, A q → s0.heap.size ≤ q) (hw : nw_W D cl A wn ad H) (hS : va_S A s.heap H locs) (hM : nx_M l y [Cond.codeWith y bytes maxL ret hd] rm D cl A As (nx_pre D cl tys A wn ad s0) Post mc ms)
    (hcode : Cond.codeWith y bytes maxL ret hd ∈ tables_1) (hlink : Cond.methodLink own index y ∈ nw_T) (hst : Cond.static y ∈ nw_T) (hini : Cond.initialized y.cls ∈ nw_T) (hrc : rm.cells = mc) (hrs : rm.slots = ms) (hd : y.cls ≠ "java/lang/invoke/MethodHandle" ∧ y.cls ≠ "java/lang/invoke/VarHandle" ∧ (parseMethodDescriptor y.desc).map (fun d => d.parameters.length) = some n) (hR : rm.frames + 1 ≤ R.frames ∧ 8 + (maxL + 11) + rm.locals ≤ R.locals)
    (hn : As.length = n) (hsize : ls.size = nL) (hW : (rest.map fun v => v.category).sum ≤ 8) (hdg : decode cc pc = .ok (.invokestatic index, 3)) (hf : cells + mc ≤ R.cells ∧ slots + ms ≤ R.slots) :
    nx_Run p l e R s m args below meth c H locs cells slots mc ms pc ls (As.reverse ++ rest) rest (nx_Q D cl A Post As.toArray) A :=
  nx_runS S hM (nx_YofW (nx_tab hB.1 rfl rfl (hF.1 _ hcode) (a' := args))) (S.2.2.2.2 _ hlink) (S.2.2.2.2 _ hst) (S.2.2.2.2 _ hini) (fun w hw1 a' U hWU => by rw [List.mem_singleton.mp hw1]; exact nx_tab (State.WarmedH.trans hB.1 hWU) rfl rfl (hF.1 _ hcode)) hd ⟨nx_blind, nx_preNow hA hKs hB hAs hw hS⟩ hrc hrs hR hn hsize hW hdg hf
end NXG
theorem nx_bodyK {l : Launch} {y : MethodName} {rm : Room} {D : va_G} {cl : List vw_C} {tys : List (ClassId × FieldType)} {A : Nat → Prop} {av : List Value} {wn : nw_N} {ad : Nat → Nat} {s0 : State} {Post : nx_P} {mc ms : Nat} {cc : ByteArray} {maxL : Nat} {ret : Option FieldType}
    (hy : plainName y.cls = true) (hlen : (lg_sl av).length ≤ maxL)
    (body : ∀ (p : Program) (e : Env) (s : State) (m : MethodId) (below : List Frame) (meth : Method) (c : Code) (ls : Array Slot) (args : Array Value) (Q : State → Prop), CallFix p m c cc maxL s args nw_T y.cls → meth.sig.returnType = ret → meth.locks = false → c.exceptionTable.toList = [] → nx_B s0 s → (∀ q : Nat, s.heap.size ≤ q → A q) → nw_K D cl tys s → nw_W D cl A wn ad s.heap → va_S A s.heap s.heap [] → lv_has ls maxL (lv_args 0 av) → Q = nx_MQ below (nx_Q D cl A Post) args s mc ms A →
      W p l e rm s m args below meth c s.heap [] 0 0 Q (F0 m 0 ls [])) : nx_M l y [Cond.code y cc maxL ret] rm D cl A av (nx_pre D cl tys A wn ad s0) Post mc ms := by
  refine nx_ofW (cc := cc) (maxL := maxL) (ret := ret) hy rfl ?_
  intro p e s m args below meth c s₁ B hml he hv
  obtain ⟨rfl, ⟨h1, h2, h3⟩, h4⟩ := hv
  have hl := lv_entry av (n := maxL) hlen
  rw [lg_entry_eq]
  exact body p e s m below meth c _ _ _ ⟨B.exec, B.bytes, hml, findClass_of_methodNamed B.named, h3.ts _⟩ B.returns B.notSynchronized he h4 h1 h3 h2 va_S.rf hl rfl
theorem nx_bodyW {l : Launch} {y : MethodName} {rm : Room} {D : va_G} {cl : List vw_C} {tys : List (ClassId × FieldType)} {A : Nat → Prop} {av : List Value} {wn : nw_N} {ad : Nat → Nat} {s0 : State} {Post : nx_P} {mc ms : Nat} {cc : ByteArray} {maxL : Nat} {ret : Option FieldType} {hd : List (Nat × Nat × Nat × Nat)}
    (hy : plainName y.cls = true) (hlen : (lg_sl av).length ≤ maxL)
    (body : ∀ (p : Program) (e : Env) (s : State) (m : MethodId) (below : List Frame) (meth : Method) (c : Code) (ls : Array Slot) (args : Array Value) (Q : State → Prop), CallFix p m c cc maxL s args nw_T y.cls → meth.sig.returnType = ret → meth.locks = false → c.exceptionTable.toList.map (fun h => (h.startPc, h.endPc, h.handlerPc, h.catchType)) = hd → nx_B s0 s → (∀ q : Nat, s.heap.size ≤ q → A q) → nw_K D cl tys s → nw_W D cl A wn ad s.heap → va_S A s.heap s.heap [] → lv_has ls maxL (lv_args 0 av) → Q = nx_MQ below (nx_Q D cl A Post) args s mc ms A →
      W p l e rm s m args below meth c s.heap [] 0 0 Q (F0 m 0 ls [])) : nx_M l y [Cond.codeWith y cc maxL ret hd] rm D cl A av (nx_pre D cl tys A wn ad s0) Post mc ms := by
  refine nx_ofWith (cc := cc) (maxL := maxL) (ret := ret) (hd := hd) hy rfl ?_
  intro p e s m args below meth c s₁ B hml he hv
  obtain ⟨rfl, ⟨h1, h2, h3⟩, h4⟩ := hv
  have hl := lv_entry av (n := maxL) hlen
  rw [lg_entry_eq]
  exact body p e s m below meth c _ _ _ ⟨B.exec, B.bytes, hml, findClass_of_methodNamed B.named, h3.ts _⟩ B.returns B.notSynchronized he h4 h1 h3 h2 va_S.rf hl rfl
