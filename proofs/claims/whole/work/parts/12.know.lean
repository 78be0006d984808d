/-! WHAT A METHOD KNOWS AT ITS ENTRY: the tables' words, in any state that is as warm -/
def nw_nest : Cond → Bool
  | .fieldLinkNest .. => true
  | .methodLinkNest .. => true
  | .arrayOver (.object _) => true
  | _ => false
theorem nw_nest_warm {w : Cond} (h : nw_nest w = true) {s U : State} (hW : s.WarmedH U.vm) (hZ : va_Nw w s) : va_Nw w U := by
  cases w with
  | fieldLinkNest => exact va_Nw.warmF hW hZ
  | methodLinkNest => exact va_Nw.warmM hW hZ
  | arrayOver ty =>
    cases ty with
    | object C => exact va_AO.moved hW.alike hZ
    | _ => simp [nw_nest] at h
  | _ => simp [nw_nest] at h
theorem nw_T_good {ws : List Cond} (h : ∀ w ∈ ws, w ∈ nw_T) : GoodIn nw_T ws := fun w hw => ⟨h w hw, good_of_word (List.mem_filter.mp (h w hw)).2⟩
theorem nw_T1 {a : Cond} (ha : a ∈ nw_T) : ∀ w ∈ [a], w ∈ nw_T := fun w hw => by rw [List.mem_singleton.mp hw]; exact ha
theorem nw_Tc {a : Cond} {l : List Cond} (ha : a ∈ nw_T) (hl : ∀ w ∈ l, w ∈ nw_T) : ∀ w ∈ a :: l, w ∈ nw_T := List.forall_mem_cons.mpr ⟨ha, hl⟩
def nw_K (D : va_G) (cl : List vw_C) (tys : List (ClassId × FieldType)) (U : State) : Prop :=
  va_K D cl tys U ∧ (∀ w ∈ nw_T, w.before #[] U = true) ∧ (∀ w ∈ lw_tbl, nw_nest w = true → va_Nw w U)
theorem nw_K.warm {D : va_G} {cl : List vw_C} {tys : List (ClassId × FieldType)} {s U : State} (h : nw_K D cl tys s) (hW : s.WarmedH U.vm) : nw_K D cl tys U := by
  obtain ⟨h1, h2, h3⟩ := h
  exact ⟨va_K.moved hW.alike h1, fun w hw => word_at hW (good_of_word (List.mem_filter.mp hw).2) (h2 w hw), fun w hw hn => nw_nest_warm hn hW (h3 w hw hn)⟩
def nw_pre (D : va_G) (cl : List vw_C) (tys : List (ClassId × FieldType)) (A : Nat → Prop) (wn : nw_N) (ad : Nat → Nat) : State → Prop := fun U => (∀ q : Nat, U.heap.size ≤ q → A q) ∧ nw_W D cl A wn ad U.heap ∧ nw_K D cl tys U
theorem nw_blind {D : va_G} {cl : List vw_C} {tys : List (ClassId × FieldType)} {A : Nat → Prop} {wn : nw_N} {ad : Nat → Nat} {av : List Value} : FrameBlind (va_Pc av (nw_pre D cl tys A wn ad)) := by
  intro a U g mk h
  obtain ⟨h1, h2, h3, h4⟩ := h
  exact ⟨h1, h2, h3, nw_K.warm h4 (State.WarmedH.refl U)⟩
theorem nw_room {v : Option Value} {l : List Value} : v.toList ++ l = v.toList ++ l := rfl
section NWG
variable {p : Program} {l : Launch} {e : Env} {R : Room} {s : State} {m : MethodId} {args : Array Value} {below : List Frame} {meth : Method} {c : Code} {H : Heap} {locs : List Loc} {cells slots : Nat} {Q : State → Prop}
variable {cc : ByteArray} {pc : Nat} {ls : Array Slot} {rest As : List Value} {D : va_G} {cl : List vw_C} {A : Nat → Prop} {tys : List (ClassId × FieldType)} {wn : nw_N} {ad : Nat → Nat} {mc ms nL maxL index n : Nat} {Post : nw_P} {own C host : String} {y : MethodName} {bytes : ByteArray} {ret : Option FieldType} {rm : Room} {b : Addr}
theorem nw_preNow (hA : ∀ q, s.heap.size ≤ q → A q) (hKs : nw_K D cl tys s) (hw : nw_W D cl A wn ad H) (hS : va_S A s.heap H locs) {av : List Value} : ∀ U : State, U.heap = H → s.WarmedH U.vm → va_Pc av (nw_pre D cl tys A wn ad) av.toArray U := fun U hU hW =>
  ⟨rfl, fun q hq => hA q (Nat.le_trans hS.1 (by rw [← hU]; exact hq)), by rw [hU]; exact hw, hKs.warm hW⟩
theorem nw_goV (S : CallFix p m c cc nL s args nw_T own) (hA : ∀ q, s.heap.size ≤ q → A q) (hKs : nw_K D cl tys s) (hw : nw_W D cl A wn ad H) (hS : va_S A s.heap H locs) (hM : nw_Met l y [Cond.code y bytes maxL ret] rm D cl A (.ref b :: As) (nw_pre D cl tys A wn ad) Post mc ms)
    (hcode : Cond.code y bytes maxL ret ∈ nw_T) (hlink : Cond.methodLink own index y ∈ nw_T) (hinst : Cond.instanceMethod y ∈ nw_T) (hsel : Cond.selects C y y ∈ nw_T) (hini : Cond.initialized C ∈ nw_T) (hrc : rm.cells = mc) (hrs : rm.slots = ms) (hd : y.cls = C ∧ y.cls ≠ "java/lang/invoke/MethodHandle" ∧ y.cls ≠ "java/lang/invoke/VarHandle" ∧ (parseMethodDescriptor y.desc).map (fun d => d.parameters.length) = some n) (hR : rm.frames + 1 ≤ R.frames ∧ 8 + (maxL + 11) + rm.locals ≤ R.locals)
    (hrecv : ∃ cell : Cell, H[b]? = some cell ∧ cell.vm.isStatics = false ∧ s.vm.findClass C = some cell.cls) (hn : As.length = n) (hsize : ls.size = nL) (hW : (rest.map fun v => v.category).sum ≤ 8) (hdg : decode cc pc = .ok (.invokevirtual index, 3)) (hf : cells + mc ≤ R.cells ∧ slots + ms ≤ R.slots) :
    va_Run p l e R s m args below meth c H locs cells slots mc ms (F0 m pc ls (As.reverse ++ .ref b :: rest)) rest (nw_Q D cl A Post (Value.ref b :: As).toArray) A :=
  va_runV S hM (cwV n S.2.2.2.2 (nw_T_good (nw_Tc hlink (nw_Tc hinst (nw_Tc hsel (nw_Tc hini (nw_T1 hcode)))))) rfl hrc hrs hd hR) ⟨nw_blind, hrecv, nw_preNow hA hKs hw hS⟩ rfl hn hsize rfl (lv_room hW) hdg hf
theorem nw_goVN (S : CallFix p m c cc nL s args nw_T own) (hA : ∀ q, s.heap.size ≤ q → A q) (hKs : nw_K D cl tys s) (hw : nw_W D cl A wn ad H) (hS : va_S A s.heap H locs) (hM : nw_Met l y [Cond.code y bytes maxL ret] rm D cl A (.ref b :: As) (nw_pre D cl tys A wn ad) Post mc ms)
    (hcode : Cond.code y bytes maxL ret ∈ nw_T) (hlink : Cond.methodLinkNest own index y host ∈ lw_tbl) (hinst : Cond.instanceMethod y ∈ nw_T) (hsel : Cond.selects C y y ∈ nw_T) (hini : Cond.initialized y.cls ∈ nw_T) (hrc : rm.cells = mc) (hrs : rm.slots = ms) (hd : y.cls ≠ "java/lang/invoke/MethodHandle" ∧ y.cls ≠ "java/lang/invoke/VarHandle" ∧ (parseMethodDescriptor y.desc).map (fun d => d.parameters.length) = some n) (hR : rm.frames + 1 ≤ R.frames ∧ 8 + (maxL + 11) + rm.locals ≤ R.locals)
    (hrecv : ∃ cell : Cell, H[b]? = some cell ∧ cell.vm.isStatics = false ∧ s.vm.findClass C = some cell.cls) (hn : As.length = n) (hsize : ls.size = nL) (hW : (rest.map fun v => v.category).sum ≤ 8) (hdg : decode cc pc = .ok (.invokevirtual index, 3)) (hf : cells + mc ≤ R.cells ∧ slots + ms ≤ R.slots) :
    va_Run p l e R s m args below meth c H locs cells slots mc ms (F0 m pc ls (As.reverse ++ .ref b :: rest)) rest (nw_Q D cl A Post (Value.ref b :: As).toArray) A :=
  va_runVN S hM ⟨va_cnB n S.2.2.2.2 (nw_T_good (nw_T1 hcode)) rfl hrc hrs (hKs.2.2 _ hlink rfl) (S.2.2.2.2 _ hini) hd hR, S.2.2.2.2 _ hinst, S.2.2.2.2 _ hsel⟩ ⟨nw_blind, hrecv, nw_preNow hA hKs hw hS⟩ rfl hn hsize rfl (lv_room hW) hdg hf
theorem nw_goS (S : CallFix p m c cc nL s args nw_T own) (hA : ∀ q, s.heap.size ≤ q → A q) (hKs : nw_K D cl tys s) (hw : nw_W D cl A wn ad H) (hS : va_S A s.heap H locs) (hM : nw_Met l y [Cond.code y bytes maxL ret] rm D cl A As (nw_pre D cl tys A wn ad) Post mc ms)
    (hcode : Cond.code y bytes maxL ret ∈ nw_T) (hlink : Cond.methodLink own index y ∈ nw_T) (hst : Cond.static y ∈ nw_T) (hini : Cond.initialized y.cls ∈ nw_T) (hrc : rm.cells = mc) (hrs : rm.slots = ms) (hd : y.cls ≠ "java/lang/invoke/MethodHandle" ∧ y.cls ≠ "java/lang/invoke/VarHandle" ∧ (parseMethodDescriptor y.desc).map (fun d => d.parameters.length) = some n) (hR : rm.frames + 1 ≤ R.frames ∧ 8 + (maxL + 11) + rm.locals ≤ R.locals)
    (hn : As.length = n) (hsize : ls.size = nL) (hW : (rest.map fun v => v.category).sum ≤ 8) (hdg : decode cc pc = .ok (.invokestatic index, 3)) (hf : cells + mc ≤ R.cells ∧ slots + ms ≤ R.slots) :
    va_Run p l e R s m args below meth c H locs cells slots mc ms (F0 m pc ls (As.reverse ++ rest)) rest (nw_Q D cl A Post As.toArray) A :=
  va_runS S hM ⟨callB_of n S.2.2.2.2 (nw_T_good (nw_T1 hcode)) rfl hrc hrs (S.2.2.2.2 _ hini) (S.2.2.2.2 _ hlink) hd hR, S.2.2.2.2 _ hst⟩ ⟨nw_blind, nw_preNow hA hKs hw hS⟩ rfl hn hsize rfl (lv_room hW) hdg hf
theorem nw_goI (S : CallFix p m c cc nL s args nw_T own) (hA : ∀ q, s.heap.size ≤ q → A q) (hKs : nw_K D cl tys s) (hw : nw_W D cl A wn ad H) (hS : va_S A s.heap H locs) (hM : nw_Met l y [Cond.code y bytes maxL none] rm D cl A (.ref b :: As) (nw_pre D cl tys A wn ad) Post mc ms)
    (hcode : Cond.code y bytes maxL none ∈ nw_T) (hlink : Cond.methodLink own index y ∈ nw_T) (hinst : Cond.instanceMethod y ∈ nw_T) (hini : Cond.initialized y.cls ∈ nw_T) (hy1 : y.name = "<init>") (hrc : rm.cells = mc) (hrs : rm.slots = ms) (hd : y.cls ≠ "java/lang/invoke/MethodHandle" ∧ y.cls ≠ "java/lang/invoke/VarHandle" ∧ (parseMethodDescriptor y.desc).map (fun d => d.parameters.length) = some n) (hR : rm.frames + 1 ≤ R.frames ∧ 8 + (maxL + 11) + rm.locals ≤ R.locals)
    (hn : As.length = n) (hsize : ls.size = nL) (hW : (rest.map fun v => v.category).sum ≤ 8) (hdg : decode cc pc = .ok (.invokespecial index, 3)) (hf : cells + mc ≤ R.cells ∧ slots + ms ≤ R.slots) :
    va_Run p l e R s m args below meth c H locs cells slots mc ms (F0 m pc ls (As.reverse ++ .ref b :: rest)) rest (nw_Q D cl A Post (Value.ref b :: As).toArray) A :=
  va_runI S hM ⟨callB_of n S.2.2.2.2 (nw_T_good (nw_T1 hcode)) rfl hrc hrs (S.2.2.2.2 _ hini) (S.2.2.2.2 _ hlink) hd hR, hy1, S.2.2.2.2 _ hinst⟩ ⟨nw_blind, nw_preNow hA hKs hw hS⟩ rfl hn hsize rfl (lv_room hW) hdg hf
theorem nw_goIN (S : CallFix p m c cc nL s args nw_T own) (hA : ∀ q, s.heap.size ≤ q → A q) (hKs : nw_K D cl tys s) (hw : nw_W D cl A wn ad H) (hS : va_S A s.heap H locs) (hM : nw_Met l y [Cond.code y bytes maxL none] rm D cl A (.ref b :: As) (nw_pre D cl tys A wn ad) Post mc ms)
    (hcode : Cond.code y bytes maxL none ∈ nw_T) (hlink : Cond.methodLinkNest own index y host ∈ lw_tbl) (hinst : Cond.instanceMethod y ∈ nw_T) (hini : Cond.initialized y.cls ∈ nw_T) (hy1 : y.name = "<init>") (hrc : rm.cells = mc) (hrs : rm.slots = ms) (hd : y.cls ≠ "java/lang/invoke/MethodHandle" ∧ y.cls ≠ "java/lang/invoke/VarHandle" ∧ (parseMethodDescriptor y.desc).map (fun d => d.parameters.length) = some n) (hR : rm.frames + 1 ≤ R.frames ∧ 8 + (maxL + 11) + rm.locals ≤ R.locals)
    (hn : As.length = n) (hsize : ls.size = nL) (hW : (rest.map fun v => v.category).sum ≤ 8) (hdg : decode cc pc = .ok (.invokespecial index, 3)) (hf : cells + mc ≤ R.cells ∧ slots + ms ≤ R.slots) :
    va_Run p l e R s m args below meth c H locs cells slots mc ms (F0 m pc ls (As.reverse ++ .ref b :: rest)) rest (nw_Q D cl A Post (Value.ref b :: As).toArray) A :=
  va_runIN S hM ⟨va_cnB n S.2.2.2.2 (nw_T_good (nw_T1 hcode)) rfl hrc hrs (hKs.2.2 _ hlink rfl) (S.2.2.2.2 _ hini) hd hR, hy1, S.2.2.2.2 _ hinst⟩ ⟨nw_blind, nw_preNow hA hKs hw hS⟩ rfl hn hsize rfl (lv_room hW) hdg hf
theorem lv_ei {x y : Int32} (h : x = y) (k : W p l e R s m args below meth c H locs cells slots Q (F0 m pc ls (.int y :: rest))) : W p l e R s m args below meth c H locs cells slots Q (F0 m pc ls (.int x :: rest)) := by subst h; exact k
theorem lv_el {x y : Int64} (h : x = y) (k : W p l e R s m args below meth c H locs cells slots Q (F0 m pc ls (.long y :: rest))) : W p l e R s m args below meth c H locs cells slots Q (F0 m pc ls (.long x :: rest)) := by subst h; exact k
end NWG
theorem nw_K.ts {D : va_G} {cl : List vw_C} {tys : List (ClassId × FieldType)} {s : State} (h : nw_K D cl tys s) (args : Array Value) : ∀ w ∈ nw_T, w.before args s = true := fun w hw => word_at (State.WarmedH.refl s) (good_of_word (List.mem_filter.mp hw).2) (h.2.1 w hw)
/-- a method's body, from its entry, with all that it knows -/
theorem nw_bodyK {l : Launch} {y : MethodName} {rm : Room} {D : va_G} {cl : List vw_C} {tys : List (ClassId × FieldType)} {A : Nat → Prop} {av : List Value} {wn : nw_N} {ad : Nat → Nat} {Post : nw_P} {mc ms : Nat} {cc : ByteArray} {maxL : Nat} {ret : Option FieldType}
    (hy : plainName y.cls = true) (hlen : (lg_sl av).length ≤ maxL)
    (body : ∀ (p : Program) (e : Env) (s : State) (m : MethodId) (below : List Frame) (meth : Method) (c : Code) (ls : Array Slot) (args : Array Value) (Q : State → Prop), CallFix p m c cc maxL s args nw_T y.cls → meth.sig.returnType = ret → meth.locks = false → meth.name = y.name → (∀ q : Nat, s.heap.size ≤ q → A q) → nw_K D cl tys s → nw_W D cl A wn ad s.heap → va_S A s.heap s.heap [] → lv_has ls maxL (lv_args 0 av) → Q = MQ below (nw_Q D cl A Post) args s mc ms A →
      W p l e rm s m args below meth c s.heap [] 0 0 Q (F0 m 0 ls [])) : nw_Met l y [Cond.code y cc maxL ret] rm D cl A av (nw_pre D cl tys A wn ad) Post mc ms :=
  nw_body hy rfl hlen (fun p e s m below meth c ls args Q h1 h2 h3 h4 h5 h6 h7 h8 h10 h11 h12 hQ => body p e s m below meth c ls args Q ⟨h1, h2, h4, h5, h10.2.2.ts _⟩ h3 h7 h8 h10.1 h10.2.2 h10.2.1 h11 h12 hQ)
