/-! a message's constant; 'throw new X(message)'; the entry of methods that may throw -/
theorem nx_str {s0 U : State} (hF : nx_F s0) (h : nx_B s0 U) {k : Nat} {tx : String} (hw : (Cond.stringRef "HarvestPlans" k tx) ∈ tables_1) : ∃ q, vk_R "HarvestPlans" k tx q U := by
  have h1 := hF.1 _ hw
  have hcur : ∃ cur, s0.vm.findClass "HarvestPlans" = some cur := by
    have h2 := h1
    simp only [Cond.before, Cond.holds, Cond.value] at h2
    cases hc : s0.vm.findClass "HarvestPlans" with
    | none => simp [hc] at h2
    | some cur => exact ⟨cur, rfl⟩
  obtain ⟨cur, hcur⟩ := hcur
  obtain ⟨_, _, _, a, -, -, -, -, -, hev⟩ := Cond.stringRef_spec hcur h1
  exact ⟨a, vk_R.warm h.1 ⟨h1, hev⟩⟩
theorem nx_push {H : Heap} {x : Cell} {D : va_G} {cl : List vw_C} {A : Nat → Prop} {wn : nw_N} {ad : Nat → Nat} (h : nw_W D cl A wn ad H) : nw_W D cl A wn ad (H.push x) := h.kept (fun q hq => by rw [Array.getElem?_push, if_neg (Nat.ne_of_lt hq)])
section NXT
variable {p : Program} {l : Launch} {e : Env} {R : Room} {s s0 : State} {m : MethodId} {args : Array Value} {below : List Frame} {meth : Method} {c : Code} {H : Heap} {cells slots : Nat} {Q : State → Prop}
variable {cc : ByteArray} {pc : Nat} {ls : Array Slot} {D : va_G} {cl : List vw_C} {A : Nat → Prop} {wn : nw_N} {ad : Nat → Nat} {Post : nx_P} {k n : Nat}
/-- new X; dup; ldc; invokespecial; athrow: out of a method that has written nothing -/
theorem nx_throw (hfl : l.stackTraces = false) (hF : nx_F s0) (hB : nx_B s0 s) (hx : p.tables.exec = Jvm.exec) (hb : c.code = cc) (hml : c.maxLocals = ls.size) (hown : s.vm.findClass "HarvestPlans" = some m.cls) (hQ : Q = nx_MQ below (nx_Q D cl A Post) args s k n A) (hlocks : meth.locks = false) (hout : c.exceptionTable.toList = [])
    {X : String} {ix ik ic : Nat} {tx : String} (hcl : (Cond.classLink "HarvestPlans" ix X).before args s = true) (hins : (Cond.instantiable X 6).before args s = true) (hini : (Cond.initialized X).before args s = true) (hfit : Jvm.Bundle.fit X = true) (hat : (Jvm.Bundle.ownAtoms "HarvestPlans" ic X nx_RE).all nx_okw = true) (hstr : (Cond.stringRef "HarvestPlans" ik tx) ∈ tables_1)
    (hw : nw_W D cl A wn ad s.heap) (hA : ∀ q, s.heap.size ≤ q → A q) (hp : Post (.inr X) wn ad) (hRc : cells + 1 ≤ R.cells) (hRs : slots + 6 ≤ R.slots) (hk : cells + 1 ≤ k) (hn : slots + 6 ≤ n) (hRf : 6 ≤ R.frames) (hRl : 100 ≤ R.locals)
    (d0 : decode cc pc = .ok (.new ix, 3)) (d3 : decode cc (pc + 3) = .ok (.dup, 1)) (d4 : decode cc (pc + 4) = .ok (.ldc ik, 2)) (d6 : decode cc (pc + 6) = .ok (.invokespecial ic, 3)) (d9 : decode cc (pc + 9) = .ok (.athrow, 1)) :
    W p l e R s m args below meth c s.heap [] cells slots Q (F0 m pc ls []) := by
  obtain ⟨q, hq⟩ := nx_str hF hB hstr
  refine W.newc hx hb hown hcl hins hini rfl d0 hRc hRs (fun cC kC h1 h2 h3 h4 => ?_)
  refine lv_dup hx hb d3 rfl ?_
  refine va_ldcS hx hb hown hq d4 ?_
  refine W.widen hk hn ?_
  intro T hT X0
  have htr : e.platform.stackTraces = false := by
    have h9 := X0.admits.2.2.2.2.1
    rw [h9]
    exact hfl
  have hcell : T.heap[s.heap.size]? = some (freshCell cC kC) := by rw [hT, Array.getElem?_push, if_pos rfl]
  obtain ⟨U, u1, u2, u3, u4, u5, ce, hce, OC⟩ := X0.ctorThrowS hx htr (own := "HarvestPlans") (cls := X) (names := nx_RE) (ic := ic) hown hfit (by intro n hn; simp only [nx_RE, List.mem_cons, List.not_mem_nil, or_false] at hn; rcases hn with rfl | rfl <;> decide +kernel) (fun a ha => nx_word hF hB (List.all_eq_true.mp hat a ha)) (fun x hx' => by cases hx') (a := s.heap.size) h1 h2 hcell (Nat.le_refl _) (msg := .ref q) rfl (g := F0 m (pc + 6) ls [.ref q, .ref s.heap.size, .ref s.heap.size]) rfl hml.symm rfl rfl (rest := []) rfl (by rw [hb]; exact d6) (by rw [hb]; exact d9) (fun y hy => by rw [hout] at hy; cases hy) (by show 2 + 3 < R.frames; omega) (by show 2 * (F0 m (pc + 6) ls [.ref q, .ref s.heap.size, .ref s.heap.size]).monitorRoom + 1 + (13 * (2 + 1) + 42) ≤ R.locals; have e0 : (F0 m (pc + 6) ls [.ref q, .ref s.heap.size, .ref s.heap.size]).monitorRoom = 0 := rfl; omega) hlocks
  subst hQ
  have hUk : ∀ q, q < s.heap.size → U.heap[q]? = s.heap[q]? := fun q hq => by
    obtain ⟨c', g1, g2, g3, g4⟩ := u5.2.2.2.2.2 q _ (Array.getElem?_eq_getElem hq)
    have e1 : c'.slots = (s.heap[q]).slots := Array.ext_getElem? (fun i => g4 i (by simp))
    have e2 : c' = s.heap[q] := by rw [g2, e1]
    rw [Array.getElem?_eq_getElem hq, ← e2]
    exact g1
  refine ⟨U, u1, .threw s.heap.size, u2, u3, ⟨⟨.inr X, wn, ad, ⟨s.heap.size, ce, rfl, hce, by rw [OC.vm]; rfl, OC.cls⟩, hp, hw.kept hUk⟩, ?_⟩, [], ⟨u4, u5⟩, fun q hq => by cases hq⟩
  exact ⟨u5.2.1, fun q hq _ => hUk q hq⟩
end NXT
/-- the entry of a method that may throw -/
theorem nx_ofW {l : Launch} {y : MethodName} {ws ws' : List Cond} {rm : Room} {Pc : Array Value → State → Prop} {Qc : Array Value → State → Outcome → State → Prop} {mc ms : Nat} {free : Addr → Prop} {cc : ByteArray} {maxL : Nat} {ret : Option FieldType}
    (hy : plainName y.cls = true) (hw : ws = Cond.code y cc maxL ret :: ws')
    (body : ∀ p e s m args below meth c s₁, BodyLoose p l y (headSpec ws rm) cc maxL ret e s m args below meth c s₁ → c.maxLocals = maxL → c.exceptionTable.toList = [] → Pc args s →
      W p l e (headSpec ws rm).room s m args below meth c s.heap [] 0 0 (nx_MQ below Qc args s mc ms free) (entryFrame m args maxL)) : nx_Met l y ws rm Pc Qc mc ms free := by
  refine MetFree.of_bodyS (code := cc) (maxLocals := maxL) (ret := ret) hy ?_ ?_
  · intro args s m h hn
    obtain ⟨meth, c, h1, h2, h3, h4, h5, h6, -, -⟩ := Cond.code_spec hn (atoms_spec (ws := ws) h _ (by rw [hw]; exact List.mem_cons_self))
    exact ⟨meth, c, h1, h2, h3, h4, h5, h6⟩
  · intro p e s m args below meth c s₁ B hml hP _
    have hh0 : s₁.heap = s.heap := by rw [B.state]; rfl
    have he := BodyLoose.noHandlers B (atoms_spec (ws := ws) B.pre _ (by rw [hw]; exact List.mem_cons_self))
    have he2 : c.exceptionTable.toList = [] := by
      have h0 : c.exceptionTable.size = 0 := by simpa [Array.isEmpty] using he
      exact List.eq_nil_of_length_eq_zero (by simpa using h0)
    obtain ⟨t, a1, o, b1, b2, b3⟩ := body p e s m args below meth c s₁ B hml he2 hP s₁ hh0 (Stand.of_body B)
    exact ⟨t, o, a1, b1, b2, b3⟩
/-- the entry of a method with handlers that itself always returns -/
theorem nx_ofWith {l : Launch} {y : MethodName} {ws ws' : List Cond} {rm : Room} {Pc : Array Value → State → Prop} {Qc : Array Value → State → Outcome → State → Prop} {mc ms : Nat} {free : Addr → Prop} {cc : ByteArray} {maxL : Nat} {ret : Option FieldType} {hd : List (Nat × Nat × Nat × Nat)}
    (hy : plainName y.cls = true) (hw : ws = Cond.codeWith y cc maxL ret hd :: ws')
    (body : ∀ p e s m args below meth c s₁, BodyLoose p l y (headSpec ws rm) cc maxL ret e s m args below meth c s₁ → c.maxLocals = maxL → c.exceptionTable.toList.map (fun h => (h.startPc, h.endPc, h.handlerPc, h.catchType)) = hd → Pc args s →
      W p l e (headSpec ws rm).room s m args below meth c s.heap [] 0 0 (nx_MQ below Qc args s mc ms free) (entryFrame m args maxL)) : nx_Met l y ws rm Pc Qc mc ms free := by
  refine MetFree.of_bodyS (code := cc) (maxLocals := maxL) (ret := ret) hy ?_ ?_
  · intro args s m h hn
    obtain ⟨m', meth, c, h0, h1, h2, h3, h4, -, h5, h6, -⟩ := Cond.codeWith_spec (atoms_spec (ws := ws) h _ (by rw [hw]; exact List.mem_cons_self))
    cases hn.symm.trans h0
    exact ⟨meth, c, h1, h2, h3, h4, h5, h6⟩
  · intro p e s m args below meth c s₁ B hml hP _
    have hh0 : s₁.heap = s.heap := by rw [B.state]; rfl
    obtain ⟨m', meth', c', h0, h1, h2, -, -, he, -, -, -⟩ := Cond.codeWith_spec (atoms_spec (ws := ws) B.pre _ (by rw [hw]; exact List.mem_cons_self))
    cases B.named.symm.trans h0
    cases B.method.symm.trans h1
    cases (Stand.of_body B).code.symm.trans h2
    obtain ⟨t, a1, o, b1, b2, b3⟩ := body p e s m args below meth c s₁ B hml he hP s₁ hh0 (Stand.of_body B)
    exact ⟨t, o, a1, b1, b2, b3⟩

