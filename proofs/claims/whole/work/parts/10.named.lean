/-! NAMED WORLDS: cells by names. wn k: what the cell of name k holds; ad k: where it lies. -/
abbrev nw_N : Type := Nat → Option va_E
def nw_W (D : va_G) (cl : List vw_C) (A : Nat → Prop) (wn : nw_N) (ad : Nat → Nat) (H : Heap) : Prop :=
  ∃ ws : va_W, va_P D cl ws H ∧ va_D A ws ∧ (∀ (k : Nat) (e : va_E), wn k = some e → ∃ i : Nat, ws[i]? = some (ad k, e)) ∧ ∀ (j k : Nat) (x y : va_E), wn j = some x → wn k = some y → ad j = ad k → j = k
theorem nw_W.mono {D : va_G} {cl : List vw_C} {A : Nat → Prop} {wn wn' : nw_N} {ad ad' : Nat → Nat} {H : Heap} (h : nw_W D cl A wn ad H) (hm : ∀ (k : Nat) (e : va_E), wn' k = some e → wn k = some e ∧ ad' k = ad k) : nw_W D cl A wn' ad' H := by
  obtain ⟨ws, hP, hD, hn, hi⟩ := h
  refine ⟨ws, hP, hD, fun k e hk => ?_, fun j k x y hj hk hjk => ?_⟩
  · obtain ⟨h1, h2⟩ := hm k e hk
    rw [h2]
    exact hn k e h1
  · obtain ⟨h1, h2⟩ := hm j x hj
    obtain ⟨h3, h4⟩ := hm k y hk
    exact hi j k x y h1 h3 (by rw [← h2, ← h4]; exact hjk)
theorem nw_W.kept {D : va_G} {cl : List vw_C} {A : Nat → Prop} {wn : nw_N} {ad : Nat → Nat} {H H1 : Heap} (h : nw_W D cl A wn ad H) (hq : ∀ q : Nat, q < H.size → H1[q]? = H[q]?) : nw_W D cl A wn ad H1 := by
  obtain ⟨ws, hP, hD, hn, hi⟩ := h
  exact ⟨ws, hP.kept (fun k q hk => hq q.1 (hP k q hk).lt), hD, hn, hi⟩
theorem nw_W.ne {D : va_G} {cl : List vw_C} {A : Nat → Prop} {wn : nw_N} {ad : Nat → Nat} {H : Heap} (h : nw_W D cl A wn ad H) {j k : Nat} {x y : va_E} (hj : wn j = some x) (hk : wn k = some y) (hjk : j ≠ k) : ad j ≠ ad k := by
  obtain ⟨ws, hP, hD, hn, hi⟩ := h
  exact fun e => hjk (hi j k x y hj hk e)
theorem nw_set {D : va_G} {cl : List vw_C} {A : Nat → Prop} {wn : nw_N} {ad : Nat → Nat} {H1 : Heap} {ws : va_W} {k i : Nat} {e0 e : va_E} (hn : ∀ (k : Nat) (e : va_E), wn k = some e → ∃ i : Nat, ws[i]? = some (ad k, e)) (hi : ∀ (j k : Nat) (x y : va_E), wn j = some x → wn k = some y → ad j = ad k → j = k) (hk : wn k = some e0) (hw : ws[i]? = some (ad k, e0)) (hP1 : va_P D cl (ws.set i (ad k, e)) H1) (hD1 : va_D A (ws.set i (ad k, e))) : nw_W D cl A (va_up wn k (some e)) ad H1 := by
  have hl := (List.getElem?_eq_some_iff.mp hw).1
  have up : ∀ (j : Nat) (x : va_E), va_up wn k (some e) j = some x → ∃ x' : va_E, wn j = some x' := fun j x hj => by
    by_cases hq : j = k
    · subst hq
      exact ⟨e0, hk⟩
    · rw [va_up_ne _ _ hq] at hj
      exact ⟨x, hj⟩
  refine ⟨_, hP1, hD1, fun k' e' h' => ?_, fun j k' x y hj hk' hjk => ?_⟩
  · by_cases hq : k' = k
    · subst hq
      rw [va_up_self] at h'
      cases h'
      exact ⟨i, by rw [List.getElem?_set_self hl]⟩
    · rw [va_up_ne _ _ hq] at h'
      obtain ⟨i', hi'⟩ := hn k' e' h'
      refine ⟨i', ?_⟩
      rw [List.getElem?_set_ne ?_]
      · exact hi'
      · intro e2
        subst e2
        rw [hw] at hi'
        exact hq (hi k' k _ _ h' hk (congrArg Prod.fst (Option.some.inj hi')).symm)
  · obtain ⟨x', hx'⟩ := up j x hj
    obtain ⟨y', hy'⟩ := up k' y hk'
    exact hi j k' x' y' hx' hy' hjk
theorem nw_push {D : va_G} {cl : List vw_C} {A : Nat → Prop} {wn : nw_N} {ad : Nat → Nat} {H1 : Heap} {ws : va_W} {k q : Nat} {e : va_E} (hn : ∀ (k : Nat) (e : va_E), wn k = some e → ∃ i : Nat, ws[i]? = some (ad k, e)) (hi : ∀ (j k : Nat) (x y : va_E), wn j = some x → wn k = some y → ad j = ad k → j = k) (hk : wn k = none) (hP1 : va_P D cl (ws ++ [(q, e)]) H1) (hD1 : va_D A (ws ++ [(q, e)])) : nw_W D cl A (va_up wn k (some e)) (va_up ad k q) H1 := by
  have hlast : (ws ++ [(q, e)])[ws.length]? = some (q, e) := by simp
  have old : ∀ (i : Nat) (x : Nat × va_E), ws[i]? = some x → (ws ++ [(q, e)])[i]? = some x := fun i x hx => by
    rw [List.getElem?_append_left (List.getElem?_eq_some_iff.mp hx).1]
    exact hx
  have far : ∀ (j : Nat) (x : va_E), wn j = some x → ad j ≠ q := fun j x hj hq => by
    obtain ⟨i, hi'⟩ := hn j x hj
    have h1 := (List.getElem?_eq_some_iff.mp hi').1
    have h2 := hD1.1 i ws.length (ad j, x) (q, e) (old i _ hi') hlast hq
    omega
  refine ⟨_, hP1, hD1, fun k' e' h' => ?_, fun j k' x y hj hk' hjk => ?_⟩
  · by_cases hq : k' = k
    · subst hq
      rw [va_up_self] at h'
      cases h'
      exact ⟨ws.length, by rw [va_up_self]; exact hlast⟩
    · rw [va_up_ne _ _ hq] at h'
      obtain ⟨i', hi'⟩ := hn k' e' h'
      exact ⟨i', by rw [va_up_ne _ _ hq]; exact old i' _ hi'⟩
  · by_cases h1 : j = k <;> by_cases h2 : k' = k
    · rw [h1, h2]
    · rw [va_up_ne _ _ h2] at hk' hjk
      rw [h1, va_up_self] at hjk
      exact absurd hjk.symm (far k' y hk')
    · rw [va_up_ne _ _ h1] at hj hjk
      rw [h2, va_up_self] at hjk
      exact absurd hjk (far j x hj)
    · rw [va_up_ne _ _ h1] at hj hjk
      rw [va_up_ne _ _ h2] at hk' hjk
      exact hi j k' x y hj hk' hjk
/-- arrays of one type have one class -/
theorem nw_ty1 {D : va_G} {cl : List vw_C} {tys : List (ClassId × FieldType)} {U : State} (h : va_K D cl tys U) {i j : Nat} {a b : ClassId} {ty : FieldType} (hi : tys[i]? = some (a, ty)) (hj : tys[j]? = some (b, ty)) : a = b := by
  have h1 := (h.2 i _ hi).2
  have h2 := (h.2 j _ hj).2
  cases ty with
  | object C =>
    obtain ⟨_, _, _, _, _, e1⟩ := h1
    obtain ⟨_, _, _, _, _, e2⟩ := h2
    exact Option.some.inj (e1.symm.trans e2)
  | _ => exact Option.some.inj (h1.symm.trans h2)
section NW
variable {p : Program} {l : Launch} {e : Env} {R : Room} {s : State} {m : MethodId} {args : Array Value} {below : List Frame} {meth : Method} {c : Code} {H : Heap} {locs : List Loc} {cells slots : Nat} {Q : State → Prop}
variable {cc : ByteArray} {pc : Nat} {ls : Array Slot} {rest : List Value} {D : va_G} {cl : List vw_C} {A : Nat → Prop} {tys : List (ClassId × FieldType)} {H0 : Heap} {wn : nw_N} {ad : Nat → Nat}
theorem nw_get (hexec : p.tables.exec = Jvm.exec) (hb : c.code = cc) {own ref C : String} {T : u_T} {N ci index : Nat} {Ts : List Cond} (hts : ∀ w ∈ Ts, w.before args s = true) (hin : ∀ w ∈ u_ws C T N, w ∈ Ts) (hown : s.vm.findClass own = some m.cls) (hK : va_K D cl tys s) (hw : nw_W D cl A wn ad H) (q : Nat) {fs : List Value} (he : wn q = some (.inr (ci, fs))) (hc : cl[ci]? = some (C, T, N)) (k : Nat) (hk : k < N) (hlink : (Cond.fieldLink own index ref (T k).2.1 (T k).2.2.1).before args s = true) (hsame : ∀ x, s.fieldFound? (T k).1 (T k).2.1 (T k).2.2.1 = some x → s.fieldFound? ref (T k).2.1 (T k).2.2.1 = some x) {v : Value} (hv : fs[k]? = some v) (hdg : decode cc pc = .ok (.getfield index, 3))
    (kk : W p l e R s m args below meth c H locs cells slots Q (F0 m (pc + 3) ls (v :: rest))) : W p l e R s m args below meth c H locs cells slots Q (F0 m pc ls (.ref (ad q) :: rest)) := by
  obtain ⟨ws, hP, hD, hn, hi⟩ := hw
  obtain ⟨i, hi'⟩ := hn q _ he
  exact va_get hexec hb hts hin hown hK hP i hi' hc k hk hlink hsame hv hdg kk
theorem nw_getN (hexec : p.tables.exec = Jvm.exec) (hb : c.code = cc) {own ref C host : String} {T : u_T} {N ci index : Nat} {Ts : List Cond} (hts : ∀ w ∈ Ts, w.before args s = true) (hin : ∀ w ∈ u_ws C T N, w ∈ Ts) (hown : s.vm.findClass own = some m.cls) (hK : va_K D cl tys s) (hw : nw_W D cl A wn ad H) (q : Nat) {fs : List Value} (he : wn q = some (.inr (ci, fs))) (hc : cl[ci]? = some (C, T, N)) (k : Nat) (hk : k < N) (hlink : (Cond.fieldLinkNest own index ref (T k).2.1 (T k).2.2.1 host).before args s = true) (hsame : ∀ x, s.fieldFound? (T k).1 (T k).2.1 (T k).2.2.1 = some x → s.fieldFound? ref (T k).2.1 (T k).2.2.1 = some x) {v : Value} (hv : fs[k]? = some v) (hdg : decode cc pc = .ok (.getfield index, 3))
    (kk : W p l e R s m args below meth c H locs cells slots Q (F0 m (pc + 3) ls (v :: rest))) : W p l e R s m args below meth c H locs cells slots Q (F0 m pc ls (.ref (ad q) :: rest)) := by
  obtain ⟨ws, hP, hD, hn, hi⟩ := hw
  obtain ⟨i, hi'⟩ := hn q _ he
  exact va_getN hexec hb hts hin hown hK hP i hi' hc k hk hlink hsame hv hdg kk
theorem nw_put (hexec : p.tables.exec = Jvm.exec) (hb : c.code = cc) {own ref C : String} {T : u_T} {N ci index : Nat} {Ts : List Cond} (hts : ∀ w ∈ Ts, w.before args s = true) (hin : ∀ w ∈ u_ws C T N, w ∈ Ts) (ty0 : Nat → FieldType) (hty : ∀ k, k < N → parseFieldDescriptor (T k).2.2.1 = some (ty0 k)) (hnm : ∀ a, a < N → ∀ b, b < N → a ≠ b → (T a).2.1 ≠ (T b).2.1) (hown : s.vm.findClass own = some m.cls) (hK : va_K D cl tys s) (hw : nw_W D cl A wn ad H) (hS0 : va_S A H0 H locs) (q : Nat) {fs : List Value} (he : wn q = some (.inr (ci, fs))) (hc : cl[ci]? = some (C, T, N)) (k : Nat) (hk : k < N) (hlink : (Cond.fieldLink own index ref (T k).2.1 (T k).2.2.1).before args s = true) (hsame : ∀ x, s.fieldFound? (T k).1 (T k).2.1 (T k).2.2.1 = some x → s.fieldFound? ref (T k).2.1 (T k).2.2.1 = some x) (hfin : (T k).2.2.2 = false) {ty : FieldType} {v : Value} (hd : parseFieldDescriptor (T k).2.2.1 = some ty) (hnr : narrow ty v = v) (hfit : fits ty v = true) (hl : k < fs.length)
    (hdg : decode cc pc = .ok (.putfield index, 3)) (kk : ∀ (H1 : Heap) (locs1 : List Loc), nw_W D cl A (va_up wn q (some (.inr (ci, fs.set k v)))) ad H1 → va_S A H0 H1 locs1 → W p l e R s m args below meth c H1 locs1 cells slots Q (F0 m (pc + 3) ls rest)) : W p l e R s m args below meth c H locs cells slots Q (F0 m pc ls (v :: .ref (ad q) :: rest)) := by
  obtain ⟨ws, hP, hD, hn, hi⟩ := hw
  obtain ⟨i, hi'⟩ := hn q _ he
  exact va_put hexec hb hts hin ty0 hty hnm hown hK hP hD hS0 i hi' hc k hk hlink hsame hfin hd hnr hfit hl hdg (fun H1 locs1 hP1 hD1 hS1 => kk H1 locs1 (nw_set hn hi he hi' hP1 hD1) hS1)
theorem nw_putN (hexec : p.tables.exec = Jvm.exec) (hb : c.code = cc) {own ref C host : String} {T : u_T} {N ci index : Nat} {Ts : List Cond} (hts : ∀ w ∈ Ts, w.before args s = true) (hin : ∀ w ∈ u_ws C T N, w ∈ Ts) (ty0 : Nat → FieldType) (hty : ∀ k, k < N → parseFieldDescriptor (T k).2.2.1 = some (ty0 k)) (hnm : ∀ a, a < N → ∀ b, b < N → a ≠ b → (T a).2.1 ≠ (T b).2.1) (hown : s.vm.findClass own = some m.cls) (hK : va_K D cl tys s) (hw : nw_W D cl A wn ad H) (hS0 : va_S A H0 H locs) (q : Nat) {fs : List Value} (he : wn q = some (.inr (ci, fs))) (hc : cl[ci]? = some (C, T, N)) (k : Nat) (hk : k < N) (hlink : (Cond.fieldLinkNest own index ref (T k).2.1 (T k).2.2.1 host).before args s = true) (hsame : ∀ x, s.fieldFound? (T k).1 (T k).2.1 (T k).2.2.1 = some x → s.fieldFound? ref (T k).2.1 (T k).2.2.1 = some x) (hfin : (T k).2.2.2 = false) {ty : FieldType} {v : Value} (hd : parseFieldDescriptor (T k).2.2.1 = some ty) (hnr : narrow ty v = v) (hfit : fits ty v = true) (hl : k < fs.length)
    (hdg : decode cc pc = .ok (.putfield index, 3)) (kk : ∀ (H1 : Heap) (locs1 : List Loc), nw_W D cl A (va_up wn q (some (.inr (ci, fs.set k v)))) ad H1 → va_S A H0 H1 locs1 → W p l e R s m args below meth c H1 locs1 cells slots Q (F0 m (pc + 3) ls rest)) : W p l e R s m args below meth c H locs cells slots Q (F0 m pc ls (v :: .ref (ad q) :: rest)) := by
  obtain ⟨ws, hP, hD, hn, hi⟩ := hw
  obtain ⟨i, hi'⟩ := hn q _ he
  exact va_putN hexec hb hts hin ty0 hty hnm hown hK hP hD hS0 i hi' hc k hk hlink hsame hfin hd hnr hfit hl hdg (fun H1 locs1 hP1 hD1 hS1 => kk H1 locs1 (nw_set hn hi he hi' hP1 hD1) hS1)
theorem nw_putF (hexec : p.tables.exec = Jvm.exec) (hb : c.code = cc) {own ref C : String} {T : u_T} {N ci index : Nat} {Ts : List Cond} (hts : ∀ w ∈ Ts, w.before args s = true) (hin : ∀ w ∈ u_ws C T N, w ∈ Ts) (ty0 : Nat → FieldType) (hty : ∀ k, k < N → parseFieldDescriptor (T k).2.2.1 = some (ty0 k)) (hnm : ∀ a, a < N → ∀ b, b < N → a ≠ b → (T a).2.1 ≠ (T b).2.1) (hown : s.vm.findClass own = some m.cls) (hK : va_K D cl tys s) (hw : nw_W D cl A wn ad H) (hS0 : va_S A H0 H locs) (q : Nat) {fs : List Value} (he : wn q = some (.inr (ci, fs))) (hc : cl[ci]? = some (C, T, N)) (k : Nat) (hk : k < N) (hlink : (Cond.fieldLink own index ref (T k).2.1 (T k).2.2.1).before args s = true) (hsame : ∀ x, s.fieldFound? (T k).1 (T k).2.1 (T k).2.2.1 = some x → s.fieldFound? ref (T k).2.1 (T k).2.2.1 = some x) (hfin : (T k).2.2.2 = true) (hin2 : meth.name = "<init>") (hdecl : (T k).1 = own) {ty : FieldType} {v : Value} (hd : parseFieldDescriptor (T k).2.2.1 = some ty) (hnr : narrow ty v = v) (hfit : fits ty v = true) (hl : k < fs.length)
    (hdg : decode cc pc = .ok (.putfield index, 3)) (kk : ∀ (H1 : Heap) (locs1 : List Loc), nw_W D cl A (va_up wn q (some (.inr (ci, fs.set k v)))) ad H1 → va_S A H0 H1 locs1 → W p l e R s m args below meth c H1 locs1 cells slots Q (F0 m (pc + 3) ls rest)) : W p l e R s m args below meth c H locs cells slots Q (F0 m pc ls (v :: .ref (ad q) :: rest)) := by
  obtain ⟨ws, hP, hD, hn, hi⟩ := hw
  obtain ⟨i, hi'⟩ := hn q _ he
  exact va_putF hexec hb hts hin ty0 hty hnm hown hK hP hD hS0 i hi' hc k hk hlink hsame hfin hin2 hdecl hd hnr hfit hl hdg (fun H1 locs1 hP1 hD1 hS1 => kk H1 locs1 (nw_set hn hi he hi' hP1 hD1) hS1)
theorem nw_in {x : Int32} {i n : Nat} (hx : x = nI i) (hi : i < n) (hn : n < 2 ^ 31) : vp_in x n ∧ x.toNatClampNeg = i := by
  subst hx
  exact ⟨vp_in_nI hi hn, nI_clamp (Nat.lt_trans hi hn)⟩
theorem nw_iald (hexec : p.tables.exec = Jvm.exec) (hb : c.code = cc) (hK : va_K D cl tys s) (hw : nw_W D cl A wn ad H) (q t0 : Nat) {cA : ClassId} {n : Nat} {f : Nat → Int32} (he : wn q = some (.inl (cA, n, .inl f))) (ht : tys[t0]? = some (cA, .int)) {x : Int32} (i : Nat) (hx : x = nI i) (hi : i < n) (hn : n < 2 ^ 31) (hdg : decode cc pc = .ok (.iaload, 1))
    (kk : W p l e R s m args below meth c H locs cells slots Q (F0 m (pc + 1) ls (.int (f i) :: rest))) : W p l e R s m args below meth c H locs cells slots Q (F0 m pc ls (.int x :: .ref (ad q) :: rest)) := by
  obtain ⟨ws, hP, hD, hn', hi'⟩ := hw
  obtain ⟨j, hj⟩ := hn' q _ he
  obtain ⟨h1, h2⟩ := nw_in hx hi hn
  exact va_iald hexec hb hK hP j t0 hj ht h1 hdg (by rw [h2]; exact kk)
theorem nw_zald (hexec : p.tables.exec = Jvm.exec) (hb : c.code = cc) (hK : va_K D cl tys s) (hw : nw_W D cl A wn ad H) (q t0 : Nat) {cA : ClassId} {n : Nat} {f : Nat → Int32} (he : wn q = some (.inl (cA, n, .inl f))) (ht : tys[t0]? = some (cA, .boolean)) {x : Int32} (i : Nat) (hx : x = nI i) (hi : i < n) (hn : n < 2 ^ 31) (hdg : decode cc pc = .ok (.baload, 1))
    (kk : W p l e R s m args below meth c H locs cells slots Q (F0 m (pc + 1) ls (.int (f i) :: rest))) : W p l e R s m args below meth c H locs cells slots Q (F0 m pc ls (.int x :: .ref (ad q) :: rest)) := by
  obtain ⟨ws, hP, hD, hn', hi'⟩ := hw
  obtain ⟨j, hj⟩ := hn' q _ he
  obtain ⟨h1, h2⟩ := nw_in hx hi hn
  exact va_zald hexec hb hK hP j t0 hj ht h1 hdg (by rw [h2]; exact kk)
theorem nw_lald (hexec : p.tables.exec = Jvm.exec) (hb : c.code = cc) (hK : va_K D cl tys s) (hw : nw_W D cl A wn ad H) (q t0 : Nat) {cA : ClassId} {n : Nat} {f : Nat → Int64} (he : wn q = some (.inl (cA, n, .inr (.inl f)))) (ht : tys[t0]? = some (cA, .long)) {x : Int32} (i : Nat) (hx : x = nI i) (hi : i < n) (hn : n < 2 ^ 31) (hdg : decode cc pc = .ok (.laload, 1))
    (kk : W p l e R s m args below meth c H locs cells slots Q (F0 m (pc + 1) ls (.long (f i) :: rest))) : W p l e R s m args below meth c H locs cells slots Q (F0 m pc ls (.int x :: .ref (ad q) :: rest)) := by
  obtain ⟨ws, hP, hD, hn', hi'⟩ := hw
  obtain ⟨j, hj⟩ := hn' q _ he
  obtain ⟨h1, h2⟩ := nw_in hx hi hn
  exact va_lald hexec hb hK hP j t0 hj ht h1 hdg (by rw [h2]; exact kk)
theorem nw_aald (hexec : p.tables.exec = Jvm.exec) (hb : c.code = cc) (hK : va_K D cl tys s) (hw : nw_W D cl A wn ad H) (q t0 : Nat) {cA : ClassId} {C : String} {n : Nat} {f : Nat → Option Nat} (he : wn q = some (.inl (cA, n, .inr (.inr (.inr (.inr f)))))) (ht : tys[t0]? = some (cA, .object C)) {x : Int32} (i : Nat) (hx : x = nI i) (hi : i < n) (hn : n < 2 ^ 31) {y : Nat} (hf : f i = some y) (hdg : decode cc pc = .ok (.aaload, 1))
    (kk : W p l e R s m args below meth c H locs cells slots Q (F0 m (pc + 1) ls (.ref y :: rest))) : W p l e R s m args below meth c H locs cells slots Q (F0 m pc ls (.int x :: .ref (ad q) :: rest)) := by
  obtain ⟨ws, hP, hD, hn', hi'⟩ := hw
  obtain ⟨j, hj⟩ := hn' q _ he
  obtain ⟨h1, h2⟩ := nw_in hx hi hn
  exact va_aldq hexec hb hK hP j t0 hj ht h1 hdg (by rw [h2, hf]; exact kk)
theorem nw_iast (hexec : p.tables.exec = Jvm.exec) (hb : c.code = cc) (hK : va_K D cl tys s) (hw : nw_W D cl A wn ad H) (hS : va_S A H0 H locs) (q t0 : Nat) {cA : ClassId} {n : Nat} {f : Nat → Int32} (he : wn q = some (.inl (cA, n, .inl f))) (ht : tys[t0]? = some (cA, .int)) {x y : Int32} (i : Nat) (hx : x = nI i) (hi : i < n) (hn : n < 2 ^ 31) (hdg : decode cc pc = .ok (.iastore, 1))
    (kk : ∀ (H1 : Heap) (locs1 : List Loc), nw_W D cl A (va_up wn q (some (.inl (cA, n, .inl (upd f i y))))) ad H1 → va_S A H0 H1 locs1 → W p l e R s m args below meth c H1 locs1 cells slots Q (F0 m (pc + 1) ls rest)) : W p l e R s m args below meth c H locs cells slots Q (F0 m pc ls (.int y :: .int x :: .ref (ad q) :: rest)) := by
  obtain ⟨ws, hP, hD, hn', hi'⟩ := hw
  obtain ⟨j, hj⟩ := hn' q _ he
  obtain ⟨h1, h2⟩ := nw_in hx hi hn
  exact va_iast hexec hb hK hP hD hS j t0 hj ht h1 hdg (fun H1 locs1 hP1 hD1 hS1 => kk H1 locs1 (nw_set hn' hi' he hj (by rw [h2] at hP1; exact hP1) (by rw [h2] at hD1; exact hD1)) hS1)
theorem nw_zast (hexec : p.tables.exec = Jvm.exec) (hb : c.code = cc) (hK : va_K D cl tys s) (hw : nw_W D cl A wn ad H) (hS : va_S A H0 H locs) (q t0 : Nat) {cA : ClassId} {n : Nat} {f : Nat → Int32} (he : wn q = some (.inl (cA, n, .inl f))) (ht : tys[t0]? = some (cA, .boolean)) {x y z : Int32} (i : Nat) (hx : x = nI i) (hi : i < n) (hn : n < 2 ^ 31) (hz : vp_nar .boolean y = z) (hdg : decode cc pc = .ok (.bastore, 1))
    (kk : ∀ (H1 : Heap) (locs1 : List Loc), nw_W D cl A (va_up wn q (some (.inl (cA, n, .inl (upd f i z))))) ad H1 → va_S A H0 H1 locs1 → W p l e R s m args below meth c H1 locs1 cells slots Q (F0 m (pc + 1) ls rest)) : W p l e R s m args below meth c H locs cells slots Q (F0 m pc ls (.int y :: .int x :: .ref (ad q) :: rest)) := by
  obtain ⟨ws, hP, hD, hn', hi'⟩ := hw
  obtain ⟨j, hj⟩ := hn' q _ he
  obtain ⟨h1, h2⟩ := nw_in hx hi hn
  subst hz
  exact va_zast hexec hb hK hP hD hS j t0 hj ht h1 hdg (fun H1 locs1 hP1 hD1 hS1 => kk H1 locs1 (nw_set hn' hi' he hj (by rw [h2] at hP1; exact hP1) (by rw [h2] at hD1; exact hD1)) hS1)
theorem nw_last (hexec : p.tables.exec = Jvm.exec) (hb : c.code = cc) (hK : va_K D cl tys s) (hw : nw_W D cl A wn ad H) (hS : va_S A H0 H locs) (q t0 : Nat) {cA : ClassId} {n : Nat} {f : Nat → Int64} (he : wn q = some (.inl (cA, n, .inr (.inl f)))) (ht : tys[t0]? = some (cA, .long)) {x : Int32} {y : Int64} (i : Nat) (hx : x = nI i) (hi : i < n) (hn : n < 2 ^ 31) (hdg : decode cc pc = .ok (.lastore, 1))
    (kk : ∀ (H1 : Heap) (locs1 : List Loc), nw_W D cl A (va_up wn q (some (.inl (cA, n, .inr (.inl (vp_updL f i y)))))) ad H1 → va_S A H0 H1 locs1 → W p l e R s m args below meth c H1 locs1 cells slots Q (F0 m (pc + 1) ls rest)) : W p l e R s m args below meth c H locs cells slots Q (F0 m pc ls (.long y :: .int x :: .ref (ad q) :: rest)) := by
  obtain ⟨ws, hP, hD, hn', hi'⟩ := hw
  obtain ⟨j, hj⟩ := hn' q _ he
  obtain ⟨h1, h2⟩ := nw_in hx hi hn
  exact va_last hexec hb hK hP hD hS j t0 hj ht h1 hdg (fun H1 locs1 hP1 hD1 hS1 => kk H1 locs1 (nw_set hn' hi' he hj (by rw [h2] at hP1; exact hP1) (by rw [h2] at hD1; exact hD1)) hS1)
theorem nw_aast (hexec : p.tables.exec = Jvm.exec) (hb : c.code = cc) (hK : va_K D cl tys s) (hw : nw_W D cl A wn ad H) (hS : va_S A H0 H locs) (q t0 qk ci : Nat) {cA : ClassId} {r : vw_C} {n : Nat} {vs : List Value} {f : Nat → Option Nat} (he : wn q = some (.inl (cA, n, .inr (.inr (.inr (.inr f)))))) (ht : tys[t0]? = some (cA, .object r.1)) (hv : wn qk = some (.inr (ci, vs))) (hc : cl[ci]? = some r) {x : Int32} (i : Nat) (hx : x = nI i) (hi : i < n) (hn : n < 2 ^ 31) (hdg : decode cc pc = .ok (.aastore, 1))
    (kk : ∀ (H1 : Heap) (locs1 : List Loc), nw_W D cl A (va_up wn q (some (.inl (cA, n, .inr (.inr (.inr (.inr (va_up f i (some (ad qk)))))))))) ad H1 → va_S A H0 H1 locs1 → W p l e R s m args below meth c H1 locs1 cells slots Q (F0 m (pc + 1) ls rest)) : W p l e R s m args below meth c H locs cells slots Q (F0 m pc ls (.ref (ad qk) :: .int x :: .ref (ad q) :: rest)) := by
  obtain ⟨ws, hP, hD, hn', hi'⟩ := hw
  obtain ⟨j, hj⟩ := hn' q _ he
  obtain ⟨jk, hjk⟩ := hn' qk _ hv
  obtain ⟨h1, h2⟩ := nw_in hx hi hn
  exact va_astq hexec hb hK hP hD hS j t0 jk ci hj ht hjk hc h1 hdg (fun H1 locs1 hP1 hD1 hS1 => kk H1 locs1 (nw_set hn' hi' he hj (by rw [h2] at hP1; exact hP1) (by rw [h2] at hD1; exact hD1)) hS1)
theorem nw_alen (hexec : p.tables.exec = Jvm.exec) (hb : c.code = cc) (hK : va_K D cl tys s) (hw : nw_W D cl A wn ad H) (q t0 : Nat) {cA : ClassId} {x : vp_A} (he : wn q = some (.inl (cA, x))) {ty : FieldType} (ht : tys[t0]? = some (cA, ty)) {v : Int32} (hv : Int32.ofNat x.1 = v) (hdg : decode cc pc = .ok (.arraylength, 1))
    (kk : W p l e R s m args below meth c H locs cells slots Q (F0 m (pc + 1) ls (.int v :: rest))) : W p l e R s m args below meth c H locs cells slots Q (F0 m pc ls (.ref (ad q) :: rest)) := by
  obtain ⟨ws, hP, hD, hn', hi'⟩ := hw
  obtain ⟨j, hj⟩ := hn' q _ he
  exact va_alen hexec hb hK hP j t0 hj ht hv hdg kk
/-- a new array gets the name q -/
theorem nw_newa (hexec : p.tables.exec = Jvm.exec) (hb : c.code = cc) {atype : ArrayType} (harr : (Cond.arrayClass (newarray.typeOf atype)).before args s = true) {ty : FieldType} (hty : newarray.typeOf atype = ty) (hK : va_K D cl tys s) (hw : nw_W D cl A wn ad H) (hS : va_S A H0 H locs) (hA : ∀ q, H0.size ≤ q → A q) (q : Nat) (hq : wn q = none) (t0 : Nat) {cA : ClassId} (ht : tys[t0]? = some (cA, ty))
    {n : Int32} {N' : Nat} {a0 : vp_A} (ha : ∀ cA : ClassId, vp_cell cA a0 = arrV cA N' (fun _ => defaultValue ty)) (hn : ¬ n < 0) (hN : n.toNatClampNeg = N') (hbytes : N' * componentBytes ty ≤ 536870912) (hcells : cells + 1 ≤ R.cells) (hslots : slots + N' ≤ R.slots) (hdg : decode cc pc = .ok (.newarray atype, 2))
    (kk : ∀ (ad1 : Nat → Nat) (H1 : Heap), (∀ j, j ≠ q → ad1 j = ad j) → nw_W D cl A (va_up wn q (some (.inl (cA, a0)))) ad1 H1 → va_S A H0 H1 locs →
      W p l e R s m args below meth c H1 locs (cells + 1) (slots + N') Q (F0 m (pc + 2) ls (.ref (ad1 q) :: rest))) : W p l e R s m args below meth c H locs cells slots Q (F0 m pc ls (.int n :: rest)) := by
  obtain ⟨ws, hP, hD, hn', hi'⟩ := hw
  refine va_newa hexec hb harr hty hK hP hD hS hA ha hn hN hbytes hcells hslots hdg (fun a cB H1 hK1 hP1 hD1 hS1 => ?_)
  have hl : t0 < tys.length := (List.getElem?_eq_some_iff.mp ht).1
  have e1 : cB = cA := nw_ty1 (ty := ty) (a := cB) (b := cA) hK1 (i := tys.length) (j := t0) (by simp) (by rw [List.getElem?_append_left hl]; exact ht)
  subst e1
  have h := kk (va_up ad q a) H1 (fun j hj => va_up_ne _ _ hj) (nw_push hn' hi' hq hP1 hD1) hS1
  rw [va_up_self] at h
  exact h
theorem nw_newq (hexec : p.tables.exec = Jvm.exec) (hb : c.code = cc) {own C : String} {index : Nat} (hown : s.vm.findClass own = some m.cls) (hclink : (Cond.classLink own index C).before args s = true) (hover : va_AO C s) (hK : va_K D cl tys s) (hw : nw_W D cl A wn ad H) (hS : va_S A H0 H locs) (hA : ∀ q, H0.size ≤ q → A q) (q : Nat) (hq : wn q = none) (t0 : Nat) {cA : ClassId} (ht : tys[t0]? = some (cA, .object C))
    {n : Int32} {N' : Nat} (hn : ¬ n < 0) (hN : n.toNatClampNeg = N') (hbytes : N' * 4 ≤ 536870912) (hcells : cells + 1 ≤ R.cells) (hslots : slots + N' ≤ R.slots) (hdg : decode cc pc = .ok (.anewarray index, 3))
    (kk : ∀ (ad1 : Nat → Nat) (H1 : Heap), (∀ j, j ≠ q → ad1 j = ad j) → nw_W D cl A (va_up wn q (some (.inl (cA, N', .inr (.inr (.inr (.inr (fun _ => none)))))))) ad1 H1 → va_S A H0 H1 locs →
      W p l e R s m args below meth c H1 locs (cells + 1) (slots + N') Q (F0 m (pc + 3) ls (.ref (ad1 q) :: rest))) : W p l e R s m args below meth c H locs cells slots Q (F0 m pc ls (.int n :: rest)) := by
  obtain ⟨ws, hP, hD, hn', hi'⟩ := hw
  refine va_newq hexec hb hown hclink hover hK hP hD hS hA hn hN hbytes hcells hslots hdg (fun a cB H1 hK1 hP1 hD1 hS1 => ?_)
  have hl : t0 < tys.length := (List.getElem?_eq_some_iff.mp ht).1
  have e1 : cB = cA := nw_ty1 (ty := .object C) (a := cB) (b := cA) hK1 (i := tys.length) (j := t0) (by simp) (by rw [List.getElem?_append_left hl]; exact ht)
  subst e1
  have h := kk (va_up ad q a) H1 (fun j hj => va_up_ne _ _ hj) (nw_push hn' hi' hq hP1 hD1) hS1
  rw [va_up_self] at h
  exact h
theorem nw_new (hexec : p.tables.exec = Jvm.exec) (hb : c.code = cc) {own C : String} {T : u_T} {N ci index : Nat} {Ts : List Cond} (hts : ∀ w ∈ Ts, w.before args s = true) (hin : ∀ w ∈ u_ws C T N, w ∈ Ts) (ty : Nat → FieldType) (hty : ∀ k, k < N → parseFieldDescriptor (T k).2.2.1 = some (ty k)) (hown : s.vm.findClass own = some m.cls) (hcl : (Cond.classLink own index C).before args s = true) (hinst : (Cond.instantiable C N).before args s = true) (hini : (Cond.initialized C).before args s = true)
    (hK : va_K D cl tys s) (hw : nw_W D cl A wn ad H) (hS : va_S A H0 H locs) (hA : ∀ q, H0.size ≤ q → A q) (q : Nat) (hq : wn q = none) (hc : cl[ci]? = some (C, T, N)) {fs : List Value} (hfs : ∀ j, j < N → defaultValue (ty j) = vp_V fs j) (hcells : cells + 1 ≤ R.cells) (hslots : slots + N ≤ R.slots) (hdg : decode cc pc = .ok (.new index, 3))
    (kk : ∀ (ad1 : Nat → Nat) (H1 : Heap), (∀ j, j ≠ q → ad1 j = ad j) → nw_W D cl A (va_up wn q (some (.inr (ci, fs)))) ad1 H1 → va_S A H0 H1 locs →
      W p l e R s m args below meth c H1 locs (cells + 1) (slots + N) Q (F0 m (pc + 3) ls (.ref (ad1 q) :: rest))) : W p l e R s m args below meth c H locs cells slots Q (F0 m pc ls rest) := by
  obtain ⟨ws, hP, hD, hn', hi'⟩ := hw
  refine va_new hexec hb hts hin ty hty hown hcl hinst hini hK hP hD hS hA hc hfs hcells hslots hdg (fun a H1 hP1 hD1 hS1 => ?_)
  have h := kk (va_up ad q a) H1 (fun j hj => va_up_ne _ _ hj) (nw_push hn' hi' hq hP1 hD1) hS1
  rw [va_up_self] at h
  exact h
theorem nw_copy (hexec : p.tables.exec = Jvm.exec) (hb : c.code = cc) (hml : c.maxLocals = ls.size) {own : String} {index : Nat} (hown : s.vm.findClass own = some m.cls) (hlink : (Cond.methodLink own index arraycopyName).before args s = true) (hnat : (Cond.native arraycopyName).before args s = true) (hstat : (Cond.static arraycopyName).before args s = true) (hini : (Cond.initialized "java/lang/System").before args s = true)
    (hK : va_K D cl tys s) (hw : nw_W D cl A wn ad H) (hS : va_S A H0 H locs) (q0 q1 t0 : Nat) {cA : ClassId} {n0 n1 : Nat} {f g : Nat → Int32} (he0 : wn q0 = some (.inl (cA, n0, .inl f))) (he1 : wn q1 = some (.inl (cA, n1, .inl g))) (ht : tys[t0]? = some (cA, .int))
    {sp dp n : Int32} (h1 : ¬ sp < 0) (h2 : ¬ dp < 0) (h3 : ¬ n < 0) (h4 : sp.toNatClampNeg + n.toNatClampNeg ≤ n0) (h5 : dp.toNatClampNeg + n.toNatClampNeg ≤ n1)
    (hframes : 1 ≤ R.frames) (hlocals : (rest.map fun v => v.category).sum + (nativeFrameWords "java/lang/System" "arraycopy" 5 + 11) ≤ R.locals) (hdg : decode cc pc = .ok (.invokestatic index, 3))
    (kk : ∀ (H1 : Heap) (locs1 : List Loc), nw_W D cl A (va_up wn q1 (some (.inl (cA, n1, .inl (va_cpy f g sp.toNatClampNeg dp.toNatClampNeg n.toNatClampNeg))))) ad H1 → va_S A H0 H1 locs1 → W p l e R s m args below meth c H1 locs1 cells slots Q (F0 m (pc + 3) ls rest)) : W p l e R s m args below meth c H locs cells slots Q (F0 m pc ls (.int n :: .int dp :: .ref (ad q1) :: .int sp :: .ref (ad q0) :: rest)) := by
  obtain ⟨ws, hP, hD, hn', hi'⟩ := hw
  obtain ⟨j0, hj0⟩ := hn' q0 _ he0
  obtain ⟨j1, hj1⟩ := hn' q1 _ he1
  exact va_copyi hexec hb hml hown hlink hnat hstat hini hK hP hD hS j0 j1 t0 t0 hj0 hj1 ht ht rfl h1 h2 h3 h4 h5 (fun i _ => rfl) hframes hlocals hdg (fun H1 locs1 hP1 hD1 hS1 => kk H1 locs1 (nw_set hn' hi' he1 hj1 hP1 hD1) hS1)
/-- the receiver of a call -/
theorem nw_recv (hK : va_K D cl tys s) (hw : nw_W D cl A wn ad H) {q ci : Nat} {r : vw_C} {fs : List Value} (he : wn q = some (.inr (ci, fs))) (hc : cl[ci]? = some r) : ∃ cell : Cell, H[ad q]? = some cell ∧ cell.vm.isStatics = false ∧ s.vm.findClass r.1 = some cell.cls := by
  obtain ⟨ws, hP, hD, hn', hi'⟩ := hw
  obtain ⟨j, hj⟩ := hn' q _ he
  exact va_recv hK hP hc hj
end NW
