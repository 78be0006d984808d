/-! the model's worth -/
section EV
variable {n : Nat → Nat} {I : Nat → Nat → Int32} {J : Nat → Int32} {hm ow sq : Nat → Nat} {F : Nat → Nat → Nat → Int32} {pl tr : Nat → Int32} {m w c o : Nat}
theorem noF_is {sv : Nat → Int32} {N f : Nat} (hf : f < N) (h1 : F 5 8 f = nI w) (h2 : sv f = 0) (hb : ∀ o, o < N → F 5 8 o = nI w → sv o = 0 → F 5 12 o ≤ F 5 12 f ∧ (o < f → F 5 12 o < F 5 12 f)) : noF F sv w N = some f := by
  have p1 : nbP F f (noF F sv w f) := by
    cases e : noF F sv w f with
    | none => trivial
    | some g =>
      obtain ⟨g1, g2, g3⟩ := noF_lt _ _ e
      exact (hb g (by omega) g2 g3).2 g1
  have p2 : ∀ d, f + 1 + d ≤ N → noF F sv w (f + 1 + d) = some f := by
    intro d
    induction d with
    | zero => exact fun _ => noF_t h1 h2 p1
    | succ d ih =>
      intro hd
      have i := ih (by omega)
      show noF F sv w (f + 1 + d + 1) = _
      rw [noF_f, i]
      rintro ⟨q1, q2, q3⟩
      rw [i] at q3
      have a := (hb _ (by omega) q1 q2).1
      have b : F 5 12 f < F 5 12 (f + 1 + d) := q3
      rw [Int32.le_iff_toInt_le] at a
      rw [Int32.lt_iff_toInt_lt] at b
      omega
  have := p2 (N - f - 1) (by omega)
  rw [show f + 1 + (N - f - 1) = N by omega] at this
  exact this
theorem noF_no {sv : Nat → Int32} {N : Nat} (h : ∀ o, o < N → F 5 8 o = nI w → sv o = 0 → False) : noF F sv w N = none := by
  cases e : noF F sv w N with
  | none => rfl
  | some g =>
    obtain ⟨g1, g2, g3⟩ := noF_lt _ _ e
    exact (h g g1 g2 g3).elim
theorem llA_at {f : Nat → Int64} : ∀ N c, c < N → llA F w f N c = if F 5 14 c = nI w then kM F c w else 0 := by
  intro N
  induction N with
  | zero => exact fun c h => absurd h (Nat.not_lt_zero c)
  | succ N ih =>
    intro c hc
    simp only [llA, vp_updL]
    by_cases e : c = N
    · rw [if_pos e, e]
    · rw [if_neg e]; exact ih c (by omega)
theorem pR_ok (hR : pR n (n 2) pl tr) : okT n pl := fun c hc => by
  rcases hR.1 c hc with h | ⟨w, hw, h, _⟩
  · exact Or.inl h.1
  · exact Or.inr ⟨w, hw, h⟩
/-- the orders of a week, the first ranks of them -/
theorem vw_i (hD : dR n I J hm ow sq F) (hR : pR n (n 2) pl (F 5 14)) (hw : w < n 0) {y : vX} {s0 : Int} (hs0 : 0 ≤ s0 ∧ s0 ≤ 100000000000000)
    (hy1 : ∀ o, o < n 4 → (y.1 o = 0 ↔ ¬ ow o < w)) (hy2 : ∀ c, c < n 2 → F 5 14 c = nI w → (y.2.1 c).toInt = lfI n I ow sq F pl 0 c) (hy3 : ∀ j, j < n 4 → ow (sq j) < w → (y.2.2.1 (sq j)).toInt = gI n I ow sq F pl j) (hy4 : y.2.2.2.toInt = s0) :
    ∀ k, k ≤ n 4 → ∃ q, q ≤ k ∧ (∀ o, o < n 4 → ((vwS n F w y q).1 o = 0 ↔ ¬ (ow o < w ∨ (ow o = w ∧ ∃ j, j < k ∧ sq j = o)))) ∧ (∀ c, c < n 2 → F 5 14 c = nI w → ((vwS n F w y q).2.1 c).toInt = lfI n I ow sq F pl k c) ∧
      (∀ j, j < n 4 → (ow (sq j) < w ∨ (j < k ∧ ow (sq j) = w)) → ((vwS n F w y q).2.2.1 (sq j)).toInt = gI n I ow sq F pl j) ∧ (vwS n F w y q).2.2.2.toInt = s0 + sm (fun j => if ow (sq j) = w then gvI n I ow sq F pl j else 0) k := by
  have h8 := hD.1.2.1
  have h6 := hD.1.2.2.2.2.2
  have ok := pR_ok hR
  have hsq := hD.2.2.2.2.2.2.2
  intro k
  induction k with
  | zero =>
    intro _
    refine ⟨0, Nat.le_refl _, fun o ho => ?_, hy2, fun j hj h => hy3 j hj (h.elim id (fun q => absurd q.1 (Nat.not_lt_zero j))), ?_⟩
    · refine (hy1 o ho).trans (not_congr ⟨Or.inl, fun h => h.elim id (fun ⟨_, j, hj, _⟩ => absurd hj (Nat.not_lt_zero j))⟩)
    · simp only [sm]; rw [Int.add_zero]; exact hy4
  | succ k ih =>
    intro hk
    obtain ⟨q, hq, i1, i2, i3, i4⟩ := ih (by omega)
    have hs := hsq.1 k (by omega)
    obtain ⟨o1, o2, o3, ⟨o4, o5, o6, o7⟩, o8, o9⟩ := hD.2.2.2.2.2.2.1 (sq k) hs
    by_cases e : ow (sq k) = w
    · -- served now
      have hz : (vwS n F w y q).1 (sq k) = 0 := (i1 (sq k) hs).mpr (fun h => h.elim (fun h => by omega) (fun ⟨_, j, hj, h⟩ => absurd (sq_inj hD (by omega) (by omega) h) (by omega)))
      have hno : noF F (vwS n F w y q).1 w (n 4) = some (sq k) := by
        refine noF_is hs (by rw [o1, e]) hz (fun o ho h1 h2 => ?_)
        obtain ⟨a1, a2, a3, ⟨_, _, _, a7⟩, _⟩ := hD.2.2.2.2.2.2.1 o ho
        have eo : ow o = w := by rw [a1, nI_eq (by omega) (by omega)] at h1; exact h1
        obtain ⟨j, hj, rfl⟩ := hsq.2.1 o ho
        have hjk : ¬ j < k := fun g => (i1 _ ho).mp h2 (Or.inr ⟨eo, j, g, rfl⟩)
        rw [← a7, ← o7]
        by_cases ej : j = k
        · subst ej; exact ⟨Int32.le_refl _, fun g => absurd g (Nat.lt_irrefl _)⟩
        · rcases hsq.2.2 k j (by omega) hj with g | ⟨g, g2⟩
          · exact ⟨Int32.le_of_lt g, fun _ => g⟩
          · rw [g]; exact ⟨Int32.le_refl _, fun g3 => by omega⟩
      have hst : vwS n F w y (q + 1) = vsT n F w (vwS n F w y q) (some (sq k)) := by
        show vsT n F w _ _ = _
        rw [hno]
      have hwa : ∀ c, c < n 2 → ((F 5 14 c = nI w ∧ qFit F (sq k) c w) ↔ pWants I ow F (sq k) c (pl c)) := fun c hc => by
        have ep := pR_w hR h8 hw hc
        have ew := eq_wants hD hc hw hs
        constructor
        · rintro ⟨g1, g2⟩
          rw [ep.mpr ⟨hc, g1⟩]
          exact ew.mpr ⟨by rw [o1, e], g2⟩
        · intro g
          have g1 : pl c = nI w := by rw [g.1, o2, e]
          rw [g1] at g
          exact ⟨(ep.mp g1).2, (ew.mp g).2⟩
      obtain ⟨m1, m2⟩ := smS_i (F := F) (o := sq k) (w := w) (lf := (vwS n F w y q).2.1) (by rw [← o6]; exact o8) (n 2) (fun c hc h => by rw [i2 c hc h.1]; exact lfI_rg hD ok k (by omega) c hc)
      rw [← o6] at m1 m2
      obtain ⟨c1, c2⟩ := svI_cg (q := (I 7 (sq k)).toInt) (wa := fun c => F 5 14 c = nI w ∧ qFit F (sq k) c w) (wa' := fun c => pWants I ow F (sq k) c (pl c)) (lf := fun c => ((vwS n F w y q).2.1 c).toInt) (lf' := lfI n I ow sq F pl k) (n 2) hwa (fun c hc h => i2 c hc h.1)
      have mg : (smS F (sq k) w (vwS n F w y q).2.1 (n 2)).2.toInt = gI n I ow sq F pl k := m1.trans c1
      obtain ⟨v1, v2⟩ := gvI_rg hD ok (show k < n 4 by omega)
      have hb := sm_b (f := fun j => if ow (sq j) = w then gvI n I ow sq F pl j else 0) (B := 1000000000000) (k := k) (fun j hj => by
        have := gvI_rg hD ok (show j < n 4 by omega)
        split <;> omega)
      have ep : ((smS F (sq k) w (vwS n F w y q).2.1 (n 2)).2 * (F 5 12 (sq k)).toInt64).toInt = gvI n I ow sq F pl k := by
        unfold gvI at v1 v2 ⊢
        rw [i64_mul (by rw [Int32.toInt_toInt64, mg, ← o7]; omega) (by rw [Int32.toInt_toInt64, mg, ← o7]; omega), Int32.toInt_toInt64, mg, ← o7]
      refine ⟨q + 1, by omega, fun o ho => ?_, fun c hc h => ?_, fun j hj h => ?_, ?_⟩
      · rw [hst]
        show upd _ (sq k) (nI 1) o = 0 ↔ _
        by_cases eo : o = sq k
        · subst eo
          rw [pk_us]
          exact ⟨fun h => absurd h (by decide), fun h => absurd (Or.inr ⟨e, k, by omega, rfl⟩) h⟩
        · rw [pk_un eo]
          refine (i1 o ho).trans (not_congr (or_congr Iff.rfl (and_congr_right (fun _ => ?_))))
          constructor
          · rintro ⟨j, hj, h⟩; exact ⟨j, by omega, h⟩
          · rintro ⟨j, hj, h⟩
            exact ⟨j, by rcases Nat.lt_or_ge j k with g | g; exact g; exact absurd (by rw [← h, show j = k by omega]) eo, h⟩
      · rw [hst]
        show ((smS F (sq k) w (vwS n F w y q).2.1 (n 2)).1 c).toInt = _
        rw [m2 c, c2 c (i2 c hc h)]
        rfl
      · rw [hst]
        show (vp_updL _ (sq k) _ (sq j)).toInt = _
        simp only [vp_updL]
        by_cases ej : j = k
        · subst ej
          rw [if_pos rfl]; exact mg
        · rw [if_neg (fun g => ej (sq_inj hD hj (by omega) g))]
          exact i3 j hj (h.elim Or.inl (fun g => Or.inr ⟨by omega, g.2⟩))
      · rw [hst]
        show ((vwS n F w y q).2.2.2 + _).toInt = _
        simp only [sm]
        rw [if_pos e, i64_add (by rw [i4, ep]; omega) (by rw [i4, ep]; omega), i4, ep]
        omega
    · refine ⟨q, by omega, fun o ho => ?_, fun c hc h => ?_, fun j hj h => ?_, ?_⟩
      · refine (i1 o ho).trans (not_congr (or_congr Iff.rfl (and_congr_right (fun eo => ?_))))
        constructor
        · rintro ⟨j, hj, h⟩; exact ⟨j, by omega, h⟩
        · rintro ⟨j, hj, h⟩
          exact ⟨j, by rcases Nat.lt_or_ge j k with g | g; exact g; exact absurd (by rw [← eo, ← h, show j = k by omega]) e, h⟩
      · rw [i2 c hc h]
        simp only [lfI]
        rw [svI_no (wa := fun c => pWants I ow F (sq k) c (pl c))]
        intro g
        have g1 : pl c = nI w := (pR_w hR h8 hw hc).mpr ⟨hc, h⟩
        have g2 := g.1
        rw [g1, o2, nI_eq (by omega) (by omega)] at g2
        exact e g2.symm
      · refine i3 j hj (h.elim Or.inl (fun g => Or.inr ⟨?_, g.2⟩))
        rcases Nat.lt_or_ge j k with g3 | g3
        · exact g3
        · exact absurd (by rw [show k = j by omega]; exact g.2) e
      · simp only [sm]
        rw [if_neg e, i4]; omega
/-- the week of the model's plan -/
def twN (F : Nat → Nat → Nat → Int32) (c : Nat) : Nat := (F 5 14 c).toNatClampNeg
theorem tw_is (hN : n 0 ≤ 8) (hR : pR n m pl (F 5 14)) (hc : c < m) : twN F c ≤ n 0 ∧ F 5 14 c = nI (twN F c) ∧ (pl c = -1 ↔ twN F c = n 0) ∧ (∀ w, w < n 0 → (pl c = nI w ↔ twN F c = w)) ∧ pwF pl c = (if twN F c = n 0 then 0 else twN F c) ∧ tkN n (tkO (pl c)) = twN F c := by
  unfold twN pwF
  rcases hR.1 c hc with ⟨h1, h2⟩ | ⟨v, hv, h1, h2⟩
  · rw [h1, h2, nI_clamp (by omega)]
    refine ⟨Nat.le_refl _, rfl, ⟨fun _ => rfl, fun _ => rfl⟩, fun w hw => ⟨fun h => absurd h.symm (nI_ne_m1 (by omega)), fun h => by omega⟩, ?_, rfl⟩
    rw [if_pos rfl]; decide
  · rw [h1, h2, nI_clamp (by omega)]
    refine ⟨by omega, rfl, ⟨fun h => absurd h (nI_ne_m1 (by omega)), fun h => by omega⟩, fun w hw => nI_eq (by omega) (by omega), ?_, ?_⟩
    · rw [if_neg (by omega)]
    · simp only [tkO]
      rw [if_neg (nI_ne_m1 (by omega)), nI_clamp (by omega)]
      rfl
theorem sp_i {lf : Nat → Int64} {s : Int64} {s0 : Int} {g : Nat → Int} {N : Nat} (hN : N ≤ 6) (hs : s.toInt = s0) (hs0 : 0 ≤ s0 ∧ s0 ≤ 200000000000000) (hJ : rg (J 1) 10000) (hl : ∀ c, c < N → F 5 14 c = nI w → (lf c).toInt = g c ∧ 0 ≤ g c ∧ g c ≤ 2000000) : ∀ k, k ≤ N → (spS F J w lf s k).toInt = s0 + sm (fun c => if F 5 14 c = nI w then g c * (J 1).toInt else 0) k := by
  intro k
  unfold rg at hJ
  have bb : ∀ j, j < N → 0 ≤ (if F 5 14 j = nI w then g j * (J 1).toInt else 0) ∧ (if F 5 14 j = nI w then g j * (J 1).toInt else 0) ≤ 20000000000 := fun j hj => by
    split
    · rename_i h
      obtain ⟨_, a, b⟩ := hl j hj h
      exact mul_rg a b hJ.1 hJ.2
    · omega
  induction k with
  | zero => intro _; simp only [spS, sm]; rw [Int.add_zero]; exact hs
  | succ k ih =>
    intro hk
    have i := ih (by omega)
    have b1 := sm_b (f := fun c => if F 5 14 c = nI w then g c * (J 1).toInt else 0) (B := 20000000000) (k := k) (fun j hj => bb j (by omega))
    have b2 := bb k (by omega)
    simp only [sm]
    by_cases h : F 5 14 k = nI w
    · rw [if_pos h] at b2 ⊢
      obtain ⟨a, _⟩ := hl k (by omega) h
      have ep : (lf k * (J 1).toInt64).toInt = g k * (J 1).toInt := by
        rw [i64_mul (by rw [Int32.toInt_toInt64, a]; omega) (by rw [Int32.toInt_toInt64, a]; omega), Int32.toInt_toInt64, a]
      rw [sp_t h, i64_add (by rw [i, ep]; omega) (by rw [i, ep]; omega), i, ep]
      omega
    · rw [if_neg h]
      rw [sp_f h, i64_add (by rw [i, i64_0]; omega) (by rw [i, i64_0]; omega), i, i64_0]
      omega
theorem wk_i (hD : dR n I J hm ow sq F) (hR : pR n (n 2) pl (F 5 14)) : ∀ w, w ≤ n 0 → (∀ o, o < n 4 → ((wkS n F J (fun _ => 0, fun _ => 0, fun _ => 0, 0) w).1 o = 0 ↔ ¬ ow o < w)) ∧ (∀ j, j < n 4 → ow (sq j) < w → ((wkS n F J (fun _ => 0, fun _ => 0, fun _ => 0, 0) w).2.2.1 (sq j)).toInt = gI n I ow sq F pl j) ∧
    (wkS n F J (fun _ => 0, fun _ => 0, fun _ => 0, 0) w).2.2.2.toInt = sm (fun j => if ow (sq j) < w then gvI n I ow sq F pl j else 0) (n 4) + sm (fun c => if twN F c < w then lfI n I ow sq F pl (n 4) c * (I 0 1).toInt else 0) (n 2) := by
  have h8 := hD.1.2.1
  have h6 := hD.1.2.2.2.1
  have h66 := hD.1.2.2.2.2.2
  have ok := pR_ok hR
  have hsq := hD.2.2.2.2.2.2.2
  intro w
  induction w with
  | zero =>
    intro _
    refine ⟨fun o ho => ⟨fun _ => Nat.not_lt_zero _, fun _ => rfl⟩, fun j _ h => absurd h (Nat.not_lt_zero _), ?_⟩
    have z : ∀ (g : Nat → Int) (t : Nat → Nat) (N : Nat), sm (fun c => if t c < 0 then g c else 0) N = 0 := fun g t N => sm_z (m := 0) (Nat.zero_le _) (fun c _ _ => if_neg (Nat.not_lt_zero _))
    have a1 : sm (fun j => if ow (sq j) < 0 then gvI n I ow sq F pl j else 0) (n 4) = 0 := z _ _ _
    have a2 : sm (fun c => if twN F c < 0 then lfI n I ow sq F pl (n 4) c * (I 0 1).toInt else 0) (n 2) = 0 := z _ _ _
    rw [a1, a2]
    exact i64_0
  | succ w ih =>
    intro hw
    obtain ⟨i1, i2, i3⟩ := ih (by omega)
    have b1 := sm_b (f := fun j => if ow (sq j) < w then gvI n I ow sq F pl j else 0) (B := 1000000000000) (k := n 4) (fun j hj => by
      have := gvI_rg hD ok hj
      split <;> omega)
    have b2 := sm_b (f := fun c => if twN F c < w then lfI n I ow sq F pl (n 4) c * (I 0 1).toInt else 0) (B := 20000000000) (k := n 2) (fun c hc => by
      obtain ⟨a, b⟩ := lfI_rg hD ok (n 4) (Nat.le_refl _) c hc
      have q := hD.2.1.2.1
      have := mul_rg a b q.1 q.2
      split <;> omega)
    have b3 := sm_b (f := fun j => if ow (sq j) = w then gvI n I ow sq F pl j else 0) (B := 1000000000000) (k := n 4) (fun j hj => by
      have := gvI_rg hD ok hj
      split <;> omega)
    obtain ⟨q, hq, v1, v2, v3, v4⟩ := vw_i hD hR (show w < n 0 by omega) (y := ((wkS n F J (fun _ => 0, fun _ => 0, fun _ => 0, 0) w).1, llA F w (wkS n F J (fun _ => 0, fun _ => 0, fun _ => 0, 0) w).2.1 (n 2), (wkS n F J (fun _ => 0, fun _ => 0, fun _ => 0, 0) w).2.2)) (s0 := sm (fun j => if ow (sq j) < w then gvI n I ow sq F pl j else 0) (n 4) + sm (fun c => if twN F c < w then lfI n I ow sq F pl (n 4) c * (I 0 1).toInt else 0) (n 2)) (by omega) i1 (fun c hc h => by
        show (llA F w _ (n 2) c).toInt = (lfA pl (F 3) (pwF pl) (fun _ => 0) (n 2) c).toInt
        obtain ⟨t1, t2, t3, t4, t5, t6⟩ := tw_is h8 hR hc
        have et : twN F c = w := by rw [t2, nI_eq (by omega) (by omega)] at h; exact h
        rw [llA_at _ _ hc, lfA_at _ _ hc, if_pos h, if_neg (fun g => by have := t3.mp g; omega), t5, if_neg (by omega), et]
        exact (kM_i hD hc (by omega)).1) i2 i3 (n 4) (Nat.le_refl _)
    have hnone : noF F (vwS n F w ((wkS n F J (fun _ => 0, fun _ => 0, fun _ => 0, 0) w).1, llA F w (wkS n F J (fun _ => 0, fun _ => 0, fun _ => 0, 0) w).2.1 (n 2), (wkS n F J (fun _ => 0, fun _ => 0, fun _ => 0, 0) w).2.2) q).1 w (n 4) = none := noF_no (fun o ho h1 h2 => by
      obtain ⟨a1, _, a3, _⟩ := hD.2.2.2.2.2.2.1 o ho
      rw [a1, nI_eq (by omega) (by omega)] at h1
      exact (v1 o ho).mp h2 (Or.inr ⟨h1, hsq.2.1 o ho⟩))
    have hend := vwS_none hnone (n 4 - q)
    rw [show q + (n 4 - q) = n 4 by omega] at hend
    have e : wkS n F J (fun _ => 0, fun _ => 0, fun _ => 0, 0) (w + 1) = ((vwS n F w ((wkS n F J (fun _ => 0, fun _ => 0, fun _ => 0, 0) w).1, llA F w (wkS n F J (fun _ => 0, fun _ => 0, fun _ => 0, 0) w).2.1 (n 2), (wkS n F J (fun _ => 0, fun _ => 0, fun _ => 0, 0) w).2.2) q).1, (vwS n F w ((wkS n F J (fun _ => 0, fun _ => 0, fun _ => 0, 0) w).1, llA F w (wkS n F J (fun _ => 0, fun _ => 0, fun _ => 0, 0) w).2.1 (n 2), (wkS n F J (fun _ => 0, fun _ => 0, fun _ => 0, 0) w).2.2) q).2.1, (vwS n F w ((wkS n F J (fun _ => 0, fun _ => 0, fun _ => 0, 0) w).1, llA F w (wkS n F J (fun _ => 0, fun _ => 0, fun _ => 0, 0) w).2.1 (n 2), (wkS n F J (fun _ => 0, fun _ => 0, fun _ => 0, 0) w).2.2) q).2.2.1, spS F J w (vwS n F w ((wkS n F J (fun _ => 0, fun _ => 0, fun _ => 0, 0) w).1, llA F w (wkS n F J (fun _ => 0, fun _ => 0, fun _ => 0, 0) w).2.1 (n 2), (wkS n F J (fun _ => 0, fun _ => 0, fun _ => 0, 0) w).2.2) q).2.1 (vwS n F w ((wkS n F J (fun _ => 0, fun _ => 0, fun _ => 0, 0) w).1, llA F w (wkS n F J (fun _ => 0, fun _ => 0, fun _ => 0, 0) w).2.1 (n 2), (wkS n F J (fun _ => 0, fun _ => 0, fun _ => 0, 0) w).2.2) q).2.2.2 (n 2)) := by
      rw [← hend]; rfl
    rw [e]
    refine ⟨fun o ho => ?_, fun j hj h => ?_, ?_⟩
    · refine (v1 o ho).trans (not_congr ⟨fun h => ?_, fun h => ?_⟩)
      · rcases h with h | h <;> omega
      · by_cases g : ow o < w
        · exact Or.inl g
        · exact Or.inr ⟨by omega, hsq.2.1 o ho⟩
    · refine v3 j hj ?_
      by_cases g : ow (sq j) < w
      · exact Or.inl g
      · exact Or.inr ⟨hj, by omega⟩
    · have hJ : rg (J 1) 10000 := by rw [← hD.2.1.1.1]; exact hD.2.1.2.1
      show (spS F J w _ _ (n 2)).toInt = _
      rw [sp_i (g := lfI n I ow sq F pl (n 4)) h6 v4 (by omega) hJ (fun c hc h => ⟨v2 c hc h, lfI_rg hD ok (n 4) (Nat.le_refl _) c hc⟩) (n 2) (Nat.le_refl _)]
      have e1 : sm (fun j => if ow (sq j) < w + 1 then gvI n I ow sq F pl j else 0) (n 4) = sm (fun j => if ow (sq j) < w then gvI n I ow sq F pl j else 0) (n 4) + sm (fun j => if ow (sq j) = w then gvI n I ow sq F pl j else 0) (n 4) := by
        rw [← sm_add]
        refine sm_cg (fun j hj => ?_)
        by_cases g : ow (sq j) < w
        · rw [if_pos g, if_pos (by omega), if_neg (by omega)]; omega
        · by_cases g2 : ow (sq j) = w
          · rw [if_neg g, if_pos (by omega), if_pos g2]; omega
          · rw [if_neg g, if_neg (by omega), if_neg g2]; omega
      have e2 : sm (fun c => if twN F c < w + 1 then lfI n I ow sq F pl (n 4) c * (I 0 1).toInt else 0) (n 2) = sm (fun c => if twN F c < w then lfI n I ow sq F pl (n 4) c * (I 0 1).toInt else 0) (n 2) + sm (fun c => if F 5 14 c = nI w then lfI n I ow sq F pl (n 4) c * (J 1).toInt else 0) (n 2) := by
        rw [← sm_add]
        refine sm_cg (fun c hc => ?_)
        obtain ⟨t1, t2, _⟩ := tw_is h8 hR hc
        have et : F 5 14 c = nI w ↔ twN F c = w := by rw [t2, nI_eq (by omega) (by omega)]
        rw [hD.2.1.1.1]
        by_cases g : twN F c < w
        · rw [if_pos g, if_pos (by omega), if_neg (fun z => by have := et.mp z; omega)]; omega
        · by_cases g2 : twN F c = w
          · rw [if_neg g, if_pos (by omega), if_pos (et.mpr g2)]; omega
          · rw [if_neg g, if_neg (by omega), if_neg (fun z => g2 (et.mp z))]; omega
      rw [e1, e2]
      omega
/-- THE WORTH is the same -/
theorem eq_worth (hD : dR n I J hm ow sq F) (hR : pR n (n 2) pl (F 5 14)) : wrL n I ow sq F pl = vlL n F J := by
  have h8 := hD.1.2.1
  have h1 := hD.1.1
  have h6 := hD.1.2.2.2.1
  have h66 := hD.1.2.2.2.2.2
  have ok := pR_ok hR
  have hsq := hD.2.2.2.2.2.2.2
  obtain ⟨_, _, i3⟩ := wk_i hD hR (n 0) (Nat.le_refl _)
  apply Int64.toInt_inj.mp
  rw [wr_i hD ok]
  have e1 : sm (fun j => if ow (sq j) < n 0 then gvI n I ow sq F pl j else 0) (n 4) = sm (gvI n I ow sq F pl) (n 4) := sm_cg (fun j hj => if_pos (hD.2.2.2.2.2.2.1 _ (hsq.1 j hj)).2.2.1)
  rw [e1] at i3
  have b1 := sm_b (f := gvI n I ow sq F pl) (B := 1000000000000) (k := n 4) (fun j hj => gvI_rg hD ok hj)
  have b2 := sm_b (f := fun c => if twN F c < n 0 then lfI n I ow sq F pl (n 4) c * (I 0 1).toInt else 0) (B := 20000000000) (k := n 2) (fun c hc => by
    obtain ⟨a, b⟩ := lfI_rg hD ok (n 4) (Nat.le_refl _) c hc
    have q := hD.2.1.2.1
    have := mul_rg a b q.1 q.2
    split <;> omega)
  have kb : ∀ c, c < n 2 → 0 ≤ (ckL n I F c).toInt ∧ (ckL n I F c).toInt ≤ 20000000000 := fun c hc => (eq_top (tk := none) hD hc (fun w h => by cases h)).2
  have key : ∀ k, k ≤ n 2 → (ksS n F J (wkF n F J).2.2.2 k).toInt = (wkF n F J).2.2.2.toInt + sm (fun c => if twN F c = n 0 then (ckL n I F c).toInt else 0) k := by
    intro k
    induction k with
    | zero => intro _; simp only [ksS, sm]; omega
    | succ k ih =>
      intro hk
      have i := ih (by omega)
      have b3 := sm_b (f := fun c => if twN F c = n 0 then (ckL n I F c).toInt else 0) (B := 20000000000) (k := k) (fun c hc => by
        have := kb c (by omega)
        split <;> omega)
      obtain ⟨t1, t2, _⟩ := tw_is h8 hR (show k < n 2 by omega)
      have et : F 5 14 k = nI (n 0) ↔ twN F k = n 0 := by rw [t2, nI_eq (by omega) (by omega)]
      have i3' : (wkF n F J).2.2.2.toInt = _ := i3
      have bk := kb k (by omega)
      simp only [sm]
      by_cases g : twN F k = n 0
      · have ek : kM F k (n 0 - 1) * (J 2).toInt64 = ckL n I F k := by
          unfold ckL
          rw [((hD.2.2.2.1 k (by omega)).2.2 (n 0 - 1) (by omega)).2.2.1, hD.2.1.1.2]
        rw [if_pos g, ks_t (et.mpr g), ek, i64_add (by rw [i, i3']; omega) (by rw [i, i3']; omega), i]
        omega
      · rw [if_neg g, ks_f (fun z => g (et.mp z)), i64_add (by rw [i, i3', i64_0]; omega) (by rw [i, i3', i64_0]; omega), i, i64_0]
        omega
  show _ = (ksS n F J (wkF n F J).2.2.2 (n 2)).toInt
  rw [key _ (Nat.le_refl _)]
  have i3' : (wkF n F J).2.2.2.toInt = _ := i3
  rw [i3']
  have e2 : sm (rsI n I ow sq F pl) (n 2) = sm (fun c => if twN F c < n 0 then lfI n I ow sq F pl (n 4) c * (I 0 1).toInt else 0) (n 2) + sm (fun c => if twN F c = n 0 then (ckL n I F c).toInt else 0) (n 2) := by
    rw [← sm_add]
    refine sm_cg (fun c hc => ?_)
    obtain ⟨t1, t2, t3, _⟩ := tw_is h8 hR hc
    unfold rsI
    by_cases g : twN F c = n 0
    · rw [if_pos (t3.mpr g), if_neg (by omega), if_pos g]; omega
    · rw [if_neg (fun z => g (t3.mp z)), if_pos (by omega), if_neg g]; omega
  rw [e2]
  omega
theorem eq_sold (hD : dR n I J hm ow sq F) (hR : pR n (n 2) pl (F 5 14)) (ho : o < n 4) : (saF n I ow sq F pl).2.1 o = ((wkF n F J).2.2.1 o).toInt32 := by
  obtain ⟨k, hk, rfl⟩ := hD.2.2.2.2.2.2.2.2.1 o ho
  have ok := pR_ok hR
  obtain ⟨_, _, s3⟩ := sa_i hD ok (n 4) (Nat.le_refl _)
  obtain ⟨_, i2, _⟩ := wk_i hD hR (n 0) (Nat.le_refl _)
  have a : ((saF n I ow sq F pl).2.1 (sq k)).toInt = gI n I ow sq F pl k := s3 k hk
  have b : ((wkF n F J).2.2.1 (sq k)).toInt = gI n I ow sq F pl k := i2 k hk (hD.2.2.2.2.2.2.1 _ ho).2.2.1
  obtain ⟨g1, g2⟩ := gI_rg hD ok hk
  apply Int32.toInt_inj.mp
  rw [Int64.toInt_toInt32, b, a]
  exact (Int.bmod_eq_of_le (by omega) (by omega)).symm
/-- THE WORTH is never above the tops -/
theorem worth_le (hD : dR n I J hm ow sq F) (hR : pR n (n 2) pl (F 5 14)) : 0 ≤ (wrL n I ow sq F pl).toInt ∧ (wrL n I ow sq F pl).toInt ≤ sm (fun c => (topL n I ow F c (tkO (pl c))).toInt) (n 2) := by
  have h8 := hD.1.2.1
  have h6 := hD.1.2.2.2.1
  have ok := pR_ok hR
  have hsq := hD.2.2.2.2.2.2.2
  rw [wr_i hD ok]
  have b1 := sm_b (f := gvI n I ow sq F pl) (B := 1000000000000) (k := n 4) (fun j hj => gvI_rg hD ok hj)
  have b2 := sm_b (f := rsI n I ow sq F pl) (B := 20000000000) (k := n 2) (fun j hj => rsI_rg hD ok (by omega))
  refine ⟨by omega, ?_⟩
  -- the cents of a cage's top
  have pot : ∀ k, k ≤ n 4 → sm (gvI n I ow sq F pl) k + sm (fun c => lfI n I ow sq F pl k c * (tcS I ow F c (pl c) (n 4)).toInt) (n 2) ≤ sm (fun c => lfI n I ow sq F pl 0 c * (tcS I ow F c (pl c) (n 4)).toInt) (n 2) := by
    intro k
    induction k with
    | zero => intro _; simp only [sm]; omega
    | succ k ih =>
      intro hk
      have i := ih (by omega)
      have hs := hsq.1 k (by omega)
      obtain ⟨_, _, _, _, h7, h9⟩ := hD.2.2.2.2.2.2.1 (sq k) hs
      have p := svI_pot (q := (I 7 (sq k)).toInt) (wa := fun c => pWants I ow F (sq k) c (pl c)) (lf := lfI n I ow sq F pl k) (t := fun c => (tcS I ow F c (pl c) (n 4)).toInt) (ct := (I 8 (sq k)).toInt) (n 2) h7.1 (fun c hc _ => (lfI_rg hD ok k (by omega) c hc).1) (fun c hc h => by
        have mono : ∀ d, sq k + 1 + d ≤ n 4 → (I 8 (sq k)).toInt ≤ (tcS I ow F c (pl c) (sq k + 1 + d)).toInt := by
          intro d
          induction d with
          | zero =>
            intro _
            rw [Nat.add_zero, tcS_t h]
            unfold mxI
            split
            · exact Int.le_refl _
            · rename_i g; rw [Int32.lt_iff_toInt_lt] at g; omega
          | succ d ih2 =>
            intro hd
            have i2 := ih2 (by omega)
            show _ ≤ (tcS I ow F c (pl c) (sq k + 1 + d + 1)).toInt
            by_cases g : pWants I ow F (sq k + 1 + d) c (pl c)
            · rw [tcS_t g]
              unfold mxI
              split
              · rename_i g2; rw [Int32.lt_iff_toInt_lt] at g2; omega
              · exact i2
            · rw [tcS_f g]; exact i2
        have := mono (n 4 - sq k - 1) (by omega)
        rw [show sq k + 1 + (n 4 - sq k - 1) = n 4 by omega] at this
        exact this)
      have p' : gvI n I ow sq F pl k + sm (fun c => lfI n I ow sq F pl (k + 1) c * (tcS I ow F c (pl c) (n 4)).toInt) (n 2) ≤ sm (fun c => lfI n I ow sq F pl k c * (tcS I ow F c (pl c) (n 4)).toInt) (n 2) := p
      show sm (gvI n I ow sq F pl) k + gvI n I ow sq F pl k + _ ≤ _
      omega
  have P := pot (n 4) (Nat.le_refl _)
  have spot : ∀ c, ∀ k, (I 0 1).toInt ≤ (tcS I ow F c (pl c) k).toInt := by
    intro c k
    induction k with
    | zero => exact Int.le_refl _
    | succ k ih =>
      by_cases g : pWants I ow F k c (pl c)
      · rw [tcS_t g]
        unfold mxI
        split
        · rename_i g2; rw [Int32.lt_iff_toInt_lt] at g2; omega
        · exact ih
      · rw [tcS_f g]; exact ih
  have fin : sm (rsI n I ow sq F pl) (n 2) + sm (fun c => lfI n I ow sq F pl 0 c * (tcS I ow F c (pl c) (n 4)).toInt) (n 2) ≤ sm (fun c => (topL n I ow F c (tkO (pl c))).toInt) (n 2) + sm (fun c => lfI n I ow sq F pl (n 4) c * (tcS I ow F c (pl c) (n 4)).toInt) (n 2) := by
    rw [← sm_add, ← sm_add]
    refine sm_le (fun c hc => ?_)
    obtain ⟨a, b⟩ := lfI_rg hD ok (n 4) (Nat.le_refl _) c hc
    obtain ⟨t1, t2, t3, t4, t5, t6⟩ := tw_is h8 hR hc
    have hsp := spot c (n 4)
    have hs0 := hD.2.1.2.1.1
    unfold rsI
    by_cases g : pl c = -1
    · rw [if_pos g]
      have e0 : lfI n I ow sq F pl 0 c = 0 := by simp only [lfI]; rw [lfA_at _ _ hc, if_pos g, i32_0]
      have e1 : topL n I ow F c (tkO (pl c)) = ckL n I F c := by rw [g]; rfl
      have := Int.mul_nonneg a (Int.le_trans hs0 hsp)
      rw [e0, e1, Int.zero_mul]
      omega
    · rw [if_neg g]
      rcases okT_pw h8 ok c hc with g1 | ⟨g1, g2⟩
      · exact absurd g1 g
      · have e0 : lfI n I ow sq F pl 0 c = (F 3 c (pwF pl c)).toInt := by simp only [lfI]; rw [lfA_at _ _ hc, if_neg g]
        have e1 : tkO (pl c) = some (pwF pl c) := by simp only [tkO]; rw [if_neg g]; rfl
        have e2 : (topL n I ow F c (tkO (pl c))).toInt = (F 3 c (pwF pl c)).toInt * (tcS I ow F c (pl c) (n 4)).toInt := by
          rw [e1]
          obtain ⟨k1, k2, k3⟩ := eq_tc hD hc g2 (n 4) (Nat.le_refl _)
          obtain ⟨_, k4, k5⟩ := kM_i hD hc g2
          have := mul_rg k4 k5 k2 k3
          show ((F 3 c (pwF pl c)).toInt64 * (tcS I ow F c (nI (pwF pl c)) (n 4)).toInt64).toInt = _
          rw [← g1] at this ⊢
          rw [i64_mul (by rw [Int32.toInt_toInt64, Int32.toInt_toInt64]; omega) (by rw [Int32.toInt_toInt64, Int32.toInt_toInt64]; omega), Int32.toInt_toInt64, Int32.toInt_toInt64]
        rw [e0, e2]
        have := Int.mul_le_mul_of_nonneg_left hsp a
        omega
  omega
end EV
