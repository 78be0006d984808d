/-! tops and hope -/
theorem m_le32 {x y : Int32} : x.toInt64 ≤ y.toInt64 ↔ x ≤ y := by rw [Int64.le_iff_toInt_le, Int32.le_iff_toInt_le, Int32.toInt_toInt64, Int32.toInt_toInt64]
theorem m_lt32 {x y : Int32} : x.toInt64 < y.toInt64 ↔ x < y := by rw [Int64.lt_iff_toInt_lt, Int32.lt_iff_toInt_lt, Int32.toInt_toInt64, Int32.toInt_toInt64]
section ET
variable {n : Nat → Nat} {I : Nat → Nat → Int32} {J : Nat → Int32} {hm ow sq : Nat → Nat} {F : Nat → Nat → Nat → Int32} {pl tr : Nat → Int32} {m w c o : Nat}
theorem eq_wants (hD : dR n I J hm ow sq F) (hc : c < n 2) (hw : w < n 0) (ho : o < n 4) : pWants I ow F o c (nI w) ↔ (F 5 8 o = nI w ∧ qFit F o c w) := by
  obtain ⟨h1, h2, h3, ⟨h4, h5, _⟩, _⟩ := hD.2.2.2.2.2.2.1 o ho
  have h8 := hD.1.2.1
  unfold pWants qFit
  rw [h1, h2, h4, h5, nI_eq (by omega) (by omega), nI_eq (by omega) (by omega), m_le32, m_le32]
  constructor
  · rintro ⟨rfl, a, b⟩
    rw [((hD.2.2.2.1 c hc).2.2 _ hw).1] at a b
    exact ⟨rfl, a, b⟩
  · rintro ⟨rfl, a, b⟩
    rw [((hD.2.2.2.1 c hc).2.2 _ hw).1]
    exact ⟨rfl, a, b⟩
theorem eq_tc (hD : dR n I J hm ow sq F) (hc : c < n 2) (hw : w < n 0) : ∀ o, o ≤ n 4 → (tcS I ow F c (nI w) o).toInt64 = mtS F J c w o ∧ rg (tcS I ow F c (nI w) o) 10000 := by
  intro o
  induction o with
  | zero => intro _; exact ⟨by simp only [tcS, mtS]; rw [hD.2.1.1.1], hD.2.1.2.1⟩
  | succ o ih =>
    intro ho
    obtain ⟨i1, i2⟩ := ih (by omega)
    have e := eq_wants hD hc hw (show o < n 4 by omega)
    obtain ⟨_, _, _, ⟨_, _, _, h8⟩, _, h9⟩ := hD.2.2.2.2.2.2.1 o (by omega)
    by_cases h : pWants I ow F o c (nI w)
    · rw [tcS_t h]
      unfold mxI
      by_cases h2 : tcS I ow F c (nI w) o < I 8 o
      · rw [if_pos h2, mtS_t ⟨e.mp h, by rw [← i1, ← h8, m_lt32]; exact h2⟩, h8]
        exact ⟨rfl, by rw [← h8]; exact h9⟩
      · rw [if_neg h2, mtS_f (fun q => h2 (by have := q.2; rw [← i1, ← h8, m_lt32] at this; exact this))]
        exact ⟨i1, i2⟩
    · rw [tcS_f h, mtS_f (fun q => h (e.mpr q.1))]
      exact ⟨i1, i2⟩
/-- the week in which the model says that a cage is taken -/
def tkN (n : Nat → Nat) : Option Nat → Nat
  | none => n 0
  | some w => w
theorem eq_top (hD : dR n I J hm ow sq F) (hc : c < n 2) {tk : Option Nat} (ht : ∀ w, tk = some w → w < n 0) : topL n I ow F c tk = mtL n J F c (tkN n tk) ∧ 0 ≤ (topL n I ow F c tk).toInt ∧ (topL n I ow F c tk).toInt ≤ 20000000000 := by
  have h0 := hD.1.1
  cases tk with
  | none =>
    obtain ⟨_, _, e3, ⟨e4, e5⟩⟩ := (hD.2.2.2.1 c hc).2.2 (n 0 - 1) (by omega)
    obtain ⟨⟨_, k1⟩, _, k2, k3⟩ := hD.2.1
    refine ⟨?_, ?_⟩
    · show ckL n I F c = mtL n J F c (n 0)
      simp only [mtL, ckL]
      rw [if_pos trivial, ← e3, k1]
    · show 0 ≤ (ckL n I F c).toInt ∧ (ckL n I F c).toInt ≤ _
      unfold ckL
      have b1 := Int.mul_nonneg e4 k2
      have b2 := Int.mul_le_mul e5 k3 k2 (by omega)
      rw [i64_mul (by rw [Int32.toInt_toInt64, Int32.toInt_toInt64]; omega) (by rw [Int32.toInt_toInt64, Int32.toInt_toInt64]; omega), Int32.toInt_toInt64, Int32.toInt_toInt64]
      omega
  | some w =>
    have hw := ht w rfl
    obtain ⟨_, _, e3, ⟨e4, e5⟩⟩ := (hD.2.2.2.1 c hc).2.2 w hw
    obtain ⟨k1, k2, k3⟩ := eq_tc hD hc hw (n 4) (Nat.le_refl _)
    refine ⟨?_, ?_⟩
    · show (F 3 c w).toInt64 * (tcS I ow F c (nI w) (n 4)).toInt64 = mtL n J F c w
      simp only [mtL]
      rw [if_neg (by omega), ← e3, k1]
    · show 0 ≤ ((F 3 c w).toInt64 * (tcS I ow F c (nI w) (n 4)).toInt64).toInt ∧ ((F 3 c w).toInt64 * (tcS I ow F c (nI w) (n 4)).toInt64).toInt ≤ _
      have b1 := Int.mul_nonneg e4 k2
      have b2 := Int.mul_le_mul e5 k3 k2 (by omega)
      rw [i64_mul (by rw [Int32.toInt_toInt64, Int32.toInt_toInt64]; omega) (by rw [Int32.toInt_toInt64, Int32.toInt_toInt64]; omega), Int32.toInt_toInt64, Int32.toInt_toInt64]
      omega
theorem mg_i {t : Nat} : (mgS n J F c t).toInt ≤ (mgS n J F c (t + 1)).toInt ∧ (mtL n J F c t).toInt ≤ (mgS n J F c (t + 1)).toInt ∧ ((mgS n J F c (t + 1)).toInt = (mgS n J F c t).toInt ∨ (mgS n J F c (t + 1)).toInt = (mtL n J F c t).toInt) := by
  by_cases h : mgS n J F c t < mtL n J F c t
  · have e : mgS n J F c (t + 1) = mtL n J F c t := by simp only [mgS]; rw [if_pos h]
    rw [Int64.lt_iff_toInt_lt] at h
    rw [e]; omega
  · have e : mgS n J F c (t + 1) = mgS n J F c t := by simp only [mgS]; rw [if_neg h]
    rw [Int64.lt_iff_toInt_lt] at h
    rw [e]; omega
theorem gt_i {t : Nat} : (gtS n I ow F c t).toInt ≤ (gtS n I ow F c (t + 1)).toInt ∧ (topL n I ow F c (some t)).toInt ≤ (gtS n I ow F c (t + 1)).toInt ∧ ((gtS n I ow F c (t + 1)).toInt = (gtS n I ow F c t).toInt ∨ (gtS n I ow F c (t + 1)).toInt = (topL n I ow F c (some t)).toInt) := by
  by_cases h : topL n I ow F c (some t) < gtS n I ow F c t
  · have e : gtS n I ow F c (t + 1) = gtS n I ow F c t := by simp only [gtS, mxL]; rw [if_pos h]
    rw [Int64.lt_iff_toInt_lt] at h
    rw [e]; omega
  · have e : gtS n I ow F c (t + 1) = topL n I ow F c (some t) := by simp only [gtS, mxL]; rw [if_neg h]
    rw [Int64.lt_iff_toInt_lt] at h
    rw [e]; omega
theorem eq_gt (hD : dR n I J hm ow sq F) (hc : c < n 2) : gtS n I ow F c (n 0) = mgS n J F c (n 0 + 1) ∧ (∀ tk : Option Nat, (∀ w, tk = some w → w < n 0) → (topL n I ow F c tk).toInt ≤ (gtS n I ow F c (n 0)).toInt) ∧ 0 ≤ (gtS n I ow F c (n 0)).toInt ∧ (gtS n I ow F c (n 0)).toInt ≤ 20000000000 := by
  obtain ⟨k1, k2, k3⟩ := eq_top (tk := none) hD hc (fun w h => by cases h)
  have k1' : ckL n I F c = mtL n J F c (n 0) := k1
  have k2' : 0 ≤ (ckL n I F c).toInt := k2
  have k3' : (ckL n I F c).toInt ≤ 20000000000 := k3
  have key : ∀ t, t ≤ n 0 → ((mgS n J F c t).toInt ≤ (gtS n I ow F c t).toInt ∧ ((gtS n I ow F c t).toInt = (mgS n J F c t).toInt ∨ (gtS n I ow F c t).toInt = (ckL n I F c).toInt)) ∧ (∀ w, w < t → (topL n I ow F c (some w)).toInt ≤ (gtS n I ow F c t).toInt) ∧ (ckL n I F c).toInt ≤ (gtS n I ow F c t).toInt ∧ (gtS n I ow F c t).toInt ≤ 20000000000 := by
    intro t
    induction t with
    | zero =>
      intro _
      have e1 : (gtS n I ow F c 0).toInt = (ckL n I F c).toInt := rfl
      have e2 : (mgS n J F c 0).toInt = 0 := i64_0
      exact ⟨by omega, fun w h => absurd h (Nat.not_lt_zero w), by omega, by omega⟩
    | succ t ih =>
      intro ht
      obtain ⟨i1, i2, i3, i4⟩ := ih (by omega)
      obtain ⟨t1, t2, t3⟩ := eq_top (tk := some t) hD hc (fun w h => by cases h; omega)
      have t1' : (topL n I ow F c (some t)).toInt = (mtL n J F c t).toInt := congrArg _ t1
      have a1 := mg_i (n := n) (J := J) (F := F) (c := c) (t := t)
      have a2 := gt_i (n := n) (I := I) (ow := ow) (F := F) (c := c) (t := t)
      refine ⟨by omega, fun w hw => ?_, by omega, by omega⟩
      by_cases e : w = t
      · rw [e]; omega
      · have := i2 w (by omega); omega
  obtain ⟨g1, g2, g3, g4⟩ := key (n 0) (Nat.le_refl _)
  have a1 := mg_i (n := n) (J := J) (F := F) (c := c) (t := n 0)
  rw [← k1'] at a1
  refine ⟨Int64.toInt_inj.mp (by omega), fun tk ht => ?_, by omega, g4⟩
  cases tk with
  | none => exact g3
  | some w => exact g2 w (ht w rfl)
/-- the tops of the first cages, in the model's words -/
noncomputable def tpM (n : Nat → Nat) (J : Nat → Int32) (F : Nat → Nat → Nat → Int32) (tn : Nat → Nat) : Nat → Int64
  | 0 => 0
  | c + 1 => tpM n J F tn c + mtL n J F c (tn c)
theorem mo_tp {tn : Nat → Nat} {many : Nat} : ∀ c, c ≤ many → moS n J F tn many c = tpM n J F tn c := by
  intro c
  induction c with
  | zero => exact fun _ => rfl
  | succ c ih => intro h; rw [moS_t (by omega), ih (by omega)]; rfl
theorem mo_hp (hD : dR n I J hm ow sq F) {tn : Nat → Nat} {many : Nat} : ∀ d, many + d ≤ n 2 → moS n J F tn many (n 2) = moS n J F tn many (n 2 - d) + hpS n I ow F d := by
  intro d
  induction d with
  | zero => intro _; simp only [hpS]; rw [Nat.sub_zero, Int64.add_zero]
  | succ d ih =>
    intro h
    obtain ⟨k, hk⟩ : ∃ k, n 2 - d = k + 1 := ⟨n 2 - d - 1, by omega⟩
    rw [ih (by omega), hk, moS_f (show ¬ k < many by omega), show n 2 - (d + 1) = k by omega]
    simp only [hpS]
    rw [show n 2 - d - 1 = k by omega, (eq_gt hD (show k < n 2 by omega)).1]
    rw [Int64.add_assoc, Int64.add_comm (mgS n J F k (n 0 + 1))]
theorem eq_hope (hD : dR n I J hm ow sq F) {tn : Nat → Nat} {many : Nat} (h : many ≤ n 2) : moS n J F tn many (n 2) = tpM n J F tn many + hpS n I ow F (n 2 - many) := by
  rw [mo_hp hD (n 2 - many) (by omega), show n 2 - (n 2 - many) = many by omega, mo_tp many (Nat.le_refl _)]
theorem tp_cg {J' : Nat → Int32} {F' : Nat → Nat → Nat → Int32} {tn tn' : Nat → Nat} (e : ∀ c t, mtL n J' F' c t = mtL n J F c t) : ∀ k, (∀ c, c < k → tn' c = tn c) → tpM n J' F' tn' k = tpM n J F tn k := by
  intro k
  induction k with
  | zero => exact fun _ => rfl
  | succ k ih => intro h; simp only [tpM]; rw [ih (fun c hc => h c (by omega)), e, h k (by omega)]
theorem tp_b (hD : dR n I J hm ow sq F) {tn : Nat → Nat} : ∀ k, k ≤ n 2 → (∀ c, c < k → tn c ≤ n 0) → 0 ≤ (tpM n J F tn k).toInt ∧ (tpM n J F tn k).toInt ≤ k * 20000000000 ∧ (tpM n J F tn k).toInt = sm (fun c => (mtL n J F c (tn c)).toInt) k := by
  have h6 := hD.1.2.2.2.1
  intro k
  induction k with
  | zero => intro _ _; simp only [tpM, sm]; rw [i64_0]; omega
  | succ k ih =>
    intro hk h
    obtain ⟨i1, i2, i3⟩ := ih (by omega) (fun c hc => h c (by omega))
    have ht : 0 ≤ (mtL n J F k (tn k)).toInt ∧ (mtL n J F k (tn k)).toInt ≤ 20000000000 := by
      by_cases e : tn k = n 0
      · obtain ⟨a, b⟩ := eq_top (tk := none) hD (show k < n 2 by omega) (fun w h => by cases h)
        rw [e]; rw [a] at b; exact b
      · have := h k (by omega)
        obtain ⟨a, b⟩ := eq_top (tk := some (tn k)) hD (show k < n 2 by omega) (fun w h => by cases h; omega)
        rw [a] at b; exact b
    simp only [tpM, sm]
    rw [i64_add (by omega) (by omega), i3]
    rw [i3] at i1 i2
    rw [Int.natCast_add, Int.add_mul]
    omega
end ET
