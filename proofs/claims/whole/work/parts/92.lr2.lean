/-! ORDERS, and what reads the plan -/
theorem shF_hi {f : Nat → Int32} {N : Nat} : ∀ d, d ≤ N → ∀ j, N - d < j → j ≤ N → shF f N d j = f (j - 1) := by
  intro d
  induction d with
  | zero => intro _ j h1 h2; omega
  | succ d ih =>
    intro hd j h1 h2
    simp only [shF]
    by_cases e : j = N - d
    · rw [e, pk_us, shF_lo (by omega) (by omega)]
    · rw [pk_un e]; exact ih (by omega) j (by omega) h2
theorem inF_at {f : Nat → Int32} {N d k : Nat} (hd : d ≤ N) (hk : k ≤ N) : inF f N d k = if k = N - d then nI N else if k < N - d then f k else f (k - 1) := by
  unfold inF
  by_cases e : k = N - d
  · rw [e, pk_us, if_pos rfl]
  · rw [pk_un e, if_neg e]
    by_cases h : k < N - d
    · rw [if_pos h, shF_lo hd (by omega)]
    · rw [if_neg h, shF_hi d hd k (by omega) hk]
section LRO
variable {n : Nat → Nat} {I : Nat → Nat → Int32} {K J : Nat → Int32} {hm ow sq : Nat → Nat} {S S' : Nat → Nat → Nat → Int32} {x x1 x2 x3 x4 x5 : Int32}
def sqN (sq : Nat → Nat) (N d k : Nat) : Nat := if k = N - d then N else if k < N - d then sq k else sq (k - 1)
theorem LR_order (hL : LRx n I K J hm ow sq S) (h1 : 0 ≤ x1 ∧ x1 < nI (n 0)) (h3 : nI 0 ≤ x3 ∧ x3 ≤ nI 20000) (h2 : nI 0 ≤ x2 ∧ x2 ≤ x3) (h4 : nI 0 ≤ x4 ∧ x4 ≤ 100000000) (h5 : nI 0 ≤ x5 ∧ x5 ≤ nI 10000) (hs : n 4 < 6) {d : Nat} (hd : d ≤ n 4) (g1 : ∀ j, j < d → I 8 (sq (n 4 - 1 - j)) < x5) (g2 : d < n 4 → ¬ I 8 (sq (n 4 - 1 - d)) < x5) {S1 S2 : Nat → Nat → Nat → Int32}
    (e1 : S1 = upR (SFg S) 0 1 (inF ((SFg S) 0 1) (n 4) d))
    (e2 : S2 = upR (upR (upR (upR (upR S1 5 8 (upd (S1 5 8) (n 4) x1)) 5 9 (upd (S1 5 9) (n 4) x2)) 5 10 (upd (S1 5 10) (n 4) x3)) 5 11 (upd (S1 5 11) (n 4) x4)) 5 12 (upd (S1 5 12) (n 4) x5)) :
    LR (va_up n 4 (n 4 + 1)) (adI I 4 8 (n 4) (v4 x1 x2 x3 x4 x5)) (KF K) (J1f J) S2 := by
  obtain ⟨⟨⟨k0, k00, k1, k2, k3, k4⟩, hsp, hP, hC, hB, hW, hO, hS1, hS2, hS3⟩, ⟨z1, z2, ⟨z3, z4, z5⟩, ⟨z6, z7, z8, z9⟩⟩, ⟨j3, j4⟩, hpl⟩ := hL
  obtain ⟨b1, b2⟩ := nat_is (by omega) h1
  have aI : ∀ a o, 4 ≤ a → a ≤ 8 → adI I 4 8 (n 4) (v4 x1 x2 x3 x4 x5) a o = if o = n 4 then v4 x1 x2 x3 x4 x5 a else I a o := fun a o ha hb => by
    by_cases e : o = n 4
    · subst e; rw [adI_s ⟨ha, hb⟩, if_pos rfl]
    · rw [adI_n (fun q => e q.2.2), if_neg e]
  have hup : ∀ (f : Nat → Int32) (v : Int32) o, upd f (n 4) v o = if o = n 4 then v else f o := fun _ _ _ => rfl
  have r8 : S2 5 8 = upd (S 5 8) (n 4) x1 := by rw [e2, e1]; rfl
  have r9 : S2 5 9 = upd (S 5 9) (n 4) x2 := by rw [e2, e1]; rfl
  have r10 : S2 5 10 = upd (S 5 10) (n 4) x3 := by rw [e2, e1]; rfl
  have r11 : S2 5 11 = upd (S 5 11) (n 4) x4 := by rw [e2, e1]; rfl
  have r12 : S2 5 12 = upd (S 5 12) (n 4) x5 := by rw [e2, e1]; rfl
  have r01 : S2 0 1 = inF (S 0 1) (n 4) d := by rw [e2, e1]; rfl
  have hlt : ∀ k, k < n 4 → ¬ sq k = n 4 := fun k hk e => by have := hS1 k hk; omega
  -- the cents by ranks
  have hlow : ∀ k, n 4 - d ≤ k → k < n 4 → I 8 (sq k) < x5 := fun k h1 h2 => by
    have := g1 (n 4 - 1 - k) (by omega)
    rw [show n 4 - 1 - (n 4 - 1 - k) = k by omega] at this
    exact this
  have hhigh : ∀ k, k < n 4 - d → x5 ≤ I 8 (sq k) := fun k hk => by
    have a := Int32.not_lt.mp (g2 (by omega))
    by_cases e : k = n 4 - 1 - d
    · rw [e]; exact a
    · rcases hS3 k (n 4 - 1 - d) (by omega) (by omega) with q | q
      · exact Int32.le_trans a (Int32.le_of_lt q)
      · rw [← q.1]; exact a
  have c8 : ∀ o, adI I 4 8 (n 4) (v4 x1 x2 x3 x4 x5) 8 o = if o = n 4 then x5 else I 8 o := fun o => aI 8 o (by omega) (by omega)
  refine ⟨hm, va_up ow (n 4) x1.toNatClampNeg, sqN sq (n 4) d, ⟨⟨k0, k00, k1, k2, k3, by show n 4 + 1 ≤ 6; omega⟩, hsp, ?_, ?_, ?_, ?_, fun o ho => ?_, fun k hk => ?_, fun o ho => ?_, fun i j hij hj => ?_⟩, ⟨z1, fun k hk => ?_, ⟨?_, ?_, ?_⟩, ⟨?_, ?_, ?_, ?_⟩⟩, ⟨rfl, j4⟩, Or.inl ⟨rfl, ?_⟩⟩
  · rw [e2, e1]; exact hP
  · rw [e2, e1]; exact hC
  · rw [e2, e1]; exact hB
  · rw [e2, e1]; exact hW
  · have ho' : o < n 4 + 1 := ho
    rw [r8, r9, r10, r11, r12, aI 4 o (by omega) (by omega), aI 5 o (by omega) (by omega), aI 6 o (by omega) (by omega), aI 7 o (by omega) (by omega), aI 8 o (by omega) (by omega), hup, hup, hup, hup, hup]
    by_cases e : o = n 4
    · subst e
      simp only [if_true, va_up_self]
      exact ⟨b1, b1, b2, ⟨rfl, rfl, rfl, rfl⟩, rg_of (b := 100000000) (by decide) h4, rg_of (b := nI 10000) (by decide) h5⟩
    · simp only [if_neg e, va_up_ne _ _ e]
      exact hO o (by omega)
  · have hk' : k < n 4 + 1 := hk
    show sqN sq (n 4) d k < n 4 + 1
    unfold sqN
    split
    · omega
    · split
      · have := hS1 k (by omega); omega
      · have := hS1 (k - 1) (by omega); omega
  · have ho' : o < n 4 + 1 := ho
    by_cases e : o = n 4
    · exact ⟨n 4 - d, by show n 4 - d < n 4 + 1; omega, by unfold sqN; rw [if_pos rfl]; exact e.symm⟩
    · obtain ⟨k, hk, hk2⟩ := hS2 o (by omega)
      by_cases l : k < n 4 - d
      · exact ⟨k, by show k < n 4 + 1; omega, by unfold sqN; rw [if_neg (by omega), if_pos l]; exact hk2⟩
      · exact ⟨k + 1, by show k + 1 < n 4 + 1; omega, by unfold sqN; rw [if_neg (by omega), if_neg (by omega)]; exact hk2⟩
  · have hj' : j < n 4 + 1 := hj
    show adI I 4 8 (n 4) (v4 x1 x2 x3 x4 x5) 8 (sqN sq (n 4) d j) < adI I 4 8 (n 4) (v4 x1 x2 x3 x4 x5) 8 (sqN sq (n 4) d i) ∨ (adI I 4 8 (n 4) (v4 x1 x2 x3 x4 x5) 8 (sqN sq (n 4) d j) = adI I 4 8 (n 4) (v4 x1 x2 x3 x4 x5) 8 (sqN sq (n 4) d i) ∧ sqN sq (n 4) d i < sqN sq (n 4) d j)
    rw [c8, c8]
    have q0 : sqN sq (n 4) d (n 4 - d) = n 4 := if_pos rfl
    have q1 : ∀ k, k < n 4 - d → sqN sq (n 4) d k = sq k := fun k hk => by unfold sqN; rw [if_neg (by omega), if_pos hk]
    have q2 : ∀ k, n 4 - d < k → sqN sq (n 4) d k = sq (k - 1) := fun k hk => by unfold sqN; rw [if_neg (by omega), if_neg (by omega)]
    by_cases a : j < n 4 - d
    · rw [q1 j a, q1 i (by omega), if_neg (hlt j (by omega)), if_neg (hlt i (by omega))]
      exact hS3 i j hij (by omega)
    · by_cases b : j = n 4 - d
      · subst b
        rw [q0, q1 i hij, if_pos rfl, if_neg (hlt i (by omega))]
        have hh := hhigh i hij
        have hi4 := hS1 i (by omega)
        rcases Int32.le_iff_lt_or_eq.mp hh with q | q
        · exact Or.inl q
        · exact Or.inr ⟨q, hi4⟩
      · rw [q2 j (by omega), if_neg (hlt (j - 1) (by omega))]
        by_cases a' : i < n 4 - d
        · rw [q1 i a', if_neg (hlt i (by omega))]
          exact hS3 i (j - 1) (by omega) (by omega)
        · by_cases b' : i = n 4 - d
          · subst b'
            rw [q0, if_pos rfl]
            exact Or.inl (hlow (j - 1) (by omega) (by omega))
          · rw [q2 i (by omega), if_neg (hlt (i - 1) (by omega))]
            exact hS3 (i - 1) (j - 1) (by omega) (by omega)
  · have hk' : k < n 4 + 1 := hk
    rw [r01, inF_at hd (by omega)]
    unfold sqN
    split
    · rfl
    · split
      · exact z2 k (by omega)
      · exact z2 (k - 1) (by omega)
  · rw [e2, e1]; exact z3
  · rw [e2, e1]; exact z4
  · rw [e2, e1]; exact z5
  · rw [e2, e1]; exact z6
  · rw [e2, e1]; exact z7
  · rw [e2, e1]; exact z8
  · rw [e2, e1]; exact z9
  · rw [e2, e1]; exact fl_no
theorem mv_pR (hL : LRx n I K J hm ow sq S) {S1 : Nat → Nat → Nat → Int32} (e1 : S1 5 13 = S 5 13) : pR n (n 2) (S 0 0) (mvP n J S1) := by
  obtain ⟨hD, _, ⟨j3, _⟩, hpl⟩ := hL
  have h6 := hD.1.2.2.2.1
  unfold mvP
  rcases hpl with ⟨h1, h2⟩ | ⟨h1, h2⟩
  · rw [if_pos (by rw [j3, h1])]
    refine ⟨fun c hc => Or.inl ⟨h2 c (by omega), ?_⟩, fun c a b => by omega⟩
    simp only [flR]; rw [if_pos hc]
  · rw [if_neg (by rw [j3, h1]; decide), e1]
    exact h2
theorem LR_move (hL : LRx n I K J hm ow sq S) (h1 : 0 ≤ x1 ∧ x1 < nI (n 2)) (h2 : x2 = -1 ∨ (0 ≤ x2 ∧ x2 < nI (n 0))) {S1 S2 : Nat → Nat → Nat → Int32} (e1 : S1 = upR S 0 0 (upd (S 0 0) x1.toNatClampNeg x2)) (e2 : S2 = upR S1 5 13 (upd (mvP n J S1) x1.toNatClampNeg (if x2 = -1 then nI (n 0) else x2))) :
    S 0 0 x1.toNatClampNeg = (if mvP n J S1 x1.toNatClampNeg = nI (n 0) then -1 else mvP n J S1 x1.toNatClampNeg) ∧ LR n I (va_up K 0 (nI 1)) (va_up (va_up J 0 (nI 0)) 3 (nI 1)) S2 := by
  have hp := mv_pR hL (S1 := S1) (by rw [e1]; rfl)
  obtain ⟨hD, hX, ⟨j3, j4⟩, hpl⟩ := hL
  have h8 := hD.1.2.1
  have h6 := hD.1.2.2.2.1
  obtain ⟨b1, b2⟩ := nat_is (by omega) h1
  have hc2 : ∀ t, 1 ≤ t → t ≤ 4 → S2 t = S t := fun t a b => by
    rw [e2, e1]; funext j; rw [upR_ne (by omega), upR_ne (by omega)]
  refine ⟨?_, hm, ow, sq, ?_, ?_, ⟨rfl, j4⟩, Or.inr ⟨rfl, ?_⟩⟩
  · rcases hp.1 _ b2 with ⟨a, b⟩ | ⟨w, hw, a, b⟩
    · rw [a, b, if_pos rfl]
    · rw [a, b, if_neg (fun q => by rw [nI_eq (by omega) (by omega)] at q; omega)]
  · rw [e2, e1]; exact hD
  · rw [e2, e1]; exact hX
  · have s0 : S2 0 0 = upd (S 0 0) x1.toNatClampNeg x2 := by rw [e2, e1]; rfl
    have s13 : S2 5 13 = upd (mvP n J S1) x1.toNatClampNeg (if x2 = -1 then nI (n 0) else x2) := by rw [e2]; exact upR_self
    rw [s0, s13]
    refine ⟨fun c hc => ?_, fun c a b => by omega⟩
    by_cases e : c = x1.toNatClampNeg
    · rw [e, pk_us, pk_us]
      rcases h2 with rfl | h2
      · exact Or.inl ⟨rfl, if_pos rfl⟩
      · obtain ⟨d1, d2⟩ := nat_is (by omega) h2
        refine Or.inr ⟨x2.toNatClampNeg, d2, d1, ?_⟩
        rw [if_neg (fun q => ?_)]
        · exact d1
        · have d3 : nI x2.toNatClampNeg = -1 := d1.symm.trans q
          exact absurd d3 (nI_ne_m1 (by omega))
    · rw [pk_un e, pk_un e]; exact hp.1 c hc
theorem eq_taken (hL : LRx n I K J hm ow sq S) (h1 : 0 ≤ x1 ∧ x1 < nI (n 2)) : S 0 0 x1.toNatClampNeg = (if J 3 = 0 ∨ S 5 13 x1.toNatClampNeg = nI (n 0) then -1 else S 5 13 x1.toNatClampNeg) := by
  obtain ⟨hD, hX, ⟨j3, j4⟩, hpl⟩ := hL
  have h8 := hD.1.2.1
  have h6 := hD.1.2.2.2.1
  obtain ⟨b1, b2⟩ := nat_is (by omega) h1
  rcases hpl with ⟨p1, p2⟩ | ⟨p1, p2⟩
  · rw [p2 _ (by omega), if_pos (Or.inl (by rw [j3, p1]))]
  · rcases p2.1 _ b2 with ⟨a, b⟩ | ⟨w, hw, a, b⟩
    · rw [a, b, if_pos (Or.inr rfl)]
    · rw [a, b, if_neg]
      rintro (q | q)
      · rw [j3, p1] at q; exact absurd q (by decide)
      · rw [nI_eq (by omega) (by omega)] at q; omega
/-! with a plan at hand -/
theorem ckO_cg {f g : Nat → Int32} : ∀ N, (∀ j, j < N → f j = g j) → ckO f N = ckO g N := by
  intro N
  induction N with
  | zero => exact fun _ => rfl
  | succ N ih =>
    intro h
    simp only [ckO]
    rw [ih (fun j hj => h j (by omega)), h N (by omega)]
theorem ckO_lt {f : Nat → Int32} : ∀ N w, ckO f N = some w → w < N := by
  intro N
  induction N with
  | zero => intro w h; cases h
  | succ N ih =>
    intro w h
    simp only [ckO] at h
    cases e : ckO f N with
    | some v => rw [e] at h; cases h; have := ih w e; omega
    | none =>
      rw [e] at h
      by_cases g : f N = 0
      · simp [g] at h
      · simp [g] at h; omega
theorem ckV_cg {f g : Nat → Int32} {N : Nat} (h : ∀ j, j < N → f j = g j) : ckV f N = ckV g N := by
  unfold ckV
  rw [ckO_cg N h]
  cases e : ckO g N with
  | none => rfl
  | some w =>
    have := ckO_lt N w e
    show nI 10 * nI w + f w = nI 10 * nI w + g w
    rw [h w this]
theorem lbI_cg {a b c d a' b' c' d' : Prop} (h1 : a ↔ a') (h2 : b ↔ b') (h3 : c ↔ c') (h4 : d ↔ d') : lbI a b c d = lbI a' b' c' d' := by
  rw [propext h1, propext h2, propext h3, propext h4]
/-- the plan is tried by the model -/
theorem try_ok (hL : LRx n I K J hm ow sq S) (hK : ¬ K 0 = 0) (hc : cR S S') {S1 : Nat → Nat → Nat → Int32} (e1 : S1 = upR S' 5 14 (cpR (S' 5 13) (S' 5 14) (n 2))) : dR n I (va_up J 0 (nI 0)) hm ow sq S1 ∧ pR n (n 2) (S 0 0) (S1 5 14) ∧ cR S S1 := by
  obtain ⟨hD, hX, ⟨j3, j4⟩, hpl⟩ := hL
  have c1 : cR S S1 := cR_tr hc (by rw [e1]; exact cR_up (Or.inr (Or.inl ⟨rfl, Nat.le_refl _⟩)))
  refine ⟨dR_J rfl rfl (dR_cR c1 hD), ?_, c1⟩
  rcases hpl with ⟨p1, _⟩ | ⟨p1, p2⟩
  · exact absurd p1 hK
  · have e : S1 5 14 = cpR (S 5 13) (S' 5 14) (n 2) := by rw [e1, upR_self, hc.2.2 13 (by omega)]
    rw [e]
    refine ⟨fun c h => ?_, fun c a b => by omega⟩
    have e2 : cpR (S 5 13) (S' 5 14) (n 2) c = S 5 13 c := if_pos h
    rw [e2]; exact p2.1 c h
theorem eq_check (hL : LRx n I K J hm ow sq S) (hK : ¬ K 0 = 0) (hc : cR S S') {S1 : Nat → Nat → Nat → Int32} (e1 : S1 = upR S' 5 14 (cpR (S' 5 13) (S' 5 14) (n 2))) :
    ckV (fun w => lbI (pPlant n S (S 0 0) w) (pBoats n I S (S 0 0) w) (pClosed n hm S (S 0 0) w) (pHeld n I hm S (S 0 0) w)) (n 0) = ckV (fun w => lbI (qPlant S1 w (n 2)) (qBoats n S1 w (n 2)) (qOpen S1 hm w (n 2)) (true = true → qHeld n S1 w)) (n 0) := by
  obtain ⟨hD, hR, hC⟩ := try_ok hL hK hc e1
  have s1 := hC.1 1 (by omega) (by omega)
  have s3 := hC.1 3 (by omega) (by omega)
  have s4 := hC.1 4 (by omega) (by omega)
  have s02 := hC.2.1 2 (by omega)
  refine ckV_cg (fun w hw => ?_)
  refine lbI_cg ?_ ?_ ?_ ?_
  · rw [← eq_plant hD hR (Nat.le_refl _) hw]; unfold pPlant; rw [s3, s02]
  · rw [← eq_boats hD hR (Nat.le_refl _) hw]; unfold pBoats; rw [s3, s4]
  · rw [← eq_open hD hR (Nat.le_refl _) hw]; unfold pClosed; rw [s1]
  · rw [← eq_held hD hR hw]; unfold pHeld; rw [s3]
    exact ⟨fun h _ => h, fun h => h rfl⟩
theorem eq_worths (hL : LRx n I K J hm ow sq S) (hK : ¬ K 0 = 0) (hc : cR S S') {S1 : Nat → Nat → Nat → Int32} (e1 : S1 = upR S' 5 14 (cpR (S' 5 13) (S' 5 14) (n 2))) : wrL n I ow sq S (S 0 0) = vlL n S1 (va_up J 0 (nI 0)) := by
  obtain ⟨hD, hR, hC⟩ := try_ok hL hK hc e1
  rw [← eq_worth hD hR]
  exact (wrL_cg (hC.1 2 (by omega) (by omega)) (hC.1 3 (by omega) (by omega))).symm
theorem eq_solds (hL : LRx n I K J hm ow sq S) (hK : ¬ K 0 = 0) (hc : cR S S') {S1 : Nat → Nat → Nat → Int32} (e1 : S1 = upR S' 5 14 (cpR (S' 5 13) (S' 5 14) (n 2))) (h1 : 0 ≤ x1 ∧ x1 < nI (n 4)) : (saF n I ow sq S (S 0 0)).2.1 x1.toNatClampNeg = ((wkF n S1 (va_up J 0 (nI 0))).2.2.1 x1.toNatClampNeg).toInt32 := by
  obtain ⟨hD, hR, hC⟩ := try_ok hL hK hc e1
  have h6 := hD.1.2.2.2.2.2
  obtain ⟨b1, b2⟩ := nat_is (by omega) h1
  rw [← eq_sold hD hR b2, saF_cg (hC.1 2 (by omega) (by omega)) (hC.1 3 (by omega) (by omega))]
theorem eq_hopes (hL : LRx n I K J hm ow sq S) : hpS n I ow S (n 2) = moS n (va_up J 0 (nI 0)) S (fun _ => 0) 0 (n 2) := by
  rw [eq_hope (dR_J (J' := va_up J 0 (nI 0)) rfl rfl hL.1) (Nat.zero_le _)]
  show _ = 0 + _
  rw [Int64.zero_add, Nat.sub_zero]
theorem ok_pl (hL : LRx n I K J hm ow sq S) : okT n (S 0 0) := by
  have h6 := hL.1.1.2.2.2.1
  rcases hL.2.2.2 with ⟨_, h⟩ | ⟨_, h⟩
  · exact fun c hc => Or.inl (h c (by omega))
  · exact pR_ok h
end LRO
/-! RUN -/
section LRR
variable {n : Nat → Nat} {I : Nat → Nat → Int32} {K J : Nat → Int32} {hm ow sq : Nat → Nat} {S S' S0 S1 : Nat → Nat → Nat → Int32} {lim : Nat} {bw : Int64}
theorem pHeld_cg (h3 : S1 3 = S0 3) {pl : Nat → Int32} {w : Nat} : pHeld n I hm S1 pl w = pHeld n I hm S0 pl w := by unfold pHeld; rw [h3]
theorem pAll_cg (h1 : S1 1 = S0 1) (h3 : S1 3 = S0 3) (h4 : S1 4 = S0 4) (h0 : S1 0 2 = S0 0 2) {pl : Nat → Int32} {w : Nat} : pAll n I hm S1 pl w = pAll n I hm S0 pl w := by
  unfold pAll pClosed pPlant pBoats; rw [h1, h3, h4, h0]
theorem meF_cg (h2 : S1 2 = S0 2) (h3 : S1 3 = S0 3) {x : sX} : meF n I hm ow sq S1 x = meF n I hm ow sq S0 x := by
  unfold meF; simp only [pHeld_cg h3, wrL_cg h2 h3]
theorem mkF_cg (h2 : S1 2 = S0 2) (h3 : S1 3 = S0 3) {br : Int64 → sX → sX} {cg : Nat} {tops : Int64} {x : sX} : mkF n I ow S1 lim br cg tops x = mkF n I ow S0 lim br cg tops x := by
  unfold mkF; simp only [topL_cg h2 h3, hpS_cg h2 h3]
theorem wlF_cg (h1 : S1 1 = S0 1) (h2 : S1 2 = S0 2) (h3 : S1 3 = S0 3) (h4 : S1 4 = S0 4) (h0 : S1 0 2 = S0 0 2) {br : Int64 → sX → sX} {cg : Nat} {tops : Int64} {x : sX} : ∀ w, wlF n I hm ow S1 lim br cg tops x w = wlF n I hm ow S0 lim br cg tops x w := by
  intro w
  induction w with
  | zero => rfl
  | succ w ih => simp only [wlF]; rw [ih]; simp only [pAll_cg h1 h3 h4 h0, mkF_cg h2 h3]
theorem brF_cg (h1 : S1 1 = S0 1) (h2 : S1 2 = S0 2) (h3 : S1 3 = S0 3) (h4 : S1 4 = S0 4) (h0 : S1 0 2 = S0 0 2) : ∀ d c, brF n I hm ow sq S1 lim d c = brF n I hm ow sq S0 lim d c := by
  intro d
  induction d with
  | zero => intro c; funext t x; exact meF_cg h2 h3
  | succ d ih =>
    intro c
    funext t x
    simp only [brF]
    rw [ih (c + 1), wlF_cg h1 h2 h3 h4 h0]
    simp only [mkF_cg h2 h3]
theorem eq_run (hD : dR n I J hm ow sq S) {tr be : Nat → Int32} (htr : ∀ c, c < n 2 → tr c = -1) : sR n lim (brF n I hm ow sq S lim (n 2) 0 0 (0, false, -1, tr, be)) (rnM n J hm S lim bw) := by
  have hI : ∀ j, j < n 0 → pAll n I hm S tr j := fun j hj => pAll_none hD hj htr
  unfold rnM
  by_cases h : n 2 = 0
  · rw [if_pos h, h]
    obtain ⟨⟨e1, e2, e3⟩, e4, _⟩ := eq_meet hD (x := (0, false, -1, tr, be)) (y := (0, false, false, bw, S 5 14, S 5 15)) (Or.inl ⟨rfl, rfl⟩) rfl rfl ⟨fun c hc => by omega, fun c a b => by omega⟩ hI
    obtain ⟨m1, m2, m3⟩ := meM_k (n := n) (J := J) (hm := hm) (F := S) (y := (0, false, false, bw, S 5 14, S 5 15))
    refine ⟨e1.trans m1.symm, e2.trans m2.symm, ?_, e4⟩
    rw [show (brF n I hm ow sq S lim 0 0 0 (0, false, -1, tr, be)).1 = 0 from e1]
    exact Nat.zero_le _
  · rw [if_neg h]
    have g := eq_branch hD (lim := lim) (n 2 - 1) 0 (by omega) 0 (0, false, -1, tr, be) (0, false, false, bw, upd (S 5 14) 0 (-1), S 5 15) ⟨rfl, rfl, Nat.zero_le _, Or.inl ⟨rfl, rfl⟩⟩ rfl ⟨fun c hc => absurd hc (Nat.not_lt_zero c), fun c _ hc => htr c hc⟩ hI rfl
    rw [show n 2 - 1 + 1 = n 2 by omega] at g
    exact g.1
/-- both runs end alike -/
theorem LR_run (hL : LRx n I K J hm ow sq S) {X : sX} (hX : X = stX n I hm ow sq (SFg S) lim) {S1 S2 : Nat → Nat → Nat → Int32} {pl : Nat → Int32} (h1 : scr (upR (upR (upR (SFg S) 0 9 X.2.2.2.1) 0 10 X.2.2.2.2) 0 0 pl) S1) (hpl : (X.2.2.1 = -1 ∧ pl = (SFg S) 0 0) ∨ (¬ X.2.2.1 = -1 ∧ pl = va_cpy X.2.2.2.2 ((SFg S) 0 0) 0 0 6)) {Y : mX} (hY : Y = rnM n (va_up J 0 (nI 0)) hm S1 lim bw) (h2 : scm (upR (mF S1 Y) 5 13 (plM Y (S1 5 13) (n 2))) S2) {K' : Nat → Int32} (hK2 : K' 2 = nI X.1) (hK0 : K' 0 = if X.2.2.1 = -1 then 0 else 1) :
    (X.2.2.1 = -1 → (if X.2.1 = true then nI 3 else nI 2) = rvM Y) ∧ (¬ X.2.2.1 = -1 → (if X.2.1 = true then nI 1 else nI 0) = rvM Y) ∧ LR n I K' (mJ (va_up (va_up J 0 (nI 0)) 3 (bI Y.2.2.1)) Y) S2 := by
  obtain ⟨hD, hXx, ⟨j3, j4⟩, _⟩ := hL
  have h6 := hD.1.2.2.2.1
  have r1 : ∀ t, 1 ≤ t → t ≤ 4 → S1 t = S t := fun t a b => funext (fun j => (h1 t j (by omega)).trans (by rw [upR_ne (by omega), upR_ne (by omega), upR_ne (by omega)]; exact upR_ne (by omega)))
  have r5 : ∀ j, S1 5 j = S 5 j := fun j => (h1 5 j (by omega)).trans (by rw [upR_ne (by omega), upR_ne (by omega), upR_ne (by omega)]; exact upR_ne (by omega))
  have r01 : S1 0 1 = S 0 1 := h1 0 1 (by omega)
  have r02 : S1 0 2 = S 0 2 := h1 0 2 (by omega)
  have r00 : S1 0 0 = pl := (h1 0 0 (by omega)).trans upR_self
  have q1 : ∀ t, 1 ≤ t → t ≤ 4 → S2 t = S t := fun t a b => funext (fun j => by
    rw [h2 t j (by omega), upR_ne (by omega)]
    unfold mF
    rw [upR_ne (by omega), upR_ne (by omega), r1 t a b])
  have q5 : ∀ j, j < 13 → S2 5 j = S 5 j := fun j hj => by
    rw [h2 5 j (by omega), upR_ne (by omega)]
    unfold mF
    rw [upR_ne (by omega), upR_ne (by omega), r5]
  have q0 : ∀ j, S2 0 j = S1 0 j := fun j => by
    rw [h2 0 j (by omega), upR_ne (by omega)]
    unfold mF
    rw [upR_ne (by omega), upR_ne (by omega)]
  have q13 : S2 5 13 = plM Y (S1 5 13) (n 2) := (h2 5 13 (by omega)).trans upR_self
  -- the data
  have hD1 : dR n I (va_up J 0 (nI 0)) hm ow sq S1 := by
    refine dR_J rfl rfl ?_
    unfold dR kM at hD ⊢
    rw [r1 1 (by omega) (by omega), r1 2 (by omega) (by omega), r1 3 (by omega) (by omega), r1 4 (by omega) (by omega), r02, r5, r5, r5, r5, r5, r5, r5, r5, r5, r5, r5, r5, r5]
    exact hD
  have hD2 : dR n I (mJ (va_up (va_up J 0 (nI 0)) 3 (bI Y.2.2.1)) Y) hm ow sq S2 := by
    refine dR_J (J := J) rfl rfl ?_
    unfold dR kM at hD ⊢
    rw [q1 1 (by omega) (by omega), q1 2 (by omega) (by omega), q1 3 (by omega) (by omega), q1 4 (by omega) (by omega), q0, r02, q5 0 (by omega), q5 1 (by omega), q5 2 (by omega), q5 3 (by omega), q5 4 (by omega), q5 5 (by omega), q5 6 (by omega), q5 7 (by omega), q5 8 (by omega), q5 9 (by omega), q5 10 (by omega), q5 11 (by omega), q5 12 (by omega)]
    exact hD
  have hX2 : xR n I hm sq S2 := by
    unfold xR at hXx ⊢
    rw [q1 1 (by omega) (by omega), q1 4 (by omega) (by omega), q0, r01, q5 1 (by omega), q5 3 (by omega), q5 4 (by omega), q5 6 (by omega)]
    exact hXx
  -- the searches
  have e := eq_run (lim := lim) (bw := bw) hD1 (tr := flR ((SFg S) 0 9) (-1) 6) (be := (SFg S) 0 10) (fun c hc => if_pos (by omega))
  rw [brF_cg (S0 := SFg S) (r1 1 (by omega) (by omega)) (r1 2 (by omega) (by omega)) (r1 3 (by omega) (by omega)) (r1 4 (by omega) (by omega)) r02] at e
  rw [show brF n I hm ow sq (SFg S) lim (n 2) 0 0 (0, false, -1, flR ((SFg S) 0 9) (-1) 6, (SFg S) 0 10) = X from hX.symm, ← hY] at e
  obtain ⟨s1, s2, s3, s4⟩ := e
  have hub : (X.2.2.1 = -1 ∧ Y.2.2.1 = false) ∨ (¬ X.2.2.1 = -1 ∧ Y.2.2.1 = true ∧ pR n (n 2) X.2.2.2.2 Y.2.2.2.2.2) := by
    rcases s4 with ⟨a, b⟩ | ⟨a, b, c, d⟩
    · exact Or.inl ⟨b, a⟩
    · refine Or.inr ⟨fun q => ?_, a, d⟩
      rw [q, i64_m1] at c; omega
  refine ⟨fun h => ?_, fun h => ?_, hm, ow, sq, hD2, hX2, ⟨?_, ?_⟩, ?_⟩
  · rcases hub with ⟨_, b⟩ | ⟨a, _⟩
    · have b' : ¬ Y.2.2.1 = true := by rw [b]; decide
      unfold rvM; rw [s2, if_neg b']
    · exact absurd h a
  · rcases hub with ⟨a, _⟩ | ⟨_, b, _⟩
    · exact absurd a h
    · unfold rvM; rw [s2, if_pos b]
  · show bI Y.2.2.1 = K' 0
    rw [hK0]
    rcases hub with ⟨a, b⟩ | ⟨a, b, _⟩
    · rw [if_pos a, b]; rfl
    · rw [if_neg a, b]; rfl
  · show nI Y.1 = K' 2
    rw [hK2, s1]
  · rcases hub with ⟨a, b⟩ | ⟨a, b, c⟩
    · refine Or.inl ⟨by rw [hK0, if_pos a], fun c hc => ?_⟩
      rcases hpl with ⟨_, p2⟩ | ⟨p1, _⟩
      · rw [q0, r00, p2]; exact fl_no c hc
      · exact absurd a p1
    · refine Or.inr ⟨by rw [hK0, if_neg a], ?_⟩
      rcases hpl with ⟨p1, _⟩ | ⟨_, p2⟩
      · exact absurd p1 a
      · rw [q0, r00, p2, q13]
        unfold plM
        rw [if_pos b]
        refine ⟨fun j hj => ?_, fun j h1 h2 => by omega⟩
        have e1 : va_cpy X.2.2.2.2 ((SFg S) 0 0) 0 0 6 j = X.2.2.2.2 j := cpy_lo (by omega)
        have e2 : cpR Y.2.2.2.2.2 (S1 5 13) (n 2) j = Y.2.2.2.2.2 j := if_pos hj
        rw [e1, e2]; exact c.1 j hj
end LRR
