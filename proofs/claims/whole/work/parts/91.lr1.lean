/-! THE CLASS AND THE MODEL STAND ALIKE -/
def xR (n : Nat → Nat) (I : Nat → Nat → Int32) (hm sq : Nat → Nat) (S : Nat → Nat → Nat → Int32) : Prop :=
  (∀ c, c < n 2 → I 2 c = nI (hm c)) ∧ (∀ k, k < n 4 → S 0 1 k = nI (sq k)) ∧
  ((∀ j, 8 * n 1 ≤ j → S 5 1 j = 0) ∧ (∀ j, 8 * n 2 ≤ j → S 5 3 j = 0 ∧ S 5 4 j = 0) ∧ (∀ j, 8 * n 3 ≤ j → S 5 6 j = 0)) ∧
  ((∀ j k, S 1 j k = 0 ∨ S 1 j k = 1) ∧ (∀ j k, S 4 j k = 0 ∨ S 4 j k = 1) ∧ (∀ j, S 5 1 j = 0 ∨ S 5 1 j = 1) ∧ (∀ j, S 5 6 j = 0 ∨ S 5 6 j = 1))
def plR (n : Nat → Nat) (K : Nat → Int32) (S : Nat → Nat → Nat → Int32) : Prop := (K 0 = 0 ∧ ∀ c, c < 6 → S 0 0 c = -1) ∨ (K 0 = 1 ∧ pR n (n 2) (S 0 0) (S 5 13))
def LRx (n : Nat → Nat) (I : Nat → Nat → Int32) (K J : Nat → Int32) (hm ow sq : Nat → Nat) (S : Nat → Nat → Nat → Int32) : Prop := dR n I J hm ow sq S ∧ xR n I hm sq S ∧ (J 3 = K 0 ∧ J 4 = K 2) ∧ plR n K S
def LR (n : Nat → Nat) (I : Nat → Nat → Int32) (K J : Nat → Int32) (S : Nat → Nat → Nat → Int32) : Prop := ∃ hm ow sq, LRx n I K J hm ow sq S
/-- the rows that are read of it -/
def cR (S S' : Nat → Nat → Nat → Int32) : Prop := (∀ t, 1 ≤ t → t ≤ 4 → S' t = S t) ∧ (∀ j, j < 3 → S' 0 j = S 0 j) ∧ (∀ j, j < 14 → S' 5 j = S 5 j)
theorem cR_rf {S : Nat → Nat → Nat → Int32} : cR S S := ⟨fun _ _ _ => rfl, fun _ _ => rfl, fun _ _ => rfl⟩
theorem cR_tr {S S' S'' : Nat → Nat → Nat → Int32} (h : cR S S') (h' : cR S' S'') : cR S S'' := ⟨fun t a b => (h'.1 t a b).trans (h.1 t a b), fun j a => (h'.2.1 j a).trans (h.2.1 j a), fun j a => (h'.2.2 j a).trans (h.2.2 j a)⟩
theorem cR_scr {S S' : Nat → Nat → Nat → Int32} (h : scr S S') : cR S S' := ⟨fun t a b => funext (fun j => h t j (by omega)), fun j a => h 0 j (by omega), fun j a => h 5 j (by omega)⟩
theorem cR_scm {S S' : Nat → Nat → Nat → Int32} (h : scm S S') : cR S S' := ⟨fun t a b => funext (fun j => h t j (by omega)), fun j a => h 0 j (by omega), fun j a => h 5 j (by omega)⟩
theorem cR_up {S : Nat → Nat → Nat → Int32} {t j : Nat} {f : Nat → Int32} (h : (t = 0 ∧ 3 ≤ j) ∨ (t = 5 ∧ 14 ≤ j) ∨ 6 ≤ t) : cR S (upR S t j f) := ⟨fun u a b => funext (fun i => upR_ne (by omega)), fun i a => upR_ne (by omega), fun i a => upR_ne (by omega)⟩
section LRS
variable {n : Nat → Nat} {I : Nat → Nat → Int32} {K J : Nat → Int32} {hm ow sq : Nat → Nat} {S S' : Nat → Nat → Nat → Int32} {x x1 x2 x3 x4 x5 : Int32}
theorem dR_cR (h : cR S S') (hD : dR n I J hm ow sq S) : dR n I J hm ow sq S' := by
  unfold dR kM at hD ⊢
  rw [h.1 1 (by omega) (by omega), h.1 2 (by omega) (by omega), h.1 3 (by omega) (by omega), h.1 4 (by omega) (by omega), h.2.1 2 (by omega), h.2.2 0 (by omega), h.2.2 1 (by omega), h.2.2 2 (by omega), h.2.2 3 (by omega), h.2.2 4 (by omega), h.2.2 5 (by omega), h.2.2 6 (by omega), h.2.2 7 (by omega), h.2.2 8 (by omega), h.2.2 9 (by omega), h.2.2 10 (by omega), h.2.2 11 (by omega), h.2.2 12 (by omega)]
  exact hD
theorem xR_cR (h : cR S S') (hX : xR n I hm sq S) : xR n I hm sq S' := by
  unfold xR at hX ⊢
  rw [h.1 1 (by omega) (by omega), h.1 4 (by omega) (by omega), h.2.1 1 (by omega), h.2.2 1 (by omega), h.2.2 3 (by omega), h.2.2 4 (by omega), h.2.2 6 (by omega)]
  exact hX
theorem plR_cR (h : cR S S') (hX : plR n K S) : plR n K S' := by
  unfold plR at hX ⊢
  rw [h.2.1 0 (by omega), h.2.2 13 (by omega)]
  exact hX
theorem LRx_cR (h : cR S S') (hL : LRx n I K J hm ow sq S) : LRx n I K J hm ow sq S' := ⟨dR_cR h hL.1, xR_cR h hL.2.1, hL.2.2.1, plR_cR h hL.2.2.2⟩
theorem LR_cR (h : cR S S') (hL : LR n I K J S) : LR n I K J S' := by
  obtain ⟨hm, ow, sq, hL⟩ := hL
  exact ⟨hm, ow, sq, LRx_cR h hL⟩
theorem dR_J {J' : Nat → Int32} (h1 : J' 1 = J 1) (h2 : J' 2 = J 2) (hD : dR n I J hm ow sq S) : dR n I J' hm ow sq S := by
  unfold dR at hD ⊢
  rw [h1, h2]; exact hD
theorem LRx_KJ {K' J' : Nat → Int32} (h1 : J' 1 = J 1) (h2 : J' 2 = J 2) (h3 : J' 3 = K' 0) (h4 : J' 4 = K' 2) (h5 : K' 0 = K 0) (hL : LRx n I K J hm ow sq S) : LRx n I K' J' hm ow sq S := by
  refine ⟨dR_J h1 h2 hL.1, hL.2.1, ⟨h3, h4⟩, ?_⟩
  have := hL.2.2.2
  unfold plR at this ⊢
  rw [h5]; exact this
/-- only what the last call threw is another one -/
theorem LR_thr {t : Int32} (hL : LR n I K J S) : LR n I K (va_up J 0 t) S := by
  obtain ⟨hm, ow, sq, hL⟩ := hL
  exact ⟨hm, ow, sq, LRx_KJ rfl rfl hL.2.2.1.1 hL.2.2.1.2 rfl hL⟩
theorem rg_of {b : Int32} {m : Int} (hb : b.toInt = m) (h : nI 0 ≤ x ∧ x ≤ b) : rg x m := by
  have a := Int32.le_iff_toInt_le.mp h.1
  have c := Int32.le_iff_toInt_le.mp h.2
  rw [show (nI 0).toInt = 0 from nI_toInt (by omega)] at a
  rw [hb] at c
  exact ⟨a, c⟩
theorem fl_no {f : Nat → Int32} : ∀ c, c < 6 → flR f (-1) 6 c = -1 := fun c hc => if_pos hc
theorem nat_is {k : Nat} (hk : k < 2 ^ 31) (h : 0 ≤ x ∧ x < nI k) : x = nI x.toNatClampNeg ∧ x.toNatClampNeg < k := by
  have e : x = nI x.toNatClampNeg := (Int32.ofNat_toNatClampNeg x h.1).symm
  have h2 := h.2
  rw [e] at h2
  exact ⟨e, (nI_ltI (Int32.toNatClampNeg_lt x) hk).mp h2⟩
abbrev KF (K : Nat → Int32) : Nat → Int32 := va_up K 0 (nI 0)
abbrev SFg (S : Nat → Nat → Nat → Int32) : Nat → Nat → Nat → Int32 := upR S 0 0 (flR (S 0 0) (-1) 6)
abbrev J1f (J : Nat → Int32) : Nat → Int32 := va_up (va_up J 0 (nI 0)) 3 (nI 0)
theorem LR_place (hL : LR n I K J S) (hx : nI 0 ≤ x ∧ x ≤ 100000000) (hs : n 1 < 4) : LR (va_up n 1 (n 1 + 1)) (adI I 1 1 (n 1) (fun _ => x)) (KF K) (J1f J) (upR (adS (SFg S) 1 1 (n 1)) 5 0 (upd ((adS (SFg S) 1 1 (n 1)) 5 0) (n 1) x)) := by
  obtain ⟨hm, ow, sq, ⟨⟨h0, h00, h000, h1, h2, h3⟩, hsp, hP, hC, hB, hW, hO, hS⟩, ⟨x1, x2, ⟨x3, x4, x5⟩, ⟨x6, x7, x8, x9⟩⟩, ⟨j3, j4⟩, hpl⟩ := hL
  refine ⟨hm, ow, sq, ⟨⟨h0, h00, by show n 1 + 1 ≤ 4; omega, h1, h2, h3⟩, hsp, fun p hp => ?_, fun c hc => ?_, hB, hW, hO, hS⟩, ⟨x1, x2, ⟨fun j hj => x3 j (by have : 8 * (n 1 + 1) ≤ j := hj; omega), x4, x5⟩, ⟨fun j k => ?_, x7, x8, x9⟩⟩, ⟨rfl, j4⟩, Or.inl ⟨rfl, fl_no⟩⟩
  · have hp' : p < n 1 + 1 := hp
    by_cases e : p = n 1
    · subst e
      refine ⟨?_, ?_, fun w hw => ?_⟩
      · show adI I 1 1 (n 1) (fun _ => x) 1 (n 1) = upd (S 5 0) (n 1) x (n 1)
        rw [adI_s (by omega), pk_us]
      · show rg (adI I 1 1 (n 1) (fun _ => x) 1 (n 1)) 100000000
        rw [adI_s (by omega)]
        exact rg_of (by decide) hx
      · show adS (SFg S) 1 1 (n 1) 1 (n 1) w = S 5 1 (8 * n 1 + w)
        rw [adS_s (by omega), x3 _ (by omega)]
    · obtain ⟨a, b, c⟩ := hP p (by omega)
      refine ⟨?_, ?_, fun w hw => ?_⟩
      · show adI I 1 1 (n 1) (fun _ => x) 1 p = upd (S 5 0) (n 1) x p
        rw [adI_n (by omega), pk_un e]; exact a
      · show rg (adI I 1 1 (n 1) (fun _ => x) 1 p) 100000000
        rw [adI_n (by omega)]; exact b
      · show adS (SFg S) 1 1 (n 1) 1 p w = S 5 1 (8 * p + w)
        rw [adS_n (by omega)]; exact c w hw
  · obtain ⟨a, b, d⟩ := hC c hc
    exact ⟨a, Nat.lt_succ_of_lt b, d⟩
  · show adS (SFg S) 1 1 (n 1) 1 j k = 0 ∨ adS (SFg S) 1 1 (n 1) 1 j k = 1
    by_cases e : j = n 1
    · rw [e, adS_s (by omega)]; exact Or.inl rfl
    · rw [adS_n (by omega)]; exact x6 j k
theorem LR_boat (hL : LR n I K J S) (hx : nI 0 ≤ x ∧ x ≤ 100000000) (hs : n 3 < 3) : LR (va_up n 3 (n 3 + 1)) (adI I 3 3 (n 3) (fun _ => x)) (KF K) (J1f J) (upR (adS (SFg S) 4 4 (n 3)) 5 5 (upd ((adS (SFg S) 4 4 (n 3)) 5 5) (n 3) x)) := by
  obtain ⟨hm, ow, sq, ⟨⟨h0, h00, h000, h1, h2, h3⟩, hsp, hP, hC, hB, hW, hO, hS⟩, ⟨x1, x2, ⟨x3, x4, x5⟩, ⟨x6, x7, x8, x9⟩⟩, ⟨j3, j4⟩, hpl⟩ := hL
  refine ⟨hm, ow, sq, ⟨⟨h0, h00, h000, h1, by show n 3 + 1 ≤ 3; omega, h3⟩, hsp, hP, hC, fun p hp => ?_, hW, hO, hS⟩, ⟨x1, x2, ⟨x3, x4, fun j hj => x5 j (by have : 8 * (n 3 + 1) ≤ j := hj; omega)⟩, ⟨x6, fun j k => ?_, x8, x9⟩⟩, ⟨rfl, j4⟩, Or.inl ⟨rfl, fl_no⟩⟩
  · have hp' : p < n 3 + 1 := hp
    by_cases e : p = n 3
    · subst e
      refine ⟨?_, ?_, fun w hw => ?_⟩
      · show adI I 3 3 (n 3) (fun _ => x) 3 (n 3) = upd (S 5 5) (n 3) x (n 3)
        rw [adI_s (by omega), pk_us]
      · show rg (adI I 3 3 (n 3) (fun _ => x) 3 (n 3)) 100000000
        rw [adI_s (by omega)]
        exact rg_of (by decide) hx
      · show adS (SFg S) 4 4 (n 3) 4 (n 3) w = S 5 6 (8 * n 3 + w)
        rw [adS_s (by omega), x5 _ (by omega)]
    · obtain ⟨a, b, c⟩ := hB p (by omega)
      refine ⟨?_, ?_, fun w hw => ?_⟩
      · show adI I 3 3 (n 3) (fun _ => x) 3 p = upd (S 5 5) (n 3) x p
        rw [adI_n (by omega), pk_un e]; exact a
      · show rg (adI I 3 3 (n 3) (fun _ => x) 3 p) 100000000
        rw [adI_n (by omega)]; exact b
      · show adS (SFg S) 4 4 (n 3) 4 p w = S 5 6 (8 * p + w)
        rw [adS_n (by omega)]; exact c w hw
  · show adS (SFg S) 4 4 (n 3) 4 j k = 0 ∨ adS (SFg S) 4 4 (n 3) 4 j k = 1
    by_cases e : j = n 3
    · rw [e, adS_s (by omega)]; exact Or.inl rfl
    · rw [adS_n (by omega)]; exact x7 j k
theorem LR_cage (hL : LR n I K J S) (hx : 0 ≤ x ∧ x < nI (n 1)) (hs : n 2 < 6) : LR (va_up n 2 (n 2 + 1)) (adI I 2 2 (n 2) (fun _ => x)) (KF K) (J1f J) (upR (adS (SFg S) 2 3 (n 2)) 5 2 (upd ((adS (SFg S) 2 3 (n 2)) 5 2) (n 2) x)) := by
  obtain ⟨hm, ow, sq, ⟨⟨h0, h00, h000, h1, h2, h3⟩, hsp, hP, hC, hB, hW, hO, hS⟩, ⟨x1, x2, ⟨x3, x4, x5⟩, ⟨x6, x7, x8, x9⟩⟩, ⟨j3, j4⟩, hpl⟩ := hL
  obtain ⟨e1, e2⟩ := nat_is (by omega) hx
  refine ⟨va_up hm (n 2) x.toNatClampNeg, ow, sq, ⟨⟨h0, h00, h000, by show n 2 + 1 ≤ 6; omega, h2, h3⟩, hsp, hP, fun c hc => ?_, hB, hW, hO, hS⟩, ⟨fun c hc => ?_, x2, ⟨x3, fun j hj => x4 j (by have : 8 * (n 2 + 1) ≤ j := hj; omega), x5⟩, ⟨x6, x7, x8, x9⟩⟩, ⟨rfl, j4⟩, Or.inl ⟨rfl, fl_no⟩⟩
  · have hc' : c < n 2 + 1 := hc
    by_cases e : c = n 2
    · subst e
      refine ⟨?_, ?_, fun w hw => ?_⟩
      · show upd (S 5 2) (n 2) x (n 2) = nI (va_up hm (n 2) x.toNatClampNeg (n 2))
        rw [pk_us, va_up_self]; exact e1
      · rw [va_up_self]; exact e2
      · obtain ⟨z1, z2⟩ := x4 (8 * n 2 + w) (by omega)
        refine ⟨?_, ?_, ?_, ?_⟩
        · show adS (SFg S) 2 3 (n 2) 2 (n 2) w = S 5 3 (8 * n 2 + w)
          rw [adS_s (by omega), z1]
        · show rg (adS (SFg S) 2 3 (n 2) 2 (n 2) w) 20000
          rw [adS_s (by omega)]; exact ⟨show 0 ≤ (0 : Int32).toInt by decide, show (0 : Int32).toInt ≤ _ by decide⟩
        · show (adS (SFg S) 2 3 (n 2) 3 (n 2) w).toInt64 = (S 5 3 (8 * n 2 + w)).toInt64 * (S 5 4 (8 * n 2 + w)).toInt64 / 1000
          rw [adS_s (by omega), z1, z2]; show (0 : Int32).toInt64 = _; decide
        · show rg (adS (SFg S) 2 3 (n 2) 3 (n 2) w) 2000000
          rw [adS_s (by omega)]; exact ⟨show 0 ≤ (0 : Int32).toInt by decide, show (0 : Int32).toInt ≤ _ by decide⟩
    · obtain ⟨a, b, d⟩ := hC c (by omega)
      refine ⟨?_, ?_, fun w hw => ?_⟩
      · show upd (S 5 2) (n 2) x c = nI (va_up hm (n 2) x.toNatClampNeg c)
        rw [pk_un e, va_up_ne _ _ e]; exact a
      · rw [va_up_ne _ _ e]; exact b
      · obtain ⟨d1, d2, d3, d4⟩ := d w hw
        refine ⟨?_, ?_, ?_, ?_⟩
        · show adS (SFg S) 2 3 (n 2) 2 c w = S 5 3 (8 * c + w)
          rw [adS_n (by omega)]; exact d1
        · show rg (adS (SFg S) 2 3 (n 2) 2 c w) 20000
          rw [adS_n (by omega)]; exact d2
        · show (adS (SFg S) 2 3 (n 2) 3 c w).toInt64 = kM S c w
          rw [adS_n (by omega)]; exact d3
        · show rg (adS (SFg S) 2 3 (n 2) 3 c w) 2000000
          rw [adS_n (by omega)]; exact d4
  · have hc' : c < n 2 + 1 := hc
    show adI I 2 2 (n 2) (fun _ => x) 2 c = nI (va_up hm (n 2) x.toNatClampNeg c)
    by_cases e : c = n 2
    · subst e; rw [adI_s (by omega), va_up_self]; exact e1
    · rw [adI_n (by omega), va_up_ne _ _ e]; exact x1 c (by omega)
theorem LR_prices (hL : LR n I K J S) (hx : (nI 0 ≤ x1 ∧ x1 ≤ nI 10000) ∧ (nI 0 ≤ x2 ∧ x2 ≤ nI 10000)) : LR n (up2 (up2 I 0 1 x1) 0 2 x2) (KF K) (va_up (va_up (J1f J) 1 x1) 2 x2) (SFg S) := by
  obtain ⟨hm, ow, sq, ⟨h0, hsp, hP, hC, hB, hW, hO, hS⟩, ⟨x1, x2, ⟨x3, x4, x5⟩, ⟨x6, x7, x8, x9⟩⟩, ⟨j3, j4⟩, hpl⟩ := hL
  exact ⟨hm, ow, sq, ⟨h0, ⟨⟨rfl, rfl⟩, rg_of (by decide) hx.1, rg_of (by decide) hx.2⟩, hP, hC, hB, hW, hO, hS⟩, ⟨x1, x2, ⟨x3, x4, x5⟩, ⟨x6, x7, x8, x9⟩⟩, ⟨rfl, j4⟩, Or.inl ⟨rfl, fl_no⟩⟩
theorem LR_plant (hL : LR n I K J S) (h1 : 0 ≤ x1 ∧ x1 < nI (n 0)) (hx : nI 0 ≤ x2 ∧ x2 ≤ 100000000) : (SFg S) 0 2 x1.toNatClampNeg = S 5 7 x1.toNatClampNeg ∧ LR n I (KF K) (J1f J) (upR (upR (SFg S) 0 2 (upd ((SFg S) 0 2) x1.toNatClampNeg x2)) 5 7 (upd ((upR (SFg S) 0 2 (upd ((SFg S) 0 2) x1.toNatClampNeg x2)) 5 7) x1.toNatClampNeg x2)) := by
  obtain ⟨hm, ow, sq, ⟨h0, hsp, hP, hC, hB, hW, hO, hS⟩, ⟨x1, x2, ⟨x3, x4, x5⟩, ⟨x6, x7, x8, x9⟩⟩, ⟨j3, j4⟩, hpl⟩ := hL
  have h8 := h0.2.1
  obtain ⟨e1, e2⟩ := nat_is (by omega) h1
  refine ⟨(hW _ e2).1, hm, ow, sq, ⟨h0, hsp, hP, hC, hB, fun w hw => ?_, hO, hS⟩, ⟨x1, x2, ⟨x3, x4, x5⟩, ⟨x6, x7, x8, x9⟩⟩, ⟨rfl, j4⟩, Or.inl ⟨rfl, fl_no⟩⟩
  show upd (S 0 2) _ _ w = upd (S 5 7) _ _ w ∧ rg (upd (S 0 2) _ _ w) 100000000
  simp only [upd]
  split
  · exact ⟨rfl, rg_of (by decide) hx⟩
  · exact hW w hw
theorem LR_closed (hL : LR n I K J S) (h1 : 0 ≤ x1 ∧ x1 < nI (n 1)) (h2 : 0 ≤ x2 ∧ x2 < nI (n 0)) (hz : x3 = 0 ∨ x3 = 1) : (SFg S) 1 x1.toNatClampNeg x2.toNatClampNeg = S 5 1 (8 * x1.toNatClampNeg + x2.toNatClampNeg) ∧ LR n I (KF K) (J1f J) (upR (upR (SFg S) 1 x1.toNatClampNeg (upd ((SFg S) 1 x1.toNatClampNeg) x2.toNatClampNeg x3)) 5 1 (upd ((upR (SFg S) 1 x1.toNatClampNeg (upd ((SFg S) 1 x1.toNatClampNeg) x2.toNatClampNeg x3)) 5 1) (8 * x1.toNatClampNeg + x2.toNatClampNeg) x3)) := by
  obtain ⟨hm, ow, sq, ⟨h0, hsp, hP, hC, hB, hW, hO, hS⟩, ⟨x1', x2', ⟨x3', x4, x5⟩, ⟨x6, x7, x8, x9⟩⟩, ⟨j3, j4⟩, hpl⟩ := hL
  have h8 := h0.2.1
  have h4 := h0.2.2.1
  obtain ⟨e1, e2⟩ := nat_is (by omega) h1
  obtain ⟨e3, e4⟩ := nat_is (by omega) h2
  generalize x1.toNatClampNeg = i at *
  generalize x2.toNatClampNeg = j at *
  refine ⟨(hP _ e2).2.2 _ e4, hm, ow, sq, ⟨h0, hsp, fun p hp => ⟨(hP p hp).1, (hP p hp).2.1, fun w hw => ?_⟩, hC, hB, hW, hO, hS⟩, ⟨x1', x2', ⟨fun q hq => ?_, x4, x5⟩, ⟨fun a b => ?_, x7, fun q => ?_, x9⟩⟩, ⟨rfl, j4⟩, Or.inl ⟨rfl, fl_no⟩⟩
  · show upR (SFg S) 1 i (upd (S 1 i) j x3) 1 p w = upd (S 5 1) (8 * i + j) x3 (8 * p + w)
    have hh := (hP p hp).2.2 w hw
    by_cases e : p = i
    · subst e
      rw [upR_self]
      by_cases e5 : w = j
      · subst e5; rw [pk_us, pk_us]
      · rw [pk_un e5, pk_un (by omega)]; exact hh
    · rw [upR_ne (by omega), pk_un (by omega)]; exact hh
  · show upd (S 5 1) (8 * i + j) x3 q = 0
    rw [pk_un (by omega)]; exact x3' q hq
  · show upR (SFg S) 1 i (upd (S 1 i) j x3) 1 a b = 0 ∨ upR (SFg S) 1 i (upd (S 1 i) j x3) 1 a b = 1
    by_cases e : a = i
    · subst e
      rw [upR_self]
      by_cases e5 : b = j
      · subst e5; rw [pk_us]; exact hz
      · rw [pk_un e5]; exact x6 a b
    · rw [upR_ne (by omega)]; exact x6 a b
  · show upd (S 5 1) (8 * i + j) x3 q = 0 ∨ upd (S 5 1) (8 * i + j) x3 q = 1
    by_cases e : q = 8 * i + j
    · subst e; rw [pk_us]; exact hz
    · rw [pk_un e]; exact x8 q
theorem LR_weather (hL : LR n I K J S) (h1 : 0 ≤ x1 ∧ x1 < nI (n 3)) (h2 : 0 ≤ x2 ∧ x2 < nI (n 0)) (hz : x3 = 0 ∨ x3 = 1) : (SFg S) 4 x1.toNatClampNeg x2.toNatClampNeg = S 5 6 (8 * x1.toNatClampNeg + x2.toNatClampNeg) ∧ LR n I (KF K) (J1f J) (upR (upR (SFg S) 4 x1.toNatClampNeg (upd ((SFg S) 4 x1.toNatClampNeg) x2.toNatClampNeg x3)) 5 6 (upd ((upR (SFg S) 4 x1.toNatClampNeg (upd ((SFg S) 4 x1.toNatClampNeg) x2.toNatClampNeg x3)) 5 6) (8 * x1.toNatClampNeg + x2.toNatClampNeg) x3)) := by
  obtain ⟨hm, ow, sq, ⟨h0, hsp, hP, hC, hB, hW, hO, hS⟩, ⟨x1', x2', ⟨x3', x4, x5⟩, ⟨x6, x7, x8, x9⟩⟩, ⟨j3, j4⟩, hpl⟩ := hL
  have h8 := h0.2.1
  have h4 := h0.2.2.2.2.1
  obtain ⟨e1, e2⟩ := nat_is (by omega) h1
  obtain ⟨e3, e4⟩ := nat_is (by omega) h2
  generalize x1.toNatClampNeg = i at *
  generalize x2.toNatClampNeg = j at *
  refine ⟨(hB _ e2).2.2 _ e4, hm, ow, sq, ⟨h0, hsp, hP, hC, fun p hp => ⟨(hB p hp).1, (hB p hp).2.1, fun w hw => ?_⟩, hW, hO, hS⟩, ⟨x1', x2', ⟨x3', x4, fun q hq => ?_⟩, ⟨x6, fun a b => ?_, x8, fun q => ?_⟩⟩, ⟨rfl, j4⟩, Or.inl ⟨rfl, fl_no⟩⟩
  · show upR (SFg S) 4 i (upd (S 4 i) j x3) 4 p w = upd (S 5 6) (8 * i + j) x3 (8 * p + w)
    have hh := (hB p hp).2.2 w hw
    by_cases e : p = i
    · subst e
      rw [upR_self]
      by_cases e5 : w = j
      · subst e5; rw [pk_us, pk_us]
      · rw [pk_un e5, pk_un (by omega)]; exact hh
    · rw [upR_ne (by omega), pk_un (by omega)]; exact hh
  · show upd (S 5 6) (8 * i + j) x3 q = 0
    rw [pk_un (by omega)]; exact x5 q hq
  · show upR (SFg S) 4 i (upd (S 4 i) j x3) 4 a b = 0 ∨ upR (SFg S) 4 i (upd (S 4 i) j x3) 4 a b = 1
    by_cases e : a = i
    · subst e
      rw [upR_self]
      by_cases e5 : b = j
      · subst e5; rw [pk_us]; exact hz
      · rw [pk_un e5]; exact x7 a b
    · rw [upR_ne (by omega)]; exact x7 a b
  · show upd (S 5 6) (8 * i + j) x3 q = 0 ∨ upd (S 5 6) (8 * i + j) x3 q = 1
    by_cases e : q = 8 * i + j
    · subst e; rw [pk_us]; exact hz
    · rw [pk_un e]; exact x9 q
/-- the kilos of both are the same number -/
theorem kilo_eq (h3 : rg x3 20000) (h4 : rg x4 100000) : (x3 * x4 / nI 1000).toInt64 = x3.toInt64 * x4.toInt64 / 1000 ∧ rg (x3 * x4 / nI 1000) 2000000 := by
  obtain ⟨a, b⟩ := h3
  obtain ⟨c, d⟩ := h4
  have m := mul_rg a b c d
  have e1 : (x3 * x4).toInt = x3.toInt * x4.toInt := by rw [Int32.toInt_mul]; exact Int.bmod_eq_of_le (by omega) (by omega)
  have e2 : (x3.toInt64 * x4.toInt64).toInt = x3.toInt * x4.toInt := by rw [i64_mul (by rw [Int32.toInt_toInt64, Int32.toInt_toInt64]; omega) (by rw [Int32.toInt_toInt64, Int32.toInt_toInt64]; omega), Int32.toInt_toInt64, Int32.toInt_toInt64]
  have t1 : (x3.toInt * x4.toInt).tdiv 1000 = x3.toInt * x4.toInt / 1000 := Int.tdiv_eq_ediv_of_nonneg m.1
  have e3 : (x3 * x4 / nI 1000).toInt = x3.toInt * x4.toInt / 1000 := by
    rw [Int32.toInt_div, e1, nI_toInt (by omega), show ((1000 : Nat) : Int) = 1000 from rfl, t1]
    exact Int.bmod_eq_of_le (by omega) (by omega)
  have e4 : (x3.toInt64 * x4.toInt64 / 1000).toInt = x3.toInt * x4.toInt / 1000 := by
    rw [Int64.toInt_div, e2, show (1000 : Int64).toInt = 1000 by decide, t1]
    exact Int.bmod_eq_of_le (by omega) (by omega)
  refine ⟨Int64.toInt_inj.mp ?_, ?_⟩
  · rw [Int32.toInt_toInt64, e3, e4]
  · unfold rg; rw [e3]; omega
theorem LR_size (hL : LR n I K J S) (h1 : 0 ≤ x1 ∧ x1 < nI (n 2)) (h2 : 0 ≤ x2 ∧ x2 < nI (n 0)) (h3 : nI 0 ≤ x3 ∧ x3 ≤ nI 20000) (h4 : nI 0 ≤ x4 ∧ x4 ≤ 100000) {S2 S3 : Nat → Nat → Nat → Int32}
    (e2 : S2 = upR (upR (SFg S) 2 x1.toNatClampNeg (upd ((SFg S) 2 x1.toNatClampNeg) x2.toNatClampNeg x3)) 3 x1.toNatClampNeg (upd ((upR (SFg S) 2 x1.toNatClampNeg (upd ((SFg S) 2 x1.toNatClampNeg) x2.toNatClampNeg x3)) 3 x1.toNatClampNeg) x2.toNatClampNeg (x3 * x4 / nI 1000)))
    (e3 : S3 = upR (upR S2 5 3 (upd (S2 5 3) (8 * x1.toNatClampNeg + x2.toNatClampNeg) x3)) 5 4 (upd ((upR S2 5 3 (upd (S2 5 3) (8 * x1.toNatClampNeg + x2.toNatClampNeg) x3)) 5 4) (8 * x1.toNatClampNeg + x2.toNatClampNeg) x4)) :
    x3 * x4 / nI 1000 = (kM S3 x1.toNatClampNeg x2.toNatClampNeg).toInt32 ∧ LR n I (KF K) (J1f J) S3 := by
  obtain ⟨hm, ow, sq, ⟨h0, hsp, hP, hC, hB, hW, hO, hS⟩, ⟨x1', x2', ⟨x3', x4', x5⟩, ⟨x6, x7, x8, x9⟩⟩, ⟨j3, j4⟩, hpl⟩ := hL
  have h8 := h0.2.1
  have h6 := h0.2.2.2.1
  obtain ⟨-, b2⟩ := nat_is (by omega) h1
  obtain ⟨-, b4⟩ := nat_is (by omega) h2
  generalize x1.toNatClampNeg = i at *
  generalize x2.toNatClampNeg = j at *
  have r3 : rg x3 20000 := rg_of (by decide) h3
  have r4 : rg x4 100000 := rg_of (by decide) h4
  obtain ⟨k1, k2⟩ := kilo_eq r3 r4
  have s3 : S3 5 3 = upd (S 5 3) (8 * i + j) x3 := by rw [e3, e2]; rfl
  have s4 : S3 5 4 = upd (S 5 4) (8 * i + j) x4 := by rw [e3, e2]; rfl
  have c2 : ∀ c w, S3 2 c w = if c = i ∧ w = j then x3 else S 2 c w := fun c w => by
    rw [e3, e2]
    show upR (SFg S) 2 i (upd (S 2 i) j x3) 2 c w = _
    by_cases e : c = i
    · subst e
      rw [upR_self]
      by_cases e5 : w = j
      · subst e5; rw [pk_us, if_pos ⟨rfl, rfl⟩]
      · rw [pk_un e5, if_neg (fun q => e5 q.2)]
    · rw [upR_ne (by omega), if_neg (fun q => e q.1)]; rfl
  have c3 : ∀ c w, S3 3 c w = if c = i ∧ w = j then x3 * x4 / nI 1000 else S 3 c w := fun c w => by
    rw [e3, e2]
    show upR (upR (SFg S) 2 i (upd (S 2 i) j x3)) 3 i (upd (S 3 i) j (x3 * x4 / nI 1000)) 3 c w = _
    by_cases e : c = i
    · subst e
      rw [upR_self]
      by_cases e5 : w = j
      · subst e5; rw [pk_us, if_pos ⟨rfl, rfl⟩]
      · rw [pk_un e5, if_neg (fun q => e5 q.2)]
    · rw [upR_ne (by omega), if_neg (fun q => e q.1)]; rfl
  have km : ∀ c w, w < 8 → kM S3 c w = if c = i ∧ w = j then x3.toInt64 * x4.toInt64 / 1000 else kM S c w := fun c w hw => by
    unfold kM
    rw [s3, s4]
    by_cases e : c = i ∧ w = j
    · obtain ⟨rfl, rfl⟩ := e
      rw [pk_us, pk_us, if_pos ⟨rfl, rfl⟩]
    · rw [if_neg e, pk_un (by omega), pk_un (by omega)]
  refine ⟨?_, hm, ow, sq, ⟨h0, hsp, ?_, fun c hc => ?_, ?_, ?_, ?_, hS⟩, ⟨x1', ?_, ⟨?_, fun q hq => ?_, ?_⟩, ⟨?_, ?_, ?_, ?_⟩⟩, ⟨rfl, j4⟩, Or.inl ⟨rfl, ?_⟩⟩
  · rw [km i j (by omega), if_pos ⟨rfl, rfl⟩, ← k1]
    exact Int32.toInt_inj.mp (by rw [Int64.toInt_toInt32, Int32.toInt_toInt64]; have := k2.1; have := k2.2; exact (Int.bmod_eq_of_le (by omega) (by omega)).symm)
  · rw [e3, e2]; exact hP
  · obtain ⟨a, b, d⟩ := hC c hc
    refine ⟨by rw [e3, e2]; exact a, b, fun w hw => ?_⟩
    obtain ⟨d1, d2, d3, d4⟩ := d w hw
    rw [c2, c3, km c w (by omega), s3]
    by_cases e : c = i ∧ w = j
    · obtain ⟨rfl, rfl⟩ := e
      rw [if_pos ⟨rfl, rfl⟩, if_pos ⟨rfl, rfl⟩, if_pos ⟨rfl, rfl⟩, pk_us]
      exact ⟨rfl, r3, k1, k2⟩
    · rw [if_neg e, if_neg e, if_neg e, pk_un (by omega)]
      exact ⟨d1, d2, d3, d4⟩
  · rw [e3, e2]; exact hB
  · rw [e3, e2]; exact hW
  · rw [e3, e2]; exact hO
  · rw [e3, e2]; exact x2'
  · rw [e3, e2]; exact x3'
  · have hq' : 8 * n 2 ≤ q := hq
    rw [s3, s4, pk_un (by omega), pk_un (by omega)]; exact x4' q hq
  · rw [e3, e2]; exact x5
  · rw [e3, e2]; exact x6
  · rw [e3, e2]; exact x7
  · rw [e3, e2]; exact x8
  · rw [e3, e2]; exact x9
  · rw [e3, e2]; exact fl_no
end LRS
