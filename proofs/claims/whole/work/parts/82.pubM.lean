set_option maxHeartbeats 4000000 in
set_option maxRecDepth 100000 in
/-- whether a call is refused -/
theorem c_M_refuses (l : Launch) (D : va_G) (tC : Nat → ClassId) (A : Nat → Prop) (ad : Nat → Nat) (n : Nat → Nat) (J : Nat → Int32) (bw : Int64) (L : Nat → Nat → Int64) (bX : Nat → Option va_E) (aY : Nat → Nat → Option (ClassId × Nat)) (S : Nat → Nat → Nat → Int32) (hN : hpN n) (a s' : Int32) : nw_Met l y_M_refuses [Cond.code y_M_refuses b_M_refuses 3 (some .boolean)] ({ frames := 0, cells := 0, slots := 0, locals := 0 } : Room) D hpC A [.ref (ad (64)), .int (a), .int (s')] (nw_pre D hpC (hpT tC) A (mW ad tC n J bw L bX aY S) ad) (nw_ok (some (.int (b2 (a = 0 ∨ s' = 0)))) (mW ad tC n (va_up J 0 (rfI a s')) bw L bX aY S) ad) 0 0 := by
  refine nw_bodyK (by decide) (Nat.le_of_ble_eq_true rfl) ?_
  intro p e s m below meth cd ls args Q hSx hr hlocks hname hA hKs hw hS hl hQ
  obtain ⟨hx, hb, hml, hown, hts⟩ := id hSx
  have hK := hKs.1
  have hl : lv_has ls 3 [(0, .ref (ad (64))), (1, .int (a)), (2, .int (s'))] := hl
  obtain ⟨hn0, hn0', hn1, hn2, hn3, hn4⟩ := id hN
  refine lv_aload_n hx hb d_M_refuses_0 rfl (lv_at hl 0 rfl) ?_
  refine lv_iload_n hx hb d_M_refuses_1 rfl (lv_at hl 1 rfl) ?_
  refine lv_if_ne (tgt := 9) hx hb d_M_refuses_2 (by decide) (fun c_2 => ?_) (fun c_2 => ?_)
  · skip
    refine lv_iload_n hx hb d_M_refuses_9 rfl (lv_at hl 2 rfl) ?_
    refine lv_if_ne (tgt := 17) hx hb d_M_refuses_10 (by decide) (fun c_10 => ?_) (fun c_10 => ?_)
    · skip
      have ethr : rfI a s' = nI 0 := rfI_ok (fun h => h.elim c_2 c_10)
      have ha : ¬ (a = 0 ∨ s' = 0) := fun h => h.elim c_2 c_10
      refine lv_iconst (v := nI 0) hx hb d_M_refuses_17 (by decide) ?_
      refine nw_put (v := .int (nI 0)) (ty := .int) hx hb hts i_M t_M tk_M n_M hown hK hw hS (64) (mW_64) rfl 1 (by decide) (hts _ kw_660) (fun _ h9 => h9) rfl (by decide +kernel) (rfl) (rfl) (Nat.le_of_ble_eq_true rfl) d_M_refuses_18 (fun H locs hw hS => ?_)
      have hw := nw_W.as (wn' := mW ad tC n (va_up J 0 (nI 0)) bw L bX aY S) (mW_setO (n' := n) (J' := (va_up J 0 (nI 0))) (bw' := bw) rfl hw) rfl
      have hw := nw_W.as (wn' := mW ad tC n (va_up J 0 (rfI a s')) bw L bX aY S) hw (by rw [ethr])
      refine lv_aload_n hx hb d_M_refuses_21 rfl (lv_at hl 0 rfl) ?_
      refine nw_get hx hb hts i_M hown hK hw (64) (mW_64) rfl 1 (by decide) (hts _ kw_660) (fun _ h9 => h9) rfl d_M_refuses_22 ?_
      rw [show va_up J 0 (rfI a s') 0 = rfI a s' from rfl, ethr]
      refine lv_if_le (tgt := 32) hx hb d_M_refuses_25 (by decide) (fun c_25 => ?_) (fun c_25 => ?_)
      · skip
        have hres : nI 0 = b2 (a = 0 ∨ s' = 0) := b2_f ha
        refine lv_iconst (v := nI 0) hx hb d_M_refuses_32 (by decide) ?_
        exact nw_zret hQ hx hb hr (by first | exact Or.inl rfl | exact Or.inr rfl) hlocks hw hS (nw_okI hres) (Nat.le_of_ble_eq_true rfl) (Nat.le_of_ble_eq_true rfl) d_M_refuses_33
      · skip
        exact absurd (by decide) c_25
    · skip
      have ethr : rfI a s' = nI 2 := by simp only [rfI]; rw [if_neg c_2, if_pos c_10]; rfl
      have ha : a = 0 ∨ s' = 0 := Or.inr c_10
      refine lv_iconst (v := nI 2) hx hb d_M_refuses_13 (by decide) ?_
      refine lv_goto (tgt := 18) hx hb d_M_refuses_14 (by decide) ?_
      refine nw_put (v := .int (nI 2)) (ty := .int) hx hb hts i_M t_M tk_M n_M hown hK hw hS (64) (mW_64) rfl 1 (by decide) (hts _ kw_660) (fun _ h9 => h9) rfl (by decide +kernel) (rfl) (rfl) (Nat.le_of_ble_eq_true rfl) d_M_refuses_18 (fun H locs hw hS => ?_)
      have hw := nw_W.as (wn' := mW ad tC n (va_up J 0 (nI 2)) bw L bX aY S) (mW_setO (n' := n) (J' := (va_up J 0 (nI 2))) (bw' := bw) rfl hw) rfl
      have hw := nw_W.as (wn' := mW ad tC n (va_up J 0 (rfI a s')) bw L bX aY S) hw (by rw [ethr])
      refine lv_aload_n hx hb d_M_refuses_21 rfl (lv_at hl 0 rfl) ?_
      refine nw_get hx hb hts i_M hown hK hw (64) (mW_64) rfl 1 (by decide) (hts _ kw_660) (fun _ h9 => h9) rfl d_M_refuses_22 ?_
      rw [show va_up J 0 (rfI a s') 0 = rfI a s' from rfl, ethr]
      refine lv_if_le (tgt := 32) hx hb d_M_refuses_25 (by decide) (fun c_25 => ?_) (fun c_25 => ?_)
      · skip
        exact absurd c_25 (by decide)
      · skip
        have hres : nI 1 = b2 (a = 0 ∨ s' = 0) := b2_t ha
        refine lv_iconst (v := nI 1) hx hb d_M_refuses_28 (by decide) ?_
        refine lv_goto (tgt := 33) hx hb d_M_refuses_29 (by decide) ?_
        exact nw_zret hQ hx hb hr (by first | exact Or.inl rfl | exact Or.inr rfl) hlocks hw hS (nw_okI hres) (Nat.le_of_ble_eq_true rfl) (Nat.le_of_ble_eq_true rfl) d_M_refuses_33
  · skip
    have ethr : rfI a s' = nI 1 := by simp only [rfI]; rw [if_pos c_2]; rfl
    have ha : a = 0 ∨ s' = 0 := Or.inl c_2
    refine lv_iconst (v := nI 1) hx hb d_M_refuses_5 (by decide) ?_
    refine lv_goto (tgt := 18) hx hb d_M_refuses_6 (by decide) ?_
    refine nw_put (v := .int (nI 1)) (ty := .int) hx hb hts i_M t_M tk_M n_M hown hK hw hS (64) (mW_64) rfl 1 (by decide) (hts _ kw_660) (fun _ h9 => h9) rfl (by decide +kernel) (rfl) (rfl) (Nat.le_of_ble_eq_true rfl) d_M_refuses_18 (fun H locs hw hS => ?_)
    have hw := nw_W.as (wn' := mW ad tC n (va_up J 0 (nI 1)) bw L bX aY S) (mW_setO (n' := n) (J' := (va_up J 0 (nI 1))) (bw' := bw) rfl hw) rfl
    have hw := nw_W.as (wn' := mW ad tC n (va_up J 0 (rfI a s')) bw L bX aY S) hw (by rw [ethr])
    refine lv_aload_n hx hb d_M_refuses_21 rfl (lv_at hl 0 rfl) ?_
    refine nw_get hx hb hts i_M hown hK hw (64) (mW_64) rfl 1 (by decide) (hts _ kw_660) (fun _ h9 => h9) rfl d_M_refuses_22 ?_
    rw [show va_up J 0 (rfI a s') 0 = rfI a s' from rfl, ethr]
    refine lv_if_le (tgt := 32) hx hb d_M_refuses_25 (by decide) (fun c_25 => ?_) (fun c_25 => ?_)
    · skip
      exact absurd c_25 (by decide)
    · skip
      have hres : nI 1 = b2 (a = 0 ∨ s' = 0) := b2_t ha
      refine lv_iconst (v := nI 1) hx hb d_M_refuses_28 (by decide) ?_
      refine lv_goto (tgt := 33) hx hb d_M_refuses_29 (by decide) ?_
      exact nw_zret hQ hx hb hr (by first | exact Or.inl rfl | exact Or.inr rfl) hlocks hw hS (nw_okI hres) (Nat.le_of_ble_eq_true rfl) (Nat.le_of_ble_eq_true rfl) d_M_refuses_33

set_option maxHeartbeats 4000000 in
set_option maxRecDepth 100000 in
/-- place -/
theorem c_M_place (l : Launch) (D : va_G) (tC : Nat → ClassId) (A : Nat → Prop) (ad : Nat → Nat) (n : Nat → Nat) (J : Nat → Int32) (bw : Int64) (L : Nat → Nat → Int64) (bX : Nat → Option va_E) (aY : Nat → Nat → Option (ClassId × Nat)) (S : Nat → Nat → Nat → Int32) (hN : hpN n) (x1 : Int32) : nw_Met l y_M_place [Cond.code y_M_place b_M_place 2 (some .int)] ({ frames := 1, cells := 0, slots := 0, locals := 25 } : Room) D hpC A [.ref (ad (64)), .int (x1)] (nw_pre D hpC (hpT tC) A (mW ad tC n J bw L bX aY S) ad) (nw_mo (¬ ((nI 0 ≤ x1 ∧ x1 ≤ 100000000))) (¬ (nI (n 1) < nI 4)) (fun t => mW ad tC n (va_up J 0 t) bw L bX aY S) ad (some (.int (nI 0))) 2 (fun o wn' => o = some (.int (nI (n 1))) ∧ wn' = mW ad tC (va_up n 1 (n 1 + 1)) (va_up (va_up J 0 (nI 0)) 3 (nI 0)) bw L bX aY (upR S 5 0 (upd (S 5 0) (n 1) x1)))) 0 0 := by
  refine nw_bodyK (by decide) (Nat.le_of_ble_eq_true rfl) ?_
  intro p e s m below meth cd ls args Q hSx hr hlocks hname hA hKs hw hS hl hQ
  obtain ⟨hx, hb, hml, hown, hts⟩ := id hSx
  have hK := hKs.1
  have hl : lv_has ls 2 [(0, .ref (ad (64))), (1, .int (x1))] := hl
  obtain ⟨hn0, hn0', hn1, hn2, hn3, hn4⟩ := id hN
  refine lv_aload_n hx hb d_M_place_0 rfl (lv_at hl 0 rfl) ?_
  refine lv_iload_n hx hb d_M_place_1 rfl (lv_at hl 1 rfl) ?_
  refine lv_i2l (v := ((x1).toInt64)) hx hb d_M_place_2 rfl ?_
  refine lv_lconst (v := 0) hx hb d_M_place_3 (by decide) ?_
  refine lv_ldc2 (v := 100000000) hx hb hown (hts _ kw_767) d_M_place_4 ?_
  refine nw_callD (nw_goS (n := 3) (As := [.long (((x1).toInt64)), .long (0), .long (100000000)]) (rest := [.ref (ad (64))]) hSx hA hKs hw hS (c_M_in l D tC A ad n J bw L bX aY S S scm_rf hN (((x1).toInt64)) (0) (100000000)) kw_770 kw_768 kw_769 kw_8 rfl rfl (by decide +kernel) ⟨Nat.le_of_ble_eq_true rfl, Nat.le_of_ble_eq_true rfl⟩ rfl hl.1 (Nat.le_of_ble_eq_true rfl) d_M_place_7 ⟨Nat.le_of_ble_eq_true rfl, Nat.le_of_ble_eq_true rfl⟩) hS (fun H locs hw hS => ?_)
  refine lv_aload_n hx hb d_M_place_10 rfl (lv_at hl 0 rfl) ?_
  refine nw_get hx hb hts i_M hown hK hw (64) (mW_64) rfl 2 (by decide) (hts _ kw_661) (fun _ h9 => h9) rfl d_M_place_11 ?_
  refine lv_iconst (v := nI 4) hx hb d_M_place_14 (by decide) ?_
  refine lv_icmp_ge (tgt := 22) hx hb d_M_place_15 (by decide) (fun c_15 => ?_) (fun c_15 => ?_)
  · skip
    have hbsn : ¬ (nI (n 1) < nI 4) := Int32.not_lt.mpr c_15
    refine lv_iconst (v := nI 0) hx hb d_M_place_22 (by decide) ?_
    have ha9 : b2 ((0) ≤ (((x1).toInt64)) ∧ (((x1).toInt64)) ≤ (100000000)) = 0 ↔ ¬ ((nI 0 ≤ x1 ∧ x1 ≤ 100000000)) := b2_not.trans (not_congr (in_c rfl rfl))
    have hs9 : nI 0 = 0 ↔ ¬ (nI (n 1) < nI 4) := ⟨fun _ => hbsn, fun _ => rfl⟩
    refine nw_callD (nw_goV (n := 2) (As := [.int (b2 ((0) ≤ (((x1).toInt64)) ∧ (((x1).toInt64)) ≤ (100000000))), .int (nI 0)]) (rest := []) hSx hA hKs hw hS (c_M_refuses l D tC A ad n J bw L bX aY S hN (b2 ((0) ≤ (((x1).toInt64)) ∧ (((x1).toInt64)) ≤ (100000000))) (nI 0)) kw_774 kw_771 kw_773 ks_M_refuses kw_8 rfl rfl (by decide +kernel) ⟨Nat.le_of_ble_eq_true rfl, Nat.le_of_ble_eq_true rfl⟩ (nw_recv hK hw (mW_64) rfl) rfl hl.1 (Nat.le_of_ble_eq_true rfl) d_M_place_23 ⟨Nat.le_of_ble_eq_true rfl, Nat.le_of_ble_eq_true rfl⟩) hS (fun H locs hw hS => ?_)
    refine lv_if_eq (tgt := 31) hx hb d_M_place_26 (by decide) (fun c_26 => ?_) (fun c_26 => ?_)
    · skip
      have hno9 := b2_0 c_26
      have hok9 : (nI 0 ≤ x1 ∧ x1 ≤ 100000000) := Classical.not_not.mp (fun h => hno9 (Or.inl (ha9.mpr h)))
      have hst9 : nI (n 1) < nI 4 := Classical.not_not.mp (fun h => hno9 (Or.inr (hs9.mpr h)))
      have hw := nw_W.as (wn' := mW ad tC n (va_up J 0 (nI 0)) bw L bX aY S) hw (by rw [rfI_ok hno9])
      refine lv_aload_n hx hb d_M_place_31 rfl (lv_at hl 0 rfl) ?_
      refine lv_iconst (v := nI 0) hx hb d_M_place_32 (by decide) ?_
      refine nw_put (v := .int (nI 0)) (ty := .boolean) hx hb hts i_M t_M tk_M n_M hown hK hw hS (64) (mW_64) rfl 21 (by decide) (hts _ kw_680) (fun _ h9 => h9) rfl (by decide +kernel) (rfl) (rfl) (Nat.le_of_ble_eq_true rfl) d_M_place_33 (fun H locs hw hS => ?_)
      have hw := nw_W.as (wn' := mW ad tC n (va_up (va_up J 0 (nI 0)) 3 (nI 0)) bw L bX aY S) (mW_setO (n' := n) (J' := (va_up (va_up J 0 (nI 0)) 3 (nI 0))) (bw' := bw) rfl hw) rfl
      refine lv_aload_n hx hb d_M_place_36 rfl (lv_at hl 0 rfl) ?_
      refine nw_get hx hb hts i_M hown hK hw (64) (mW_64) rfl 3 (by decide) (hts _ kw_662) (fun _ h9 => h9) rfl d_M_place_37 ?_
      refine lv_aload_n hx hb d_M_place_40 rfl (lv_at hl 0 rfl) ?_
      refine nw_get hx hb hts i_M hown hK hw (64) (mW_64) rfl 2 (by decide) (hts _ kw_661) (fun _ h9 => h9) rfl d_M_place_41 ?_
      refine lv_iload_n hx hb d_M_place_44 rfl (lv_at hl 1 rfl) ?_
      refine nw_iast hx hb hK hw hS (180) 0 (mW_row (t := 5) (j := 0) (by decide) (by decide) (rfl)) rfl (n 1) (rfl) ((nI_ltI (by omega) (by omega)).mp hst9) (by omega) d_M_place_45 (fun H locs hw hS => ?_)
      have hw := mW_setRow (t := 5) (j := 0) (by decide) (by decide) (rfl) hw
      refine lv_aload_n hx hb d_M_place_46 rfl (lv_at hl 0 rfl) ?_
      refine lv_dup hx hb d_M_place_47 rfl ?_
      refine nw_get hx hb hts i_M hown hK hw (64) (mW_64) rfl 2 (by decide) (hts _ kw_661) (fun _ h9 => h9) rfl d_M_place_48 ?_
      refine lv_iconst (v := nI 1) hx hb d_M_place_51 (by decide) ?_
      refine lv_iadd hx hb d_M_place_52 ?_
      refine lv_ei (y := nI (n 1 + 1)) (nI_add _ _) ?_
      refine nw_put (v := .int (nI (n 1 + 1))) (ty := .int) hx hb hts i_M t_M tk_M n_M hown hK hw hS (64) (mW_64) rfl 2 (by decide) (hts _ kw_661) (fun _ h9 => h9) rfl (by decide +kernel) (rfl) (rfl) (Nat.le_of_ble_eq_true rfl) d_M_place_53 (fun H locs hw hS => ?_)
      have hw := nw_W.as (wn' := mW ad tC (va_up n 1 (n 1 + 1)) (va_up (va_up J 0 (nI 0)) 3 (nI 0)) bw L bX aY (upR S 5 0 (upd (S 5 0) (n 1) x1))) (mW_setO (n' := (va_up n 1 (n 1 + 1))) (J' := (va_up (va_up J 0 (nI 0)) 3 (nI 0))) (bw' := bw) rfl hw) rfl
      refine lv_aload_n hx hb d_M_place_56 rfl (lv_at hl 0 rfl) ?_
      refine nw_get hx hb hts i_M hown hK hw (64) (mW_64) rfl 2 (by decide) (hts _ kw_661) (fun _ h9 => h9) rfl d_M_place_57 ?_
      refine lv_iconst (v := nI 1) hx hb d_M_place_60 (by decide) ?_
      refine lv_isub hx hb d_M_place_61 ?_
      refine lv_ei (y := nI (n 1)) (by show nI (n 1 + 1) - nI 1 = _; exact pk_sub (by omega)) ?_
      exact nw_iret hQ hx hb hr hlocks hw hS (nw_mo_ok (fun h => h hok9) (fun h => h hst9) (⟨rfl, rfl⟩)) (Nat.le_of_ble_eq_true rfl) (Nat.le_of_ble_eq_true rfl) d_M_place_62
    · skip
      refine lv_iconst (v := nI 0) hx hb d_M_place_29 (by decide) ?_
      exact nw_iret hQ hx hb hr hlocks hw hS (nw_mo_bad (Wb := (fun t => mW ad tC n (va_up J 0 t) bw L bX aY S)) ha9 hs9 (b2_1 c_26)) (Nat.le_of_ble_eq_true rfl) (Nat.le_of_ble_eq_true rfl) d_M_place_30
  · skip
    have hbs : nI (n 1) < nI 4 := Int32.not_le.mp c_15
    refine lv_iconst (v := nI 1) hx hb d_M_place_18 (by decide) ?_
    refine lv_goto (tgt := 23) hx hb d_M_place_19 (by decide) ?_
    have ha9 : b2 ((0) ≤ (((x1).toInt64)) ∧ (((x1).toInt64)) ≤ (100000000)) = 0 ↔ ¬ ((nI 0 ≤ x1 ∧ x1 ≤ 100000000)) := b2_not.trans (not_congr (in_c rfl rfl))
    have hs9 : nI 1 = 0 ↔ ¬ (nI (n 1) < nI 4) := ⟨fun h => absurd h (by decide), fun h => absurd hbs h⟩
    refine nw_callD (nw_goV (n := 2) (As := [.int (b2 ((0) ≤ (((x1).toInt64)) ∧ (((x1).toInt64)) ≤ (100000000))), .int (nI 1)]) (rest := []) hSx hA hKs hw hS (c_M_refuses l D tC A ad n J bw L bX aY S hN (b2 ((0) ≤ (((x1).toInt64)) ∧ (((x1).toInt64)) ≤ (100000000))) (nI 1)) kw_774 kw_771 kw_773 ks_M_refuses kw_8 rfl rfl (by decide +kernel) ⟨Nat.le_of_ble_eq_true rfl, Nat.le_of_ble_eq_true rfl⟩ (nw_recv hK hw (mW_64) rfl) rfl hl.1 (Nat.le_of_ble_eq_true rfl) d_M_place_23 ⟨Nat.le_of_ble_eq_true rfl, Nat.le_of_ble_eq_true rfl⟩) hS (fun H locs hw hS => ?_)
    refine lv_if_eq (tgt := 31) hx hb d_M_place_26 (by decide) (fun c_26 => ?_) (fun c_26 => ?_)
    · skip
      have hno9 := b2_0 c_26
      have hok9 : (nI 0 ≤ x1 ∧ x1 ≤ 100000000) := Classical.not_not.mp (fun h => hno9 (Or.inl (ha9.mpr h)))
      have hst9 : nI (n 1) < nI 4 := Classical.not_not.mp (fun h => hno9 (Or.inr (hs9.mpr h)))
      have hw := nw_W.as (wn' := mW ad tC n (va_up J 0 (nI 0)) bw L bX aY S) hw (by rw [rfI_ok hno9])
      refine lv_aload_n hx hb d_M_place_31 rfl (lv_at hl 0 rfl) ?_
      refine lv_iconst (v := nI 0) hx hb d_M_place_32 (by decide) ?_
      refine nw_put (v := .int (nI 0)) (ty := .boolean) hx hb hts i_M t_M tk_M n_M hown hK hw hS (64) (mW_64) rfl 21 (by decide) (hts _ kw_680) (fun _ h9 => h9) rfl (by decide +kernel) (rfl) (rfl) (Nat.le_of_ble_eq_true rfl) d_M_place_33 (fun H locs hw hS => ?_)
      have hw := nw_W.as (wn' := mW ad tC n (va_up (va_up J 0 (nI 0)) 3 (nI 0)) bw L bX aY S) (mW_setO (n' := n) (J' := (va_up (va_up J 0 (nI 0)) 3 (nI 0))) (bw' := bw) rfl hw) rfl
      refine lv_aload_n hx hb d_M_place_36 rfl (lv_at hl 0 rfl) ?_
      refine nw_get hx hb hts i_M hown hK hw (64) (mW_64) rfl 3 (by decide) (hts _ kw_662) (fun _ h9 => h9) rfl d_M_place_37 ?_
      refine lv_aload_n hx hb d_M_place_40 rfl (lv_at hl 0 rfl) ?_
      refine nw_get hx hb hts i_M hown hK hw (64) (mW_64) rfl 2 (by decide) (hts _ kw_661) (fun _ h9 => h9) rfl d_M_place_41 ?_
      refine lv_iload_n hx hb d_M_place_44 rfl (lv_at hl 1 rfl) ?_
      refine nw_iast hx hb hK hw hS (180) 0 (mW_row (t := 5) (j := 0) (by decide) (by decide) (rfl)) rfl (n 1) (rfl) ((nI_ltI (by omega) (by omega)).mp hst9) (by omega) d_M_place_45 (fun H locs hw hS => ?_)
      have hw := mW_setRow (t := 5) (j := 0) (by decide) (by decide) (rfl) hw
      refine lv_aload_n hx hb d_M_place_46 rfl (lv_at hl 0 rfl) ?_
      refine lv_dup hx hb d_M_place_47 rfl ?_
      refine nw_get hx hb hts i_M hown hK hw (64) (mW_64) rfl 2 (by decide) (hts _ kw_661) (fun _ h9 => h9) rfl d_M_place_48 ?_
      refine lv_iconst (v := nI 1) hx hb d_M_place_51 (by decide) ?_
      refine lv_iadd hx hb d_M_place_52 ?_
      refine lv_ei (y := nI (n 1 + 1)) (nI_add _ _) ?_
      refine nw_put (v := .int (nI (n 1 + 1))) (ty := .int) hx hb hts i_M t_M tk_M n_M hown hK hw hS (64) (mW_64) rfl 2 (by decide) (hts _ kw_661) (fun _ h9 => h9) rfl (by decide +kernel) (rfl) (rfl) (Nat.le_of_ble_eq_true rfl) d_M_place_53 (fun H locs hw hS => ?_)
      have hw := nw_W.as (wn' := mW ad tC (va_up n 1 (n 1 + 1)) (va_up (va_up J 0 (nI 0)) 3 (nI 0)) bw L bX aY (upR S 5 0 (upd (S 5 0) (n 1) x1))) (mW_setO (n' := (va_up n 1 (n 1 + 1))) (J' := (va_up (va_up J 0 (nI 0)) 3 (nI 0))) (bw' := bw) rfl hw) rfl
      refine lv_aload_n hx hb d_M_place_56 rfl (lv_at hl 0 rfl) ?_
      refine nw_get hx hb hts i_M hown hK hw (64) (mW_64) rfl 2 (by decide) (hts _ kw_661) (fun _ h9 => h9) rfl d_M_place_57 ?_
      refine lv_iconst (v := nI 1) hx hb d_M_place_60 (by decide) ?_
      refine lv_isub hx hb d_M_place_61 ?_
      refine lv_ei (y := nI (n 1)) (by show nI (n 1 + 1) - nI 1 = _; exact pk_sub (by omega)) ?_
      exact nw_iret hQ hx hb hr hlocks hw hS (nw_mo_ok (fun h => h hok9) (fun h => h hst9) (⟨rfl, rfl⟩)) (Nat.le_of_ble_eq_true rfl) (Nat.le_of_ble_eq_true rfl) d_M_place_62
    · skip
      refine lv_iconst (v := nI 0) hx hb d_M_place_29 (by decide) ?_
      exact nw_iret hQ hx hb hr hlocks hw hS (nw_mo_bad (Wb := (fun t => mW ad tC n (va_up J 0 t) bw L bX aY S)) ha9 hs9 (b2_1 c_26)) (Nat.le_of_ble_eq_true rfl) (Nat.le_of_ble_eq_true rfl) d_M_place_30

set_option maxHeartbeats 4000000 in
set_option maxRecDepth 100000 in
/-- boat -/
theorem c_M_boat (l : Launch) (D : va_G) (tC : Nat → ClassId) (A : Nat → Prop) (ad : Nat → Nat) (n : Nat → Nat) (J : Nat → Int32) (bw : Int64) (L : Nat → Nat → Int64) (bX : Nat → Option va_E) (aY : Nat → Nat → Option (ClassId × Nat)) (S : Nat → Nat → Nat → Int32) (hN : hpN n) (x1 : Int32) : nw_Met l y_M_boat [Cond.code y_M_boat b_M_boat 2 (some .int)] ({ frames := 1, cells := 0, slots := 0, locals := 25 } : Room) D hpC A [.ref (ad (64)), .int (x1)] (nw_pre D hpC (hpT tC) A (mW ad tC n J bw L bX aY S) ad) (nw_mo (¬ ((nI 0 ≤ x1 ∧ x1 ≤ 100000000))) (¬ (nI (n 3) < nI 3)) (fun t => mW ad tC n (va_up J 0 t) bw L bX aY S) ad (some (.int (nI 0))) 2 (fun o wn' => o = some (.int (nI (n 3))) ∧ wn' = mW ad tC (va_up n 3 (n 3 + 1)) (va_up (va_up J 0 (nI 0)) 3 (nI 0)) bw L bX aY (upR S 5 5 (upd (S 5 5) (n 3) x1)))) 0 0 := by
  refine nw_bodyK (by decide) (Nat.le_of_ble_eq_true rfl) ?_
  intro p e s m below meth cd ls args Q hSx hr hlocks hname hA hKs hw hS hl hQ
  obtain ⟨hx, hb, hml, hown, hts⟩ := id hSx
  have hK := hKs.1
  have hl : lv_has ls 2 [(0, .ref (ad (64))), (1, .int (x1))] := hl
  obtain ⟨hn0, hn0', hn1, hn2, hn3, hn4⟩ := id hN
  refine lv_aload_n hx hb d_M_boat_0 rfl (lv_at hl 0 rfl) ?_
  refine lv_iload_n hx hb d_M_boat_1 rfl (lv_at hl 1 rfl) ?_
  refine lv_i2l (v := ((x1).toInt64)) hx hb d_M_boat_2 rfl ?_
  refine lv_lconst (v := 0) hx hb d_M_boat_3 (by decide) ?_
  refine lv_ldc2 (v := 100000000) hx hb hown (hts _ kw_767) d_M_boat_4 ?_
  refine nw_callD (nw_goS (n := 3) (As := [.long (((x1).toInt64)), .long (0), .long (100000000)]) (rest := [.ref (ad (64))]) hSx hA hKs hw hS (c_M_in l D tC A ad n J bw L bX aY S S scm_rf hN (((x1).toInt64)) (0) (100000000)) kw_770 kw_768 kw_769 kw_8 rfl rfl (by decide +kernel) ⟨Nat.le_of_ble_eq_true rfl, Nat.le_of_ble_eq_true rfl⟩ rfl hl.1 (Nat.le_of_ble_eq_true rfl) d_M_boat_7 ⟨Nat.le_of_ble_eq_true rfl, Nat.le_of_ble_eq_true rfl⟩) hS (fun H locs hw hS => ?_)
  refine lv_aload_n hx hb d_M_boat_10 rfl (lv_at hl 0 rfl) ?_
  refine nw_get hx hb hts i_M hown hK hw (64) (mW_64) rfl 9 (by decide) (hts _ kw_668) (fun _ h9 => h9) rfl d_M_boat_11 ?_
  refine lv_iconst (v := nI 3) hx hb d_M_boat_14 (by decide) ?_
  refine lv_icmp_ge (tgt := 22) hx hb d_M_boat_15 (by decide) (fun c_15 => ?_) (fun c_15 => ?_)
  · skip
    have hbsn : ¬ (nI (n 3) < nI 3) := Int32.not_lt.mpr c_15
    refine lv_iconst (v := nI 0) hx hb d_M_boat_22 (by decide) ?_
    have ha9 : b2 ((0) ≤ (((x1).toInt64)) ∧ (((x1).toInt64)) ≤ (100000000)) = 0 ↔ ¬ ((nI 0 ≤ x1 ∧ x1 ≤ 100000000)) := b2_not.trans (not_congr (in_c rfl rfl))
    have hs9 : nI 0 = 0 ↔ ¬ (nI (n 3) < nI 3) := ⟨fun _ => hbsn, fun _ => rfl⟩
    refine nw_callD (nw_goV (n := 2) (As := [.int (b2 ((0) ≤ (((x1).toInt64)) ∧ (((x1).toInt64)) ≤ (100000000))), .int (nI 0)]) (rest := []) hSx hA hKs hw hS (c_M_refuses l D tC A ad n J bw L bX aY S hN (b2 ((0) ≤ (((x1).toInt64)) ∧ (((x1).toInt64)) ≤ (100000000))) (nI 0)) kw_774 kw_771 kw_773 ks_M_refuses kw_8 rfl rfl (by decide +kernel) ⟨Nat.le_of_ble_eq_true rfl, Nat.le_of_ble_eq_true rfl⟩ (nw_recv hK hw (mW_64) rfl) rfl hl.1 (Nat.le_of_ble_eq_true rfl) d_M_boat_23 ⟨Nat.le_of_ble_eq_true rfl, Nat.le_of_ble_eq_true rfl⟩) hS (fun H locs hw hS => ?_)
    refine lv_if_eq (tgt := 31) hx hb d_M_boat_26 (by decide) (fun c_26 => ?_) (fun c_26 => ?_)
    · skip
      have hno9 := b2_0 c_26
      have hok9 : (nI 0 ≤ x1 ∧ x1 ≤ 100000000) := Classical.not_not.mp (fun h => hno9 (Or.inl (ha9.mpr h)))
      have hst9 : nI (n 3) < nI 3 := Classical.not_not.mp (fun h => hno9 (Or.inr (hs9.mpr h)))
      have hw := nw_W.as (wn' := mW ad tC n (va_up J 0 (nI 0)) bw L bX aY S) hw (by rw [rfI_ok hno9])
      refine lv_aload_n hx hb d_M_boat_31 rfl (lv_at hl 0 rfl) ?_
      refine lv_iconst (v := nI 0) hx hb d_M_boat_32 (by decide) ?_
      refine nw_put (v := .int (nI 0)) (ty := .boolean) hx hb hts i_M t_M tk_M n_M hown hK hw hS (64) (mW_64) rfl 21 (by decide) (hts _ kw_680) (fun _ h9 => h9) rfl (by decide +kernel) (rfl) (rfl) (Nat.le_of_ble_eq_true rfl) d_M_boat_33 (fun H locs hw hS => ?_)
      have hw := nw_W.as (wn' := mW ad tC n (va_up (va_up J 0 (nI 0)) 3 (nI 0)) bw L bX aY S) (mW_setO (n' := n) (J' := (va_up (va_up J 0 (nI 0)) 3 (nI 0))) (bw' := bw) rfl hw) rfl
      refine lv_aload_n hx hb d_M_boat_36 rfl (lv_at hl 0 rfl) ?_
      refine nw_get hx hb hts i_M hown hK hw (64) (mW_64) rfl 10 (by decide) (hts _ kw_669) (fun _ h9 => h9) rfl d_M_boat_37 ?_
      refine lv_aload_n hx hb d_M_boat_40 rfl (lv_at hl 0 rfl) ?_
      refine nw_get hx hb hts i_M hown hK hw (64) (mW_64) rfl 9 (by decide) (hts _ kw_668) (fun _ h9 => h9) rfl d_M_boat_41 ?_
      refine lv_iload_n hx hb d_M_boat_44 rfl (lv_at hl 1 rfl) ?_
      refine nw_iast hx hb hK hw hS (185) 0 (mW_row (t := 5) (j := 5) (by decide) (by decide) (rfl)) rfl (n 3) (rfl) ((nI_ltI (by omega) (by omega)).mp hst9) (by omega) d_M_boat_45 (fun H locs hw hS => ?_)
      have hw := mW_setRow (t := 5) (j := 5) (by decide) (by decide) (rfl) hw
      refine lv_aload_n hx hb d_M_boat_46 rfl (lv_at hl 0 rfl) ?_
      refine lv_dup hx hb d_M_boat_47 rfl ?_
      refine nw_get hx hb hts i_M hown hK hw (64) (mW_64) rfl 9 (by decide) (hts _ kw_668) (fun _ h9 => h9) rfl d_M_boat_48 ?_
      refine lv_iconst (v := nI 1) hx hb d_M_boat_51 (by decide) ?_
      refine lv_iadd hx hb d_M_boat_52 ?_
      refine lv_ei (y := nI (n 3 + 1)) (nI_add _ _) ?_
      refine nw_put (v := .int (nI (n 3 + 1))) (ty := .int) hx hb hts i_M t_M tk_M n_M hown hK hw hS (64) (mW_64) rfl 9 (by decide) (hts _ kw_668) (fun _ h9 => h9) rfl (by decide +kernel) (rfl) (rfl) (Nat.le_of_ble_eq_true rfl) d_M_boat_53 (fun H locs hw hS => ?_)
      have hw := nw_W.as (wn' := mW ad tC (va_up n 3 (n 3 + 1)) (va_up (va_up J 0 (nI 0)) 3 (nI 0)) bw L bX aY (upR S 5 5 (upd (S 5 5) (n 3) x1))) (mW_setO (n' := (va_up n 3 (n 3 + 1))) (J' := (va_up (va_up J 0 (nI 0)) 3 (nI 0))) (bw' := bw) rfl hw) rfl
      refine lv_aload_n hx hb d_M_boat_56 rfl (lv_at hl 0 rfl) ?_
      refine nw_get hx hb hts i_M hown hK hw (64) (mW_64) rfl 9 (by decide) (hts _ kw_668) (fun _ h9 => h9) rfl d_M_boat_57 ?_
      refine lv_iconst (v := nI 1) hx hb d_M_boat_60 (by decide) ?_
      refine lv_isub hx hb d_M_boat_61 ?_
      refine lv_ei (y := nI (n 3)) (by show nI (n 3 + 1) - nI 1 = _; exact pk_sub (by omega)) ?_
      exact nw_iret hQ hx hb hr hlocks hw hS (nw_mo_ok (fun h => h hok9) (fun h => h hst9) (⟨rfl, rfl⟩)) (Nat.le_of_ble_eq_true rfl) (Nat.le_of_ble_eq_true rfl) d_M_boat_62
    · skip
      refine lv_iconst (v := nI 0) hx hb d_M_boat_29 (by decide) ?_
      exact nw_iret hQ hx hb hr hlocks hw hS (nw_mo_bad (Wb := (fun t => mW ad tC n (va_up J 0 t) bw L bX aY S)) ha9 hs9 (b2_1 c_26)) (Nat.le_of_ble_eq_true rfl) (Nat.le_of_ble_eq_true rfl) d_M_boat_30
  · skip
    have hbs : nI (n 3) < nI 3 := Int32.not_le.mp c_15
    refine lv_iconst (v := nI 1) hx hb d_M_boat_18 (by decide) ?_
    refine lv_goto (tgt := 23) hx hb d_M_boat_19 (by decide) ?_
    have ha9 : b2 ((0) ≤ (((x1).toInt64)) ∧ (((x1).toInt64)) ≤ (100000000)) = 0 ↔ ¬ ((nI 0 ≤ x1 ∧ x1 ≤ 100000000)) := b2_not.trans (not_congr (in_c rfl rfl))
    have hs9 : nI 1 = 0 ↔ ¬ (nI (n 3) < nI 3) := ⟨fun h => absurd h (by decide), fun h => absurd hbs h⟩
    refine nw_callD (nw_goV (n := 2) (As := [.int (b2 ((0) ≤ (((x1).toInt64)) ∧ (((x1).toInt64)) ≤ (100000000))), .int (nI 1)]) (rest := []) hSx hA hKs hw hS (c_M_refuses l D tC A ad n J bw L bX aY S hN (b2 ((0) ≤ (((x1).toInt64)) ∧ (((x1).toInt64)) ≤ (100000000))) (nI 1)) kw_774 kw_771 kw_773 ks_M_refuses kw_8 rfl rfl (by decide +kernel) ⟨Nat.le_of_ble_eq_true rfl, Nat.le_of_ble_eq_true rfl⟩ (nw_recv hK hw (mW_64) rfl) rfl hl.1 (Nat.le_of_ble_eq_true rfl) d_M_boat_23 ⟨Nat.le_of_ble_eq_true rfl, Nat.le_of_ble_eq_true rfl⟩) hS (fun H locs hw hS => ?_)
    refine lv_if_eq (tgt := 31) hx hb d_M_boat_26 (by decide) (fun c_26 => ?_) (fun c_26 => ?_)
    · skip
      have hno9 := b2_0 c_26
      have hok9 : (nI 0 ≤ x1 ∧ x1 ≤ 100000000) := Classical.not_not.mp (fun h => hno9 (Or.inl (ha9.mpr h)))
      have hst9 : nI (n 3) < nI 3 := Classical.not_not.mp (fun h => hno9 (Or.inr (hs9.mpr h)))
      have hw := nw_W.as (wn' := mW ad tC n (va_up J 0 (nI 0)) bw L bX aY S) hw (by rw [rfI_ok hno9])
      refine lv_aload_n hx hb d_M_boat_31 rfl (lv_at hl 0 rfl) ?_
      refine lv_iconst (v := nI 0) hx hb d_M_boat_32 (by decide) ?_
      refine nw_put (v := .int (nI 0)) (ty := .boolean) hx hb hts i_M t_M tk_M n_M hown hK hw hS (64) (mW_64) rfl 21 (by decide) (hts _ kw_680) (fun _ h9 => h9) rfl (by decide +kernel) (rfl) (rfl) (Nat.le_of_ble_eq_true rfl) d_M_boat_33 (fun H locs hw hS => ?_)
      have hw := nw_W.as (wn' := mW ad tC n (va_up (va_up J 0 (nI 0)) 3 (nI 0)) bw L bX aY S) (mW_setO (n' := n) (J' := (va_up (va_up J 0 (nI 0)) 3 (nI 0))) (bw' := bw) rfl hw) rfl
      refine lv_aload_n hx hb d_M_boat_36 rfl (lv_at hl 0 rfl) ?_
      refine nw_get hx hb hts i_M hown hK hw (64) (mW_64) rfl 10 (by decide) (hts _ kw_669) (fun _ h9 => h9) rfl d_M_boat_37 ?_
      refine lv_aload_n hx hb d_M_boat_40 rfl (lv_at hl 0 rfl) ?_
      refine nw_get hx hb hts i_M hown hK hw (64) (mW_64) rfl 9 (by decide) (hts _ kw_668) (fun _ h9 => h9) rfl d_M_boat_41 ?_
      refine lv_iload_n hx hb d_M_boat_44 rfl (lv_at hl 1 rfl) ?_
      refine nw_iast hx hb hK hw hS (185) 0 (mW_row (t := 5) (j := 5) (by decide) (by decide) (rfl)) rfl (n 3) (rfl) ((nI_ltI (by omega) (by omega)).mp hst9) (by omega) d_M_boat_45 (fun H locs hw hS => ?_)
      have hw := mW_setRow (t := 5) (j := 5) (by decide) (by decide) (rfl) hw
      refine lv_aload_n hx hb d_M_boat_46 rfl (lv_at hl 0 rfl) ?_
      refine lv_dup hx hb d_M_boat_47 rfl ?_
      refine nw_get hx hb hts i_M hown hK hw (64) (mW_64) rfl 9 (by decide) (hts _ kw_668) (fun _ h9 => h9) rfl d_M_boat_48 ?_
      refine lv_iconst (v := nI 1) hx hb d_M_boat_51 (by decide) ?_
      refine lv_iadd hx hb d_M_boat_52 ?_
      refine lv_ei (y := nI (n 3 + 1)) (nI_add _ _) ?_
      refine nw_put (v := .int (nI (n 3 + 1))) (ty := .int) hx hb hts i_M t_M tk_M n_M hown hK hw hS (64) (mW_64) rfl 9 (by decide) (hts _ kw_668) (fun _ h9 => h9) rfl (by decide +kernel) (rfl) (rfl) (Nat.le_of_ble_eq_true rfl) d_M_boat_53 (fun H locs hw hS => ?_)
      have hw := nw_W.as (wn' := mW ad tC (va_up n 3 (n 3 + 1)) (va_up (va_up J 0 (nI 0)) 3 (nI 0)) bw L bX aY (upR S 5 5 (upd (S 5 5) (n 3) x1))) (mW_setO (n' := (va_up n 3 (n 3 + 1))) (J' := (va_up (va_up J 0 (nI 0)) 3 (nI 0))) (bw' := bw) rfl hw) rfl
      refine lv_aload_n hx hb d_M_boat_56 rfl (lv_at hl 0 rfl) ?_
      refine nw_get hx hb hts i_M hown hK hw (64) (mW_64) rfl 9 (by decide) (hts _ kw_668) (fun _ h9 => h9) rfl d_M_boat_57 ?_
      refine lv_iconst (v := nI 1) hx hb d_M_boat_60 (by decide) ?_
      refine lv_isub hx hb d_M_boat_61 ?_
      refine lv_ei (y := nI (n 3)) (by show nI (n 3 + 1) - nI 1 = _; exact pk_sub (by omega)) ?_
      exact nw_iret hQ hx hb hr hlocks hw hS (nw_mo_ok (fun h => h hok9) (fun h => h hst9) (⟨rfl, rfl⟩)) (Nat.le_of_ble_eq_true rfl) (Nat.le_of_ble_eq_true rfl) d_M_boat_62
    · skip
      refine lv_iconst (v := nI 0) hx hb d_M_boat_29 (by decide) ?_
      exact nw_iret hQ hx hb hr hlocks hw hS (nw_mo_bad (Wb := (fun t => mW ad tC n (va_up J 0 t) bw L bX aY S)) ha9 hs9 (b2_1 c_26)) (Nat.le_of_ble_eq_true rfl) (Nat.le_of_ble_eq_true rfl) d_M_boat_30

set_option maxHeartbeats 4000000 in
set_option maxRecDepth 100000 in
/-- cage -/
theorem c_M_cage (l : Launch) (D : va_G) (tC : Nat → ClassId) (A : Nat → Prop) (ad : Nat → Nat) (n : Nat → Nat) (J : Nat → Int32) (bw : Int64) (L : Nat → Nat → Int64) (bX : Nat → Option va_E) (aY : Nat → Nat → Option (ClassId × Nat)) (S : Nat → Nat → Nat → Int32) (hN : hpN n) (x1 : Int32) : nw_Met l y_M_cage [Cond.code y_M_cage b_M_cage 2 (some .int)] ({ frames := 1, cells := 0, slots := 0, locals := 25 } : Room) D hpC A [.ref (ad (64)), .int (x1)] (nw_pre D hpC (hpT tC) A (mW ad tC n J bw L bX aY S) ad) (nw_mo (¬ ((0 ≤ x1 ∧ x1 < nI (n 1)))) (¬ (nI (n 2) < nI 6)) (fun t => mW ad tC n (va_up J 0 t) bw L bX aY S) ad (some (.int (nI 0))) 2 (fun o wn' => o = some (.int (nI (n 2))) ∧ wn' = mW ad tC (va_up n 2 (n 2 + 1)) (va_up (va_up J 0 (nI 0)) 3 (nI 0)) bw L bX aY (upR S 5 2 (upd (S 5 2) (n 2) x1)))) 0 0 := by
  refine nw_bodyK (by decide) (Nat.le_of_ble_eq_true rfl) ?_
  intro p e s m below meth cd ls args Q hSx hr hlocks hname hA hKs hw hS hl hQ
  obtain ⟨hx, hb, hml, hown, hts⟩ := id hSx
  have hK := hKs.1
  have hl : lv_has ls 2 [(0, .ref (ad (64))), (1, .int (x1))] := hl
  obtain ⟨hn0, hn0', hn1, hn2, hn3, hn4⟩ := id hN
  refine lv_aload_n hx hb d_M_cage_0 rfl (lv_at hl 0 rfl) ?_
  refine lv_iload_n hx hb d_M_cage_1 rfl (lv_at hl 1 rfl) ?_
  refine lv_i2l (v := ((x1).toInt64)) hx hb d_M_cage_2 rfl ?_
  refine lv_lconst (v := 0) hx hb d_M_cage_3 (by decide) ?_
  refine lv_aload_n hx hb d_M_cage_4 rfl (lv_at hl 0 rfl) ?_
  refine nw_get hx hb hts i_M hown hK hw (64) (mW_64) rfl 2 (by decide) (hts _ kw_661) (fun _ h9 => h9) rfl d_M_cage_5 ?_
  refine lv_iconst (v := nI 1) hx hb d_M_cage_8 (by decide) ?_
  refine lv_isub hx hb d_M_cage_9 ?_
  refine lv_i2l (v := ((((nI (n 1)) - (nI 1))).toInt64)) hx hb d_M_cage_10 rfl ?_
  refine nw_callD (nw_goS (n := 3) (As := [.long (((x1).toInt64)), .long (0), .long (((((nI (n 1)) - (nI 1))).toInt64))]) (rest := [.ref (ad (64))]) hSx hA hKs hw hS (c_M_in l D tC A ad n J bw L bX aY S S scm_rf hN (((x1).toInt64)) (0) (((((nI (n 1)) - (nI 1))).toInt64))) kw_770 kw_768 kw_769 kw_8 rfl rfl (by decide +kernel) ⟨Nat.le_of_ble_eq_true rfl, Nat.le_of_ble_eq_true rfl⟩ rfl hl.1 (Nat.le_of_ble_eq_true rfl) d_M_cage_11 ⟨Nat.le_of_ble_eq_true rfl, Nat.le_of_ble_eq_true rfl⟩) hS (fun H locs hw hS => ?_)
  refine lv_aload_n hx hb d_M_cage_14 rfl (lv_at hl 0 rfl) ?_
  refine nw_get hx hb hts i_M hown hK hw (64) (mW_64) rfl 5 (by decide) (hts _ kw_664) (fun _ h9 => h9) rfl d_M_cage_15 ?_
  refine lv_bipush (v := nI 6) hx hb d_M_cage_18 (by decide) ?_
  refine lv_icmp_ge (tgt := 27) hx hb d_M_cage_20 (by decide) (fun c_20 => ?_) (fun c_20 => ?_)
  · skip
    have hbsn : ¬ (nI (n 2) < nI 6) := Int32.not_lt.mpr c_20
    refine lv_iconst (v := nI 0) hx hb d_M_cage_27 (by decide) ?_
    have ha9 : b2 ((0) ≤ (((x1).toInt64)) ∧ (((x1).toInt64)) ≤ (((((nI (n 1)) - (nI 1))).toInt64))) = 0 ↔ ¬ ((0 ≤ x1 ∧ x1 < nI (n 1))) := b2_not.trans (not_congr (in_n (by omega)))
    have hs9 : nI 0 = 0 ↔ ¬ (nI (n 2) < nI 6) := ⟨fun _ => hbsn, fun _ => rfl⟩
    refine nw_callD (nw_goV (n := 2) (As := [.int (b2 ((0) ≤ (((x1).toInt64)) ∧ (((x1).toInt64)) ≤ (((((nI (n 1)) - (nI 1))).toInt64)))), .int (nI 0)]) (rest := []) hSx hA hKs hw hS (c_M_refuses l D tC A ad n J bw L bX aY S hN (b2 ((0) ≤ (((x1).toInt64)) ∧ (((x1).toInt64)) ≤ (((((nI (n 1)) - (nI 1))).toInt64)))) (nI 0)) kw_774 kw_771 kw_773 ks_M_refuses kw_8 rfl rfl (by decide +kernel) ⟨Nat.le_of_ble_eq_true rfl, Nat.le_of_ble_eq_true rfl⟩ (nw_recv hK hw (mW_64) rfl) rfl hl.1 (Nat.le_of_ble_eq_true rfl) d_M_cage_28 ⟨Nat.le_of_ble_eq_true rfl, Nat.le_of_ble_eq_true rfl⟩) hS (fun H locs hw hS => ?_)
    refine lv_if_eq (tgt := 36) hx hb d_M_cage_31 (by decide) (fun c_31 => ?_) (fun c_31 => ?_)
    · skip
      have hno9 := b2_0 c_31
      have hok9 : (0 ≤ x1 ∧ x1 < nI (n 1)) := Classical.not_not.mp (fun h => hno9 (Or.inl (ha9.mpr h)))
      have hst9 : nI (n 2) < nI 6 := Classical.not_not.mp (fun h => hno9 (Or.inr (hs9.mpr h)))
      have hw := nw_W.as (wn' := mW ad tC n (va_up J 0 (nI 0)) bw L bX aY S) hw (by rw [rfI_ok hno9])
      refine lv_aload_n hx hb d_M_cage_36 rfl (lv_at hl 0 rfl) ?_
      refine lv_iconst (v := nI 0) hx hb d_M_cage_37 (by decide) ?_
      refine nw_put (v := .int (nI 0)) (ty := .boolean) hx hb hts i_M t_M tk_M n_M hown hK hw hS (64) (mW_64) rfl 21 (by decide) (hts _ kw_680) (fun _ h9 => h9) rfl (by decide +kernel) (rfl) (rfl) (Nat.le_of_ble_eq_true rfl) d_M_cage_38 (fun H locs hw hS => ?_)
      have hw := nw_W.as (wn' := mW ad tC n (va_up (va_up J 0 (nI 0)) 3 (nI 0)) bw L bX aY S) (mW_setO (n' := n) (J' := (va_up (va_up J 0 (nI 0)) 3 (nI 0))) (bw' := bw) rfl hw) rfl
      refine lv_aload_n hx hb d_M_cage_41 rfl (lv_at hl 0 rfl) ?_
      refine nw_get hx hb hts i_M hown hK hw (64) (mW_64) rfl 6 (by decide) (hts _ kw_665) (fun _ h9 => h9) rfl d_M_cage_42 ?_
      refine lv_aload_n hx hb d_M_cage_45 rfl (lv_at hl 0 rfl) ?_
      refine nw_get hx hb hts i_M hown hK hw (64) (mW_64) rfl 5 (by decide) (hts _ kw_664) (fun _ h9 => h9) rfl d_M_cage_46 ?_
      refine lv_iload_n hx hb d_M_cage_49 rfl (lv_at hl 1 rfl) ?_
      refine nw_iast hx hb hK hw hS (182) 0 (mW_row (t := 5) (j := 2) (by decide) (by decide) (rfl)) rfl (n 2) (rfl) ((nI_ltI (by omega) (by omega)).mp hst9) (by omega) d_M_cage_50 (fun H locs hw hS => ?_)
      have hw := mW_setRow (t := 5) (j := 2) (by decide) (by decide) (rfl) hw
      refine lv_aload_n hx hb d_M_cage_51 rfl (lv_at hl 0 rfl) ?_
      refine lv_dup hx hb d_M_cage_52 rfl ?_
      refine nw_get hx hb hts i_M hown hK hw (64) (mW_64) rfl 5 (by decide) (hts _ kw_664) (fun _ h9 => h9) rfl d_M_cage_53 ?_
      refine lv_iconst (v := nI 1) hx hb d_M_cage_56 (by decide) ?_
      refine lv_iadd hx hb d_M_cage_57 ?_
      refine lv_ei (y := nI (n 2 + 1)) (nI_add _ _) ?_
      refine nw_put (v := .int (nI (n 2 + 1))) (ty := .int) hx hb hts i_M t_M tk_M n_M hown hK hw hS (64) (mW_64) rfl 5 (by decide) (hts _ kw_664) (fun _ h9 => h9) rfl (by decide +kernel) (rfl) (rfl) (Nat.le_of_ble_eq_true rfl) d_M_cage_58 (fun H locs hw hS => ?_)
      have hw := nw_W.as (wn' := mW ad tC (va_up n 2 (n 2 + 1)) (va_up (va_up J 0 (nI 0)) 3 (nI 0)) bw L bX aY (upR S 5 2 (upd (S 5 2) (n 2) x1))) (mW_setO (n' := (va_up n 2 (n 2 + 1))) (J' := (va_up (va_up J 0 (nI 0)) 3 (nI 0))) (bw' := bw) rfl hw) rfl
      refine lv_aload_n hx hb d_M_cage_61 rfl (lv_at hl 0 rfl) ?_
      refine nw_get hx hb hts i_M hown hK hw (64) (mW_64) rfl 5 (by decide) (hts _ kw_664) (fun _ h9 => h9) rfl d_M_cage_62 ?_
      refine lv_iconst (v := nI 1) hx hb d_M_cage_65 (by decide) ?_
      refine lv_isub hx hb d_M_cage_66 ?_
      refine lv_ei (y := nI (n 2)) (by show nI (n 2 + 1) - nI 1 = _; exact pk_sub (by omega)) ?_
      exact nw_iret hQ hx hb hr hlocks hw hS (nw_mo_ok (fun h => h hok9) (fun h => h hst9) (⟨rfl, rfl⟩)) (Nat.le_of_ble_eq_true rfl) (Nat.le_of_ble_eq_true rfl) d_M_cage_67
    · skip
      refine lv_iconst (v := nI 0) hx hb d_M_cage_34 (by decide) ?_
      exact nw_iret hQ hx hb hr hlocks hw hS (nw_mo_bad (Wb := (fun t => mW ad tC n (va_up J 0 t) bw L bX aY S)) ha9 hs9 (b2_1 c_31)) (Nat.le_of_ble_eq_true rfl) (Nat.le_of_ble_eq_true rfl) d_M_cage_35
  · skip
    have hbs : nI (n 2) < nI 6 := Int32.not_le.mp c_20
    refine lv_iconst (v := nI 1) hx hb d_M_cage_23 (by decide) ?_
    refine lv_goto (tgt := 28) hx hb d_M_cage_24 (by decide) ?_
    have ha9 : b2 ((0) ≤ (((x1).toInt64)) ∧ (((x1).toInt64)) ≤ (((((nI (n 1)) - (nI 1))).toInt64))) = 0 ↔ ¬ ((0 ≤ x1 ∧ x1 < nI (n 1))) := b2_not.trans (not_congr (in_n (by omega)))
    have hs9 : nI 1 = 0 ↔ ¬ (nI (n 2) < nI 6) := ⟨fun h => absurd h (by decide), fun h => absurd hbs h⟩
    refine nw_callD (nw_goV (n := 2) (As := [.int (b2 ((0) ≤ (((x1).toInt64)) ∧ (((x1).toInt64)) ≤ (((((nI (n 1)) - (nI 1))).toInt64)))), .int (nI 1)]) (rest := []) hSx hA hKs hw hS (c_M_refuses l D tC A ad n J bw L bX aY S hN (b2 ((0) ≤ (((x1).toInt64)) ∧ (((x1).toInt64)) ≤ (((((nI (n 1)) - (nI 1))).toInt64)))) (nI 1)) kw_774 kw_771 kw_773 ks_M_refuses kw_8 rfl rfl (by decide +kernel) ⟨Nat.le_of_ble_eq_true rfl, Nat.le_of_ble_eq_true rfl⟩ (nw_recv hK hw (mW_64) rfl) rfl hl.1 (Nat.le_of_ble_eq_true rfl) d_M_cage_28 ⟨Nat.le_of_ble_eq_true rfl, Nat.le_of_ble_eq_true rfl⟩) hS (fun H locs hw hS => ?_)
    refine lv_if_eq (tgt := 36) hx hb d_M_cage_31 (by decide) (fun c_31 => ?_) (fun c_31 => ?_)
    · skip
      have hno9 := b2_0 c_31
      have hok9 : (0 ≤ x1 ∧ x1 < nI (n 1)) := Classical.not_not.mp (fun h => hno9 (Or.inl (ha9.mpr h)))
      have hst9 : nI (n 2) < nI 6 := Classical.not_not.mp (fun h => hno9 (Or.inr (hs9.mpr h)))
      have hw := nw_W.as (wn' := mW ad tC n (va_up J 0 (nI 0)) bw L bX aY S) hw (by rw [rfI_ok hno9])
      refine lv_aload_n hx hb d_M_cage_36 rfl (lv_at hl 0 rfl) ?_
      refine lv_iconst (v := nI 0) hx hb d_M_cage_37 (by decide) ?_
      refine nw_put (v := .int (nI 0)) (ty := .boolean) hx hb hts i_M t_M tk_M n_M hown hK hw hS (64) (mW_64) rfl 21 (by decide) (hts _ kw_680) (fun _ h9 => h9) rfl (by decide +kernel) (rfl) (rfl) (Nat.le_of_ble_eq_true rfl) d_M_cage_38 (fun H locs hw hS => ?_)
      have hw := nw_W.as (wn' := mW ad tC n (va_up (va_up J 0 (nI 0)) 3 (nI 0)) bw L bX aY S) (mW_setO (n' := n) (J' := (va_up (va_up J 0 (nI 0)) 3 (nI 0))) (bw' := bw) rfl hw) rfl
      refine lv_aload_n hx hb d_M_cage_41 rfl (lv_at hl 0 rfl) ?_
      refine nw_get hx hb hts i_M hown hK hw (64) (mW_64) rfl 6 (by decide) (hts _ kw_665) (fun _ h9 => h9) rfl d_M_cage_42 ?_
      refine lv_aload_n hx hb d_M_cage_45 rfl (lv_at hl 0 rfl) ?_
      refine nw_get hx hb hts i_M hown hK hw (64) (mW_64) rfl 5 (by decide) (hts _ kw_664) (fun _ h9 => h9) rfl d_M_cage_46 ?_
      refine lv_iload_n hx hb d_M_cage_49 rfl (lv_at hl 1 rfl) ?_
      refine nw_iast hx hb hK hw hS (182) 0 (mW_row (t := 5) (j := 2) (by decide) (by decide) (rfl)) rfl (n 2) (rfl) ((nI_ltI (by omega) (by omega)).mp hst9) (by omega) d_M_cage_50 (fun H locs hw hS => ?_)
      have hw := mW_setRow (t := 5) (j := 2) (by decide) (by decide) (rfl) hw
      refine lv_aload_n hx hb d_M_cage_51 rfl (lv_at hl 0 rfl) ?_
      refine lv_dup hx hb d_M_cage_52 rfl ?_
      refine nw_get hx hb hts i_M hown hK hw (64) (mW_64) rfl 5 (by decide) (hts _ kw_664) (fun _ h9 => h9) rfl d_M_cage_53 ?_
      refine lv_iconst (v := nI 1) hx hb d_M_cage_56 (by decide) ?_
      refine lv_iadd hx hb d_M_cage_57 ?_
      refine lv_ei (y := nI (n 2 + 1)) (nI_add _ _) ?_
      refine nw_put (v := .int (nI (n 2 + 1))) (ty := .int) hx hb hts i_M t_M tk_M n_M hown hK hw hS (64) (mW_64) rfl 5 (by decide) (hts _ kw_664) (fun _ h9 => h9) rfl (by decide +kernel) (rfl) (rfl) (Nat.le_of_ble_eq_true rfl) d_M_cage_58 (fun H locs hw hS => ?_)
      have hw := nw_W.as (wn' := mW ad tC (va_up n 2 (n 2 + 1)) (va_up (va_up J 0 (nI 0)) 3 (nI 0)) bw L bX aY (upR S 5 2 (upd (S 5 2) (n 2) x1))) (mW_setO (n' := (va_up n 2 (n 2 + 1))) (J' := (va_up (va_up J 0 (nI 0)) 3 (nI 0))) (bw' := bw) rfl hw) rfl
      refine lv_aload_n hx hb d_M_cage_61 rfl (lv_at hl 0 rfl) ?_
      refine nw_get hx hb hts i_M hown hK hw (64) (mW_64) rfl 5 (by decide) (hts _ kw_664) (fun _ h9 => h9) rfl d_M_cage_62 ?_
      refine lv_iconst (v := nI 1) hx hb d_M_cage_65 (by decide) ?_
      refine lv_isub hx hb d_M_cage_66 ?_
      refine lv_ei (y := nI (n 2)) (by show nI (n 2 + 1) - nI 1 = _; exact pk_sub (by omega)) ?_
      exact nw_iret hQ hx hb hr hlocks hw hS (nw_mo_ok (fun h => h hok9) (fun h => h hst9) (⟨rfl, rfl⟩)) (Nat.le_of_ble_eq_true rfl) (Nat.le_of_ble_eq_true rfl) d_M_cage_67
    · skip
      refine lv_iconst (v := nI 0) hx hb d_M_cage_34 (by decide) ?_
      exact nw_iret hQ hx hb hr hlocks hw hS (nw_mo_bad (Wb := (fun t => mW ad tC n (va_up J 0 t) bw L bX aY S)) ha9 hs9 (b2_1 c_31)) (Nat.le_of_ble_eq_true rfl) (Nat.le_of_ble_eq_true rfl) d_M_cage_35

set_option maxHeartbeats 4000000 in
set_option maxRecDepth 100000 in
/-- closed -/
theorem c_M_closed (l : Launch) (D : va_G) (tC : Nat → ClassId) (A : Nat → Prop) (ad : Nat → Nat) (n : Nat → Nat) (J : Nat → Int32) (bw : Int64) (L : Nat → Nat → Int64) (bX : Nat → Option va_E) (aY : Nat → Nat → Option (ClassId × Nat)) (S : Nat → Nat → Nat → Int32) (hN : hpN n) (x1 x2 x3 : Int32) (hz : x3 = 0 ∨ x3 = 1) (hzz : ∀ j, S 5 1 j = 0 ∨ S 5 1 j = 1) : nw_Met l y_M_closed [Cond.code y_M_closed b_M_closed 5 (some .boolean)] ({ frames := 1, cells := 0, slots := 0, locals := 25 } : Room) D hpC A [.ref (ad (64)), .int (x1), .int (x2), .int (x3)] (nw_pre D hpC (hpT tC) A (mW ad tC n J bw L bX aY S) ad) (nw_mo (¬ ((0 ≤ x1 ∧ x1 < nI (n 1)) ∧ (0 ≤ x2 ∧ x2 < nI (n 0)))) (¬ (True)) (fun t => mW ad tC n (va_up J 0 t) bw L bX aY S) ad (some (.int (nI 0))) 2 (fun o wn' => o = some (.int (S 5 1 (8 * (x1.toNatClampNeg) + (x2.toNatClampNeg)))) ∧ wn' = mW ad tC n (va_up (va_up J 0 (nI 0)) 3 (nI 0)) bw L bX aY (upR S 5 1 (upd (S 5 1) (8 * (x1.toNatClampNeg) + (x2.toNatClampNeg)) x3)))) 0 0 := by
  refine nw_bodyK (by decide) (Nat.le_of_ble_eq_true rfl) ?_
  intro p e s m below meth cd ls args Q hSx hr hlocks hname hA hKs hw hS hl hQ
  obtain ⟨hx, hb, hml, hown, hts⟩ := id hSx
  have hK := hKs.1
  have hl : lv_has ls 5 [(0, .ref (ad (64))), (1, .int (x1)), (2, .int (x2)), (3, .int (x3))] := hl
  obtain ⟨hn0, hn0', hn1, hn2, hn3, hn4⟩ := id hN
  refine lv_aload_n hx hb d_M_closed_0 rfl (lv_at hl 0 rfl) ?_
  refine lv_iload_n hx hb d_M_closed_1 rfl (lv_at hl 1 rfl) ?_
  refine lv_i2l (v := ((x1).toInt64)) hx hb d_M_closed_2 rfl ?_
  refine lv_lconst (v := 0) hx hb d_M_closed_3 (by decide) ?_
  refine lv_aload_n hx hb d_M_closed_4 rfl (lv_at hl 0 rfl) ?_
  refine nw_get hx hb hts i_M hown hK hw (64) (mW_64) rfl 2 (by decide) (hts _ kw_661) (fun _ h9 => h9) rfl d_M_closed_5 ?_
  refine lv_iconst (v := nI 1) hx hb d_M_closed_8 (by decide) ?_
  refine lv_isub hx hb d_M_closed_9 ?_
  refine lv_i2l (v := ((((nI (n 1)) - (nI 1))).toInt64)) hx hb d_M_closed_10 rfl ?_
  refine nw_callD (nw_goS (n := 3) (As := [.long (((x1).toInt64)), .long (0), .long (((((nI (n 1)) - (nI 1))).toInt64))]) (rest := [.ref (ad (64))]) hSx hA hKs hw hS (c_M_in l D tC A ad n J bw L bX aY S S scm_rf hN (((x1).toInt64)) (0) (((((nI (n 1)) - (nI 1))).toInt64))) kw_770 kw_768 kw_769 kw_8 rfl rfl (by decide +kernel) ⟨Nat.le_of_ble_eq_true rfl, Nat.le_of_ble_eq_true rfl⟩ rfl hl.1 (Nat.le_of_ble_eq_true rfl) d_M_closed_11 ⟨Nat.le_of_ble_eq_true rfl, Nat.le_of_ble_eq_true rfl⟩) hS (fun H locs hw hS => ?_)
  refine lv_if_eq (tgt := 37) hx hb d_M_closed_14 (by decide) (fun c_14 => ?_) (fun c_14 => ?_)
  · skip
    have hneg : ¬ ((0 ≤ x1 ∧ x1 < nI (n 1)) ∧ (0 ≤ x2 ∧ x2 < nI (n 0))) := fun h => b2_0 c_14 ((show _ ↔ (0 ≤ x1 ∧ x1 < nI (n 1)) from in_n (by omega)).mpr (h.1))
    refine lv_iconst (v := nI 0) hx hb d_M_closed_37 (by decide) ?_
    refine lv_iconst (v := nI 1) hx hb d_M_closed_38 (by decide) ?_
    have ha9 : nI 0 = 0 ↔ ¬ ((0 ≤ x1 ∧ x1 < nI (n 1)) ∧ (0 ≤ x2 ∧ x2 < nI (n 0))) := ⟨fun _ => hneg, fun _ => rfl⟩
    have hs9 : nI 1 = 0 ↔ ¬ (True) := ⟨fun h => absurd h (by decide), fun h => absurd trivial h⟩
    refine nw_callD (nw_goV (n := 2) (As := [.int (nI 0), .int (nI 1)]) (rest := []) hSx hA hKs hw hS (c_M_refuses l D tC A ad n J bw L bX aY S hN (nI 0) (nI 1)) kw_774 kw_771 kw_773 ks_M_refuses kw_8 rfl rfl (by decide +kernel) ⟨Nat.le_of_ble_eq_true rfl, Nat.le_of_ble_eq_true rfl⟩ (nw_recv hK hw (mW_64) rfl) rfl hl.1 (Nat.le_of_ble_eq_true rfl) d_M_closed_39 ⟨Nat.le_of_ble_eq_true rfl, Nat.le_of_ble_eq_true rfl⟩) hS (fun H locs hw hS => ?_)
    refine lv_if_eq (tgt := 47) hx hb d_M_closed_42 (by decide) (fun c_42 => ?_) (fun c_42 => ?_)
    · skip
      have hno9 := b2_0 c_42
      have hok9 : (0 ≤ x1 ∧ x1 < nI (n 1)) ∧ (0 ≤ x2 ∧ x2 < nI (n 0)) := Classical.not_not.mp (fun h => hno9 (Or.inl (ha9.mpr h)))
      have hst9 : True := Classical.not_not.mp (fun h => hno9 (Or.inr (hs9.mpr h)))
      obtain ⟨i1, rfl, hi1⟩ := nat_of (by omega) hok9.1
      obtain ⟨i2, rfl, hi2⟩ := nat_of (by omega) hok9.2
      have hw := nw_W.as (wn' := mW ad tC n (va_up J 0 (nI 0)) bw L bX aY S) hw (by rw [rfI_ok hno9])
      refine lv_aload_n hx hb d_M_closed_47 rfl (lv_at hl 0 rfl) ?_
      refine lv_iconst (v := nI 0) hx hb d_M_closed_48 (by decide) ?_
      refine nw_put (v := .int (nI 0)) (ty := .boolean) hx hb hts i_M t_M tk_M n_M hown hK hw hS (64) (mW_64) rfl 21 (by decide) (hts _ kw_680) (fun _ h9 => h9) rfl (by decide +kernel) (rfl) (rfl) (Nat.le_of_ble_eq_true rfl) d_M_closed_49 (fun H locs hw hS => ?_)
      have hw := nw_W.as (wn' := mW ad tC n (va_up (va_up J 0 (nI 0)) 3 (nI 0)) bw L bX aY S) (mW_setO (n' := n) (J' := (va_up (va_up J 0 (nI 0)) 3 (nI 0))) (bw' := bw) rfl hw) rfl
      refine lv_aload_n hx hb d_M_closed_52 rfl (lv_at hl 0 rfl) ?_
      refine nw_get hx hb hts i_M hown hK hw (64) (mW_64) rfl 4 (by decide) (hts _ kw_663) (fun _ h9 => h9) rfl d_M_closed_53 ?_
      refine lv_bipush (v := nI 8) hx hb d_M_closed_56 (by decide) ?_
      refine lv_iload_n hx hb d_M_closed_58 rfl (lv_at hl 1 rfl) ?_
      refine lv_imul hx hb d_M_closed_59 ?_
      refine lv_iload_n hx hb d_M_closed_60 rfl (lv_at hl 2 rfl) ?_
      refine lv_iadd hx hb d_M_closed_61 ?_
      refine lv_ei (y := nI (8 * i1 + i2)) (ix8 _ _) ?_
      refine nw_zald hx hb hK hw (181) 2 (mW_row (t := 5) (j := 1) (by decide) (by decide) (rfl)) rfl (8 * i1 + i2) (rfl) (by omega) (by omega) d_M_closed_62 ?_
      refine lv_ei (y := S 5 1 (8 * i1 + i2)) (congrFun (scm_rf 5 1 (by omega)) _) ?_
      refine lv_istore (lv' := [(4, .int (S 5 1 (8 * i1 + i2))), (0, .ref (ad (64))), (1, .int (nI i1)), (2, .int (nI i2)), (3, .int (x3))]) hx hb d_M_closed_63 hl (by decide) rfl (fun ls hl => ?_)
      refine lv_aload_n hx hb d_M_closed_65 rfl (lv_at hl 1 rfl) ?_
      refine nw_get hx hb hts i_M hown hK hw (64) (mW_64) rfl 4 (by decide) (hts _ kw_663) (fun _ h9 => h9) rfl d_M_closed_66 ?_
      refine lv_bipush (v := nI 8) hx hb d_M_closed_69 (by decide) ?_
      refine lv_iload_n hx hb d_M_closed_71 rfl (lv_at hl 2 rfl) ?_
      refine lv_imul hx hb d_M_closed_72 ?_
      refine lv_iload_n hx hb d_M_closed_73 rfl (lv_at hl 3 rfl) ?_
      refine lv_iadd hx hb d_M_closed_74 ?_
      refine lv_ei (y := nI (8 * i1 + i2)) (ix8 _ _) ?_
      refine lv_iload_n hx hb d_M_closed_75 rfl (lv_at hl 4 rfl) ?_
      refine nw_zast (z := x3) hx hb hK hw hS (181) 2 (mW_row (t := 5) (j := 1) (by decide) (by decide) (rfl)) rfl (8 * i1 + i2) (rfl) (by omega) (by omega) (by rcases hz with rfl | rfl <;> rfl) d_M_closed_76 (fun H locs hw hS => ?_)
      have hw := mW_setRow (t := 5) (j := 1) (by decide) (by decide) (rfl) hw
      refine lv_iload hx hb d_M_closed_77 (lv_at hl 0 rfl) ?_
      exact nw_zret hQ hx hb hr (hzz _) hlocks hw hS (nw_mo_ok (fun h => h hok9) (fun h => h hst9) (by rw [nI_clamp (n := i1) (by omega), nI_clamp (n := i2) (by omega)]; exact ⟨rfl, rfl⟩)) (Nat.le_of_ble_eq_true rfl) (Nat.le_of_ble_eq_true rfl) d_M_closed_79
    · skip
      refine lv_iconst (v := nI 0) hx hb d_M_closed_45 (by decide) ?_
      exact nw_zret hQ hx hb hr (by first | exact Or.inl rfl | exact Or.inr rfl) hlocks hw hS (nw_mo_bad (Wb := (fun t => mW ad tC n (va_up J 0 t) bw L bX aY S)) ha9 hs9 (b2_1 c_42)) (Nat.le_of_ble_eq_true rfl) (Nat.le_of_ble_eq_true rfl) d_M_closed_46
  · skip
    have h1 : 0 ≤ x1 ∧ x1 < nI (n 1) := (show _ ↔ (0 ≤ x1 ∧ x1 < nI (n 1)) from in_n (by omega)).mp (b2_1 c_14)
    refine lv_iload_n hx hb d_M_closed_17 rfl (lv_at hl 2 rfl) ?_
    refine lv_i2l (v := ((x2).toInt64)) hx hb d_M_closed_18 rfl ?_
    refine lv_lconst (v := 0) hx hb d_M_closed_19 (by decide) ?_
    refine lv_aload_n hx hb d_M_closed_20 rfl (lv_at hl 0 rfl) ?_
    refine nw_get hx hb hts i_M hown hK hw (64) (mW_64) rfl 0 (by decide) (hts _ kw_659) (fun _ h9 => h9) rfl d_M_closed_21 ?_
    refine lv_iconst (v := nI 1) hx hb d_M_closed_24 (by decide) ?_
    refine lv_isub hx hb d_M_closed_25 ?_
    refine lv_i2l (v := ((((nI (n 0)) - (nI 1))).toInt64)) hx hb d_M_closed_26 rfl ?_
    refine nw_callD (nw_goS (n := 3) (As := [.long (((x2).toInt64)), .long (0), .long (((((nI (n 0)) - (nI 1))).toInt64))]) (rest := [.ref (ad (64))]) hSx hA hKs hw hS (c_M_in l D tC A ad n J bw L bX aY S S scm_rf hN (((x2).toInt64)) (0) (((((nI (n 0)) - (nI 1))).toInt64))) kw_770 kw_768 kw_769 kw_8 rfl rfl (by decide +kernel) ⟨Nat.le_of_ble_eq_true rfl, Nat.le_of_ble_eq_true rfl⟩ rfl hl.1 (Nat.le_of_ble_eq_true rfl) d_M_closed_27 ⟨Nat.le_of_ble_eq_true rfl, Nat.le_of_ble_eq_true rfl⟩) hS (fun H locs hw hS => ?_)
    refine lv_if_eq (tgt := 37) hx hb d_M_closed_30 (by decide) (fun c_30 => ?_) (fun c_30 => ?_)
    · skip
      have hneg : ¬ ((0 ≤ x1 ∧ x1 < nI (n 1)) ∧ (0 ≤ x2 ∧ x2 < nI (n 0))) := fun h => b2_0 c_30 ((show _ ↔ (0 ≤ x2 ∧ x2 < nI (n 0)) from in_n (by omega)).mpr (h.2))
      refine lv_iconst (v := nI 0) hx hb d_M_closed_37 (by decide) ?_
      refine lv_iconst (v := nI 1) hx hb d_M_closed_38 (by decide) ?_
      have ha9 : nI 0 = 0 ↔ ¬ ((0 ≤ x1 ∧ x1 < nI (n 1)) ∧ (0 ≤ x2 ∧ x2 < nI (n 0))) := ⟨fun _ => hneg, fun _ => rfl⟩
      have hs9 : nI 1 = 0 ↔ ¬ (True) := ⟨fun h => absurd h (by decide), fun h => absurd trivial h⟩
      refine nw_callD (nw_goV (n := 2) (As := [.int (nI 0), .int (nI 1)]) (rest := []) hSx hA hKs hw hS (c_M_refuses l D tC A ad n J bw L bX aY S hN (nI 0) (nI 1)) kw_774 kw_771 kw_773 ks_M_refuses kw_8 rfl rfl (by decide +kernel) ⟨Nat.le_of_ble_eq_true rfl, Nat.le_of_ble_eq_true rfl⟩ (nw_recv hK hw (mW_64) rfl) rfl hl.1 (Nat.le_of_ble_eq_true rfl) d_M_closed_39 ⟨Nat.le_of_ble_eq_true rfl, Nat.le_of_ble_eq_true rfl⟩) hS (fun H locs hw hS => ?_)
      refine lv_if_eq (tgt := 47) hx hb d_M_closed_42 (by decide) (fun c_42 => ?_) (fun c_42 => ?_)
      · skip
        have hno9 := b2_0 c_42
        have hok9 : (0 ≤ x1 ∧ x1 < nI (n 1)) ∧ (0 ≤ x2 ∧ x2 < nI (n 0)) := Classical.not_not.mp (fun h => hno9 (Or.inl (ha9.mpr h)))
        have hst9 : True := Classical.not_not.mp (fun h => hno9 (Or.inr (hs9.mpr h)))
        obtain ⟨i1, rfl, hi1⟩ := nat_of (by omega) hok9.1
        obtain ⟨i2, rfl, hi2⟩ := nat_of (by omega) hok9.2
        have hw := nw_W.as (wn' := mW ad tC n (va_up J 0 (nI 0)) bw L bX aY S) hw (by rw [rfI_ok hno9])
        refine lv_aload_n hx hb d_M_closed_47 rfl (lv_at hl 0 rfl) ?_
        refine lv_iconst (v := nI 0) hx hb d_M_closed_48 (by decide) ?_
        refine nw_put (v := .int (nI 0)) (ty := .boolean) hx hb hts i_M t_M tk_M n_M hown hK hw hS (64) (mW_64) rfl 21 (by decide) (hts _ kw_680) (fun _ h9 => h9) rfl (by decide +kernel) (rfl) (rfl) (Nat.le_of_ble_eq_true rfl) d_M_closed_49 (fun H locs hw hS => ?_)
        have hw := nw_W.as (wn' := mW ad tC n (va_up (va_up J 0 (nI 0)) 3 (nI 0)) bw L bX aY S) (mW_setO (n' := n) (J' := (va_up (va_up J 0 (nI 0)) 3 (nI 0))) (bw' := bw) rfl hw) rfl
        refine lv_aload_n hx hb d_M_closed_52 rfl (lv_at hl 0 rfl) ?_
        refine nw_get hx hb hts i_M hown hK hw (64) (mW_64) rfl 4 (by decide) (hts _ kw_663) (fun _ h9 => h9) rfl d_M_closed_53 ?_
        refine lv_bipush (v := nI 8) hx hb d_M_closed_56 (by decide) ?_
        refine lv_iload_n hx hb d_M_closed_58 rfl (lv_at hl 1 rfl) ?_
        refine lv_imul hx hb d_M_closed_59 ?_
        refine lv_iload_n hx hb d_M_closed_60 rfl (lv_at hl 2 rfl) ?_
        refine lv_iadd hx hb d_M_closed_61 ?_
        refine lv_ei (y := nI (8 * i1 + i2)) (ix8 _ _) ?_
        refine nw_zald hx hb hK hw (181) 2 (mW_row (t := 5) (j := 1) (by decide) (by decide) (rfl)) rfl (8 * i1 + i2) (rfl) (by omega) (by omega) d_M_closed_62 ?_
        refine lv_ei (y := S 5 1 (8 * i1 + i2)) (congrFun (scm_rf 5 1 (by omega)) _) ?_
        refine lv_istore (lv' := [(4, .int (S 5 1 (8 * i1 + i2))), (0, .ref (ad (64))), (1, .int (nI i1)), (2, .int (nI i2)), (3, .int (x3))]) hx hb d_M_closed_63 hl (by decide) rfl (fun ls hl => ?_)
        refine lv_aload_n hx hb d_M_closed_65 rfl (lv_at hl 1 rfl) ?_
        refine nw_get hx hb hts i_M hown hK hw (64) (mW_64) rfl 4 (by decide) (hts _ kw_663) (fun _ h9 => h9) rfl d_M_closed_66 ?_
        refine lv_bipush (v := nI 8) hx hb d_M_closed_69 (by decide) ?_
        refine lv_iload_n hx hb d_M_closed_71 rfl (lv_at hl 2 rfl) ?_
        refine lv_imul hx hb d_M_closed_72 ?_
        refine lv_iload_n hx hb d_M_closed_73 rfl (lv_at hl 3 rfl) ?_
        refine lv_iadd hx hb d_M_closed_74 ?_
        refine lv_ei (y := nI (8 * i1 + i2)) (ix8 _ _) ?_
        refine lv_iload_n hx hb d_M_closed_75 rfl (lv_at hl 4 rfl) ?_
        refine nw_zast (z := x3) hx hb hK hw hS (181) 2 (mW_row (t := 5) (j := 1) (by decide) (by decide) (rfl)) rfl (8 * i1 + i2) (rfl) (by omega) (by omega) (by rcases hz with rfl | rfl <;> rfl) d_M_closed_76 (fun H locs hw hS => ?_)
        have hw := mW_setRow (t := 5) (j := 1) (by decide) (by decide) (rfl) hw
        refine lv_iload hx hb d_M_closed_77 (lv_at hl 0 rfl) ?_
        exact nw_zret hQ hx hb hr (hzz _) hlocks hw hS (nw_mo_ok (fun h => h hok9) (fun h => h hst9) (by rw [nI_clamp (n := i1) (by omega), nI_clamp (n := i2) (by omega)]; exact ⟨rfl, rfl⟩)) (Nat.le_of_ble_eq_true rfl) (Nat.le_of_ble_eq_true rfl) d_M_closed_79
      · skip
        refine lv_iconst (v := nI 0) hx hb d_M_closed_45 (by decide) ?_
        exact nw_zret hQ hx hb hr (by first | exact Or.inl rfl | exact Or.inr rfl) hlocks hw hS (nw_mo_bad (Wb := (fun t => mW ad tC n (va_up J 0 t) bw L bX aY S)) ha9 hs9 (b2_1 c_42)) (Nat.le_of_ble_eq_true rfl) (Nat.le_of_ble_eq_true rfl) d_M_closed_46
    · skip
      have h2 : 0 ≤ x2 ∧ x2 < nI (n 0) := (show _ ↔ (0 ≤ x2 ∧ x2 < nI (n 0)) from in_n (by omega)).mp (b2_1 c_30)
      refine lv_iconst (v := nI 1) hx hb d_M_closed_33 (by decide) ?_
      refine lv_goto (tgt := 38) hx hb d_M_closed_34 (by decide) ?_
      refine lv_iconst (v := nI 1) hx hb d_M_closed_38 (by decide) ?_
      have ha9 : nI 1 = 0 ↔ ¬ ((0 ≤ x1 ∧ x1 < nI (n 1)) ∧ (0 ≤ x2 ∧ x2 < nI (n 0))) := ⟨fun h => absurd h (by decide), fun h => absurd ⟨h1, h2⟩ h⟩
      have hs9 : nI 1 = 0 ↔ ¬ (True) := ⟨fun h => absurd h (by decide), fun h => absurd trivial h⟩
      refine nw_callD (nw_goV (n := 2) (As := [.int (nI 1), .int (nI 1)]) (rest := []) hSx hA hKs hw hS (c_M_refuses l D tC A ad n J bw L bX aY S hN (nI 1) (nI 1)) kw_774 kw_771 kw_773 ks_M_refuses kw_8 rfl rfl (by decide +kernel) ⟨Nat.le_of_ble_eq_true rfl, Nat.le_of_ble_eq_true rfl⟩ (nw_recv hK hw (mW_64) rfl) rfl hl.1 (Nat.le_of_ble_eq_true rfl) d_M_closed_39 ⟨Nat.le_of_ble_eq_true rfl, Nat.le_of_ble_eq_true rfl⟩) hS (fun H locs hw hS => ?_)
      refine lv_if_eq (tgt := 47) hx hb d_M_closed_42 (by decide) (fun c_42 => ?_) (fun c_42 => ?_)
      · skip
        have hno9 := b2_0 c_42
        have hok9 : (0 ≤ x1 ∧ x1 < nI (n 1)) ∧ (0 ≤ x2 ∧ x2 < nI (n 0)) := Classical.not_not.mp (fun h => hno9 (Or.inl (ha9.mpr h)))
        have hst9 : True := Classical.not_not.mp (fun h => hno9 (Or.inr (hs9.mpr h)))
        obtain ⟨i1, rfl, hi1⟩ := nat_of (by omega) hok9.1
        obtain ⟨i2, rfl, hi2⟩ := nat_of (by omega) hok9.2
        have hw := nw_W.as (wn' := mW ad tC n (va_up J 0 (nI 0)) bw L bX aY S) hw (by rw [rfI_ok hno9])
        refine lv_aload_n hx hb d_M_closed_47 rfl (lv_at hl 0 rfl) ?_
        refine lv_iconst (v := nI 0) hx hb d_M_closed_48 (by decide) ?_
        refine nw_put (v := .int (nI 0)) (ty := .boolean) hx hb hts i_M t_M tk_M n_M hown hK hw hS (64) (mW_64) rfl 21 (by decide) (hts _ kw_680) (fun _ h9 => h9) rfl (by decide +kernel) (rfl) (rfl) (Nat.le_of_ble_eq_true rfl) d_M_closed_49 (fun H locs hw hS => ?_)
        have hw := nw_W.as (wn' := mW ad tC n (va_up (va_up J 0 (nI 0)) 3 (nI 0)) bw L bX aY S) (mW_setO (n' := n) (J' := (va_up (va_up J 0 (nI 0)) 3 (nI 0))) (bw' := bw) rfl hw) rfl
        refine lv_aload_n hx hb d_M_closed_52 rfl (lv_at hl 0 rfl) ?_
        refine nw_get hx hb hts i_M hown hK hw (64) (mW_64) rfl 4 (by decide) (hts _ kw_663) (fun _ h9 => h9) rfl d_M_closed_53 ?_
        refine lv_bipush (v := nI 8) hx hb d_M_closed_56 (by decide) ?_
        refine lv_iload_n hx hb d_M_closed_58 rfl (lv_at hl 1 rfl) ?_
        refine lv_imul hx hb d_M_closed_59 ?_
        refine lv_iload_n hx hb d_M_closed_60 rfl (lv_at hl 2 rfl) ?_
        refine lv_iadd hx hb d_M_closed_61 ?_
        refine lv_ei (y := nI (8 * i1 + i2)) (ix8 _ _) ?_
        refine nw_zald hx hb hK hw (181) 2 (mW_row (t := 5) (j := 1) (by decide) (by decide) (rfl)) rfl (8 * i1 + i2) (rfl) (by omega) (by omega) d_M_closed_62 ?_
        refine lv_ei (y := S 5 1 (8 * i1 + i2)) (congrFun (scm_rf 5 1 (by omega)) _) ?_
        refine lv_istore (lv' := [(4, .int (S 5 1 (8 * i1 + i2))), (0, .ref (ad (64))), (1, .int (nI i1)), (2, .int (nI i2)), (3, .int (x3))]) hx hb d_M_closed_63 hl (by decide) rfl (fun ls hl => ?_)
        refine lv_aload_n hx hb d_M_closed_65 rfl (lv_at hl 1 rfl) ?_
        refine nw_get hx hb hts i_M hown hK hw (64) (mW_64) rfl 4 (by decide) (hts _ kw_663) (fun _ h9 => h9) rfl d_M_closed_66 ?_
        refine lv_bipush (v := nI 8) hx hb d_M_closed_69 (by decide) ?_
        refine lv_iload_n hx hb d_M_closed_71 rfl (lv_at hl 2 rfl) ?_
        refine lv_imul hx hb d_M_closed_72 ?_
        refine lv_iload_n hx hb d_M_closed_73 rfl (lv_at hl 3 rfl) ?_
        refine lv_iadd hx hb d_M_closed_74 ?_
        refine lv_ei (y := nI (8 * i1 + i2)) (ix8 _ _) ?_
        refine lv_iload_n hx hb d_M_closed_75 rfl (lv_at hl 4 rfl) ?_
        refine nw_zast (z := x3) hx hb hK hw hS (181) 2 (mW_row (t := 5) (j := 1) (by decide) (by decide) (rfl)) rfl (8 * i1 + i2) (rfl) (by omega) (by omega) (by rcases hz with rfl | rfl <;> rfl) d_M_closed_76 (fun H locs hw hS => ?_)
        have hw := mW_setRow (t := 5) (j := 1) (by decide) (by decide) (rfl) hw
        refine lv_iload hx hb d_M_closed_77 (lv_at hl 0 rfl) ?_
        exact nw_zret hQ hx hb hr (hzz _) hlocks hw hS (nw_mo_ok (fun h => h hok9) (fun h => h hst9) (by rw [nI_clamp (n := i1) (by omega), nI_clamp (n := i2) (by omega)]; exact ⟨rfl, rfl⟩)) (Nat.le_of_ble_eq_true rfl) (Nat.le_of_ble_eq_true rfl) d_M_closed_79
      · skip
        refine lv_iconst (v := nI 0) hx hb d_M_closed_45 (by decide) ?_
        exact nw_zret hQ hx hb hr (by first | exact Or.inl rfl | exact Or.inr rfl) hlocks hw hS (nw_mo_bad (Wb := (fun t => mW ad tC n (va_up J 0 t) bw L bX aY S)) ha9 hs9 (b2_1 c_42)) (Nat.le_of_ble_eq_true rfl) (Nat.le_of_ble_eq_true rfl) d_M_closed_46

set_option maxHeartbeats 4000000 in
set_option maxRecDepth 100000 in
/-- weather -/
theorem c_M_weather (l : Launch) (D : va_G) (tC : Nat → ClassId) (A : Nat → Prop) (ad : Nat → Nat) (n : Nat → Nat) (J : Nat → Int32) (bw : Int64) (L : Nat → Nat → Int64) (bX : Nat → Option va_E) (aY : Nat → Nat → Option (ClassId × Nat)) (S : Nat → Nat → Nat → Int32) (hN : hpN n) (x1 x2 x3 : Int32) (hz : x3 = 0 ∨ x3 = 1) (hzz : ∀ j, S 5 6 j = 0 ∨ S 5 6 j = 1) : nw_Met l y_M_weather [Cond.code y_M_weather b_M_weather 5 (some .boolean)] ({ frames := 1, cells := 0, slots := 0, locals := 25 } : Room) D hpC A [.ref (ad (64)), .int (x1), .int (x2), .int (x3)] (nw_pre D hpC (hpT tC) A (mW ad tC n J bw L bX aY S) ad) (nw_mo (¬ ((0 ≤ x1 ∧ x1 < nI (n 3)) ∧ (0 ≤ x2 ∧ x2 < nI (n 0)))) (¬ (True)) (fun t => mW ad tC n (va_up J 0 t) bw L bX aY S) ad (some (.int (nI 0))) 2 (fun o wn' => o = some (.int (S 5 6 (8 * (x1.toNatClampNeg) + (x2.toNatClampNeg)))) ∧ wn' = mW ad tC n (va_up (va_up J 0 (nI 0)) 3 (nI 0)) bw L bX aY (upR S 5 6 (upd (S 5 6) (8 * (x1.toNatClampNeg) + (x2.toNatClampNeg)) x3)))) 0 0 := by
  refine nw_bodyK (by decide) (Nat.le_of_ble_eq_true rfl) ?_
  intro p e s m below meth cd ls args Q hSx hr hlocks hname hA hKs hw hS hl hQ
  obtain ⟨hx, hb, hml, hown, hts⟩ := id hSx
  have hK := hKs.1
  have hl : lv_has ls 5 [(0, .ref (ad (64))), (1, .int (x1)), (2, .int (x2)), (3, .int (x3))] := hl
  obtain ⟨hn0, hn0', hn1, hn2, hn3, hn4⟩ := id hN
  refine lv_aload_n hx hb d_M_weather_0 rfl (lv_at hl 0 rfl) ?_
  refine lv_iload_n hx hb d_M_weather_1 rfl (lv_at hl 1 rfl) ?_
  refine lv_i2l (v := ((x1).toInt64)) hx hb d_M_weather_2 rfl ?_
  refine lv_lconst (v := 0) hx hb d_M_weather_3 (by decide) ?_
  refine lv_aload_n hx hb d_M_weather_4 rfl (lv_at hl 0 rfl) ?_
  refine nw_get hx hb hts i_M hown hK hw (64) (mW_64) rfl 9 (by decide) (hts _ kw_668) (fun _ h9 => h9) rfl d_M_weather_5 ?_
  refine lv_iconst (v := nI 1) hx hb d_M_weather_8 (by decide) ?_
  refine lv_isub hx hb d_M_weather_9 ?_
  refine lv_i2l (v := ((((nI (n 3)) - (nI 1))).toInt64)) hx hb d_M_weather_10 rfl ?_
  refine nw_callD (nw_goS (n := 3) (As := [.long (((x1).toInt64)), .long (0), .long (((((nI (n 3)) - (nI 1))).toInt64))]) (rest := [.ref (ad (64))]) hSx hA hKs hw hS (c_M_in l D tC A ad n J bw L bX aY S S scm_rf hN (((x1).toInt64)) (0) (((((nI (n 3)) - (nI 1))).toInt64))) kw_770 kw_768 kw_769 kw_8 rfl rfl (by decide +kernel) ⟨Nat.le_of_ble_eq_true rfl, Nat.le_of_ble_eq_true rfl⟩ rfl hl.1 (Nat.le_of_ble_eq_true rfl) d_M_weather_11 ⟨Nat.le_of_ble_eq_true rfl, Nat.le_of_ble_eq_true rfl⟩) hS (fun H locs hw hS => ?_)
  refine lv_if_eq (tgt := 37) hx hb d_M_weather_14 (by decide) (fun c_14 => ?_) (fun c_14 => ?_)
  · skip
    have hneg : ¬ ((0 ≤ x1 ∧ x1 < nI (n 3)) ∧ (0 ≤ x2 ∧ x2 < nI (n 0))) := fun h => b2_0 c_14 ((show _ ↔ (0 ≤ x1 ∧ x1 < nI (n 3)) from in_n (by omega)).mpr (h.1))
    refine lv_iconst (v := nI 0) hx hb d_M_weather_37 (by decide) ?_
    refine lv_iconst (v := nI 1) hx hb d_M_weather_38 (by decide) ?_
    have ha9 : nI 0 = 0 ↔ ¬ ((0 ≤ x1 ∧ x1 < nI (n 3)) ∧ (0 ≤ x2 ∧ x2 < nI (n 0))) := ⟨fun _ => hneg, fun _ => rfl⟩
    have hs9 : nI 1 = 0 ↔ ¬ (True) := ⟨fun h => absurd h (by decide), fun h => absurd trivial h⟩
    refine nw_callD (nw_goV (n := 2) (As := [.int (nI 0), .int (nI 1)]) (rest := []) hSx hA hKs hw hS (c_M_refuses l D tC A ad n J bw L bX aY S hN (nI 0) (nI 1)) kw_774 kw_771 kw_773 ks_M_refuses kw_8 rfl rfl (by decide +kernel) ⟨Nat.le_of_ble_eq_true rfl, Nat.le_of_ble_eq_true rfl⟩ (nw_recv hK hw (mW_64) rfl) rfl hl.1 (Nat.le_of_ble_eq_true rfl) d_M_weather_39 ⟨Nat.le_of_ble_eq_true rfl, Nat.le_of_ble_eq_true rfl⟩) hS (fun H locs hw hS => ?_)
    refine lv_if_eq (tgt := 47) hx hb d_M_weather_42 (by decide) (fun c_42 => ?_) (fun c_42 => ?_)
    · skip
      have hno9 := b2_0 c_42
      have hok9 : (0 ≤ x1 ∧ x1 < nI (n 3)) ∧ (0 ≤ x2 ∧ x2 < nI (n 0)) := Classical.not_not.mp (fun h => hno9 (Or.inl (ha9.mpr h)))
      have hst9 : True := Classical.not_not.mp (fun h => hno9 (Or.inr (hs9.mpr h)))
      obtain ⟨i1, rfl, hi1⟩ := nat_of (by omega) hok9.1
      obtain ⟨i2, rfl, hi2⟩ := nat_of (by omega) hok9.2
      have hw := nw_W.as (wn' := mW ad tC n (va_up J 0 (nI 0)) bw L bX aY S) hw (by rw [rfI_ok hno9])
      refine lv_aload_n hx hb d_M_weather_47 rfl (lv_at hl 0 rfl) ?_
      refine lv_iconst (v := nI 0) hx hb d_M_weather_48 (by decide) ?_
      refine nw_put (v := .int (nI 0)) (ty := .boolean) hx hb hts i_M t_M tk_M n_M hown hK hw hS (64) (mW_64) rfl 21 (by decide) (hts _ kw_680) (fun _ h9 => h9) rfl (by decide +kernel) (rfl) (rfl) (Nat.le_of_ble_eq_true rfl) d_M_weather_49 (fun H locs hw hS => ?_)
      have hw := nw_W.as (wn' := mW ad tC n (va_up (va_up J 0 (nI 0)) 3 (nI 0)) bw L bX aY S) (mW_setO (n' := n) (J' := (va_up (va_up J 0 (nI 0)) 3 (nI 0))) (bw' := bw) rfl hw) rfl
      refine lv_aload_n hx hb d_M_weather_52 rfl (lv_at hl 0 rfl) ?_
      refine nw_get hx hb hts i_M hown hK hw (64) (mW_64) rfl 11 (by decide) (hts _ kw_670) (fun _ h9 => h9) rfl d_M_weather_53 ?_
      refine lv_bipush (v := nI 8) hx hb d_M_weather_56 (by decide) ?_
      refine lv_iload_n hx hb d_M_weather_58 rfl (lv_at hl 1 rfl) ?_
      refine lv_imul hx hb d_M_weather_59 ?_
      refine lv_iload_n hx hb d_M_weather_60 rfl (lv_at hl 2 rfl) ?_
      refine lv_iadd hx hb d_M_weather_61 ?_
      refine lv_ei (y := nI (8 * i1 + i2)) (ix8 _ _) ?_
      refine nw_zald hx hb hK hw (186) 2 (mW_row (t := 5) (j := 6) (by decide) (by decide) (rfl)) rfl (8 * i1 + i2) (rfl) (by omega) (by omega) d_M_weather_62 ?_
      refine lv_ei (y := S 5 6 (8 * i1 + i2)) (congrFun (scm_rf 5 6 (by omega)) _) ?_
      refine lv_istore (lv' := [(4, .int (S 5 6 (8 * i1 + i2))), (0, .ref (ad (64))), (1, .int (nI i1)), (2, .int (nI i2)), (3, .int (x3))]) hx hb d_M_weather_63 hl (by decide) rfl (fun ls hl => ?_)
      refine lv_aload_n hx hb d_M_weather_65 rfl (lv_at hl 1 rfl) ?_
      refine nw_get hx hb hts i_M hown hK hw (64) (mW_64) rfl 11 (by decide) (hts _ kw_670) (fun _ h9 => h9) rfl d_M_weather_66 ?_
      refine lv_bipush (v := nI 8) hx hb d_M_weather_69 (by decide) ?_
      refine lv_iload_n hx hb d_M_weather_71 rfl (lv_at hl 2 rfl) ?_
      refine lv_imul hx hb d_M_weather_72 ?_
      refine lv_iload_n hx hb d_M_weather_73 rfl (lv_at hl 3 rfl) ?_
      refine lv_iadd hx hb d_M_weather_74 ?_
      refine lv_ei (y := nI (8 * i1 + i2)) (ix8 _ _) ?_
      refine lv_iload_n hx hb d_M_weather_75 rfl (lv_at hl 4 rfl) ?_
      refine nw_zast (z := x3) hx hb hK hw hS (186) 2 (mW_row (t := 5) (j := 6) (by decide) (by decide) (rfl)) rfl (8 * i1 + i2) (rfl) (by omega) (by omega) (by rcases hz with rfl | rfl <;> rfl) d_M_weather_76 (fun H locs hw hS => ?_)
      have hw := mW_setRow (t := 5) (j := 6) (by decide) (by decide) (rfl) hw
      refine lv_iload hx hb d_M_weather_77 (lv_at hl 0 rfl) ?_
      exact nw_zret hQ hx hb hr (hzz _) hlocks hw hS (nw_mo_ok (fun h => h hok9) (fun h => h hst9) (by rw [nI_clamp (n := i1) (by omega), nI_clamp (n := i2) (by omega)]; exact ⟨rfl, rfl⟩)) (Nat.le_of_ble_eq_true rfl) (Nat.le_of_ble_eq_true rfl) d_M_weather_79
    · skip
      refine lv_iconst (v := nI 0) hx hb d_M_weather_45 (by decide) ?_
      exact nw_zret hQ hx hb hr (by first | exact Or.inl rfl | exact Or.inr rfl) hlocks hw hS (nw_mo_bad (Wb := (fun t => mW ad tC n (va_up J 0 t) bw L bX aY S)) ha9 hs9 (b2_1 c_42)) (Nat.le_of_ble_eq_true rfl) (Nat.le_of_ble_eq_true rfl) d_M_weather_46
  · skip
    have h1 : 0 ≤ x1 ∧ x1 < nI (n 3) := (show _ ↔ (0 ≤ x1 ∧ x1 < nI (n 3)) from in_n (by omega)).mp (b2_1 c_14)
    refine lv_iload_n hx hb d_M_weather_17 rfl (lv_at hl 2 rfl) ?_
    refine lv_i2l (v := ((x2).toInt64)) hx hb d_M_weather_18 rfl ?_
    refine lv_lconst (v := 0) hx hb d_M_weather_19 (by decide) ?_
    refine lv_aload_n hx hb d_M_weather_20 rfl (lv_at hl 0 rfl) ?_
    refine nw_get hx hb hts i_M hown hK hw (64) (mW_64) rfl 0 (by decide) (hts _ kw_659) (fun _ h9 => h9) rfl d_M_weather_21 ?_
    refine lv_iconst (v := nI 1) hx hb d_M_weather_24 (by decide) ?_
    refine lv_isub hx hb d_M_weather_25 ?_
    refine lv_i2l (v := ((((nI (n 0)) - (nI 1))).toInt64)) hx hb d_M_weather_26 rfl ?_
    refine nw_callD (nw_goS (n := 3) (As := [.long (((x2).toInt64)), .long (0), .long (((((nI (n 0)) - (nI 1))).toInt64))]) (rest := [.ref (ad (64))]) hSx hA hKs hw hS (c_M_in l D tC A ad n J bw L bX aY S S scm_rf hN (((x2).toInt64)) (0) (((((nI (n 0)) - (nI 1))).toInt64))) kw_770 kw_768 kw_769 kw_8 rfl rfl (by decide +kernel) ⟨Nat.le_of_ble_eq_true rfl, Nat.le_of_ble_eq_true rfl⟩ rfl hl.1 (Nat.le_of_ble_eq_true rfl) d_M_weather_27 ⟨Nat.le_of_ble_eq_true rfl, Nat.le_of_ble_eq_true rfl⟩) hS (fun H locs hw hS => ?_)
    refine lv_if_eq (tgt := 37) hx hb d_M_weather_30 (by decide) (fun c_30 => ?_) (fun c_30 => ?_)
    · skip
      have hneg : ¬ ((0 ≤ x1 ∧ x1 < nI (n 3)) ∧ (0 ≤ x2 ∧ x2 < nI (n 0))) := fun h => b2_0 c_30 ((show _ ↔ (0 ≤ x2 ∧ x2 < nI (n 0)) from in_n (by omega)).mpr (h.2))
      refine lv_iconst (v := nI 0) hx hb d_M_weather_37 (by decide) ?_
      refine lv_iconst (v := nI 1) hx hb d_M_weather_38 (by decide) ?_
      have ha9 : nI 0 = 0 ↔ ¬ ((0 ≤ x1 ∧ x1 < nI (n 3)) ∧ (0 ≤ x2 ∧ x2 < nI (n 0))) := ⟨fun _ => hneg, fun _ => rfl⟩
      have hs9 : nI 1 = 0 ↔ ¬ (True) := ⟨fun h => absurd h (by decide), fun h => absurd trivial h⟩
      refine nw_callD (nw_goV (n := 2) (As := [.int (nI 0), .int (nI 1)]) (rest := []) hSx hA hKs hw hS (c_M_refuses l D tC A ad n J bw L bX aY S hN (nI 0) (nI 1)) kw_774 kw_771 kw_773 ks_M_refuses kw_8 rfl rfl (by decide +kernel) ⟨Nat.le_of_ble_eq_true rfl, Nat.le_of_ble_eq_true rfl⟩ (nw_recv hK hw (mW_64) rfl) rfl hl.1 (Nat.le_of_ble_eq_true rfl) d_M_weather_39 ⟨Nat.le_of_ble_eq_true rfl, Nat.le_of_ble_eq_true rfl⟩) hS (fun H locs hw hS => ?_)
      refine lv_if_eq (tgt := 47) hx hb d_M_weather_42 (by decide) (fun c_42 => ?_) (fun c_42 => ?_)
      · skip
        have hno9 := b2_0 c_42
        have hok9 : (0 ≤ x1 ∧ x1 < nI (n 3)) ∧ (0 ≤ x2 ∧ x2 < nI (n 0)) := Classical.not_not.mp (fun h => hno9 (Or.inl (ha9.mpr h)))
        have hst9 : True := Classical.not_not.mp (fun h => hno9 (Or.inr (hs9.mpr h)))
        obtain ⟨i1, rfl, hi1⟩ := nat_of (by omega) hok9.1
        obtain ⟨i2, rfl, hi2⟩ := nat_of (by omega) hok9.2
        have hw := nw_W.as (wn' := mW ad tC n (va_up J 0 (nI 0)) bw L bX aY S) hw (by rw [rfI_ok hno9])
        refine lv_aload_n hx hb d_M_weather_47 rfl (lv_at hl 0 rfl) ?_
        refine lv_iconst (v := nI 0) hx hb d_M_weather_48 (by decide) ?_
        refine nw_put (v := .int (nI 0)) (ty := .boolean) hx hb hts i_M t_M tk_M n_M hown hK hw hS (64) (mW_64) rfl 21 (by decide) (hts _ kw_680) (fun _ h9 => h9) rfl (by decide +kernel) (rfl) (rfl) (Nat.le_of_ble_eq_true rfl) d_M_weather_49 (fun H locs hw hS => ?_)
        have hw := nw_W.as (wn' := mW ad tC n (va_up (va_up J 0 (nI 0)) 3 (nI 0)) bw L bX aY S) (mW_setO (n' := n) (J' := (va_up (va_up J 0 (nI 0)) 3 (nI 0))) (bw' := bw) rfl hw) rfl
        refine lv_aload_n hx hb d_M_weather_52 rfl (lv_at hl 0 rfl) ?_
        refine nw_get hx hb hts i_M hown hK hw (64) (mW_64) rfl 11 (by decide) (hts _ kw_670) (fun _ h9 => h9) rfl d_M_weather_53 ?_
        refine lv_bipush (v := nI 8) hx hb d_M_weather_56 (by decide) ?_
        refine lv_iload_n hx hb d_M_weather_58 rfl (lv_at hl 1 rfl) ?_
        refine lv_imul hx hb d_M_weather_59 ?_
        refine lv_iload_n hx hb d_M_weather_60 rfl (lv_at hl 2 rfl) ?_
        refine lv_iadd hx hb d_M_weather_61 ?_
        refine lv_ei (y := nI (8 * i1 + i2)) (ix8 _ _) ?_
        refine nw_zald hx hb hK hw (186) 2 (mW_row (t := 5) (j := 6) (by decide) (by decide) (rfl)) rfl (8 * i1 + i2) (rfl) (by omega) (by omega) d_M_weather_62 ?_
        refine lv_ei (y := S 5 6 (8 * i1 + i2)) (congrFun (scm_rf 5 6 (by omega)) _) ?_
        refine lv_istore (lv' := [(4, .int (S 5 6 (8 * i1 + i2))), (0, .ref (ad (64))), (1, .int (nI i1)), (2, .int (nI i2)), (3, .int (x3))]) hx hb d_M_weather_63 hl (by decide) rfl (fun ls hl => ?_)
        refine lv_aload_n hx hb d_M_weather_65 rfl (lv_at hl 1 rfl) ?_
        refine nw_get hx hb hts i_M hown hK hw (64) (mW_64) rfl 11 (by decide) (hts _ kw_670) (fun _ h9 => h9) rfl d_M_weather_66 ?_
        refine lv_bipush (v := nI 8) hx hb d_M_weather_69 (by decide) ?_
        refine lv_iload_n hx hb d_M_weather_71 rfl (lv_at hl 2 rfl) ?_
        refine lv_imul hx hb d_M_weather_72 ?_
        refine lv_iload_n hx hb d_M_weather_73 rfl (lv_at hl 3 rfl) ?_
        refine lv_iadd hx hb d_M_weather_74 ?_
        refine lv_ei (y := nI (8 * i1 + i2)) (ix8 _ _) ?_
        refine lv_iload_n hx hb d_M_weather_75 rfl (lv_at hl 4 rfl) ?_
        refine nw_zast (z := x3) hx hb hK hw hS (186) 2 (mW_row (t := 5) (j := 6) (by decide) (by decide) (rfl)) rfl (8 * i1 + i2) (rfl) (by omega) (by omega) (by rcases hz with rfl | rfl <;> rfl) d_M_weather_76 (fun H locs hw hS => ?_)
        have hw := mW_setRow (t := 5) (j := 6) (by decide) (by decide) (rfl) hw
        refine lv_iload hx hb d_M_weather_77 (lv_at hl 0 rfl) ?_
        exact nw_zret hQ hx hb hr (hzz _) hlocks hw hS (nw_mo_ok (fun h => h hok9) (fun h => h hst9) (by rw [nI_clamp (n := i1) (by omega), nI_clamp (n := i2) (by omega)]; exact ⟨rfl, rfl⟩)) (Nat.le_of_ble_eq_true rfl) (Nat.le_of_ble_eq_true rfl) d_M_weather_79
      · skip
        refine lv_iconst (v := nI 0) hx hb d_M_weather_45 (by decide) ?_
        exact nw_zret hQ hx hb hr (by first | exact Or.inl rfl | exact Or.inr rfl) hlocks hw hS (nw_mo_bad (Wb := (fun t => mW ad tC n (va_up J 0 t) bw L bX aY S)) ha9 hs9 (b2_1 c_42)) (Nat.le_of_ble_eq_true rfl) (Nat.le_of_ble_eq_true rfl) d_M_weather_46
    · skip
      have h2 : 0 ≤ x2 ∧ x2 < nI (n 0) := (show _ ↔ (0 ≤ x2 ∧ x2 < nI (n 0)) from in_n (by omega)).mp (b2_1 c_30)
      refine lv_iconst (v := nI 1) hx hb d_M_weather_33 (by decide) ?_
      refine lv_goto (tgt := 38) hx hb d_M_weather_34 (by decide) ?_
      refine lv_iconst (v := nI 1) hx hb d_M_weather_38 (by decide) ?_
      have ha9 : nI 1 = 0 ↔ ¬ ((0 ≤ x1 ∧ x1 < nI (n 3)) ∧ (0 ≤ x2 ∧ x2 < nI (n 0))) := ⟨fun h => absurd h (by decide), fun h => absurd ⟨h1, h2⟩ h⟩
      have hs9 : nI 1 = 0 ↔ ¬ (True) := ⟨fun h => absurd h (by decide), fun h => absurd trivial h⟩
      refine nw_callD (nw_goV (n := 2) (As := [.int (nI 1), .int (nI 1)]) (rest := []) hSx hA hKs hw hS (c_M_refuses l D tC A ad n J bw L bX aY S hN (nI 1) (nI 1)) kw_774 kw_771 kw_773 ks_M_refuses kw_8 rfl rfl (by decide +kernel) ⟨Nat.le_of_ble_eq_true rfl, Nat.le_of_ble_eq_true rfl⟩ (nw_recv hK hw (mW_64) rfl) rfl hl.1 (Nat.le_of_ble_eq_true rfl) d_M_weather_39 ⟨Nat.le_of_ble_eq_true rfl, Nat.le_of_ble_eq_true rfl⟩) hS (fun H locs hw hS => ?_)
      refine lv_if_eq (tgt := 47) hx hb d_M_weather_42 (by decide) (fun c_42 => ?_) (fun c_42 => ?_)
      · skip
        have hno9 := b2_0 c_42
        have hok9 : (0 ≤ x1 ∧ x1 < nI (n 3)) ∧ (0 ≤ x2 ∧ x2 < nI (n 0)) := Classical.not_not.mp (fun h => hno9 (Or.inl (ha9.mpr h)))
        have hst9 : True := Classical.not_not.mp (fun h => hno9 (Or.inr (hs9.mpr h)))
        obtain ⟨i1, rfl, hi1⟩ := nat_of (by omega) hok9.1
        obtain ⟨i2, rfl, hi2⟩ := nat_of (by omega) hok9.2
        have hw := nw_W.as (wn' := mW ad tC n (va_up J 0 (nI 0)) bw L bX aY S) hw (by rw [rfI_ok hno9])
        refine lv_aload_n hx hb d_M_weather_47 rfl (lv_at hl 0 rfl) ?_
        refine lv_iconst (v := nI 0) hx hb d_M_weather_48 (by decide) ?_
        refine nw_put (v := .int (nI 0)) (ty := .boolean) hx hb hts i_M t_M tk_M n_M hown hK hw hS (64) (mW_64) rfl 21 (by decide) (hts _ kw_680) (fun _ h9 => h9) rfl (by decide +kernel) (rfl) (rfl) (Nat.le_of_ble_eq_true rfl) d_M_weather_49 (fun H locs hw hS => ?_)
        have hw := nw_W.as (wn' := mW ad tC n (va_up (va_up J 0 (nI 0)) 3 (nI 0)) bw L bX aY S) (mW_setO (n' := n) (J' := (va_up (va_up J 0 (nI 0)) 3 (nI 0))) (bw' := bw) rfl hw) rfl
        refine lv_aload_n hx hb d_M_weather_52 rfl (lv_at hl 0 rfl) ?_
        refine nw_get hx hb hts i_M hown hK hw (64) (mW_64) rfl 11 (by decide) (hts _ kw_670) (fun _ h9 => h9) rfl d_M_weather_53 ?_
        refine lv_bipush (v := nI 8) hx hb d_M_weather_56 (by decide) ?_
        refine lv_iload_n hx hb d_M_weather_58 rfl (lv_at hl 1 rfl) ?_
        refine lv_imul hx hb d_M_weather_59 ?_
        refine lv_iload_n hx hb d_M_weather_60 rfl (lv_at hl 2 rfl) ?_
        refine lv_iadd hx hb d_M_weather_61 ?_
        refine lv_ei (y := nI (8 * i1 + i2)) (ix8 _ _) ?_
        refine nw_zald hx hb hK hw (186) 2 (mW_row (t := 5) (j := 6) (by decide) (by decide) (rfl)) rfl (8 * i1 + i2) (rfl) (by omega) (by omega) d_M_weather_62 ?_
        refine lv_ei (y := S 5 6 (8 * i1 + i2)) (congrFun (scm_rf 5 6 (by omega)) _) ?_
        refine lv_istore (lv' := [(4, .int (S 5 6 (8 * i1 + i2))), (0, .ref (ad (64))), (1, .int (nI i1)), (2, .int (nI i2)), (3, .int (x3))]) hx hb d_M_weather_63 hl (by decide) rfl (fun ls hl => ?_)
        refine lv_aload_n hx hb d_M_weather_65 rfl (lv_at hl 1 rfl) ?_
        refine nw_get hx hb hts i_M hown hK hw (64) (mW_64) rfl 11 (by decide) (hts _ kw_670) (fun _ h9 => h9) rfl d_M_weather_66 ?_
        refine lv_bipush (v := nI 8) hx hb d_M_weather_69 (by decide) ?_
        refine lv_iload_n hx hb d_M_weather_71 rfl (lv_at hl 2 rfl) ?_
        refine lv_imul hx hb d_M_weather_72 ?_
        refine lv_iload_n hx hb d_M_weather_73 rfl (lv_at hl 3 rfl) ?_
        refine lv_iadd hx hb d_M_weather_74 ?_
        refine lv_ei (y := nI (8 * i1 + i2)) (ix8 _ _) ?_
        refine lv_iload_n hx hb d_M_weather_75 rfl (lv_at hl 4 rfl) ?_
        refine nw_zast (z := x3) hx hb hK hw hS (186) 2 (mW_row (t := 5) (j := 6) (by decide) (by decide) (rfl)) rfl (8 * i1 + i2) (rfl) (by omega) (by omega) (by rcases hz with rfl | rfl <;> rfl) d_M_weather_76 (fun H locs hw hS => ?_)
        have hw := mW_setRow (t := 5) (j := 6) (by decide) (by decide) (rfl) hw
        refine lv_iload hx hb d_M_weather_77 (lv_at hl 0 rfl) ?_
        exact nw_zret hQ hx hb hr (hzz _) hlocks hw hS (nw_mo_ok (fun h => h hok9) (fun h => h hst9) (by rw [nI_clamp (n := i1) (by omega), nI_clamp (n := i2) (by omega)]; exact ⟨rfl, rfl⟩)) (Nat.le_of_ble_eq_true rfl) (Nat.le_of_ble_eq_true rfl) d_M_weather_79
      · skip
        refine lv_iconst (v := nI 0) hx hb d_M_weather_45 (by decide) ?_
        exact nw_zret hQ hx hb hr (by first | exact Or.inl rfl | exact Or.inr rfl) hlocks hw hS (nw_mo_bad (Wb := (fun t => mW ad tC n (va_up J 0 t) bw L bX aY S)) ha9 hs9 (b2_1 c_42)) (Nat.le_of_ble_eq_true rfl) (Nat.le_of_ble_eq_true rfl) d_M_weather_46

set_option maxHeartbeats 4000000 in
set_option maxRecDepth 100000 in
/-- size -/
theorem c_M_size (l : Launch) (D : va_G) (tC : Nat → ClassId) (A : Nat → Prop) (ad : Nat → Nat) (n : Nat → Nat) (J : Nat → Int32) (bw : Int64) (L : Nat → Nat → Int64) (bX : Nat → Option va_E) (aY : Nat → Nat → Option (ClassId × Nat)) (S : Nat → Nat → Nat → Int32) (hN : hpN n) (x1 x2 x3 x4 : Int32) : nw_Met l y_M_size [Cond.code y_M_size b_M_size 5 (some .int)] ({ frames := 1, cells := 0, slots := 0, locals := 25 } : Room) D hpC A [.ref (ad (64)), .int (x1), .int (x2), .int (x3), .int (x4)] (nw_pre D hpC (hpT tC) A (mW ad tC n J bw L bX aY S) ad) (nw_mo (¬ ((0 ≤ x1 ∧ x1 < nI (n 2)) ∧ (0 ≤ x2 ∧ x2 < nI (n 0)) ∧ (nI 0 ≤ x3 ∧ x3 ≤ nI 20000) ∧ (nI 0 ≤ x4 ∧ x4 ≤ 100000))) (¬ (True)) (fun t => mW ad tC n (va_up J 0 t) bw L bX aY S) ad (some (.int (nI 0))) 2 (fun o wn' => o = some (.int (kM (upR (upR S 5 3 (upd (S 5 3) (8 * (x1.toNatClampNeg) + (x2.toNatClampNeg)) x3)) 5 4 (upd ((upR S 5 3 (upd (S 5 3) (8 * (x1.toNatClampNeg) + (x2.toNatClampNeg)) x3)) 5 4) (8 * (x1.toNatClampNeg) + (x2.toNatClampNeg)) x4)) (x1.toNatClampNeg) (x2.toNatClampNeg)).toInt32) ∧ wn' = mW ad tC n (va_up (va_up J 0 (nI 0)) 3 (nI 0)) bw L bX aY (upR (upR S 5 3 (upd (S 5 3) (8 * (x1.toNatClampNeg) + (x2.toNatClampNeg)) x3)) 5 4 (upd ((upR S 5 3 (upd (S 5 3) (8 * (x1.toNatClampNeg) + (x2.toNatClampNeg)) x3)) 5 4) (8 * (x1.toNatClampNeg) + (x2.toNatClampNeg)) x4)))) 0 0 := by
  refine nw_bodyK (by decide) (Nat.le_of_ble_eq_true rfl) ?_
  intro p e s m below meth cd ls args Q hSx hr hlocks hname hA hKs hw hS hl hQ
  obtain ⟨hx, hb, hml, hown, hts⟩ := id hSx
  have hK := hKs.1
  have hl : lv_has ls 5 [(0, .ref (ad (64))), (1, .int (x1)), (2, .int (x2)), (3, .int (x3)), (4, .int (x4))] := hl
  obtain ⟨hn0, hn0', hn1, hn2, hn3, hn4⟩ := id hN
  refine lv_aload_n hx hb d_M_size_0 rfl (lv_at hl 0 rfl) ?_
  refine lv_iload_n hx hb d_M_size_1 rfl (lv_at hl 1 rfl) ?_
  refine lv_i2l (v := ((x1).toInt64)) hx hb d_M_size_2 rfl ?_
  refine lv_lconst (v := 0) hx hb d_M_size_3 (by decide) ?_
  refine lv_aload_n hx hb d_M_size_4 rfl (lv_at hl 0 rfl) ?_
  refine nw_get hx hb hts i_M hown hK hw (64) (mW_64) rfl 5 (by decide) (hts _ kw_664) (fun _ h9 => h9) rfl d_M_size_5 ?_
  refine lv_iconst (v := nI 1) hx hb d_M_size_8 (by decide) ?_
  refine lv_isub hx hb d_M_size_9 ?_
  refine lv_i2l (v := ((((nI (n 2)) - (nI 1))).toInt64)) hx hb d_M_size_10 rfl ?_
  refine nw_callD (nw_goS (n := 3) (As := [.long (((x1).toInt64)), .long (0), .long (((((nI (n 2)) - (nI 1))).toInt64))]) (rest := [.ref (ad (64))]) hSx hA hKs hw hS (c_M_in l D tC A ad n J bw L bX aY S S scm_rf hN (((x1).toInt64)) (0) (((((nI (n 2)) - (nI 1))).toInt64))) kw_770 kw_768 kw_769 kw_8 rfl rfl (by decide +kernel) ⟨Nat.le_of_ble_eq_true rfl, Nat.le_of_ble_eq_true rfl⟩ rfl hl.1 (Nat.le_of_ble_eq_true rfl) d_M_size_11 ⟨Nat.le_of_ble_eq_true rfl, Nat.le_of_ble_eq_true rfl⟩) hS (fun H locs hw hS => ?_)
  refine lv_if_eq (tgt := 62) hx hb d_M_size_14 (by decide) (fun c_14 => ?_) (fun c_14 => ?_)
  · skip
    have hneg : ¬ ((0 ≤ x1 ∧ x1 < nI (n 2)) ∧ (0 ≤ x2 ∧ x2 < nI (n 0)) ∧ (nI 0 ≤ x3 ∧ x3 ≤ nI 20000) ∧ (nI 0 ≤ x4 ∧ x4 ≤ 100000)) := fun h => b2_0 c_14 ((show _ ↔ (0 ≤ x1 ∧ x1 < nI (n 2)) from in_n (by omega)).mpr (h.1))
    refine lv_iconst (v := nI 0) hx hb d_M_size_62 (by decide) ?_
    refine lv_iconst (v := nI 1) hx hb d_M_size_63 (by decide) ?_
    have ha9 : nI 0 = 0 ↔ ¬ ((0 ≤ x1 ∧ x1 < nI (n 2)) ∧ (0 ≤ x2 ∧ x2 < nI (n 0)) ∧ (nI 0 ≤ x3 ∧ x3 ≤ nI 20000) ∧ (nI 0 ≤ x4 ∧ x4 ≤ 100000)) := ⟨fun _ => hneg, fun _ => rfl⟩
    have hs9 : nI 1 = 0 ↔ ¬ (True) := ⟨fun h => absurd h (by decide), fun h => absurd trivial h⟩
    refine nw_callD (nw_goV (n := 2) (As := [.int (nI 0), .int (nI 1)]) (rest := []) hSx hA hKs hw hS (c_M_refuses l D tC A ad n J bw L bX aY S hN (nI 0) (nI 1)) kw_774 kw_771 kw_773 ks_M_refuses kw_8 rfl rfl (by decide +kernel) ⟨Nat.le_of_ble_eq_true rfl, Nat.le_of_ble_eq_true rfl⟩ (nw_recv hK hw (mW_64) rfl) rfl hl.1 (Nat.le_of_ble_eq_true rfl) d_M_size_64 ⟨Nat.le_of_ble_eq_true rfl, Nat.le_of_ble_eq_true rfl⟩) hS (fun H locs hw hS => ?_)
    refine lv_if_eq (tgt := 72) hx hb d_M_size_67 (by decide) (fun c_67 => ?_) (fun c_67 => ?_)
    · skip
      have hno9 := b2_0 c_67
      have hok9 : (0 ≤ x1 ∧ x1 < nI (n 2)) ∧ (0 ≤ x2 ∧ x2 < nI (n 0)) ∧ (nI 0 ≤ x3 ∧ x3 ≤ nI 20000) ∧ (nI 0 ≤ x4 ∧ x4 ≤ 100000) := Classical.not_not.mp (fun h => hno9 (Or.inl (ha9.mpr h)))
      have hst9 : True := Classical.not_not.mp (fun h => hno9 (Or.inr (hs9.mpr h)))
      obtain ⟨i1, rfl, hi1⟩ := nat_of (by omega) hok9.1
      obtain ⟨i2, rfl, hi2⟩ := nat_of (by omega) hok9.2.1
      have hw := nw_W.as (wn' := mW ad tC n (va_up J 0 (nI 0)) bw L bX aY S) hw (by rw [rfI_ok hno9])
      refine lv_aload_n hx hb d_M_size_72 rfl (lv_at hl 0 rfl) ?_
      refine lv_iconst (v := nI 0) hx hb d_M_size_73 (by decide) ?_
      refine nw_put (v := .int (nI 0)) (ty := .boolean) hx hb hts i_M t_M tk_M n_M hown hK hw hS (64) (mW_64) rfl 21 (by decide) (hts _ kw_680) (fun _ h9 => h9) rfl (by decide +kernel) (rfl) (rfl) (Nat.le_of_ble_eq_true rfl) d_M_size_74 (fun H locs hw hS => ?_)
      have hw := nw_W.as (wn' := mW ad tC n (va_up (va_up J 0 (nI 0)) 3 (nI 0)) bw L bX aY S) (mW_setO (n' := n) (J' := (va_up (va_up J 0 (nI 0)) 3 (nI 0))) (bw' := bw) rfl hw) rfl
      refine lv_aload_n hx hb d_M_size_77 rfl (lv_at hl 0 rfl) ?_
      refine nw_get hx hb hts i_M hown hK hw (64) (mW_64) rfl 7 (by decide) (hts _ kw_666) (fun _ h9 => h9) rfl d_M_size_78 ?_
      refine lv_bipush (v := nI 8) hx hb d_M_size_81 (by decide) ?_
      refine lv_iload_n hx hb d_M_size_83 rfl (lv_at hl 1 rfl) ?_
      refine lv_imul hx hb d_M_size_84 ?_
      refine lv_iload_n hx hb d_M_size_85 rfl (lv_at hl 2 rfl) ?_
      refine lv_iadd hx hb d_M_size_86 ?_
      refine lv_ei (y := nI (8 * i1 + i2)) (ix8 _ _) ?_
      refine lv_iload_n hx hb d_M_size_87 rfl (lv_at hl 3 rfl) ?_
      refine nw_iast hx hb hK hw hS (183) 0 (mW_row (t := 5) (j := 3) (by decide) (by decide) (rfl)) rfl (8 * i1 + i2) (rfl) (by omega) (by omega) d_M_size_88 (fun H locs hw hS => ?_)
      have hw := mW_setRow (t := 5) (j := 3) (by decide) (by decide) (rfl) hw
      refine lv_aload_n hx hb d_M_size_89 rfl (lv_at hl 0 rfl) ?_
      refine nw_get hx hb hts i_M hown hK hw (64) (mW_64) rfl 8 (by decide) (hts _ kw_667) (fun _ h9 => h9) rfl d_M_size_90 ?_
      refine lv_bipush (v := nI 8) hx hb d_M_size_93 (by decide) ?_
      refine lv_iload_n hx hb d_M_size_95 rfl (lv_at hl 1 rfl) ?_
      refine lv_imul hx hb d_M_size_96 ?_
      refine lv_iload_n hx hb d_M_size_97 rfl (lv_at hl 2 rfl) ?_
      refine lv_iadd hx hb d_M_size_98 ?_
      refine lv_ei (y := nI (8 * i1 + i2)) (ix8 _ _) ?_
      refine lv_iload hx hb d_M_size_99 (lv_at hl 4 rfl) ?_
      refine nw_iast hx hb hK hw hS (184) 0 (mW_row (t := 5) (j := 4) (by decide) (by decide) (rfl)) rfl (8 * i1 + i2) (rfl) (by omega) (by omega) d_M_size_101 (fun H locs hw hS => ?_)
      have hw := mW_setRow (t := 5) (j := 4) (by decide) (by decide) (rfl) hw
      refine lv_aload_n hx hb d_M_size_102 rfl (lv_at hl 0 rfl) ?_
      refine lv_iload_n hx hb d_M_size_103 rfl (lv_at hl 1 rfl) ?_
      refine lv_iload_n hx hb d_M_size_104 rfl (lv_at hl 2 rfl) ?_
      refine nw_callD (nw_goV (n := 2) (As := [.int (nI i1), .int (nI i2)]) (rest := []) hSx hA hKs hw hS (c_M_kilos l D tC A ad n (va_up (va_up J 0 (nI 0)) 3 (nI 0)) bw L bX aY (upR (upR S 5 3 (upd (S 5 3) (8 * i1 + i2) x3)) 5 4 (upd ((upR S 5 3 (upd (S 5 3) (8 * i1 + i2) x3)) 5 4) (8 * i1 + i2) x4)) (upR (upR S 5 3 (upd (S 5 3) (8 * i1 + i2) x3)) 5 4 (upd ((upR S 5 3 (upd (S 5 3) (8 * i1 + i2) x3)) 5 4) (8 * i1 + i2) x4)) scm_rf hN i1 i2 (by omega) (by omega)) kw_792 kw_789 kw_791 ks_M_kilos kw_8 rfl rfl (by decide +kernel) ⟨Nat.le_of_ble_eq_true rfl, Nat.le_of_ble_eq_true rfl⟩ (nw_recv hK hw (mW_64) rfl) rfl hl.1 (Nat.le_of_ble_eq_true rfl) d_M_size_105 ⟨Nat.le_of_ble_eq_true rfl, Nat.le_of_ble_eq_true rfl⟩) hS (fun H locs hw hS => ?_)
      refine lv_l2i (v := ((kM (upR (upR S 5 3 (upd (S 5 3) (8 * i1 + i2) x3)) 5 4 (upd ((upR S 5 3 (upd (S 5 3) (8 * i1 + i2) x3)) 5 4) (8 * i1 + i2) x4)) i1 i2).toInt32)) hx hb d_M_size_108 rfl ?_
      exact nw_iret hQ hx hb hr hlocks hw hS (nw_mo_ok (fun h => h hok9) (fun h => h hst9) (by rw [nI_clamp (n := i1) (by omega), nI_clamp (n := i2) (by omega)]; exact ⟨rfl, rfl⟩)) (Nat.le_of_ble_eq_true rfl) (Nat.le_of_ble_eq_true rfl) d_M_size_109
    · skip
      refine lv_iconst (v := nI 0) hx hb d_M_size_70 (by decide) ?_
      exact nw_iret hQ hx hb hr hlocks hw hS (nw_mo_bad (Wb := (fun t => mW ad tC n (va_up J 0 t) bw L bX aY S)) ha9 hs9 (b2_1 c_67)) (Nat.le_of_ble_eq_true rfl) (Nat.le_of_ble_eq_true rfl) d_M_size_71
  · skip
    have h1 : 0 ≤ x1 ∧ x1 < nI (n 2) := (show _ ↔ (0 ≤ x1 ∧ x1 < nI (n 2)) from in_n (by omega)).mp (b2_1 c_14)
    refine lv_iload_n hx hb d_M_size_17 rfl (lv_at hl 2 rfl) ?_
    refine lv_i2l (v := ((x2).toInt64)) hx hb d_M_size_18 rfl ?_
    refine lv_lconst (v := 0) hx hb d_M_size_19 (by decide) ?_
    refine lv_aload_n hx hb d_M_size_20 rfl (lv_at hl 0 rfl) ?_
    refine nw_get hx hb hts i_M hown hK hw (64) (mW_64) rfl 0 (by decide) (hts _ kw_659) (fun _ h9 => h9) rfl d_M_size_21 ?_
    refine lv_iconst (v := nI 1) hx hb d_M_size_24 (by decide) ?_
    refine lv_isub hx hb d_M_size_25 ?_
    refine lv_i2l (v := ((((nI (n 0)) - (nI 1))).toInt64)) hx hb d_M_size_26 rfl ?_
    refine nw_callD (nw_goS (n := 3) (As := [.long (((x2).toInt64)), .long (0), .long (((((nI (n 0)) - (nI 1))).toInt64))]) (rest := [.ref (ad (64))]) hSx hA hKs hw hS (c_M_in l D tC A ad n J bw L bX aY S S scm_rf hN (((x2).toInt64)) (0) (((((nI (n 0)) - (nI 1))).toInt64))) kw_770 kw_768 kw_769 kw_8 rfl rfl (by decide +kernel) ⟨Nat.le_of_ble_eq_true rfl, Nat.le_of_ble_eq_true rfl⟩ rfl hl.1 (Nat.le_of_ble_eq_true rfl) d_M_size_27 ⟨Nat.le_of_ble_eq_true rfl, Nat.le_of_ble_eq_true rfl⟩) hS (fun H locs hw hS => ?_)
    refine lv_if_eq (tgt := 62) hx hb d_M_size_30 (by decide) (fun c_30 => ?_) (fun c_30 => ?_)
    · skip
      have hneg : ¬ ((0 ≤ x1 ∧ x1 < nI (n 2)) ∧ (0 ≤ x2 ∧ x2 < nI (n 0)) ∧ (nI 0 ≤ x3 ∧ x3 ≤ nI 20000) ∧ (nI 0 ≤ x4 ∧ x4 ≤ 100000)) := fun h => b2_0 c_30 ((show _ ↔ (0 ≤ x2 ∧ x2 < nI (n 0)) from in_n (by omega)).mpr (h.2.1))
      refine lv_iconst (v := nI 0) hx hb d_M_size_62 (by decide) ?_
      refine lv_iconst (v := nI 1) hx hb d_M_size_63 (by decide) ?_
      have ha9 : nI 0 = 0 ↔ ¬ ((0 ≤ x1 ∧ x1 < nI (n 2)) ∧ (0 ≤ x2 ∧ x2 < nI (n 0)) ∧ (nI 0 ≤ x3 ∧ x3 ≤ nI 20000) ∧ (nI 0 ≤ x4 ∧ x4 ≤ 100000)) := ⟨fun _ => hneg, fun _ => rfl⟩
      have hs9 : nI 1 = 0 ↔ ¬ (True) := ⟨fun h => absurd h (by decide), fun h => absurd trivial h⟩
      refine nw_callD (nw_goV (n := 2) (As := [.int (nI 0), .int (nI 1)]) (rest := []) hSx hA hKs hw hS (c_M_refuses l D tC A ad n J bw L bX aY S hN (nI 0) (nI 1)) kw_774 kw_771 kw_773 ks_M_refuses kw_8 rfl rfl (by decide +kernel) ⟨Nat.le_of_ble_eq_true rfl, Nat.le_of_ble_eq_true rfl⟩ (nw_recv hK hw (mW_64) rfl) rfl hl.1 (Nat.le_of_ble_eq_true rfl) d_M_size_64 ⟨Nat.le_of_ble_eq_true rfl, Nat.le_of_ble_eq_true rfl⟩) hS (fun H locs hw hS => ?_)
      refine lv_if_eq (tgt := 72) hx hb d_M_size_67 (by decide) (fun c_67 => ?_) (fun c_67 => ?_)
      · skip
        have hno9 := b2_0 c_67
        have hok9 : (0 ≤ x1 ∧ x1 < nI (n 2)) ∧ (0 ≤ x2 ∧ x2 < nI (n 0)) ∧ (nI 0 ≤ x3 ∧ x3 ≤ nI 20000) ∧ (nI 0 ≤ x4 ∧ x4 ≤ 100000) := Classical.not_not.mp (fun h => hno9 (Or.inl (ha9.mpr h)))
        have hst9 : True := Classical.not_not.mp (fun h => hno9 (Or.inr (hs9.mpr h)))
        obtain ⟨i1, rfl, hi1⟩ := nat_of (by omega) hok9.1
        obtain ⟨i2, rfl, hi2⟩ := nat_of (by omega) hok9.2.1
        have hw := nw_W.as (wn' := mW ad tC n (va_up J 0 (nI 0)) bw L bX aY S) hw (by rw [rfI_ok hno9])
        refine lv_aload_n hx hb d_M_size_72 rfl (lv_at hl 0 rfl) ?_
        refine lv_iconst (v := nI 0) hx hb d_M_size_73 (by decide) ?_
        refine nw_put (v := .int (nI 0)) (ty := .boolean) hx hb hts i_M t_M tk_M n_M hown hK hw hS (64) (mW_64) rfl 21 (by decide) (hts _ kw_680) (fun _ h9 => h9) rfl (by decide +kernel) (rfl) (rfl) (Nat.le_of_ble_eq_true rfl) d_M_size_74 (fun H locs hw hS => ?_)
        have hw := nw_W.as (wn' := mW ad tC n (va_up (va_up J 0 (nI 0)) 3 (nI 0)) bw L bX aY S) (mW_setO (n' := n) (J' := (va_up (va_up J 0 (nI 0)) 3 (nI 0))) (bw' := bw) rfl hw) rfl
        refine lv_aload_n hx hb d_M_size_77 rfl (lv_at hl 0 rfl) ?_
        refine nw_get hx hb hts i_M hown hK hw (64) (mW_64) rfl 7 (by decide) (hts _ kw_666) (fun _ h9 => h9) rfl d_M_size_78 ?_
        refine lv_bipush (v := nI 8) hx hb d_M_size_81 (by decide) ?_
        refine lv_iload_n hx hb d_M_size_83 rfl (lv_at hl 1 rfl) ?_
        refine lv_imul hx hb d_M_size_84 ?_
        refine lv_iload_n hx hb d_M_size_85 rfl (lv_at hl 2 rfl) ?_
        refine lv_iadd hx hb d_M_size_86 ?_
        refine lv_ei (y := nI (8 * i1 + i2)) (ix8 _ _) ?_
        refine lv_iload_n hx hb d_M_size_87 rfl (lv_at hl 3 rfl) ?_
        refine nw_iast hx hb hK hw hS (183) 0 (mW_row (t := 5) (j := 3) (by decide) (by decide) (rfl)) rfl (8 * i1 + i2) (rfl) (by omega) (by omega) d_M_size_88 (fun H locs hw hS => ?_)
        have hw := mW_setRow (t := 5) (j := 3) (by decide) (by decide) (rfl) hw
        refine lv_aload_n hx hb d_M_size_89 rfl (lv_at hl 0 rfl) ?_
        refine nw_get hx hb hts i_M hown hK hw (64) (mW_64) rfl 8 (by decide) (hts _ kw_667) (fun _ h9 => h9) rfl d_M_size_90 ?_
        refine lv_bipush (v := nI 8) hx hb d_M_size_93 (by decide) ?_
        refine lv_iload_n hx hb d_M_size_95 rfl (lv_at hl 1 rfl) ?_
        refine lv_imul hx hb d_M_size_96 ?_
        refine lv_iload_n hx hb d_M_size_97 rfl (lv_at hl 2 rfl) ?_
        refine lv_iadd hx hb d_M_size_98 ?_
        refine lv_ei (y := nI (8 * i1 + i2)) (ix8 _ _) ?_
        refine lv_iload hx hb d_M_size_99 (lv_at hl 4 rfl) ?_
        refine nw_iast hx hb hK hw hS (184) 0 (mW_row (t := 5) (j := 4) (by decide) (by decide) (rfl)) rfl (8 * i1 + i2) (rfl) (by omega) (by omega) d_M_size_101 (fun H locs hw hS => ?_)
        have hw := mW_setRow (t := 5) (j := 4) (by decide) (by decide) (rfl) hw
        refine lv_aload_n hx hb d_M_size_102 rfl (lv_at hl 0 rfl) ?_
        refine lv_iload_n hx hb d_M_size_103 rfl (lv_at hl 1 rfl) ?_
        refine lv_iload_n hx hb d_M_size_104 rfl (lv_at hl 2 rfl) ?_
        refine nw_callD (nw_goV (n := 2) (As := [.int (nI i1), .int (nI i2)]) (rest := []) hSx hA hKs hw hS (c_M_kilos l D tC A ad n (va_up (va_up J 0 (nI 0)) 3 (nI 0)) bw L bX aY (upR (upR S 5 3 (upd (S 5 3) (8 * i1 + i2) x3)) 5 4 (upd ((upR S 5 3 (upd (S 5 3) (8 * i1 + i2) x3)) 5 4) (8 * i1 + i2) x4)) (upR (upR S 5 3 (upd (S 5 3) (8 * i1 + i2) x3)) 5 4 (upd ((upR S 5 3 (upd (S 5 3) (8 * i1 + i2) x3)) 5 4) (8 * i1 + i2) x4)) scm_rf hN i1 i2 (by omega) (by omega)) kw_792 kw_789 kw_791 ks_M_kilos kw_8 rfl rfl (by decide +kernel) ⟨Nat.le_of_ble_eq_true rfl, Nat.le_of_ble_eq_true rfl⟩ (nw_recv hK hw (mW_64) rfl) rfl hl.1 (Nat.le_of_ble_eq_true rfl) d_M_size_105 ⟨Nat.le_of_ble_eq_true rfl, Nat.le_of_ble_eq_true rfl⟩) hS (fun H locs hw hS => ?_)
        refine lv_l2i (v := ((kM (upR (upR S 5 3 (upd (S 5 3) (8 * i1 + i2) x3)) 5 4 (upd ((upR S 5 3 (upd (S 5 3) (8 * i1 + i2) x3)) 5 4) (8 * i1 + i2) x4)) i1 i2).toInt32)) hx hb d_M_size_108 rfl ?_
        exact nw_iret hQ hx hb hr hlocks hw hS (nw_mo_ok (fun h => h hok9) (fun h => h hst9) (by rw [nI_clamp (n := i1) (by omega), nI_clamp (n := i2) (by omega)]; exact ⟨rfl, rfl⟩)) (Nat.le_of_ble_eq_true rfl) (Nat.le_of_ble_eq_true rfl) d_M_size_109
      · skip
        refine lv_iconst (v := nI 0) hx hb d_M_size_70 (by decide) ?_
        exact nw_iret hQ hx hb hr hlocks hw hS (nw_mo_bad (Wb := (fun t => mW ad tC n (va_up J 0 t) bw L bX aY S)) ha9 hs9 (b2_1 c_67)) (Nat.le_of_ble_eq_true rfl) (Nat.le_of_ble_eq_true rfl) d_M_size_71
    · skip
      have h2 : 0 ≤ x2 ∧ x2 < nI (n 0) := (show _ ↔ (0 ≤ x2 ∧ x2 < nI (n 0)) from in_n (by omega)).mp (b2_1 c_30)
      refine lv_iload_n hx hb d_M_size_33 rfl (lv_at hl 3 rfl) ?_
      refine lv_i2l (v := ((x3).toInt64)) hx hb d_M_size_34 rfl ?_
      refine lv_lconst (v := 0) hx hb d_M_size_35 (by decide) ?_
      refine lv_ldc2 (v := 20000) hx hb hown (hts _ kw_787) d_M_size_36 ?_
      refine nw_callD (nw_goS (n := 3) (As := [.long (((x3).toInt64)), .long (0), .long (20000)]) (rest := [.ref (ad (64))]) hSx hA hKs hw hS (c_M_in l D tC A ad n J bw L bX aY S S scm_rf hN (((x3).toInt64)) (0) (20000)) kw_770 kw_768 kw_769 kw_8 rfl rfl (by decide +kernel) ⟨Nat.le_of_ble_eq_true rfl, Nat.le_of_ble_eq_true rfl⟩ rfl hl.1 (Nat.le_of_ble_eq_true rfl) d_M_size_39 ⟨Nat.le_of_ble_eq_true rfl, Nat.le_of_ble_eq_true rfl⟩) hS (fun H locs hw hS => ?_)
      refine lv_if_eq (tgt := 62) hx hb d_M_size_42 (by decide) (fun c_42 => ?_) (fun c_42 => ?_)
      · skip
        have hneg : ¬ ((0 ≤ x1 ∧ x1 < nI (n 2)) ∧ (0 ≤ x2 ∧ x2 < nI (n 0)) ∧ (nI 0 ≤ x3 ∧ x3 ≤ nI 20000) ∧ (nI 0 ≤ x4 ∧ x4 ≤ 100000)) := fun h => b2_0 c_42 ((show _ ↔ (nI 0 ≤ x3 ∧ x3 ≤ nI 20000) from in_c rfl rfl).mpr (h.2.2.1))
        refine lv_iconst (v := nI 0) hx hb d_M_size_62 (by decide) ?_
        refine lv_iconst (v := nI 1) hx hb d_M_size_63 (by decide) ?_
        have ha9 : nI 0 = 0 ↔ ¬ ((0 ≤ x1 ∧ x1 < nI (n 2)) ∧ (0 ≤ x2 ∧ x2 < nI (n 0)) ∧ (nI 0 ≤ x3 ∧ x3 ≤ nI 20000) ∧ (nI 0 ≤ x4 ∧ x4 ≤ 100000)) := ⟨fun _ => hneg, fun _ => rfl⟩
        have hs9 : nI 1 = 0 ↔ ¬ (True) := ⟨fun h => absurd h (by decide), fun h => absurd trivial h⟩
        refine nw_callD (nw_goV (n := 2) (As := [.int (nI 0), .int (nI 1)]) (rest := []) hSx hA hKs hw hS (c_M_refuses l D tC A ad n J bw L bX aY S hN (nI 0) (nI 1)) kw_774 kw_771 kw_773 ks_M_refuses kw_8 rfl rfl (by decide +kernel) ⟨Nat.le_of_ble_eq_true rfl, Nat.le_of_ble_eq_true rfl⟩ (nw_recv hK hw (mW_64) rfl) rfl hl.1 (Nat.le_of_ble_eq_true rfl) d_M_size_64 ⟨Nat.le_of_ble_eq_true rfl, Nat.le_of_ble_eq_true rfl⟩) hS (fun H locs hw hS => ?_)
        refine lv_if_eq (tgt := 72) hx hb d_M_size_67 (by decide) (fun c_67 => ?_) (fun c_67 => ?_)
        · skip
          have hno9 := b2_0 c_67
          have hok9 : (0 ≤ x1 ∧ x1 < nI (n 2)) ∧ (0 ≤ x2 ∧ x2 < nI (n 0)) ∧ (nI 0 ≤ x3 ∧ x3 ≤ nI 20000) ∧ (nI 0 ≤ x4 ∧ x4 ≤ 100000) := Classical.not_not.mp (fun h => hno9 (Or.inl (ha9.mpr h)))
          have hst9 : True := Classical.not_not.mp (fun h => hno9 (Or.inr (hs9.mpr h)))
          obtain ⟨i1, rfl, hi1⟩ := nat_of (by omega) hok9.1
          obtain ⟨i2, rfl, hi2⟩ := nat_of (by omega) hok9.2.1
          have hw := nw_W.as (wn' := mW ad tC n (va_up J 0 (nI 0)) bw L bX aY S) hw (by rw [rfI_ok hno9])
          refine lv_aload_n hx hb d_M_size_72 rfl (lv_at hl 0 rfl) ?_
          refine lv_iconst (v := nI 0) hx hb d_M_size_73 (by decide) ?_
          refine nw_put (v := .int (nI 0)) (ty := .boolean) hx hb hts i_M t_M tk_M n_M hown hK hw hS (64) (mW_64) rfl 21 (by decide) (hts _ kw_680) (fun _ h9 => h9) rfl (by decide +kernel) (rfl) (rfl) (Nat.le_of_ble_eq_true rfl) d_M_size_74 (fun H locs hw hS => ?_)
          have hw := nw_W.as (wn' := mW ad tC n (va_up (va_up J 0 (nI 0)) 3 (nI 0)) bw L bX aY S) (mW_setO (n' := n) (J' := (va_up (va_up J 0 (nI 0)) 3 (nI 0))) (bw' := bw) rfl hw) rfl
          refine lv_aload_n hx hb d_M_size_77 rfl (lv_at hl 0 rfl) ?_
          refine nw_get hx hb hts i_M hown hK hw (64) (mW_64) rfl 7 (by decide) (hts _ kw_666) (fun _ h9 => h9) rfl d_M_size_78 ?_
          refine lv_bipush (v := nI 8) hx hb d_M_size_81 (by decide) ?_
          refine lv_iload_n hx hb d_M_size_83 rfl (lv_at hl 1 rfl) ?_
          refine lv_imul hx hb d_M_size_84 ?_
          refine lv_iload_n hx hb d_M_size_85 rfl (lv_at hl 2 rfl) ?_
          refine lv_iadd hx hb d_M_size_86 ?_
          refine lv_ei (y := nI (8 * i1 + i2)) (ix8 _ _) ?_
          refine lv_iload_n hx hb d_M_size_87 rfl (lv_at hl 3 rfl) ?_
          refine nw_iast hx hb hK hw hS (183) 0 (mW_row (t := 5) (j := 3) (by decide) (by decide) (rfl)) rfl (8 * i1 + i2) (rfl) (by omega) (by omega) d_M_size_88 (fun H locs hw hS => ?_)
          have hw := mW_setRow (t := 5) (j := 3) (by decide) (by decide) (rfl) hw
          refine lv_aload_n hx hb d_M_size_89 rfl (lv_at hl 0 rfl) ?_
          refine nw_get hx hb hts i_M hown hK hw (64) (mW_64) rfl 8 (by decide) (hts _ kw_667) (fun _ h9 => h9) rfl d_M_size_90 ?_
          refine lv_bipush (v := nI 8) hx hb d_M_size_93 (by decide) ?_
          refine lv_iload_n hx hb d_M_size_95 rfl (lv_at hl 1 rfl) ?_
          refine lv_imul hx hb d_M_size_96 ?_
          refine lv_iload_n hx hb d_M_size_97 rfl (lv_at hl 2 rfl) ?_
          refine lv_iadd hx hb d_M_size_98 ?_
          refine lv_ei (y := nI (8 * i1 + i2)) (ix8 _ _) ?_
          refine lv_iload hx hb d_M_size_99 (lv_at hl 4 rfl) ?_
          refine nw_iast hx hb hK hw hS (184) 0 (mW_row (t := 5) (j := 4) (by decide) (by decide) (rfl)) rfl (8 * i1 + i2) (rfl) (by omega) (by omega) d_M_size_101 (fun H locs hw hS => ?_)
          have hw := mW_setRow (t := 5) (j := 4) (by decide) (by decide) (rfl) hw
          refine lv_aload_n hx hb d_M_size_102 rfl (lv_at hl 0 rfl) ?_
          refine lv_iload_n hx hb d_M_size_103 rfl (lv_at hl 1 rfl) ?_
          refine lv_iload_n hx hb d_M_size_104 rfl (lv_at hl 2 rfl) ?_
          refine nw_callD (nw_goV (n := 2) (As := [.int (nI i1), .int (nI i2)]) (rest := []) hSx hA hKs hw hS (c_M_kilos l D tC A ad n (va_up (va_up J 0 (nI 0)) 3 (nI 0)) bw L bX aY (upR (upR S 5 3 (upd (S 5 3) (8 * i1 + i2) x3)) 5 4 (upd ((upR S 5 3 (upd (S 5 3) (8 * i1 + i2) x3)) 5 4) (8 * i1 + i2) x4)) (upR (upR S 5 3 (upd (S 5 3) (8 * i1 + i2) x3)) 5 4 (upd ((upR S 5 3 (upd (S 5 3) (8 * i1 + i2) x3)) 5 4) (8 * i1 + i2) x4)) scm_rf hN i1 i2 (by omega) (by omega)) kw_792 kw_789 kw_791 ks_M_kilos kw_8 rfl rfl (by decide +kernel) ⟨Nat.le_of_ble_eq_true rfl, Nat.le_of_ble_eq_true rfl⟩ (nw_recv hK hw (mW_64) rfl) rfl hl.1 (Nat.le_of_ble_eq_true rfl) d_M_size_105 ⟨Nat.le_of_ble_eq_true rfl, Nat.le_of_ble_eq_true rfl⟩) hS (fun H locs hw hS => ?_)
          refine lv_l2i (v := ((kM (upR (upR S 5 3 (upd (S 5 3) (8 * i1 + i2) x3)) 5 4 (upd ((upR S 5 3 (upd (S 5 3) (8 * i1 + i2) x3)) 5 4) (8 * i1 + i2) x4)) i1 i2).toInt32)) hx hb d_M_size_108 rfl ?_
          exact nw_iret hQ hx hb hr hlocks hw hS (nw_mo_ok (fun h => h hok9) (fun h => h hst9) (by rw [nI_clamp (n := i1) (by omega), nI_clamp (n := i2) (by omega)]; exact ⟨rfl, rfl⟩)) (Nat.le_of_ble_eq_true rfl) (Nat.le_of_ble_eq_true rfl) d_M_size_109
        · skip
          refine lv_iconst (v := nI 0) hx hb d_M_size_70 (by decide) ?_
          exact nw_iret hQ hx hb hr hlocks hw hS (nw_mo_bad (Wb := (fun t => mW ad tC n (va_up J 0 t) bw L bX aY S)) ha9 hs9 (b2_1 c_67)) (Nat.le_of_ble_eq_true rfl) (Nat.le_of_ble_eq_true rfl) d_M_size_71
      · skip
        have h3 : nI 0 ≤ x3 ∧ x3 ≤ nI 20000 := (show _ ↔ (nI 0 ≤ x3 ∧ x3 ≤ nI 20000) from in_c rfl rfl).mp (b2_1 c_42)
        refine lv_iload hx hb d_M_size_45 (lv_at hl 4 rfl) ?_
        refine lv_i2l (v := ((x4).toInt64)) hx hb d_M_size_47 rfl ?_
        refine lv_lconst (v := 0) hx hb d_M_size_48 (by decide) ?_
        refine lv_ldc2 (v := 100000) hx hb hown (hts _ kw_788) d_M_size_49 ?_
        refine nw_callD (nw_goS (n := 3) (As := [.long (((x4).toInt64)), .long (0), .long (100000)]) (rest := [.ref (ad (64))]) hSx hA hKs hw hS (c_M_in l D tC A ad n J bw L bX aY S S scm_rf hN (((x4).toInt64)) (0) (100000)) kw_770 kw_768 kw_769 kw_8 rfl rfl (by decide +kernel) ⟨Nat.le_of_ble_eq_true rfl, Nat.le_of_ble_eq_true rfl⟩ rfl hl.1 (Nat.le_of_ble_eq_true rfl) d_M_size_52 ⟨Nat.le_of_ble_eq_true rfl, Nat.le_of_ble_eq_true rfl⟩) hS (fun H locs hw hS => ?_)
        refine lv_if_eq (tgt := 62) hx hb d_M_size_55 (by decide) (fun c_55 => ?_) (fun c_55 => ?_)
        · skip
          have hneg : ¬ ((0 ≤ x1 ∧ x1 < nI (n 2)) ∧ (0 ≤ x2 ∧ x2 < nI (n 0)) ∧ (nI 0 ≤ x3 ∧ x3 ≤ nI 20000) ∧ (nI 0 ≤ x4 ∧ x4 ≤ 100000)) := fun h => b2_0 c_55 ((show _ ↔ (nI 0 ≤ x4 ∧ x4 ≤ 100000) from in_c rfl rfl).mpr (h.2.2.2))
          refine lv_iconst (v := nI 0) hx hb d_M_size_62 (by decide) ?_
          refine lv_iconst (v := nI 1) hx hb d_M_size_63 (by decide) ?_
          have ha9 : nI 0 = 0 ↔ ¬ ((0 ≤ x1 ∧ x1 < nI (n 2)) ∧ (0 ≤ x2 ∧ x2 < nI (n 0)) ∧ (nI 0 ≤ x3 ∧ x3 ≤ nI 20000) ∧ (nI 0 ≤ x4 ∧ x4 ≤ 100000)) := ⟨fun _ => hneg, fun _ => rfl⟩
          have hs9 : nI 1 = 0 ↔ ¬ (True) := ⟨fun h => absurd h (by decide), fun h => absurd trivial h⟩
          refine nw_callD (nw_goV (n := 2) (As := [.int (nI 0), .int (nI 1)]) (rest := []) hSx hA hKs hw hS (c_M_refuses l D tC A ad n J bw L bX aY S hN (nI 0) (nI 1)) kw_774 kw_771 kw_773 ks_M_refuses kw_8 rfl rfl (by decide +kernel) ⟨Nat.le_of_ble_eq_true rfl, Nat.le_of_ble_eq_true rfl⟩ (nw_recv hK hw (mW_64) rfl) rfl hl.1 (Nat.le_of_ble_eq_true rfl) d_M_size_64 ⟨Nat.le_of_ble_eq_true rfl, Nat.le_of_ble_eq_true rfl⟩) hS (fun H locs hw hS => ?_)
          refine lv_if_eq (tgt := 72) hx hb d_M_size_67 (by decide) (fun c_67 => ?_) (fun c_67 => ?_)
          · skip
            have hno9 := b2_0 c_67
            have hok9 : (0 ≤ x1 ∧ x1 < nI (n 2)) ∧ (0 ≤ x2 ∧ x2 < nI (n 0)) ∧ (nI 0 ≤ x3 ∧ x3 ≤ nI 20000) ∧ (nI 0 ≤ x4 ∧ x4 ≤ 100000) := Classical.not_not.mp (fun h => hno9 (Or.inl (ha9.mpr h)))
            have hst9 : True := Classical.not_not.mp (fun h => hno9 (Or.inr (hs9.mpr h)))
            obtain ⟨i1, rfl, hi1⟩ := nat_of (by omega) hok9.1
            obtain ⟨i2, rfl, hi2⟩ := nat_of (by omega) hok9.2.1
            have hw := nw_W.as (wn' := mW ad tC n (va_up J 0 (nI 0)) bw L bX aY S) hw (by rw [rfI_ok hno9])
            refine lv_aload_n hx hb d_M_size_72 rfl (lv_at hl 0 rfl) ?_
            refine lv_iconst (v := nI 0) hx hb d_M_size_73 (by decide) ?_
            refine nw_put (v := .int (nI 0)) (ty := .boolean) hx hb hts i_M t_M tk_M n_M hown hK hw hS (64) (mW_64) rfl 21 (by decide) (hts _ kw_680) (fun _ h9 => h9) rfl (by decide +kernel) (rfl) (rfl) (Nat.le_of_ble_eq_true rfl) d_M_size_74 (fun H locs hw hS => ?_)
            have hw := nw_W.as (wn' := mW ad tC n (va_up (va_up J 0 (nI 0)) 3 (nI 0)) bw L bX aY S) (mW_setO (n' := n) (J' := (va_up (va_up J 0 (nI 0)) 3 (nI 0))) (bw' := bw) rfl hw) rfl
            refine lv_aload_n hx hb d_M_size_77 rfl (lv_at hl 0 rfl) ?_
            refine nw_get hx hb hts i_M hown hK hw (64) (mW_64) rfl 7 (by decide) (hts _ kw_666) (fun _ h9 => h9) rfl d_M_size_78 ?_
            refine lv_bipush (v := nI 8) hx hb d_M_size_81 (by decide) ?_
            refine lv_iload_n hx hb d_M_size_83 rfl (lv_at hl 1 rfl) ?_
            refine lv_imul hx hb d_M_size_84 ?_
            refine lv_iload_n hx hb d_M_size_85 rfl (lv_at hl 2 rfl) ?_
            refine lv_iadd hx hb d_M_size_86 ?_
            refine lv_ei (y := nI (8 * i1 + i2)) (ix8 _ _) ?_
            refine lv_iload_n hx hb d_M_size_87 rfl (lv_at hl 3 rfl) ?_
            refine nw_iast hx hb hK hw hS (183) 0 (mW_row (t := 5) (j := 3) (by decide) (by decide) (rfl)) rfl (8 * i1 + i2) (rfl) (by omega) (by omega) d_M_size_88 (fun H locs hw hS => ?_)
            have hw := mW_setRow (t := 5) (j := 3) (by decide) (by decide) (rfl) hw
            refine lv_aload_n hx hb d_M_size_89 rfl (lv_at hl 0 rfl) ?_
            refine nw_get hx hb hts i_M hown hK hw (64) (mW_64) rfl 8 (by decide) (hts _ kw_667) (fun _ h9 => h9) rfl d_M_size_90 ?_
            refine lv_bipush (v := nI 8) hx hb d_M_size_93 (by decide) ?_
            refine lv_iload_n hx hb d_M_size_95 rfl (lv_at hl 1 rfl) ?_
            refine lv_imul hx hb d_M_size_96 ?_
            refine lv_iload_n hx hb d_M_size_97 rfl (lv_at hl 2 rfl) ?_
            refine lv_iadd hx hb d_M_size_98 ?_
            refine lv_ei (y := nI (8 * i1 + i2)) (ix8 _ _) ?_
            refine lv_iload hx hb d_M_size_99 (lv_at hl 4 rfl) ?_
            refine nw_iast hx hb hK hw hS (184) 0 (mW_row (t := 5) (j := 4) (by decide) (by decide) (rfl)) rfl (8 * i1 + i2) (rfl) (by omega) (by omega) d_M_size_101 (fun H locs hw hS => ?_)
            have hw := mW_setRow (t := 5) (j := 4) (by decide) (by decide) (rfl) hw
            refine lv_aload_n hx hb d_M_size_102 rfl (lv_at hl 0 rfl) ?_
            refine lv_iload_n hx hb d_M_size_103 rfl (lv_at hl 1 rfl) ?_
            refine lv_iload_n hx hb d_M_size_104 rfl (lv_at hl 2 rfl) ?_
            refine nw_callD (nw_goV (n := 2) (As := [.int (nI i1), .int (nI i2)]) (rest := []) hSx hA hKs hw hS (c_M_kilos l D tC A ad n (va_up (va_up J 0 (nI 0)) 3 (nI 0)) bw L bX aY (upR (upR S 5 3 (upd (S 5 3) (8 * i1 + i2) x3)) 5 4 (upd ((upR S 5 3 (upd (S 5 3) (8 * i1 + i2) x3)) 5 4) (8 * i1 + i2) x4)) (upR (upR S 5 3 (upd (S 5 3) (8 * i1 + i2) x3)) 5 4 (upd ((upR S 5 3 (upd (S 5 3) (8 * i1 + i2) x3)) 5 4) (8 * i1 + i2) x4)) scm_rf hN i1 i2 (by omega) (by omega)) kw_792 kw_789 kw_791 ks_M_kilos kw_8 rfl rfl (by decide +kernel) ⟨Nat.le_of_ble_eq_true rfl, Nat.le_of_ble_eq_true rfl⟩ (nw_recv hK hw (mW_64) rfl) rfl hl.1 (Nat.le_of_ble_eq_true rfl) d_M_size_105 ⟨Nat.le_of_ble_eq_true rfl, Nat.le_of_ble_eq_true rfl⟩) hS (fun H locs hw hS => ?_)
            refine lv_l2i (v := ((kM (upR (upR S 5 3 (upd (S 5 3) (8 * i1 + i2) x3)) 5 4 (upd ((upR S 5 3 (upd (S 5 3) (8 * i1 + i2) x3)) 5 4) (8 * i1 + i2) x4)) i1 i2).toInt32)) hx hb d_M_size_108 rfl ?_
            exact nw_iret hQ hx hb hr hlocks hw hS (nw_mo_ok (fun h => h hok9) (fun h => h hst9) (by rw [nI_clamp (n := i1) (by omega), nI_clamp (n := i2) (by omega)]; exact ⟨rfl, rfl⟩)) (Nat.le_of_ble_eq_true rfl) (Nat.le_of_ble_eq_true rfl) d_M_size_109
          · skip
            refine lv_iconst (v := nI 0) hx hb d_M_size_70 (by decide) ?_
            exact nw_iret hQ hx hb hr hlocks hw hS (nw_mo_bad (Wb := (fun t => mW ad tC n (va_up J 0 t) bw L bX aY S)) ha9 hs9 (b2_1 c_67)) (Nat.le_of_ble_eq_true rfl) (Nat.le_of_ble_eq_true rfl) d_M_size_71
        · skip
          have h4 : nI 0 ≤ x4 ∧ x4 ≤ 100000 := (show _ ↔ (nI 0 ≤ x4 ∧ x4 ≤ 100000) from in_c rfl rfl).mp (b2_1 c_55)
          refine lv_iconst (v := nI 1) hx hb d_M_size_58 (by decide) ?_
          refine lv_goto (tgt := 63) hx hb d_M_size_59 (by decide) ?_
          refine lv_iconst (v := nI 1) hx hb d_M_size_63 (by decide) ?_
          have ha9 : nI 1 = 0 ↔ ¬ ((0 ≤ x1 ∧ x1 < nI (n 2)) ∧ (0 ≤ x2 ∧ x2 < nI (n 0)) ∧ (nI 0 ≤ x3 ∧ x3 ≤ nI 20000) ∧ (nI 0 ≤ x4 ∧ x4 ≤ 100000)) := ⟨fun h => absurd h (by decide), fun h => absurd ⟨h1, h2, h3, h4⟩ h⟩
          have hs9 : nI 1 = 0 ↔ ¬ (True) := ⟨fun h => absurd h (by decide), fun h => absurd trivial h⟩
          refine nw_callD (nw_goV (n := 2) (As := [.int (nI 1), .int (nI 1)]) (rest := []) hSx hA hKs hw hS (c_M_refuses l D tC A ad n J bw L bX aY S hN (nI 1) (nI 1)) kw_774 kw_771 kw_773 ks_M_refuses kw_8 rfl rfl (by decide +kernel) ⟨Nat.le_of_ble_eq_true rfl, Nat.le_of_ble_eq_true rfl⟩ (nw_recv hK hw (mW_64) rfl) rfl hl.1 (Nat.le_of_ble_eq_true rfl) d_M_size_64 ⟨Nat.le_of_ble_eq_true rfl, Nat.le_of_ble_eq_true rfl⟩) hS (fun H locs hw hS => ?_)
          refine lv_if_eq (tgt := 72) hx hb d_M_size_67 (by decide) (fun c_67 => ?_) (fun c_67 => ?_)
          · skip
            have hno9 := b2_0 c_67
            have hok9 : (0 ≤ x1 ∧ x1 < nI (n 2)) ∧ (0 ≤ x2 ∧ x2 < nI (n 0)) ∧ (nI 0 ≤ x3 ∧ x3 ≤ nI 20000) ∧ (nI 0 ≤ x4 ∧ x4 ≤ 100000) := Classical.not_not.mp (fun h => hno9 (Or.inl (ha9.mpr h)))
            have hst9 : True := Classical.not_not.mp (fun h => hno9 (Or.inr (hs9.mpr h)))
            obtain ⟨i1, rfl, hi1⟩ := nat_of (by omega) hok9.1
            obtain ⟨i2, rfl, hi2⟩ := nat_of (by omega) hok9.2.1
            have hw := nw_W.as (wn' := mW ad tC n (va_up J 0 (nI 0)) bw L bX aY S) hw (by rw [rfI_ok hno9])
            refine lv_aload_n hx hb d_M_size_72 rfl (lv_at hl 0 rfl) ?_
            refine lv_iconst (v := nI 0) hx hb d_M_size_73 (by decide) ?_
            refine nw_put (v := .int (nI 0)) (ty := .boolean) hx hb hts i_M t_M tk_M n_M hown hK hw hS (64) (mW_64) rfl 21 (by decide) (hts _ kw_680) (fun _ h9 => h9) rfl (by decide +kernel) (rfl) (rfl) (Nat.le_of_ble_eq_true rfl) d_M_size_74 (fun H locs hw hS => ?_)
            have hw := nw_W.as (wn' := mW ad tC n (va_up (va_up J 0 (nI 0)) 3 (nI 0)) bw L bX aY S) (mW_setO (n' := n) (J' := (va_up (va_up J 0 (nI 0)) 3 (nI 0))) (bw' := bw) rfl hw) rfl
            refine lv_aload_n hx hb d_M_size_77 rfl (lv_at hl 0 rfl) ?_
            refine nw_get hx hb hts i_M hown hK hw (64) (mW_64) rfl 7 (by decide) (hts _ kw_666) (fun _ h9 => h9) rfl d_M_size_78 ?_
            refine lv_bipush (v := nI 8) hx hb d_M_size_81 (by decide) ?_
            refine lv_iload_n hx hb d_M_size_83 rfl (lv_at hl 1 rfl) ?_
            refine lv_imul hx hb d_M_size_84 ?_
            refine lv_iload_n hx hb d_M_size_85 rfl (lv_at hl 2 rfl) ?_
            refine lv_iadd hx hb d_M_size_86 ?_
            refine lv_ei (y := nI (8 * i1 + i2)) (ix8 _ _) ?_
            refine lv_iload_n hx hb d_M_size_87 rfl (lv_at hl 3 rfl) ?_
            refine nw_iast hx hb hK hw hS (183) 0 (mW_row (t := 5) (j := 3) (by decide) (by decide) (rfl)) rfl (8 * i1 + i2) (rfl) (by omega) (by omega) d_M_size_88 (fun H locs hw hS => ?_)
            have hw := mW_setRow (t := 5) (j := 3) (by decide) (by decide) (rfl) hw
            refine lv_aload_n hx hb d_M_size_89 rfl (lv_at hl 0 rfl) ?_
            refine nw_get hx hb hts i_M hown hK hw (64) (mW_64) rfl 8 (by decide) (hts _ kw_667) (fun _ h9 => h9) rfl d_M_size_90 ?_
            refine lv_bipush (v := nI 8) hx hb d_M_size_93 (by decide) ?_
            refine lv_iload_n hx hb d_M_size_95 rfl (lv_at hl 1 rfl) ?_
            refine lv_imul hx hb d_M_size_96 ?_
            refine lv_iload_n hx hb d_M_size_97 rfl (lv_at hl 2 rfl) ?_
            refine lv_iadd hx hb d_M_size_98 ?_
            refine lv_ei (y := nI (8 * i1 + i2)) (ix8 _ _) ?_
            refine lv_iload hx hb d_M_size_99 (lv_at hl 4 rfl) ?_
            refine nw_iast hx hb hK hw hS (184) 0 (mW_row (t := 5) (j := 4) (by decide) (by decide) (rfl)) rfl (8 * i1 + i2) (rfl) (by omega) (by omega) d_M_size_101 (fun H locs hw hS => ?_)
            have hw := mW_setRow (t := 5) (j := 4) (by decide) (by decide) (rfl) hw
            refine lv_aload_n hx hb d_M_size_102 rfl (lv_at hl 0 rfl) ?_
            refine lv_iload_n hx hb d_M_size_103 rfl (lv_at hl 1 rfl) ?_
            refine lv_iload_n hx hb d_M_size_104 rfl (lv_at hl 2 rfl) ?_
            refine nw_callD (nw_goV (n := 2) (As := [.int (nI i1), .int (nI i2)]) (rest := []) hSx hA hKs hw hS (c_M_kilos l D tC A ad n (va_up (va_up J 0 (nI 0)) 3 (nI 0)) bw L bX aY (upR (upR S 5 3 (upd (S 5 3) (8 * i1 + i2) x3)) 5 4 (upd ((upR S 5 3 (upd (S 5 3) (8 * i1 + i2) x3)) 5 4) (8 * i1 + i2) x4)) (upR (upR S 5 3 (upd (S 5 3) (8 * i1 + i2) x3)) 5 4 (upd ((upR S 5 3 (upd (S 5 3) (8 * i1 + i2) x3)) 5 4) (8 * i1 + i2) x4)) scm_rf hN i1 i2 (by omega) (by omega)) kw_792 kw_789 kw_791 ks_M_kilos kw_8 rfl rfl (by decide +kernel) ⟨Nat.le_of_ble_eq_true rfl, Nat.le_of_ble_eq_true rfl⟩ (nw_recv hK hw (mW_64) rfl) rfl hl.1 (Nat.le_of_ble_eq_true rfl) d_M_size_105 ⟨Nat.le_of_ble_eq_true rfl, Nat.le_of_ble_eq_true rfl⟩) hS (fun H locs hw hS => ?_)
            refine lv_l2i (v := ((kM (upR (upR S 5 3 (upd (S 5 3) (8 * i1 + i2) x3)) 5 4 (upd ((upR S 5 3 (upd (S 5 3) (8 * i1 + i2) x3)) 5 4) (8 * i1 + i2) x4)) i1 i2).toInt32)) hx hb d_M_size_108 rfl ?_
            exact nw_iret hQ hx hb hr hlocks hw hS (nw_mo_ok (fun h => h hok9) (fun h => h hst9) (by rw [nI_clamp (n := i1) (by omega), nI_clamp (n := i2) (by omega)]; exact ⟨rfl, rfl⟩)) (Nat.le_of_ble_eq_true rfl) (Nat.le_of_ble_eq_true rfl) d_M_size_109
          · skip
            refine lv_iconst (v := nI 0) hx hb d_M_size_70 (by decide) ?_
            exact nw_iret hQ hx hb hr hlocks hw hS (nw_mo_bad (Wb := (fun t => mW ad tC n (va_up J 0 t) bw L bX aY S)) ha9 hs9 (b2_1 c_67)) (Nat.le_of_ble_eq_true rfl) (Nat.le_of_ble_eq_true rfl) d_M_size_71

set_option maxHeartbeats 4000000 in
set_option maxRecDepth 100000 in
/-- plant -/
theorem c_M_plant (l : Launch) (D : va_G) (tC : Nat → ClassId) (A : Nat → Prop) (ad : Nat → Nat) (n : Nat → Nat) (J : Nat → Int32) (bw : Int64) (L : Nat → Nat → Int64) (bX : Nat → Option va_E) (aY : Nat → Nat → Option (ClassId × Nat)) (S : Nat → Nat → Nat → Int32) (hN : hpN n) (x1 x2 : Int32) : nw_Met l y_M_plant [Cond.code y_M_plant b_M_plant 4 (some .int)] ({ frames := 1, cells := 0, slots := 0, locals := 25 } : Room) D hpC A [.ref (ad (64)), .int (x1), .int (x2)] (nw_pre D hpC (hpT tC) A (mW ad tC n J bw L bX aY S) ad) (nw_mo (¬ ((0 ≤ x1 ∧ x1 < nI (n 0)) ∧ (nI 0 ≤ x2 ∧ x2 ≤ 100000000))) (¬ (True)) (fun t => mW ad tC n (va_up J 0 t) bw L bX aY S) ad (some (.int (nI 0))) 2 (fun o wn' => o = some (.int (S 5 7 (x1.toNatClampNeg))) ∧ wn' = mW ad tC n (va_up (va_up J 0 (nI 0)) 3 (nI 0)) bw L bX aY (upR S 5 7 (upd (S 5 7) (x1.toNatClampNeg) x2)))) 0 0 := by
  refine nw_bodyK (by decide) (Nat.le_of_ble_eq_true rfl) ?_
  intro p e s m below meth cd ls args Q hSx hr hlocks hname hA hKs hw hS hl hQ
  obtain ⟨hx, hb, hml, hown, hts⟩ := id hSx
  have hK := hKs.1
  have hl : lv_has ls 4 [(0, .ref (ad (64))), (1, .int (x1)), (2, .int (x2))] := hl
  obtain ⟨hn0, hn0', hn1, hn2, hn3, hn4⟩ := id hN
  refine lv_aload_n hx hb d_M_plant_0 rfl (lv_at hl 0 rfl) ?_
  refine lv_iload_n hx hb d_M_plant_1 rfl (lv_at hl 1 rfl) ?_
  refine lv_i2l (v := ((x1).toInt64)) hx hb d_M_plant_2 rfl ?_
  refine lv_lconst (v := 0) hx hb d_M_plant_3 (by decide) ?_
  refine lv_aload_n hx hb d_M_plant_4 rfl (lv_at hl 0 rfl) ?_
  refine nw_get hx hb hts i_M hown hK hw (64) (mW_64) rfl 0 (by decide) (hts _ kw_659) (fun _ h9 => h9) rfl d_M_plant_5 ?_
  refine lv_iconst (v := nI 1) hx hb d_M_plant_8 (by decide) ?_
  refine lv_isub hx hb d_M_plant_9 ?_
  refine lv_i2l (v := ((((nI (n 0)) - (nI 1))).toInt64)) hx hb d_M_plant_10 rfl ?_
  refine nw_callD (nw_goS (n := 3) (As := [.long (((x1).toInt64)), .long (0), .long (((((nI (n 0)) - (nI 1))).toInt64))]) (rest := [.ref (ad (64))]) hSx hA hKs hw hS (c_M_in l D tC A ad n J bw L bX aY S S scm_rf hN (((x1).toInt64)) (0) (((((nI (n 0)) - (nI 1))).toInt64))) kw_770 kw_768 kw_769 kw_8 rfl rfl (by decide +kernel) ⟨Nat.le_of_ble_eq_true rfl, Nat.le_of_ble_eq_true rfl⟩ rfl hl.1 (Nat.le_of_ble_eq_true rfl) d_M_plant_11 ⟨Nat.le_of_ble_eq_true rfl, Nat.le_of_ble_eq_true rfl⟩) hS (fun H locs hw hS => ?_)
  refine lv_if_eq (tgt := 33) hx hb d_M_plant_14 (by decide) (fun c_14 => ?_) (fun c_14 => ?_)
  · skip
    have hneg : ¬ ((0 ≤ x1 ∧ x1 < nI (n 0)) ∧ (nI 0 ≤ x2 ∧ x2 ≤ 100000000)) := fun h => b2_0 c_14 ((show _ ↔ (0 ≤ x1 ∧ x1 < nI (n 0)) from in_n (by omega)).mpr (h.1))
    refine lv_iconst (v := nI 0) hx hb d_M_plant_33 (by decide) ?_
    refine lv_iconst (v := nI 1) hx hb d_M_plant_34 (by decide) ?_
    have ha9 : nI 0 = 0 ↔ ¬ ((0 ≤ x1 ∧ x1 < nI (n 0)) ∧ (nI 0 ≤ x2 ∧ x2 ≤ 100000000)) := ⟨fun _ => hneg, fun _ => rfl⟩
    have hs9 : nI 1 = 0 ↔ ¬ (True) := ⟨fun h => absurd h (by decide), fun h => absurd trivial h⟩
    refine nw_callD (nw_goV (n := 2) (As := [.int (nI 0), .int (nI 1)]) (rest := []) hSx hA hKs hw hS (c_M_refuses l D tC A ad n J bw L bX aY S hN (nI 0) (nI 1)) kw_774 kw_771 kw_773 ks_M_refuses kw_8 rfl rfl (by decide +kernel) ⟨Nat.le_of_ble_eq_true rfl, Nat.le_of_ble_eq_true rfl⟩ (nw_recv hK hw (mW_64) rfl) rfl hl.1 (Nat.le_of_ble_eq_true rfl) d_M_plant_35 ⟨Nat.le_of_ble_eq_true rfl, Nat.le_of_ble_eq_true rfl⟩) hS (fun H locs hw hS => ?_)
    refine lv_if_eq (tgt := 43) hx hb d_M_plant_38 (by decide) (fun c_38 => ?_) (fun c_38 => ?_)
    · skip
      have hno9 := b2_0 c_38
      have hok9 : (0 ≤ x1 ∧ x1 < nI (n 0)) ∧ (nI 0 ≤ x2 ∧ x2 ≤ 100000000) := Classical.not_not.mp (fun h => hno9 (Or.inl (ha9.mpr h)))
      have hst9 : True := Classical.not_not.mp (fun h => hno9 (Or.inr (hs9.mpr h)))
      obtain ⟨i1, rfl, hi1⟩ := nat_of (by omega) hok9.1
      have hw := nw_W.as (wn' := mW ad tC n (va_up J 0 (nI 0)) bw L bX aY S) hw (by rw [rfI_ok hno9])
      refine lv_aload_n hx hb d_M_plant_43 rfl (lv_at hl 0 rfl) ?_
      refine lv_iconst (v := nI 0) hx hb d_M_plant_44 (by decide) ?_
      refine nw_put (v := .int (nI 0)) (ty := .boolean) hx hb hts i_M t_M tk_M n_M hown hK hw hS (64) (mW_64) rfl 21 (by decide) (hts _ kw_680) (fun _ h9 => h9) rfl (by decide +kernel) (rfl) (rfl) (Nat.le_of_ble_eq_true rfl) d_M_plant_45 (fun H locs hw hS => ?_)
      have hw := nw_W.as (wn' := mW ad tC n (va_up (va_up J 0 (nI 0)) 3 (nI 0)) bw L bX aY S) (mW_setO (n' := n) (J' := (va_up (va_up J 0 (nI 0)) 3 (nI 0))) (bw' := bw) rfl hw) rfl
      refine lv_aload_n hx hb d_M_plant_48 rfl (lv_at hl 0 rfl) ?_
      refine nw_get hx hb hts i_M hown hK hw (64) (mW_64) rfl 12 (by decide) (hts _ kw_671) (fun _ h9 => h9) rfl d_M_plant_49 ?_
      refine lv_iload_n hx hb d_M_plant_52 rfl (lv_at hl 1 rfl) ?_
      refine nw_iald hx hb hK hw (187) 0 (mW_row (t := 5) (j := 7) (by decide) (by decide) (rfl)) rfl (i1) (rfl) (by omega) (by omega) d_M_plant_53 ?_
      refine lv_ei (y := S 5 7 i1) (congrFun (scm_rf 5 7 (by omega)) _) ?_
      refine lv_istore_n (lv' := [(3, .int (S 5 7 i1)), (0, .ref (ad (64))), (1, .int (nI i1)), (2, .int (x2))]) hx hb d_M_plant_54 rfl hl (by decide) rfl (fun ls hl => ?_)
      refine lv_aload_n hx hb d_M_plant_55 rfl (lv_at hl 1 rfl) ?_
      refine nw_get hx hb hts i_M hown hK hw (64) (mW_64) rfl 12 (by decide) (hts _ kw_671) (fun _ h9 => h9) rfl d_M_plant_56 ?_
      refine lv_iload_n hx hb d_M_plant_59 rfl (lv_at hl 2 rfl) ?_
      refine lv_iload_n hx hb d_M_plant_60 rfl (lv_at hl 3 rfl) ?_
      refine nw_iast hx hb hK hw hS (187) 0 (mW_row (t := 5) (j := 7) (by decide) (by decide) (rfl)) rfl (i1) (rfl) (by omega) (by omega) d_M_plant_61 (fun H locs hw hS => ?_)
      have hw := mW_setRow (t := 5) (j := 7) (by decide) (by decide) (rfl) hw
      refine lv_iload_n hx hb d_M_plant_62 rfl (lv_at hl 0 rfl) ?_
      exact nw_iret hQ hx hb hr hlocks hw hS (nw_mo_ok (fun h => h hok9) (fun h => h hst9) (by rw [nI_clamp (n := i1) (by omega)]; exact ⟨rfl, rfl⟩)) (Nat.le_of_ble_eq_true rfl) (Nat.le_of_ble_eq_true rfl) d_M_plant_63
    · skip
      refine lv_iconst (v := nI 0) hx hb d_M_plant_41 (by decide) ?_
      exact nw_iret hQ hx hb hr hlocks hw hS (nw_mo_bad (Wb := (fun t => mW ad tC n (va_up J 0 t) bw L bX aY S)) ha9 hs9 (b2_1 c_38)) (Nat.le_of_ble_eq_true rfl) (Nat.le_of_ble_eq_true rfl) d_M_plant_42
  · skip
    have h1 : 0 ≤ x1 ∧ x1 < nI (n 0) := (show _ ↔ (0 ≤ x1 ∧ x1 < nI (n 0)) from in_n (by omega)).mp (b2_1 c_14)
    refine lv_iload_n hx hb d_M_plant_17 rfl (lv_at hl 2 rfl) ?_
    refine lv_i2l (v := ((x2).toInt64)) hx hb d_M_plant_18 rfl ?_
    refine lv_lconst (v := 0) hx hb d_M_plant_19 (by decide) ?_
    refine lv_ldc2 (v := 100000000) hx hb hown (hts _ kw_767) d_M_plant_20 ?_
    refine nw_callD (nw_goS (n := 3) (As := [.long (((x2).toInt64)), .long (0), .long (100000000)]) (rest := [.ref (ad (64))]) hSx hA hKs hw hS (c_M_in l D tC A ad n J bw L bX aY S S scm_rf hN (((x2).toInt64)) (0) (100000000)) kw_770 kw_768 kw_769 kw_8 rfl rfl (by decide +kernel) ⟨Nat.le_of_ble_eq_true rfl, Nat.le_of_ble_eq_true rfl⟩ rfl hl.1 (Nat.le_of_ble_eq_true rfl) d_M_plant_23 ⟨Nat.le_of_ble_eq_true rfl, Nat.le_of_ble_eq_true rfl⟩) hS (fun H locs hw hS => ?_)
    refine lv_if_eq (tgt := 33) hx hb d_M_plant_26 (by decide) (fun c_26 => ?_) (fun c_26 => ?_)
    · skip
      have hneg : ¬ ((0 ≤ x1 ∧ x1 < nI (n 0)) ∧ (nI 0 ≤ x2 ∧ x2 ≤ 100000000)) := fun h => b2_0 c_26 ((show _ ↔ (nI 0 ≤ x2 ∧ x2 ≤ 100000000) from in_c rfl rfl).mpr (h.2))
      refine lv_iconst (v := nI 0) hx hb d_M_plant_33 (by decide) ?_
      refine lv_iconst (v := nI 1) hx hb d_M_plant_34 (by decide) ?_
      have ha9 : nI 0 = 0 ↔ ¬ ((0 ≤ x1 ∧ x1 < nI (n 0)) ∧ (nI 0 ≤ x2 ∧ x2 ≤ 100000000)) := ⟨fun _ => hneg, fun _ => rfl⟩
      have hs9 : nI 1 = 0 ↔ ¬ (True) := ⟨fun h => absurd h (by decide), fun h => absurd trivial h⟩
      refine nw_callD (nw_goV (n := 2) (As := [.int (nI 0), .int (nI 1)]) (rest := []) hSx hA hKs hw hS (c_M_refuses l D tC A ad n J bw L bX aY S hN (nI 0) (nI 1)) kw_774 kw_771 kw_773 ks_M_refuses kw_8 rfl rfl (by decide +kernel) ⟨Nat.le_of_ble_eq_true rfl, Nat.le_of_ble_eq_true rfl⟩ (nw_recv hK hw (mW_64) rfl) rfl hl.1 (Nat.le_of_ble_eq_true rfl) d_M_plant_35 ⟨Nat.le_of_ble_eq_true rfl, Nat.le_of_ble_eq_true rfl⟩) hS (fun H locs hw hS => ?_)
      refine lv_if_eq (tgt := 43) hx hb d_M_plant_38 (by decide) (fun c_38 => ?_) (fun c_38 => ?_)
      · skip
        have hno9 := b2_0 c_38
        have hok9 : (0 ≤ x1 ∧ x1 < nI (n 0)) ∧ (nI 0 ≤ x2 ∧ x2 ≤ 100000000) := Classical.not_not.mp (fun h => hno9 (Or.inl (ha9.mpr h)))
        have hst9 : True := Classical.not_not.mp (fun h => hno9 (Or.inr (hs9.mpr h)))
        obtain ⟨i1, rfl, hi1⟩ := nat_of (by omega) hok9.1
        have hw := nw_W.as (wn' := mW ad tC n (va_up J 0 (nI 0)) bw L bX aY S) hw (by rw [rfI_ok hno9])
        refine lv_aload_n hx hb d_M_plant_43 rfl (lv_at hl 0 rfl) ?_
        refine lv_iconst (v := nI 0) hx hb d_M_plant_44 (by decide) ?_
        refine nw_put (v := .int (nI 0)) (ty := .boolean) hx hb hts i_M t_M tk_M n_M hown hK hw hS (64) (mW_64) rfl 21 (by decide) (hts _ kw_680) (fun _ h9 => h9) rfl (by decide +kernel) (rfl) (rfl) (Nat.le_of_ble_eq_true rfl) d_M_plant_45 (fun H locs hw hS => ?_)
        have hw := nw_W.as (wn' := mW ad tC n (va_up (va_up J 0 (nI 0)) 3 (nI 0)) bw L bX aY S) (mW_setO (n' := n) (J' := (va_up (va_up J 0 (nI 0)) 3 (nI 0))) (bw' := bw) rfl hw) rfl
        refine lv_aload_n hx hb d_M_plant_48 rfl (lv_at hl 0 rfl) ?_
        refine nw_get hx hb hts i_M hown hK hw (64) (mW_64) rfl 12 (by decide) (hts _ kw_671) (fun _ h9 => h9) rfl d_M_plant_49 ?_
        refine lv_iload_n hx hb d_M_plant_52 rfl (lv_at hl 1 rfl) ?_
        refine nw_iald hx hb hK hw (187) 0 (mW_row (t := 5) (j := 7) (by decide) (by decide) (rfl)) rfl (i1) (rfl) (by omega) (by omega) d_M_plant_53 ?_
        refine lv_ei (y := S 5 7 i1) (congrFun (scm_rf 5 7 (by omega)) _) ?_
        refine lv_istore_n (lv' := [(3, .int (S 5 7 i1)), (0, .ref (ad (64))), (1, .int (nI i1)), (2, .int (x2))]) hx hb d_M_plant_54 rfl hl (by decide) rfl (fun ls hl => ?_)
        refine lv_aload_n hx hb d_M_plant_55 rfl (lv_at hl 1 rfl) ?_
        refine nw_get hx hb hts i_M hown hK hw (64) (mW_64) rfl 12 (by decide) (hts _ kw_671) (fun _ h9 => h9) rfl d_M_plant_56 ?_
        refine lv_iload_n hx hb d_M_plant_59 rfl (lv_at hl 2 rfl) ?_
        refine lv_iload_n hx hb d_M_plant_60 rfl (lv_at hl 3 rfl) ?_
        refine nw_iast hx hb hK hw hS (187) 0 (mW_row (t := 5) (j := 7) (by decide) (by decide) (rfl)) rfl (i1) (rfl) (by omega) (by omega) d_M_plant_61 (fun H locs hw hS => ?_)
        have hw := mW_setRow (t := 5) (j := 7) (by decide) (by decide) (rfl) hw
        refine lv_iload_n hx hb d_M_plant_62 rfl (lv_at hl 0 rfl) ?_
        exact nw_iret hQ hx hb hr hlocks hw hS (nw_mo_ok (fun h => h hok9) (fun h => h hst9) (by rw [nI_clamp (n := i1) (by omega)]; exact ⟨rfl, rfl⟩)) (Nat.le_of_ble_eq_true rfl) (Nat.le_of_ble_eq_true rfl) d_M_plant_63
      · skip
        refine lv_iconst (v := nI 0) hx hb d_M_plant_41 (by decide) ?_
        exact nw_iret hQ hx hb hr hlocks hw hS (nw_mo_bad (Wb := (fun t => mW ad tC n (va_up J 0 t) bw L bX aY S)) ha9 hs9 (b2_1 c_38)) (Nat.le_of_ble_eq_true rfl) (Nat.le_of_ble_eq_true rfl) d_M_plant_42
    · skip
      have h2 : nI 0 ≤ x2 ∧ x2 ≤ 100000000 := (show _ ↔ (nI 0 ≤ x2 ∧ x2 ≤ 100000000) from in_c rfl rfl).mp (b2_1 c_26)
      refine lv_iconst (v := nI 1) hx hb d_M_plant_29 (by decide) ?_
      refine lv_goto (tgt := 34) hx hb d_M_plant_30 (by decide) ?_
      refine lv_iconst (v := nI 1) hx hb d_M_plant_34 (by decide) ?_
      have ha9 : nI 1 = 0 ↔ ¬ ((0 ≤ x1 ∧ x1 < nI (n 0)) ∧ (nI 0 ≤ x2 ∧ x2 ≤ 100000000)) := ⟨fun h => absurd h (by decide), fun h => absurd ⟨h1, h2⟩ h⟩
      have hs9 : nI 1 = 0 ↔ ¬ (True) := ⟨fun h => absurd h (by decide), fun h => absurd trivial h⟩
      refine nw_callD (nw_goV (n := 2) (As := [.int (nI 1), .int (nI 1)]) (rest := []) hSx hA hKs hw hS (c_M_refuses l D tC A ad n J bw L bX aY S hN (nI 1) (nI 1)) kw_774 kw_771 kw_773 ks_M_refuses kw_8 rfl rfl (by decide +kernel) ⟨Nat.le_of_ble_eq_true rfl, Nat.le_of_ble_eq_true rfl⟩ (nw_recv hK hw (mW_64) rfl) rfl hl.1 (Nat.le_of_ble_eq_true rfl) d_M_plant_35 ⟨Nat.le_of_ble_eq_true rfl, Nat.le_of_ble_eq_true rfl⟩) hS (fun H locs hw hS => ?_)
      refine lv_if_eq (tgt := 43) hx hb d_M_plant_38 (by decide) (fun c_38 => ?_) (fun c_38 => ?_)
      · skip
        have hno9 := b2_0 c_38
        have hok9 : (0 ≤ x1 ∧ x1 < nI (n 0)) ∧ (nI 0 ≤ x2 ∧ x2 ≤ 100000000) := Classical.not_not.mp (fun h => hno9 (Or.inl (ha9.mpr h)))
        have hst9 : True := Classical.not_not.mp (fun h => hno9 (Or.inr (hs9.mpr h)))
        obtain ⟨i1, rfl, hi1⟩ := nat_of (by omega) hok9.1
        have hw := nw_W.as (wn' := mW ad tC n (va_up J 0 (nI 0)) bw L bX aY S) hw (by rw [rfI_ok hno9])
        refine lv_aload_n hx hb d_M_plant_43 rfl (lv_at hl 0 rfl) ?_
        refine lv_iconst (v := nI 0) hx hb d_M_plant_44 (by decide) ?_
        refine nw_put (v := .int (nI 0)) (ty := .boolean) hx hb hts i_M t_M tk_M n_M hown hK hw hS (64) (mW_64) rfl 21 (by decide) (hts _ kw_680) (fun _ h9 => h9) rfl (by decide +kernel) (rfl) (rfl) (Nat.le_of_ble_eq_true rfl) d_M_plant_45 (fun H locs hw hS => ?_)
        have hw := nw_W.as (wn' := mW ad tC n (va_up (va_up J 0 (nI 0)) 3 (nI 0)) bw L bX aY S) (mW_setO (n' := n) (J' := (va_up (va_up J 0 (nI 0)) 3 (nI 0))) (bw' := bw) rfl hw) rfl
        refine lv_aload_n hx hb d_M_plant_48 rfl (lv_at hl 0 rfl) ?_
        refine nw_get hx hb hts i_M hown hK hw (64) (mW_64) rfl 12 (by decide) (hts _ kw_671) (fun _ h9 => h9) rfl d_M_plant_49 ?_
        refine lv_iload_n hx hb d_M_plant_52 rfl (lv_at hl 1 rfl) ?_
        refine nw_iald hx hb hK hw (187) 0 (mW_row (t := 5) (j := 7) (by decide) (by decide) (rfl)) rfl (i1) (rfl) (by omega) (by omega) d_M_plant_53 ?_
        refine lv_ei (y := S 5 7 i1) (congrFun (scm_rf 5 7 (by omega)) _) ?_
        refine lv_istore_n (lv' := [(3, .int (S 5 7 i1)), (0, .ref (ad (64))), (1, .int (nI i1)), (2, .int (x2))]) hx hb d_M_plant_54 rfl hl (by decide) rfl (fun ls hl => ?_)
        refine lv_aload_n hx hb d_M_plant_55 rfl (lv_at hl 1 rfl) ?_
        refine nw_get hx hb hts i_M hown hK hw (64) (mW_64) rfl 12 (by decide) (hts _ kw_671) (fun _ h9 => h9) rfl d_M_plant_56 ?_
        refine lv_iload_n hx hb d_M_plant_59 rfl (lv_at hl 2 rfl) ?_
        refine lv_iload_n hx hb d_M_plant_60 rfl (lv_at hl 3 rfl) ?_
        refine nw_iast hx hb hK hw hS (187) 0 (mW_row (t := 5) (j := 7) (by decide) (by decide) (rfl)) rfl (i1) (rfl) (by omega) (by omega) d_M_plant_61 (fun H locs hw hS => ?_)
        have hw := mW_setRow (t := 5) (j := 7) (by decide) (by decide) (rfl) hw
        refine lv_iload_n hx hb d_M_plant_62 rfl (lv_at hl 0 rfl) ?_
        exact nw_iret hQ hx hb hr hlocks hw hS (nw_mo_ok (fun h => h hok9) (fun h => h hst9) (by rw [nI_clamp (n := i1) (by omega)]; exact ⟨rfl, rfl⟩)) (Nat.le_of_ble_eq_true rfl) (Nat.le_of_ble_eq_true rfl) d_M_plant_63
      · skip
        refine lv_iconst (v := nI 0) hx hb d_M_plant_41 (by decide) ?_
        exact nw_iret hQ hx hb hr hlocks hw hS (nw_mo_bad (Wb := (fun t => mW ad tC n (va_up J 0 t) bw L bX aY S)) ha9 hs9 (b2_1 c_38)) (Nat.le_of_ble_eq_true rfl) (Nat.le_of_ble_eq_true rfl) d_M_plant_42

set_option maxHeartbeats 4000000 in
set_option maxRecDepth 100000 in
/-- prices -/
theorem c_M_prices (l : Launch) (D : va_G) (tC : Nat → ClassId) (A : Nat → Prop) (ad : Nat → Nat) (n : Nat → Nat) (J : Nat → Int32) (bw : Int64) (L : Nat → Nat → Int64) (bX : Nat → Option va_E) (aY : Nat → Nat → Option (ClassId × Nat)) (S : Nat → Nat → Nat → Int32) (hN : hpN n) (x1 x2 : Int32) : nw_Met l y_M_prices [Cond.code y_M_prices b_M_prices 3 none] ({ frames := 1, cells := 0, slots := 0, locals := 25 } : Room) D hpC A [.ref (ad (64)), .int (x1), .int (x2)] (nw_pre D hpC (hpT tC) A (mW ad tC n J bw L bX aY S) ad) (nw_mo (¬ ((nI 0 ≤ x1 ∧ x1 ≤ nI 10000) ∧ (nI 0 ≤ x2 ∧ x2 ≤ nI 10000))) (¬ (True)) (fun t => mW ad tC n (va_up J 0 t) bw L bX aY S) ad (none) 2 (fun o wn' => o = none ∧ wn' = mW ad tC n (va_up (va_up (va_up (va_up J 0 (nI 0)) 3 (nI 0)) 1 x1) 2 x2) bw L bX aY S)) 0 0 := by
  refine nw_bodyK (by decide) (Nat.le_of_ble_eq_true rfl) ?_
  intro p e s m below meth cd ls args Q hSx hr hlocks hname hA hKs hw hS hl hQ
  obtain ⟨hx, hb, hml, hown, hts⟩ := id hSx
  have hK := hKs.1
  have hl : lv_has ls 3 [(0, .ref (ad (64))), (1, .int (x1)), (2, .int (x2))] := hl
  obtain ⟨hn0, hn0', hn1, hn2, hn3, hn4⟩ := id hN
  refine lv_aload_n hx hb d_M_prices_0 rfl (lv_at hl 0 rfl) ?_
  refine lv_iload_n hx hb d_M_prices_1 rfl (lv_at hl 1 rfl) ?_
  refine lv_i2l (v := ((x1).toInt64)) hx hb d_M_prices_2 rfl ?_
  refine lv_lconst (v := 0) hx hb d_M_prices_3 (by decide) ?_
  refine lv_ldc2 (v := 10000) hx hb hown (hts _ kw_810) d_M_prices_4 ?_
  refine nw_callD (nw_goS (n := 3) (As := [.long (((x1).toInt64)), .long (0), .long (10000)]) (rest := [.ref (ad (64))]) hSx hA hKs hw hS (c_M_in l D tC A ad n J bw L bX aY S S scm_rf hN (((x1).toInt64)) (0) (10000)) kw_770 kw_768 kw_769 kw_8 rfl rfl (by decide +kernel) ⟨Nat.le_of_ble_eq_true rfl, Nat.le_of_ble_eq_true rfl⟩ rfl hl.1 (Nat.le_of_ble_eq_true rfl) d_M_prices_7 ⟨Nat.le_of_ble_eq_true rfl, Nat.le_of_ble_eq_true rfl⟩) hS (fun H locs hw hS => ?_)
  refine lv_if_eq (tgt := 29) hx hb d_M_prices_10 (by decide) (fun c_10 => ?_) (fun c_10 => ?_)
  · skip
    have hneg : ¬ ((nI 0 ≤ x1 ∧ x1 ≤ nI 10000) ∧ (nI 0 ≤ x2 ∧ x2 ≤ nI 10000)) := fun h => b2_0 c_10 ((show _ ↔ (nI 0 ≤ x1 ∧ x1 ≤ nI 10000) from in_c rfl rfl).mpr (h.1))
    refine lv_iconst (v := nI 0) hx hb d_M_prices_29 (by decide) ?_
    refine lv_iconst (v := nI 1) hx hb d_M_prices_30 (by decide) ?_
    have ha9 : nI 0 = 0 ↔ ¬ ((nI 0 ≤ x1 ∧ x1 ≤ nI 10000) ∧ (nI 0 ≤ x2 ∧ x2 ≤ nI 10000)) := ⟨fun _ => hneg, fun _ => rfl⟩
    have hs9 : nI 1 = 0 ↔ ¬ (True) := ⟨fun h => absurd h (by decide), fun h => absurd trivial h⟩
    refine nw_callD (nw_goV (n := 2) (As := [.int (nI 0), .int (nI 1)]) (rest := []) hSx hA hKs hw hS (c_M_refuses l D tC A ad n J bw L bX aY S hN (nI 0) (nI 1)) kw_774 kw_771 kw_773 ks_M_refuses kw_8 rfl rfl (by decide +kernel) ⟨Nat.le_of_ble_eq_true rfl, Nat.le_of_ble_eq_true rfl⟩ (nw_recv hK hw (mW_64) rfl) rfl hl.1 (Nat.le_of_ble_eq_true rfl) d_M_prices_31 ⟨Nat.le_of_ble_eq_true rfl, Nat.le_of_ble_eq_true rfl⟩) hS (fun H locs hw hS => ?_)
    refine lv_if_eq (tgt := 38) hx hb d_M_prices_34 (by decide) (fun c_34 => ?_) (fun c_34 => ?_)
    · skip
      have hno9 := b2_0 c_34
      have hok9 : (nI 0 ≤ x1 ∧ x1 ≤ nI 10000) ∧ (nI 0 ≤ x2 ∧ x2 ≤ nI 10000) := Classical.not_not.mp (fun h => hno9 (Or.inl (ha9.mpr h)))
      have hst9 : True := Classical.not_not.mp (fun h => hno9 (Or.inr (hs9.mpr h)))
      have hw := nw_W.as (wn' := mW ad tC n (va_up J 0 (nI 0)) bw L bX aY S) hw (by rw [rfI_ok hno9])
      refine lv_aload_n hx hb d_M_prices_38 rfl (lv_at hl 0 rfl) ?_
      refine lv_iconst (v := nI 0) hx hb d_M_prices_39 (by decide) ?_
      refine nw_put (v := .int (nI 0)) (ty := .boolean) hx hb hts i_M t_M tk_M n_M hown hK hw hS (64) (mW_64) rfl 21 (by decide) (hts _ kw_680) (fun _ h9 => h9) rfl (by decide +kernel) (rfl) (rfl) (Nat.le_of_ble_eq_true rfl) d_M_prices_40 (fun H locs hw hS => ?_)
      have hw := nw_W.as (wn' := mW ad tC n (va_up (va_up J 0 (nI 0)) 3 (nI 0)) bw L bX aY S) (mW_setO (n' := n) (J' := (va_up (va_up J 0 (nI 0)) 3 (nI 0))) (bw' := bw) rfl hw) rfl
      refine lv_aload_n hx hb d_M_prices_43 rfl (lv_at hl 0 rfl) ?_
      refine lv_iload_n hx hb d_M_prices_44 rfl (lv_at hl 1 rfl) ?_
      refine nw_put (v := .int (x1)) (ty := .int) hx hb hts i_M t_M tk_M n_M hown hK hw hS (64) (mW_64) rfl 19 (by decide) (hts _ kw_678) (fun _ h9 => h9) rfl (by decide +kernel) (rfl) (rfl) (Nat.le_of_ble_eq_true rfl) d_M_prices_45 (fun H locs hw hS => ?_)
      have hw := nw_W.as (wn' := mW ad tC n (va_up (va_up (va_up J 0 (nI 0)) 3 (nI 0)) 1 x1) bw L bX aY S) (mW_setO (n' := n) (J' := (va_up (va_up (va_up J 0 (nI 0)) 3 (nI 0)) 1 x1)) (bw' := bw) rfl hw) rfl
      refine lv_aload_n hx hb d_M_prices_48 rfl (lv_at hl 0 rfl) ?_
      refine lv_iload_n hx hb d_M_prices_49 rfl (lv_at hl 2 rfl) ?_
      refine nw_put (v := .int (x2)) (ty := .int) hx hb hts i_M t_M tk_M n_M hown hK hw hS (64) (mW_64) rfl 20 (by decide) (hts _ kw_679) (fun _ h9 => h9) rfl (by decide +kernel) (rfl) (rfl) (Nat.le_of_ble_eq_true rfl) d_M_prices_50 (fun H locs hw hS => ?_)
      have hw := nw_W.as (wn' := mW ad tC n (va_up (va_up (va_up (va_up J 0 (nI 0)) 3 (nI 0)) 1 x1) 2 x2) bw L bX aY S) (mW_setO (n' := n) (J' := (va_up (va_up (va_up (va_up J 0 (nI 0)) 3 (nI 0)) 1 x1) 2 x2)) (bw' := bw) rfl hw) rfl
      exact nw_vret hQ hx hb hr hlocks hw hS (nw_mo_ok (fun h => h hok9) (fun h => h hst9) (⟨rfl, rfl⟩)) (Nat.le_of_ble_eq_true rfl) (Nat.le_of_ble_eq_true rfl) d_M_prices_53
    · skip
      exact nw_vret hQ hx hb hr hlocks hw hS (nw_mo_bad (Wb := (fun t => mW ad tC n (va_up J 0 t) bw L bX aY S)) ha9 hs9 (b2_1 c_34)) (Nat.le_of_ble_eq_true rfl) (Nat.le_of_ble_eq_true rfl) d_M_prices_37
  · skip
    have h1 : nI 0 ≤ x1 ∧ x1 ≤ nI 10000 := (show _ ↔ (nI 0 ≤ x1 ∧ x1 ≤ nI 10000) from in_c rfl rfl).mp (b2_1 c_10)
    refine lv_iload_n hx hb d_M_prices_13 rfl (lv_at hl 2 rfl) ?_
    refine lv_i2l (v := ((x2).toInt64)) hx hb d_M_prices_14 rfl ?_
    refine lv_lconst (v := 0) hx hb d_M_prices_15 (by decide) ?_
    refine lv_ldc2 (v := 10000) hx hb hown (hts _ kw_810) d_M_prices_16 ?_
    refine nw_callD (nw_goS (n := 3) (As := [.long (((x2).toInt64)), .long (0), .long (10000)]) (rest := [.ref (ad (64))]) hSx hA hKs hw hS (c_M_in l D tC A ad n J bw L bX aY S S scm_rf hN (((x2).toInt64)) (0) (10000)) kw_770 kw_768 kw_769 kw_8 rfl rfl (by decide +kernel) ⟨Nat.le_of_ble_eq_true rfl, Nat.le_of_ble_eq_true rfl⟩ rfl hl.1 (Nat.le_of_ble_eq_true rfl) d_M_prices_19 ⟨Nat.le_of_ble_eq_true rfl, Nat.le_of_ble_eq_true rfl⟩) hS (fun H locs hw hS => ?_)
    refine lv_if_eq (tgt := 29) hx hb d_M_prices_22 (by decide) (fun c_22 => ?_) (fun c_22 => ?_)
    · skip
      have hneg : ¬ ((nI 0 ≤ x1 ∧ x1 ≤ nI 10000) ∧ (nI 0 ≤ x2 ∧ x2 ≤ nI 10000)) := fun h => b2_0 c_22 ((show _ ↔ (nI 0 ≤ x2 ∧ x2 ≤ nI 10000) from in_c rfl rfl).mpr (h.2))
      refine lv_iconst (v := nI 0) hx hb d_M_prices_29 (by decide) ?_
      refine lv_iconst (v := nI 1) hx hb d_M_prices_30 (by decide) ?_
      have ha9 : nI 0 = 0 ↔ ¬ ((nI 0 ≤ x1 ∧ x1 ≤ nI 10000) ∧ (nI 0 ≤ x2 ∧ x2 ≤ nI 10000)) := ⟨fun _ => hneg, fun _ => rfl⟩
      have hs9 : nI 1 = 0 ↔ ¬ (True) := ⟨fun h => absurd h (by decide), fun h => absurd trivial h⟩
      refine nw_callD (nw_goV (n := 2) (As := [.int (nI 0), .int (nI 1)]) (rest := []) hSx hA hKs hw hS (c_M_refuses l D tC A ad n J bw L bX aY S hN (nI 0) (nI 1)) kw_774 kw_771 kw_773 ks_M_refuses kw_8 rfl rfl (by decide +kernel) ⟨Nat.le_of_ble_eq_true rfl, Nat.le_of_ble_eq_true rfl⟩ (nw_recv hK hw (mW_64) rfl) rfl hl.1 (Nat.le_of_ble_eq_true rfl) d_M_prices_31 ⟨Nat.le_of_ble_eq_true rfl, Nat.le_of_ble_eq_true rfl⟩) hS (fun H locs hw hS => ?_)
      refine lv_if_eq (tgt := 38) hx hb d_M_prices_34 (by decide) (fun c_34 => ?_) (fun c_34 => ?_)
      · skip
        have hno9 := b2_0 c_34
        have hok9 : (nI 0 ≤ x1 ∧ x1 ≤ nI 10000) ∧ (nI 0 ≤ x2 ∧ x2 ≤ nI 10000) := Classical.not_not.mp (fun h => hno9 (Or.inl (ha9.mpr h)))
        have hst9 : True := Classical.not_not.mp (fun h => hno9 (Or.inr (hs9.mpr h)))
        have hw := nw_W.as (wn' := mW ad tC n (va_up J 0 (nI 0)) bw L bX aY S) hw (by rw [rfI_ok hno9])
        refine lv_aload_n hx hb d_M_prices_38 rfl (lv_at hl 0 rfl) ?_
        refine lv_iconst (v := nI 0) hx hb d_M_prices_39 (by decide) ?_
        refine nw_put (v := .int (nI 0)) (ty := .boolean) hx hb hts i_M t_M tk_M n_M hown hK hw hS (64) (mW_64) rfl 21 (by decide) (hts _ kw_680) (fun _ h9 => h9) rfl (by decide +kernel) (rfl) (rfl) (Nat.le_of_ble_eq_true rfl) d_M_prices_40 (fun H locs hw hS => ?_)
        have hw := nw_W.as (wn' := mW ad tC n (va_up (va_up J 0 (nI 0)) 3 (nI 0)) bw L bX aY S) (mW_setO (n' := n) (J' := (va_up (va_up J 0 (nI 0)) 3 (nI 0))) (bw' := bw) rfl hw) rfl
        refine lv_aload_n hx hb d_M_prices_43 rfl (lv_at hl 0 rfl) ?_
        refine lv_iload_n hx hb d_M_prices_44 rfl (lv_at hl 1 rfl) ?_
        refine nw_put (v := .int (x1)) (ty := .int) hx hb hts i_M t_M tk_M n_M hown hK hw hS (64) (mW_64) rfl 19 (by decide) (hts _ kw_678) (fun _ h9 => h9) rfl (by decide +kernel) (rfl) (rfl) (Nat.le_of_ble_eq_true rfl) d_M_prices_45 (fun H locs hw hS => ?_)
        have hw := nw_W.as (wn' := mW ad tC n (va_up (va_up (va_up J 0 (nI 0)) 3 (nI 0)) 1 x1) bw L bX aY S) (mW_setO (n' := n) (J' := (va_up (va_up (va_up J 0 (nI 0)) 3 (nI 0)) 1 x1)) (bw' := bw) rfl hw) rfl
        refine lv_aload_n hx hb d_M_prices_48 rfl (lv_at hl 0 rfl) ?_
        refine lv_iload_n hx hb d_M_prices_49 rfl (lv_at hl 2 rfl) ?_
        refine nw_put (v := .int (x2)) (ty := .int) hx hb hts i_M t_M tk_M n_M hown hK hw hS (64) (mW_64) rfl 20 (by decide) (hts _ kw_679) (fun _ h9 => h9) rfl (by decide +kernel) (rfl) (rfl) (Nat.le_of_ble_eq_true rfl) d_M_prices_50 (fun H locs hw hS => ?_)
        have hw := nw_W.as (wn' := mW ad tC n (va_up (va_up (va_up (va_up J 0 (nI 0)) 3 (nI 0)) 1 x1) 2 x2) bw L bX aY S) (mW_setO (n' := n) (J' := (va_up (va_up (va_up (va_up J 0 (nI 0)) 3 (nI 0)) 1 x1) 2 x2)) (bw' := bw) rfl hw) rfl
        exact nw_vret hQ hx hb hr hlocks hw hS (nw_mo_ok (fun h => h hok9) (fun h => h hst9) (⟨rfl, rfl⟩)) (Nat.le_of_ble_eq_true rfl) (Nat.le_of_ble_eq_true rfl) d_M_prices_53
      · skip
        exact nw_vret hQ hx hb hr hlocks hw hS (nw_mo_bad (Wb := (fun t => mW ad tC n (va_up J 0 t) bw L bX aY S)) ha9 hs9 (b2_1 c_34)) (Nat.le_of_ble_eq_true rfl) (Nat.le_of_ble_eq_true rfl) d_M_prices_37
    · skip
      have h2 : nI 0 ≤ x2 ∧ x2 ≤ nI 10000 := (show _ ↔ (nI 0 ≤ x2 ∧ x2 ≤ nI 10000) from in_c rfl rfl).mp (b2_1 c_22)
      refine lv_iconst (v := nI 1) hx hb d_M_prices_25 (by decide) ?_
      refine lv_goto (tgt := 30) hx hb d_M_prices_26 (by decide) ?_
      refine lv_iconst (v := nI 1) hx hb d_M_prices_30 (by decide) ?_
      have ha9 : nI 1 = 0 ↔ ¬ ((nI 0 ≤ x1 ∧ x1 ≤ nI 10000) ∧ (nI 0 ≤ x2 ∧ x2 ≤ nI 10000)) := ⟨fun h => absurd h (by decide), fun h => absurd ⟨h1, h2⟩ h⟩
      have hs9 : nI 1 = 0 ↔ ¬ (True) := ⟨fun h => absurd h (by decide), fun h => absurd trivial h⟩
      refine nw_callD (nw_goV (n := 2) (As := [.int (nI 1), .int (nI 1)]) (rest := []) hSx hA hKs hw hS (c_M_refuses l D tC A ad n J bw L bX aY S hN (nI 1) (nI 1)) kw_774 kw_771 kw_773 ks_M_refuses kw_8 rfl rfl (by decide +kernel) ⟨Nat.le_of_ble_eq_true rfl, Nat.le_of_ble_eq_true rfl⟩ (nw_recv hK hw (mW_64) rfl) rfl hl.1 (Nat.le_of_ble_eq_true rfl) d_M_prices_31 ⟨Nat.le_of_ble_eq_true rfl, Nat.le_of_ble_eq_true rfl⟩) hS (fun H locs hw hS => ?_)
      refine lv_if_eq (tgt := 38) hx hb d_M_prices_34 (by decide) (fun c_34 => ?_) (fun c_34 => ?_)
      · skip
        have hno9 := b2_0 c_34
        have hok9 : (nI 0 ≤ x1 ∧ x1 ≤ nI 10000) ∧ (nI 0 ≤ x2 ∧ x2 ≤ nI 10000) := Classical.not_not.mp (fun h => hno9 (Or.inl (ha9.mpr h)))
        have hst9 : True := Classical.not_not.mp (fun h => hno9 (Or.inr (hs9.mpr h)))
        have hw := nw_W.as (wn' := mW ad tC n (va_up J 0 (nI 0)) bw L bX aY S) hw (by rw [rfI_ok hno9])
        refine lv_aload_n hx hb d_M_prices_38 rfl (lv_at hl 0 rfl) ?_
        refine lv_iconst (v := nI 0) hx hb d_M_prices_39 (by decide) ?_
        refine nw_put (v := .int (nI 0)) (ty := .boolean) hx hb hts i_M t_M tk_M n_M hown hK hw hS (64) (mW_64) rfl 21 (by decide) (hts _ kw_680) (fun _ h9 => h9) rfl (by decide +kernel) (rfl) (rfl) (Nat.le_of_ble_eq_true rfl) d_M_prices_40 (fun H locs hw hS => ?_)
        have hw := nw_W.as (wn' := mW ad tC n (va_up (va_up J 0 (nI 0)) 3 (nI 0)) bw L bX aY S) (mW_setO (n' := n) (J' := (va_up (va_up J 0 (nI 0)) 3 (nI 0))) (bw' := bw) rfl hw) rfl
        refine lv_aload_n hx hb d_M_prices_43 rfl (lv_at hl 0 rfl) ?_
        refine lv_iload_n hx hb d_M_prices_44 rfl (lv_at hl 1 rfl) ?_
        refine nw_put (v := .int (x1)) (ty := .int) hx hb hts i_M t_M tk_M n_M hown hK hw hS (64) (mW_64) rfl 19 (by decide) (hts _ kw_678) (fun _ h9 => h9) rfl (by decide +kernel) (rfl) (rfl) (Nat.le_of_ble_eq_true rfl) d_M_prices_45 (fun H locs hw hS => ?_)
        have hw := nw_W.as (wn' := mW ad tC n (va_up (va_up (va_up J 0 (nI 0)) 3 (nI 0)) 1 x1) bw L bX aY S) (mW_setO (n' := n) (J' := (va_up (va_up (va_up J 0 (nI 0)) 3 (nI 0)) 1 x1)) (bw' := bw) rfl hw) rfl
        refine lv_aload_n hx hb d_M_prices_48 rfl (lv_at hl 0 rfl) ?_
        refine lv_iload_n hx hb d_M_prices_49 rfl (lv_at hl 2 rfl) ?_
        refine nw_put (v := .int (x2)) (ty := .int) hx hb hts i_M t_M tk_M n_M hown hK hw hS (64) (mW_64) rfl 20 (by decide) (hts _ kw_679) (fun _ h9 => h9) rfl (by decide +kernel) (rfl) (rfl) (Nat.le_of_ble_eq_true rfl) d_M_prices_50 (fun H locs hw hS => ?_)
        have hw := nw_W.as (wn' := mW ad tC n (va_up (va_up (va_up (va_up J 0 (nI 0)) 3 (nI 0)) 1 x1) 2 x2) bw L bX aY S) (mW_setO (n' := n) (J' := (va_up (va_up (va_up (va_up J 0 (nI 0)) 3 (nI 0)) 1 x1) 2 x2)) (bw' := bw) rfl hw) rfl
        exact nw_vret hQ hx hb hr hlocks hw hS (nw_mo_ok (fun h => h hok9) (fun h => h hst9) (⟨rfl, rfl⟩)) (Nat.le_of_ble_eq_true rfl) (Nat.le_of_ble_eq_true rfl) d_M_prices_53
      · skip
        exact nw_vret hQ hx hb hr hlocks hw hS (nw_mo_bad (Wb := (fun t => mW ad tC n (va_up J 0 t) bw L bX aY S)) ha9 hs9 (b2_1 c_34)) (Nat.le_of_ble_eq_true rfl) (Nat.le_of_ble_eq_true rfl) d_M_prices_37
