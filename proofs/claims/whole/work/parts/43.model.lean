set_option maxHeartbeats 4000000 in
set_option maxRecDepth 100000 in
/-- within bounds -/
theorem c_M_in (l : Launch) (D : va_G) (tC : Nat → ClassId) (A : Nat → Prop) (ad : Nat → Nat) (n : Nat → Nat) (J : Nat → Int32) (bw : Int64) (L : Nat → Nat → Int64) (bX : Nat → Option va_E) (aY : Nat → Nat → Option (ClassId × Nat)) (F S : Nat → Nat → Nat → Int32) (hsc : scm F S) (hN : hpN n) (v lo hi : Int64) : nw_Met l y_M_in [Cond.code y_M_in b_M_in 6 (some .boolean)] ({ frames := 0, cells := 0, slots := 0, locals := 0 } : Room) D hpC A [.long (v), .long (lo), .long (hi)] (nw_pre D hpC (hpT tC) A (mW ad tC n J bw L bX aY S) ad) (nw_ok (some (.int (b2 (lo ≤ v ∧ v ≤ hi)))) (mW ad tC n J bw L bX aY S) ad) 0 0 := by
  refine nw_bodyK (by decide) (Nat.le_of_ble_eq_true rfl) ?_
  intro p e s m below meth cd ls args Q hSx hr hlocks hname hA hKs hw hS hl hQ
  obtain ⟨hx, hb, hml, hown, hts⟩ := id hSx
  have hK := hKs.1
  have hl : lv_has ls 6 [(0, .long (v)), (2, .long (lo)), (4, .long (hi))] := hl
  obtain ⟨hn0, hn0', hn1, hn2, hn3, hn4⟩ := id hN
  refine lv_lload_n hx hb d_M_in_0 rfl (lv_at hl 0 rfl) ?_
  refine lv_lload_n hx hb d_M_in_1 rfl (lv_at hl 1 rfl) ?_
  refine W.lcmp hx hb d_M_in_2 ?_
  refine lv_if_lt (tgt := 17) hx hb d_M_in_3 (by decide) (fun c_3 => ?_) (fun c_3 => ?_)
  · skip
    have hres : nI 0 = b2 (lo ≤ v ∧ v ≤ hi) := b2_f (fun h => Int64.not_le.mpr ((lg_cmp_lt _ _).mp c_3) h.1)
    refine lv_iconst (v := nI 0) hx hb d_M_in_17 (by decide) ?_
    exact nw_zret hQ hx hb hr (by first | exact Or.inl rfl | exact Or.inr rfl) hlocks hw hS (nw_okI hres) (Nat.le_of_ble_eq_true rfl) (Nat.le_of_ble_eq_true rfl) d_M_in_18
  · skip
    refine lv_lload_n hx hb d_M_in_6 rfl (lv_at hl 0 rfl) ?_
    refine lv_lload hx hb d_M_in_7 (lv_at hl 2 rfl) ?_
    refine W.lcmp hx hb d_M_in_9 ?_
    refine lv_if_gt (tgt := 17) hx hb d_M_in_10 (by decide) (fun c_10 => ?_) (fun c_10 => ?_)
    · skip
      have hres : nI 0 = b2 (lo ≤ v ∧ v ≤ hi) := b2_f (fun h => Int64.not_le.mpr ((lg_cmp_gt _ _).mp c_10) h.2)
      refine lv_iconst (v := nI 0) hx hb d_M_in_17 (by decide) ?_
      exact nw_zret hQ hx hb hr (by first | exact Or.inl rfl | exact Or.inr rfl) hlocks hw hS (nw_okI hres) (Nat.le_of_ble_eq_true rfl) (Nat.le_of_ble_eq_true rfl) d_M_in_18
    · skip
      have hres : nI 1 = b2 (lo ≤ v ∧ v ≤ hi) := b2_t ⟨Int64.not_lt.mp (fun h => c_3 ((lg_cmp_lt _ _).mpr h)), Int64.not_lt.mp (fun h => c_10 ((lg_cmp_gt _ _).mpr h))⟩
      refine lv_iconst (v := nI 1) hx hb d_M_in_13 (by decide) ?_
      refine lv_goto (tgt := 18) hx hb d_M_in_14 (by decide) ?_
      exact nw_zret hQ hx hb hr (by first | exact Or.inl rfl | exact Or.inr rfl) hlocks hw hS (nw_okI hres) (Nat.le_of_ble_eq_true rfl) (Nat.le_of_ble_eq_true rfl) d_M_in_18

set_option maxHeartbeats 4000000 in
set_option maxRecDepth 100000 in
/-- KILOS -/
theorem c_M_kilos (l : Launch) (D : va_G) (tC : Nat → ClassId) (A : Nat → Prop) (ad : Nat → Nat) (n : Nat → Nat) (J : Nat → Int32) (bw : Int64) (L : Nat → Nat → Int64) (bX : Nat → Option va_E) (aY : Nat → Nat → Option (ClassId × Nat)) (F S : Nat → Nat → Nat → Int32) (hsc : scm F S) (hN : hpN n) (c w : Nat) (hc : c < 6) (hw8 : w < 8) : nw_Met l y_M_kilos [Cond.code y_M_kilos b_M_kilos 3 (some .long)] ({ frames := 0, cells := 0, slots := 0, locals := 0 } : Room) D hpC A [.ref (ad (64)), .int (nI c), .int (nI w)] (nw_pre D hpC (hpT tC) A (mW ad tC n J bw L bX aY S) ad) (nw_ok (some (.long (kM F c w))) (mW ad tC n J bw L bX aY S) ad) 0 0 := by
  refine nw_bodyK (by decide) (Nat.le_of_ble_eq_true rfl) ?_
  intro p e s m below meth cd ls args Q hSx hr hlocks hname hA hKs hw hS hl hQ
  obtain ⟨hx, hb, hml, hown, hts⟩ := id hSx
  have hK := hKs.1
  have hl : lv_has ls 3 [(0, .ref (ad (64))), (1, .int (nI c)), (2, .int (nI w))] := hl
  obtain ⟨hn0, hn0', hn1, hn2, hn3, hn4⟩ := id hN
  refine lv_aload_n hx hb d_M_kilos_0 rfl (lv_at hl 0 rfl) ?_
  refine nw_get hx hb hts i_M hown hK hw (64) (mW_64) rfl 7 (by decide) (hts _ kw_666) (fun _ h9 => h9) rfl d_M_kilos_1 ?_
  refine lv_bipush (v := nI 8) hx hb d_M_kilos_4 (by decide) ?_
  refine lv_iload_n hx hb d_M_kilos_6 rfl (lv_at hl 1 rfl) ?_
  refine lv_imul hx hb d_M_kilos_7 ?_
  refine lv_iload_n hx hb d_M_kilos_8 rfl (lv_at hl 2 rfl) ?_
  refine lv_iadd hx hb d_M_kilos_9 ?_
  refine lv_ei (y := nI (8 * c + w)) (ix8 _ _) ?_
  refine nw_iald hx hb hK hw (183) 0 (mW_row (t := 5) (j := 3) (by decide) (by decide) (rfl)) rfl (8 * c + w) (rfl) (by omega) (by omega) d_M_kilos_10 ?_
  refine lv_ei (y := F 5 3 (8 * c + w)) (congrFun (hsc 5 3 (by omega)) _) ?_
  refine lv_i2l (v := ((F 5 3 (8 * c + w)).toInt64)) hx hb d_M_kilos_11 rfl ?_
  refine lv_aload_n hx hb d_M_kilos_12 rfl (lv_at hl 0 rfl) ?_
  refine nw_get hx hb hts i_M hown hK hw (64) (mW_64) rfl 8 (by decide) (hts _ kw_667) (fun _ h9 => h9) rfl d_M_kilos_13 ?_
  refine lv_bipush (v := nI 8) hx hb d_M_kilos_16 (by decide) ?_
  refine lv_iload_n hx hb d_M_kilos_18 rfl (lv_at hl 1 rfl) ?_
  refine lv_imul hx hb d_M_kilos_19 ?_
  refine lv_iload_n hx hb d_M_kilos_20 rfl (lv_at hl 2 rfl) ?_
  refine lv_iadd hx hb d_M_kilos_21 ?_
  refine lv_ei (y := nI (8 * c + w)) (ix8 _ _) ?_
  refine nw_iald hx hb hK hw (184) 0 (mW_row (t := 5) (j := 4) (by decide) (by decide) (rfl)) rfl (8 * c + w) (rfl) (by omega) (by omega) d_M_kilos_22 ?_
  refine lv_ei (y := F 5 4 (8 * c + w)) (congrFun (hsc 5 4 (by omega)) _) ?_
  refine lv_i2l (v := ((F 5 4 (8 * c + w)).toInt64)) hx hb d_M_kilos_23 rfl ?_
  refine lv_lmul hx hb d_M_kilos_24 ?_
  refine lv_ldc2 (v := 1000) hx hb hown (hts _ kw_793) d_M_kilos_25 ?_
  refine lv_ldiv hx hb d_M_kilos_28 (by decide) ?_
  exact nw_lret hQ hx hb hr hlocks hw hS (nw_okL rfl) (Nat.le_of_ble_eq_true rfl) (Nat.le_of_ble_eq_true rfl) d_M_kilos_29

set_option maxHeartbeats 4000000 in
set_option maxRecDepth 100000 in
/-- whether a cage is taken in the week -/
theorem c_M_takes (l : Launch) (D : va_G) (tC : Nat → ClassId) (A : Nat → Prop) (ad : Nat → Nat) (n : Nat → Nat) (J : Nat → Int32) (bw : Int64) (L : Nat → Nat → Int64) (bX : Nat → Option va_E) (aY : Nat → Nat → Option (ClassId × Nat)) (F S : Nat → Nat → Nat → Int32) (hsc : scm F S) (hN : hpN n) (c w many : Nat) (hc : c < 6) (hmany : many ≤ 6) : nw_Met l y_M_takes [Cond.code y_M_takes b_M_takes 4 (some .boolean)] ({ frames := 0, cells := 0, slots := 0, locals := 0 } : Room) D hpC A [.ref (ad (64)), .int (nI c), .int (nI w), .int (nI many)] (nw_pre D hpC (hpT tC) A (mW ad tC n J bw L bX aY S) ad) (nw_ok (some (.int (b2 (c < many ∧ F 5 14 c = nI w)))) (mW ad tC n J bw L bX aY S) ad) 0 0 := by
  refine nw_bodyK (by decide) (Nat.le_of_ble_eq_true rfl) ?_
  intro p e s m below meth cd ls args Q hSx hr hlocks hname hA hKs hw hS hl hQ
  obtain ⟨hx, hb, hml, hown, hts⟩ := id hSx
  have hK := hKs.1
  have hl : lv_has ls 4 [(0, .ref (ad (64))), (1, .int (nI c)), (2, .int (nI w)), (3, .int (nI many))] := hl
  obtain ⟨hn0, hn0', hn1, hn2, hn3, hn4⟩ := id hN
  refine lv_iload_n hx hb d_M_takes_0 rfl (lv_at hl 1 rfl) ?_
  refine lv_iload_n hx hb d_M_takes_1 rfl (lv_at hl 3 rfl) ?_
  refine lv_icmp_ge (tgt := 19) hx hb d_M_takes_2 (by decide) (fun c_2 => ?_) (fun c_2 => ?_)
  · skip
    have hres : nI 0 = b2 (c < many ∧ F 5 14 c = nI w) := b2_f (fun h => absurd h.1 (Nat.not_lt.mpr ((nI_leI (by omega) (by omega)).mp c_2)))
    refine lv_iconst (v := nI 0) hx hb d_M_takes_19 (by decide) ?_
    exact nw_zret hQ hx hb hr (by first | exact Or.inl rfl | exact Or.inr rfl) hlocks hw hS (nw_okI hres) (Nat.le_of_ble_eq_true rfl) (Nat.le_of_ble_eq_true rfl) d_M_takes_20
  · skip
    refine lv_aload_n hx hb d_M_takes_5 rfl (lv_at hl 0 rfl) ?_
    refine nw_get hx hb hts i_M hown hK hw (64) (mW_64) rfl 24 (by decide) (hts _ kw_683) (fun _ h9 => h9) rfl d_M_takes_6 ?_
    refine lv_iload_n hx hb d_M_takes_9 rfl (lv_at hl 1 rfl) ?_
    refine nw_iald hx hb hK hw (194) 0 (mW_row (t := 5) (j := 14) (by decide) (by decide) (rfl)) rfl (c) (rfl) (by omega) (by omega) d_M_takes_10 ?_
    refine lv_ei (y := F 5 14 c) (congrFun (hsc 5 14 (by omega)) _) ?_
    refine lv_iload_n hx hb d_M_takes_11 rfl (lv_at hl 2 rfl) ?_
    refine lv_icmp_ne (tgt := 19) hx hb d_M_takes_12 (by decide) (fun c_12 => ?_) (fun c_12 => ?_)
    · skip
      have hres : nI 0 = b2 (c < many ∧ F 5 14 c = nI w) := b2_f (fun h => c_12 h.2)
      refine lv_iconst (v := nI 0) hx hb d_M_takes_19 (by decide) ?_
      exact nw_zret hQ hx hb hr (by first | exact Or.inl rfl | exact Or.inr rfl) hlocks hw hS (nw_okI hres) (Nat.le_of_ble_eq_true rfl) (Nat.le_of_ble_eq_true rfl) d_M_takes_20
    · skip
      have hres : nI 1 = b2 (c < many ∧ F 5 14 c = nI w) := b2_t ⟨Nat.not_le.mp (fun q => c_2 (nI_le q (by omega))), c_12⟩
      refine lv_iconst (v := nI 1) hx hb d_M_takes_15 (by decide) ?_
      refine lv_goto (tgt := 20) hx hb d_M_takes_16 (by decide) ?_
      exact nw_zret hQ hx hb hr (by first | exact Or.inl rfl | exact Or.inr rfl) hlocks hw hS (nw_okI hres) (Nat.le_of_ble_eq_true rfl) (Nat.le_of_ble_eq_true rfl) d_M_takes_20

set_option maxHeartbeats 4000000 in
set_option maxRecDepth 100000 in
/-- PLANT -/
theorem c_M_keepsPlant (l : Launch) (D : va_G) (tC : Nat → ClassId) (A : Nat → Prop) (ad : Nat → Nat) (n : Nat → Nat) (J : Nat → Int32) (bw : Int64) (L : Nat → Nat → Int64) (bX : Nat → Option va_E) (aY : Nat → Nat → Option (ClassId × Nat)) (F S : Nat → Nat → Nat → Int32) (hsc : scm F S) (hN : hpN n) (w many : Nat) (hw8 : w < n 0) (hmany : many ≤ n 2) : nw_Met l y_M_keepsPlant [Cond.code y_M_keepsPlant b_M_keepsPlant 6 (some .boolean)] ({ frames := 1, cells := 0, slots := 0, locals := 23 } : Room) D hpC A [.ref (ad (64)), .int (nI w), .int (nI many)] (nw_pre D hpC (hpT tC) A (mW ad tC n J bw L bX aY S) ad) (nw_ok (some (.int (b2 (qPlant F w many)))) (mW ad tC n J bw L bX aY S) ad) 0 0 := by
  refine nw_bodyK (by decide) (Nat.le_of_ble_eq_true rfl) ?_
  intro p e s m below meth cd ls args Q hSx hr hlocks hname hA hKs hw hS hl hQ
  obtain ⟨hx, hb, hml, hown, hts⟩ := id hSx
  have hK := hKs.1
  have hl : lv_has ls 6 [(0, .ref (ad (64))), (1, .int (nI w)), (2, .int (nI many))] := hl
  obtain ⟨hn0, hn0', hn1, hn2, hn3, hn4⟩ := id hN
  refine lv_lconst (v := 0) hx hb d_M_keepsPlant_0 (by decide) ?_
  refine lv_lstore_n (lv' := [(3, .long (0)), (0, .ref (ad (64))), (1, .int (nI w)), (2, .int (nI many))]) hx hb d_M_keepsPlant_1 rfl hl (by decide) rfl (fun ls hl => ?_)
  refine lv_iconst (v := nI 0) hx hb d_M_keepsPlant_2 (by decide) ?_
  refine lv_istore (lv' := [(5, .int (nI 0)), (3, .long (0)), (0, .ref (ad (64))), (1, .int (nI w)), (2, .int (nI many))]) hx hb d_M_keepsPlant_3 hl (by decide) rfl (fun ls hl => ?_)
  have loop5 : ∀ (k c : Nat), c ≤ many → many + 1 ≤ c + k → ∀ (H : Heap) (locs : List Loc) (ls : Array Slot), nw_W D hpC A (mW ad tC n J bw L bX aY S) ad H → va_S A s.heap H locs → lv_has ls 6 [(0, .ref (ad (64))), (1, .int (nI w)), (2, .int (nI many)), (3, .long (mpS F w c)), (5, .int (nI c))] → W p l e ({ frames := 1, cells := 0, slots := 0, locals := 23 } : Room) s m args below meth cd H locs 0 0 Q (F0 m 5 ls []) := by
    intro k
    induction k with
    | zero => intro c h1 h2; exact absurd h2 (by omega)
    | succ k ih5 =>
      intro c hv5 hk5 H locs ls hw hS hl
      refine lv_iload hx hb d_M_keepsPlant_5 (lv_at hl 4 rfl) ?_
      refine lv_iload_n hx hb d_M_keepsPlant_7 rfl (lv_at hl 2 rfl) ?_
      refine lv_icmp_ge (tgt := 42) hx hb d_M_keepsPlant_8 (by decide) (fun c_8 => ?_) (fun c_8 => ?_)
      · skip
        have hge8 : many ≤ c := (nI_leI (by omega) (by omega)).mp c_8
        obtain rfl : many = c := by omega
        refine lv_lload_n hx hb d_M_keepsPlant_42 rfl (lv_at hl 3 rfl) ?_
        refine lv_aload_n hx hb d_M_keepsPlant_43 rfl (lv_at hl 0 rfl) ?_
        refine nw_get hx hb hts i_M hown hK hw (64) (mW_64) rfl 12 (by decide) (hts _ kw_671) (fun _ h9 => h9) rfl d_M_keepsPlant_44 ?_
        refine lv_iload_n hx hb d_M_keepsPlant_47 rfl (lv_at hl 1 rfl) ?_
        refine nw_iald hx hb hK hw (187) 0 (mW_row (t := 5) (j := 7) (by decide) (by decide) (rfl)) rfl (w) (rfl) (by omega) (by omega) d_M_keepsPlant_48 ?_
        refine lv_ei (y := F 5 7 w) (congrFun (hsc 5 7 (by omega)) _) ?_
        refine lv_i2l (v := ((F 5 7 w).toInt64)) hx hb d_M_keepsPlant_49 rfl ?_
        refine W.lcmp hx hb d_M_keepsPlant_50 ?_
        refine lv_if_gt (tgt := 58) hx hb d_M_keepsPlant_51 (by decide) (fun c_51 => ?_) (fun c_51 => ?_)
        · skip
          have hres : nI 0 = b2 (qPlant F w many) := b2_f (fun h => Int64.not_le.mpr ((lg_cmp_gt _ _).mp c_51) h)
          refine lv_iconst (v := nI 0) hx hb d_M_keepsPlant_58 (by decide) ?_
          exact nw_zret hQ hx hb hr (by first | exact Or.inl rfl | exact Or.inr rfl) hlocks hw hS (nw_okI hres) (Nat.le_of_ble_eq_true rfl) (Nat.le_of_ble_eq_true rfl) d_M_keepsPlant_59
        · skip
          have hres : nI 1 = b2 (qPlant F w many) := b2_t (Int64.not_lt.mp (fun h => c_51 ((lg_cmp_gt _ _).mpr h)))
          refine lv_iconst (v := nI 1) hx hb d_M_keepsPlant_54 (by decide) ?_
          refine lv_goto (tgt := 59) hx hb d_M_keepsPlant_55 (by decide) ?_
          exact nw_zret hQ hx hb hr (by first | exact Or.inl rfl | exact Or.inr rfl) hlocks hw hS (nw_okI hres) (Nat.le_of_ble_eq_true rfl) (Nat.le_of_ble_eq_true rfl) d_M_keepsPlant_59
      · skip
        have hlt : c < many := Nat.not_le.mp (fun q => c_8 (nI_le q (by omega)))
        refine lv_lload_n hx hb d_M_keepsPlant_11 rfl (lv_at hl 3 rfl) ?_
        refine lv_aload_n hx hb d_M_keepsPlant_12 rfl (lv_at hl 0 rfl) ?_
        refine lv_iload hx hb d_M_keepsPlant_13 (lv_at hl 4 rfl) ?_
        refine lv_iload_n hx hb d_M_keepsPlant_15 rfl (lv_at hl 1 rfl) ?_
        refine lv_iload_n hx hb d_M_keepsPlant_16 rfl (lv_at hl 2 rfl) ?_
        refine nw_callD (nw_goV (n := 3) (As := [.int (nI c), .int (nI w), .int (nI many)]) (rest := [.long (mpS F w c)]) hSx hA hKs hw hS (c_M_takes l D tC A ad n J bw L bX aY F S hsc hN c w many (by omega) (by omega)) kw_839 kw_836 kw_838 ks_M_takes kw_8 rfl rfl (by decide +kernel) ⟨Nat.le_of_ble_eq_true rfl, Nat.le_of_ble_eq_true rfl⟩ (nw_recv hK hw (mW_64) rfl) rfl hl.1 (Nat.le_of_ble_eq_true rfl) d_M_keepsPlant_17 ⟨Nat.le_of_ble_eq_true rfl, Nat.le_of_ble_eq_true rfl⟩) hS (fun H locs hw hS => ?_)
        refine lv_if_eq (tgt := 33) hx hb d_M_keepsPlant_20 (by decide) (fun c_20 => ?_) (fun c_20 => ?_)
        · skip
          have e3 : mpS F w (c + 1) = mpS F w c + 0 := mpS_f (fun h => b2_0 c_20 ⟨hlt, h⟩)
          refine lv_lconst (v := 0) hx hb d_M_keepsPlant_33 (by decide) ?_
          refine lv_ladd hx hb d_M_keepsPlant_34 ?_
          refine lv_lstore_n (lv' := [(3, .long (((mpS F w c) + (0)))), (0, .ref (ad (64))), (1, .int (nI w)), (2, .int (nI many)), (5, .int (nI c))]) hx hb d_M_keepsPlant_35 rfl hl (by decide) rfl (fun ls hl => ?_)
          refine lv_iinc (v := nI (c + 1)) (lv' := [(5, .int (nI (c + 1))), (3, .long (((mpS F w c) + (0)))), (0, .ref (ad (64))), (1, .int (nI w)), (2, .int (nI many))]) hx hb d_M_keepsPlant_36 hl (k := 4) rfl ((nI_succ _).symm) (by decide) rfl (fun ls hl => ?_)
          refine lv_goto (tgt := 5) hx hb d_M_keepsPlant_39 (by decide) ?_
          have el3 : mpS F w (c + 1) = ((mpS F w c) + (0)) := e3
          have hl : lv_has ls 6 [(5, .int (nI (c + 1))), (3, .long (mpS F w (c + 1))), (0, .ref (ad (64))), (1, .int (nI w)), (2, .int (nI many))] := by
            have h9 := hl
            revert h9; rw [show Value.long (mpS F w (c + 1)) = Value.long (((mpS F w c) + (0))) from congrArg _ el3]; intro h9
            exact h9
          exact ih5 (c + 1) (by omega) (by omega) _ _ ls hw hS (lv_sub hl [2, 3, 4, 1, 0] rfl)
        · skip
          have e3 : mpS F w (c + 1) = mpS F w c + kM F c w := mpS_t (b2_1 c_20).2
          refine lv_aload_n hx hb d_M_keepsPlant_23 rfl (lv_at hl 0 rfl) ?_
          refine lv_iload hx hb d_M_keepsPlant_24 (lv_at hl 4 rfl) ?_
          refine lv_iload_n hx hb d_M_keepsPlant_26 rfl (lv_at hl 1 rfl) ?_
          refine nw_callD (nw_goV (n := 2) (As := [.int (nI c), .int (nI w)]) (rest := [.long (mpS F w c)]) hSx hA hKs hw hS (c_M_kilos l D tC A ad n J bw L bX aY F S hsc hN c w (by omega) (by omega)) kw_792 kw_789 kw_791 ks_M_kilos kw_8 rfl rfl (by decide +kernel) ⟨Nat.le_of_ble_eq_true rfl, Nat.le_of_ble_eq_true rfl⟩ (nw_recv hK hw (mW_64) rfl) rfl hl.1 (Nat.le_of_ble_eq_true rfl) d_M_keepsPlant_27 ⟨Nat.le_of_ble_eq_true rfl, Nat.le_of_ble_eq_true rfl⟩) hS (fun H locs hw hS => ?_)
          refine lv_goto (tgt := 34) hx hb d_M_keepsPlant_30 (by decide) ?_
          refine lv_ladd hx hb d_M_keepsPlant_34 ?_
          refine lv_lstore_n (lv' := [(3, .long (((mpS F w c) + (kM F c w)))), (0, .ref (ad (64))), (1, .int (nI w)), (2, .int (nI many)), (5, .int (nI c))]) hx hb d_M_keepsPlant_35 rfl hl (by decide) rfl (fun ls hl => ?_)
          refine lv_iinc (v := nI (c + 1)) (lv' := [(5, .int (nI (c + 1))), (3, .long (((mpS F w c) + (kM F c w)))), (0, .ref (ad (64))), (1, .int (nI w)), (2, .int (nI many))]) hx hb d_M_keepsPlant_36 hl (k := 4) rfl ((nI_succ _).symm) (by decide) rfl (fun ls hl => ?_)
          refine lv_goto (tgt := 5) hx hb d_M_keepsPlant_39 (by decide) ?_
          have el3 : mpS F w (c + 1) = ((mpS F w c) + (kM F c w)) := e3
          have hl : lv_has ls 6 [(5, .int (nI (c + 1))), (3, .long (mpS F w (c + 1))), (0, .ref (ad (64))), (1, .int (nI w)), (2, .int (nI many))] := by
            have h9 := hl
            revert h9; rw [show Value.long (mpS F w (c + 1)) = Value.long (((mpS F w c) + (kM F c w))) from congrArg _ el3]; intro h9
            exact h9
          exact ih5 (c + 1) (by omega) (by omega) _ _ ls hw hS (lv_sub hl [2, 3, 4, 1, 0] rfl)
  exact loop5 (many + 1) (0) (by omega) (by omega) _ _ ls hw hS (lv_sub hl [2, 3, 4, 1, 0] rfl)

set_option maxHeartbeats 4000000 in
set_option maxRecDepth 100000 in
/-- CLOSED -/
theorem c_M_keepsOpen (l : Launch) (D : va_G) (tC : Nat → ClassId) (A : Nat → Prop) (ad : Nat → Nat) (n : Nat → Nat) (J : Nat → Int32) (bw : Int64) (L : Nat → Nat → Int64) (bX : Nat → Option va_E) (aY : Nat → Nat → Option (ClassId × Nat)) (F S : Nat → Nat → Nat → Int32) (hsc : scm F S) (hN : hpN n) (w many : Nat) (hw8 : w < n 0) (hmany : many ≤ n 2) (hm : Nat → Nat) (hH : ∀ c, c < n 2 → F 5 2 c = nI (hm c) ∧ hm c < n 1) : nw_Met l y_M_keepsOpen [Cond.code y_M_keepsOpen b_M_keepsOpen 5 (some .boolean)] ({ frames := 1, cells := 0, slots := 0, locals := 23 } : Room) D hpC A [.ref (ad (64)), .int (nI w), .int (nI many)] (nw_pre D hpC (hpT tC) A (mW ad tC n J bw L bX aY S) ad) (nw_ok (some (.int (b2 (qOpen F hm w many)))) (mW ad tC n J bw L bX aY S) ad) 0 0 := by
  refine nw_bodyK (by decide) (Nat.le_of_ble_eq_true rfl) ?_
  intro p e s m below meth cd ls args Q hSx hr hlocks hname hA hKs hw hS hl hQ
  obtain ⟨hx, hb, hml, hown, hts⟩ := id hSx
  have hK := hKs.1
  have hl : lv_has ls 5 [(0, .ref (ad (64))), (1, .int (nI w)), (2, .int (nI many))] := hl
  obtain ⟨hn0, hn0', hn1, hn2, hn3, hn4⟩ := id hN
  refine lv_iconst (v := nI 1) hx hb d_M_keepsOpen_0 (by decide) ?_
  refine lv_istore_n (lv' := [(3, .int (nI 1)), (0, .ref (ad (64))), (1, .int (nI w)), (2, .int (nI many))]) hx hb d_M_keepsOpen_1 rfl hl (by decide) rfl (fun ls hl => ?_)
  refine lv_iconst (v := nI 0) hx hb d_M_keepsOpen_2 (by decide) ?_
  refine lv_istore (lv' := [(4, .int (nI 0)), (3, .int (nI 1)), (0, .ref (ad (64))), (1, .int (nI w)), (2, .int (nI many))]) hx hb d_M_keepsOpen_3 hl (by decide) rfl (fun ls hl => ?_)
  have el3 : b2 (qOpen F hm w 0) = nI 1 := (b2_t (fun j hj => absurd hj (Nat.not_lt_zero j))).symm
  have hl : lv_has ls 5 [(4, .int (nI 0)), (3, .int (b2 (qOpen F hm w 0))), (0, .ref (ad (64))), (1, .int (nI w)), (2, .int (nI many))] := by
    have h9 := hl
    revert h9; rw [show Value.int (b2 (qOpen F hm w 0)) = Value.int (nI 1) from congrArg _ el3]; intro h9
    exact h9
  have loop5 : ∀ (k c : Nat), c ≤ many → many + 1 ≤ c + k → ∀ (H : Heap) (locs : List Loc) (ls : Array Slot), nw_W D hpC A (mW ad tC n J bw L bX aY S) ad H → va_S A s.heap H locs → lv_has ls 5 [(0, .ref (ad (64))), (1, .int (nI w)), (2, .int (nI many)), (3, .int (b2 (qOpen F hm w c))), (4, .int (nI c))] → W p l e ({ frames := 1, cells := 0, slots := 0, locals := 23 } : Room) s m args below meth cd H locs 0 0 Q (F0 m 5 ls []) := by
    intro k
    induction k with
    | zero => intro c h1 h2; exact absurd h2 (by omega)
    | succ k ih5 =>
      intro c hv5 hk5 H locs ls hw hS hl
      refine lv_iload hx hb d_M_keepsOpen_5 (lv_at hl 4 rfl) ?_
      refine lv_iload_n hx hb d_M_keepsOpen_7 rfl (lv_at hl 2 rfl) ?_
      refine lv_icmp_ge (tgt := 58) hx hb d_M_keepsOpen_8 (by decide) (fun c_8 => ?_) (fun c_8 => ?_)
      · skip
        have hge8 : many ≤ c := (nI_leI (by omega) (by omega)).mp c_8
        obtain rfl : many = c := by omega
        refine lv_iload_n hx hb d_M_keepsOpen_58 rfl (lv_at hl 3 rfl) ?_
        exact nw_zret hQ hx hb hr (by by_cases h : qOpen F hm w many; exact Or.inr (b2_t h).symm; exact Or.inl (b2_f h).symm) hlocks hw hS (nw_ok_rf) (Nat.le_of_ble_eq_true rfl) (Nat.le_of_ble_eq_true rfl) d_M_keepsOpen_59
      · skip
        have hlt : c < many := Nat.not_le.mp (fun q => c_8 (nI_le q (by omega)))
        have hmc := hH c (by omega)
        refine lv_iload_n hx hb d_M_keepsOpen_11 rfl (lv_at hl 3 rfl) ?_
        refine lv_if_eq (tgt := 50) hx hb d_M_keepsOpen_12 (by decide) (fun c_12 => ?_) (fun c_12 => ?_)
        · skip
          have hb3 : nI 0 = b2 (qOpen F hm w (c + 1)) := b2_f (fun h => b2_0 c_12 (fun j hj => h j (by omega)))
          refine lv_iconst (v := nI 0) hx hb d_M_keepsOpen_50 (by decide) ?_
          refine lv_istore_n (lv' := [(3, .int (nI 0)), (0, .ref (ad (64))), (1, .int (nI w)), (2, .int (nI many)), (4, .int (nI c))]) hx hb d_M_keepsOpen_51 rfl hl (by decide) rfl (fun ls hl => ?_)
          refine lv_iinc (v := nI (c + 1)) (lv' := [(4, .int (nI (c + 1))), (3, .int (nI 0)), (0, .ref (ad (64))), (1, .int (nI w)), (2, .int (nI many))]) hx hb d_M_keepsOpen_52 hl (k := 4) rfl ((nI_succ _).symm) (by decide) rfl (fun ls hl => ?_)
          refine lv_goto (tgt := 5) hx hb d_M_keepsOpen_55 (by decide) ?_
          have el3 : b2 (qOpen F hm w (c + 1)) = nI 0 := hb3.symm
          have hl : lv_has ls 5 [(4, .int (nI (c + 1))), (3, .int (b2 (qOpen F hm w (c + 1)))), (0, .ref (ad (64))), (1, .int (nI w)), (2, .int (nI many))] := by
            have h9 := hl
            revert h9; rw [show Value.int (b2 (qOpen F hm w (c + 1))) = Value.int (nI 0) from congrArg _ el3]; intro h9
            exact h9
          exact ih5 (c + 1) (by omega) (by omega) _ _ ls hw hS (lv_sub hl [2, 3, 4, 1, 0] rfl)
        · skip
          refine lv_aload_n hx hb d_M_keepsOpen_15 rfl (lv_at hl 0 rfl) ?_
          refine lv_iload hx hb d_M_keepsOpen_16 (lv_at hl 4 rfl) ?_
          refine lv_iload_n hx hb d_M_keepsOpen_18 rfl (lv_at hl 1 rfl) ?_
          refine lv_iload_n hx hb d_M_keepsOpen_19 rfl (lv_at hl 2 rfl) ?_
          refine nw_callD (nw_goV (n := 3) (As := [.int (nI c), .int (nI w), .int (nI many)]) (rest := []) hSx hA hKs hw hS (c_M_takes l D tC A ad n J bw L bX aY F S hsc hN c w many (by omega) (by omega)) kw_839 kw_836 kw_838 ks_M_takes kw_8 rfl rfl (by decide +kernel) ⟨Nat.le_of_ble_eq_true rfl, Nat.le_of_ble_eq_true rfl⟩ (nw_recv hK hw (mW_64) rfl) rfl hl.1 (Nat.le_of_ble_eq_true rfl) d_M_keepsOpen_20 ⟨Nat.le_of_ble_eq_true rfl, Nat.le_of_ble_eq_true rfl⟩) hS (fun H locs hw hS => ?_)
          refine lv_if_eq (tgt := 46) hx hb d_M_keepsOpen_23 (by decide) (fun c_23 => ?_) (fun c_23 => ?_)
          · skip
            have hb3 : nI 1 = b2 (qOpen F hm w (c + 1)) := b2_t (lt_s (b2_1 c_12) (fun h => absurd ⟨hlt, h⟩ (b2_0 c_23)))
            refine lv_iconst (v := nI 1) hx hb d_M_keepsOpen_46 (by decide) ?_
            refine lv_goto (tgt := 51) hx hb d_M_keepsOpen_47 (by decide) ?_
            refine lv_istore_n (lv' := [(3, .int (nI 1)), (0, .ref (ad (64))), (1, .int (nI w)), (2, .int (nI many)), (4, .int (nI c))]) hx hb d_M_keepsOpen_51 rfl hl (by decide) rfl (fun ls hl => ?_)
            refine lv_iinc (v := nI (c + 1)) (lv' := [(4, .int (nI (c + 1))), (3, .int (nI 1)), (0, .ref (ad (64))), (1, .int (nI w)), (2, .int (nI many))]) hx hb d_M_keepsOpen_52 hl (k := 4) rfl ((nI_succ _).symm) (by decide) rfl (fun ls hl => ?_)
            refine lv_goto (tgt := 5) hx hb d_M_keepsOpen_55 (by decide) ?_
            have el3 : b2 (qOpen F hm w (c + 1)) = nI 1 := hb3.symm
            have hl : lv_has ls 5 [(4, .int (nI (c + 1))), (3, .int (b2 (qOpen F hm w (c + 1)))), (0, .ref (ad (64))), (1, .int (nI w)), (2, .int (nI many))] := by
              have h9 := hl
              revert h9; rw [show Value.int (b2 (qOpen F hm w (c + 1))) = Value.int (nI 1) from congrArg _ el3]; intro h9
              exact h9
            exact ih5 (c + 1) (by omega) (by omega) _ _ ls hw hS (lv_sub hl [2, 3, 4, 1, 0] rfl)
          · skip
            refine lv_aload_n hx hb d_M_keepsOpen_26 rfl (lv_at hl 0 rfl) ?_
            refine nw_get hx hb hts i_M hown hK hw (64) (mW_64) rfl 4 (by decide) (hts _ kw_663) (fun _ h9 => h9) rfl d_M_keepsOpen_27 ?_
            refine lv_bipush (v := nI 8) hx hb d_M_keepsOpen_30 (by decide) ?_
            refine lv_aload_n hx hb d_M_keepsOpen_32 rfl (lv_at hl 0 rfl) ?_
            refine nw_get hx hb hts i_M hown hK hw (64) (mW_64) rfl 6 (by decide) (hts _ kw_665) (fun _ h9 => h9) rfl d_M_keepsOpen_33 ?_
            refine lv_iload hx hb d_M_keepsOpen_36 (lv_at hl 4 rfl) ?_
            refine nw_iald hx hb hK hw (182) 0 (mW_row (t := 5) (j := 2) (by decide) (by decide) (rfl)) rfl (c) (rfl) (by omega) (by omega) d_M_keepsOpen_38 ?_
            refine lv_ei (y := F 5 2 c) (congrFun (hsc 5 2 (by omega)) _) ?_
            refine lv_ei (y := nI (hm c)) (hmc.1) ?_
            refine lv_imul hx hb d_M_keepsOpen_39 ?_
            refine lv_iload_n hx hb d_M_keepsOpen_40 rfl (lv_at hl 1 rfl) ?_
            refine lv_iadd hx hb d_M_keepsOpen_41 ?_
            refine lv_ei (y := nI (8 * hm c + w)) (ix8 _ _) ?_
            refine nw_zald hx hb hK hw (181) 2 (mW_row (t := 5) (j := 1) (by decide) (by decide) (rfl)) rfl (8 * hm c + w) (rfl) (by omega) (by omega) d_M_keepsOpen_42 ?_
            refine lv_ei (y := F 5 1 (8 * hm c + w)) (congrFun (hsc 5 1 (by omega)) _) ?_
            refine lv_if_ne (tgt := 50) hx hb d_M_keepsOpen_43 (by decide) (fun c_43 => ?_) (fun c_43 => ?_)
            · skip
              have hb3 : nI 0 = b2 (qOpen F hm w (c + 1)) := b2_f (fun h => c_43 (h c (by omega) (b2_1 c_23).2))
              refine lv_iconst (v := nI 0) hx hb d_M_keepsOpen_50 (by decide) ?_
              refine lv_istore_n (lv' := [(3, .int (nI 0)), (0, .ref (ad (64))), (1, .int (nI w)), (2, .int (nI many)), (4, .int (nI c))]) hx hb d_M_keepsOpen_51 rfl hl (by decide) rfl (fun ls hl => ?_)
              refine lv_iinc (v := nI (c + 1)) (lv' := [(4, .int (nI (c + 1))), (3, .int (nI 0)), (0, .ref (ad (64))), (1, .int (nI w)), (2, .int (nI many))]) hx hb d_M_keepsOpen_52 hl (k := 4) rfl ((nI_succ _).symm) (by decide) rfl (fun ls hl => ?_)
              refine lv_goto (tgt := 5) hx hb d_M_keepsOpen_55 (by decide) ?_
              have el3 : b2 (qOpen F hm w (c + 1)) = nI 0 := hb3.symm
              have hl : lv_has ls 5 [(4, .int (nI (c + 1))), (3, .int (b2 (qOpen F hm w (c + 1)))), (0, .ref (ad (64))), (1, .int (nI w)), (2, .int (nI many))] := by
                have h9 := hl
                revert h9; rw [show Value.int (b2 (qOpen F hm w (c + 1))) = Value.int (nI 0) from congrArg _ el3]; intro h9
                exact h9
              exact ih5 (c + 1) (by omega) (by omega) _ _ ls hw hS (lv_sub hl [2, 3, 4, 1, 0] rfl)
            · skip
              have hb3 : nI 1 = b2 (qOpen F hm w (c + 1)) := b2_t (lt_s (b2_1 c_12) (fun _ => c_43))
              refine lv_iconst (v := nI 1) hx hb d_M_keepsOpen_46 (by decide) ?_
              refine lv_goto (tgt := 51) hx hb d_M_keepsOpen_47 (by decide) ?_
              refine lv_istore_n (lv' := [(3, .int (nI 1)), (0, .ref (ad (64))), (1, .int (nI w)), (2, .int (nI many)), (4, .int (nI c))]) hx hb d_M_keepsOpen_51 rfl hl (by decide) rfl (fun ls hl => ?_)
              refine lv_iinc (v := nI (c + 1)) (lv' := [(4, .int (nI (c + 1))), (3, .int (nI 1)), (0, .ref (ad (64))), (1, .int (nI w)), (2, .int (nI many))]) hx hb d_M_keepsOpen_52 hl (k := 4) rfl ((nI_succ _).symm) (by decide) rfl (fun ls hl => ?_)
              refine lv_goto (tgt := 5) hx hb d_M_keepsOpen_55 (by decide) ?_
              have el3 : b2 (qOpen F hm w (c + 1)) = nI 1 := hb3.symm
              have hl : lv_has ls 5 [(4, .int (nI (c + 1))), (3, .int (b2 (qOpen F hm w (c + 1)))), (0, .ref (ad (64))), (1, .int (nI w)), (2, .int (nI many))] := by
                have h9 := hl
                revert h9; rw [show Value.int (b2 (qOpen F hm w (c + 1))) = Value.int (nI 1) from congrArg _ el3]; intro h9
                exact h9
              exact ih5 (c + 1) (by omega) (by omega) _ _ ls hw hS (lv_sub hl [2, 3, 4, 1, 0] rfl)
  exact loop5 (many + 1) (0) (by omega) (by omega) _ _ ls hw hS (lv_sub hl [2, 3, 4, 1, 0] rfl)

set_option maxHeartbeats 4000000 in
set_option maxRecDepth 100000 in
/-- HELD -/
theorem c_M_keepsHeld (l : Launch) (D : va_G) (tC : Nat → ClassId) (A : Nat → Prop) (ad : Nat → Nat) (n : Nat → Nat) (J : Nat → Int32) (bw : Int64) (L : Nat → Nat → Int64) (bX : Nat → Option va_E) (aY : Nat → Nat → Option (ClassId × Nat)) (F S : Nat → Nat → Nat → Int32) (hsc : scm F S) (hN : hpN n) (w : Nat) (hw8 : w < n 0) : nw_Met l y_M_keepsHeld [Cond.code y_M_keepsHeld b_M_keepsHeld 7 (some .boolean)] ({ frames := 1, cells := 0, slots := 0, locals := 22 } : Room) D hpC A [.ref (ad (64)), .int (nI w)] (nw_pre D hpC (hpT tC) A (mW ad tC n J bw L bX aY S) ad) (nw_ok (some (.int (b2 (qHeld n F w)))) (mW ad tC n J bw L bX aY S) ad) 0 0 := by
  refine nw_bodyK (by decide) (Nat.le_of_ble_eq_true rfl) ?_
  intro p e s m below meth cd ls args Q hSx hr hlocks hname hA hKs hw hS hl hQ
  obtain ⟨hx, hb, hml, hown, hts⟩ := id hSx
  have hK := hKs.1
  have hl : lv_has ls 7 [(0, .ref (ad (64))), (1, .int (nI w))] := hl
  obtain ⟨hn0, hn0', hn1, hn2, hn3, hn4⟩ := id hN
  refine lv_iconst (v := nI 1) hx hb d_M_keepsHeld_0 (by decide) ?_
  refine lv_istore_n (lv' := [(2, .int (nI 1)), (0, .ref (ad (64))), (1, .int (nI w))]) hx hb d_M_keepsHeld_1 rfl hl (by decide) rfl (fun ls hl => ?_)
  refine lv_iconst (v := nI 0) hx hb d_M_keepsHeld_2 (by decide) ?_
  refine lv_istore_n (lv' := [(3, .int (nI 0)), (2, .int (nI 1)), (0, .ref (ad (64))), (1, .int (nI w))]) hx hb d_M_keepsHeld_3 rfl hl (by decide) rfl (fun ls hl => ?_)
  have el2 : b2 (qHeldP n F w 0) = nI 1 := (b2_t (fun j hj => absurd hj (Nat.not_lt_zero j))).symm
  have hl : lv_has ls 7 [(3, .int (nI 0)), (2, .int (b2 (qHeldP n F w 0))), (0, .ref (ad (64))), (1, .int (nI w))] := by
    have h9 := hl
    revert h9; rw [show Value.int (b2 (qHeldP n F w 0)) = Value.int (nI 1) from congrArg _ el2]; intro h9
    exact h9
  have loop4 : ∀ (k pp : Nat), pp ≤ n 1 → n 1 + 1 ≤ pp + k → ∀ (H : Heap) (locs : List Loc) (ls : Array Slot), nw_W D hpC A (mW ad tC n J bw L bX aY S) ad H → va_S A s.heap H locs → lv_has ls 7 [(0, .ref (ad (64))), (1, .int (nI w)), (2, .int (b2 (qHeldP n F w pp))), (3, .int (nI pp))] → W p l e ({ frames := 1, cells := 0, slots := 0, locals := 22 } : Room) s m args below meth cd H locs 0 0 Q (F0 m 4 ls []) := by
    intro k
    induction k with
    | zero => intro pp h1 h2; exact absurd h2 (by omega)
    | succ k ih4 =>
      intro pp hv4 hk4 H locs ls hw hS hl
      refine lv_iload_n hx hb d_M_keepsHeld_4 rfl (lv_at hl 3 rfl) ?_
      refine lv_aload_n hx hb d_M_keepsHeld_5 rfl (lv_at hl 0 rfl) ?_
      refine nw_get hx hb hts i_M hown hK hw (64) (mW_64) rfl 2 (by decide) (hts _ kw_661) (fun _ h9 => h9) rfl d_M_keepsHeld_6 ?_
      refine lv_icmp_ge (tgt := 100) hx hb d_M_keepsHeld_9 (by decide) (fun c_9 => ?_) (fun c_9 => ?_)
      · skip
        have hge9 : n 1 ≤ pp := (nI_leI (by omega) (by omega)).mp c_9
        obtain rfl : n 1 = pp := by omega
        refine lv_iload_n hx hb d_M_keepsHeld_100 rfl (lv_at hl 2 rfl) ?_
        exact nw_zret hQ hx hb hr (by by_cases h : qHeldP n F w (n 1); exact Or.inr (b2_t h).symm; exact Or.inl (b2_f h).symm) hlocks hw hS (nw_ok_rf) (Nat.le_of_ble_eq_true rfl) (Nat.le_of_ble_eq_true rfl) d_M_keepsHeld_101
      · skip
        have hlt : pp < n 1 := Nat.not_le.mp (fun q => c_9 (nI_le q (by omega)))
        refine lv_lconst (v := 0) hx hb d_M_keepsHeld_12 (by decide) ?_
        refine lv_lstore (lv' := [(4, .long (0)), (0, .ref (ad (64))), (1, .int (nI w)), (2, .int (b2 (qHeldP n F w pp))), (3, .int (nI pp))]) hx hb d_M_keepsHeld_13 hl (by decide) rfl (fun ls hl => ?_)
        refine lv_iconst (v := nI 0) hx hb d_M_keepsHeld_15 (by decide) ?_
        refine lv_istore (lv' := [(6, .int (nI 0)), (4, .long (0)), (0, .ref (ad (64))), (1, .int (nI w)), (2, .int (b2 (qHeldP n F w pp))), (3, .int (nI pp))]) hx hb d_M_keepsHeld_16 hl (by decide) rfl (fun ls hl => ?_)
        have loop18 : ∀ (k c : Nat), c ≤ n 2 → n 2 + 1 ≤ c + k → ∀ (H : Heap) (locs : List Loc) (ls : Array Slot), nw_W D hpC A (mW ad tC n J bw L bX aY S) ad H → va_S A s.heap H locs → lv_has ls 7 [(0, .ref (ad (64))), (1, .int (nI w)), (2, .int (b2 (qHeldP n F w pp))), (3, .int (nI pp)), (4, .long (mhS F w pp c)), (6, .int (nI c))] → W p l e ({ frames := 1, cells := 0, slots := 0, locals := 22 } : Room) s m args below meth cd H locs 0 0 Q (F0 m 18 ls []) := by
          intro k
          induction k with
          | zero => intro c h1 h2; exact absurd h2 (by omega)
          | succ k ih18 =>
            intro c hv18 hk18 H locs ls hw hS hl
            refine lv_iload hx hb d_M_keepsHeld_18 (lv_at hl 5 rfl) ?_
            refine lv_aload_n hx hb d_M_keepsHeld_20 rfl (lv_at hl 0 rfl) ?_
            refine nw_get hx hb hts i_M hown hK hw (64) (mW_64) rfl 5 (by decide) (hts _ kw_664) (fun _ h9 => h9) rfl d_M_keepsHeld_21 ?_
            refine lv_icmp_ge (tgt := 71) hx hb d_M_keepsHeld_24 (by decide) (fun c_24 => ?_) (fun c_24 => ?_)
            · skip
              have hge24 : n 2 ≤ c := (nI_leI (by omega) (by omega)).mp c_24
              obtain rfl : n 2 = c := by omega
              refine lv_iload_n hx hb d_M_keepsHeld_71 rfl (lv_at hl 2 rfl) ?_
              refine lv_if_eq (tgt := 92) hx hb d_M_keepsHeld_72 (by decide) (fun c_72 => ?_) (fun c_72 => ?_)
              · skip
                have hb2 : nI 0 = b2 (qHeldP n F w (pp + 1)) := b2_f (fun h => b2_0 c_72 (fun j hj => h j (by omega)))
                refine lv_iconst (v := nI 0) hx hb d_M_keepsHeld_92 (by decide) ?_
                refine lv_istore_n (lv' := [(2, .int (nI 0)), (0, .ref (ad (64))), (1, .int (nI w)), (3, .int (nI pp)), (4, .long (mhS F w pp (n 2))), (6, .int (nI (n 2)))]) hx hb d_M_keepsHeld_93 rfl hl (by decide) rfl (fun ls hl => ?_)
                refine lv_iinc (v := nI (pp + 1)) (lv' := [(3, .int (nI (pp + 1))), (2, .int (nI 0)), (0, .ref (ad (64))), (1, .int (nI w)), (4, .long (mhS F w pp (n 2))), (6, .int (nI (n 2)))]) hx hb d_M_keepsHeld_94 hl (k := 3) rfl ((nI_succ _).symm) (by decide) rfl (fun ls hl => ?_)
                refine lv_goto (tgt := 4) hx hb d_M_keepsHeld_97 (by decide) ?_
                have el2 : b2 (qHeldP n F w (pp + 1)) = nI 0 := hb2.symm
                have hl : lv_has ls 7 [(3, .int (nI (pp + 1))), (2, .int (b2 (qHeldP n F w (pp + 1)))), (0, .ref (ad (64))), (1, .int (nI w)), (4, .long (mhS F w pp (n 2))), (6, .int (nI (n 2)))] := by
                  have h9 := hl
                  revert h9; rw [show Value.int (b2 (qHeldP n F w (pp + 1))) = Value.int (nI 0) from congrArg _ el2]; intro h9
                  exact h9
                exact ih4 (pp + 1) (by omega) (by omega) _ _ ls hw hS (lv_sub hl [2, 3, 1, 0] rfl)
              · skip
                refine lv_lload hx hb d_M_keepsHeld_75 (lv_at hl 4 rfl) ?_
                refine lv_aload_n hx hb d_M_keepsHeld_77 rfl (lv_at hl 0 rfl) ?_
                refine nw_get hx hb hts i_M hown hK hw (64) (mW_64) rfl 3 (by decide) (hts _ kw_662) (fun _ h9 => h9) rfl d_M_keepsHeld_78 ?_
                refine lv_iload_n hx hb d_M_keepsHeld_81 rfl (lv_at hl 3 rfl) ?_
                refine nw_iald hx hb hK hw (180) 0 (mW_row (t := 5) (j := 0) (by decide) (by decide) (rfl)) rfl (pp) (rfl) (by omega) (by omega) d_M_keepsHeld_82 ?_
                refine lv_ei (y := F 5 0 pp) (congrFun (hsc 5 0 (by omega)) _) ?_
                refine lv_i2l (v := ((F 5 0 pp).toInt64)) hx hb d_M_keepsHeld_83 rfl ?_
                refine W.lcmp hx hb d_M_keepsHeld_84 ?_
                refine lv_if_gt (tgt := 92) hx hb d_M_keepsHeld_85 (by decide) (fun c_85 => ?_) (fun c_85 => ?_)
                · skip
                  have hb2 : nI 0 = b2 (qHeldP n F w (pp + 1)) := b2_f (fun h => Int64.not_le.mpr ((lg_cmp_gt _ _).mp c_85) (h pp (by omega)))
                  refine lv_iconst (v := nI 0) hx hb d_M_keepsHeld_92 (by decide) ?_
                  refine lv_istore_n (lv' := [(2, .int (nI 0)), (0, .ref (ad (64))), (1, .int (nI w)), (3, .int (nI pp)), (4, .long (mhS F w pp (n 2))), (6, .int (nI (n 2)))]) hx hb d_M_keepsHeld_93 rfl hl (by decide) rfl (fun ls hl => ?_)
                  refine lv_iinc (v := nI (pp + 1)) (lv' := [(3, .int (nI (pp + 1))), (2, .int (nI 0)), (0, .ref (ad (64))), (1, .int (nI w)), (4, .long (mhS F w pp (n 2))), (6, .int (nI (n 2)))]) hx hb d_M_keepsHeld_94 hl (k := 3) rfl ((nI_succ _).symm) (by decide) rfl (fun ls hl => ?_)
                  refine lv_goto (tgt := 4) hx hb d_M_keepsHeld_97 (by decide) ?_
                  have el2 : b2 (qHeldP n F w (pp + 1)) = nI 0 := hb2.symm
                  have hl : lv_has ls 7 [(3, .int (nI (pp + 1))), (2, .int (b2 (qHeldP n F w (pp + 1)))), (0, .ref (ad (64))), (1, .int (nI w)), (4, .long (mhS F w pp (n 2))), (6, .int (nI (n 2)))] := by
                    have h9 := hl
                    revert h9; rw [show Value.int (b2 (qHeldP n F w (pp + 1))) = Value.int (nI 0) from congrArg _ el2]; intro h9
                    exact h9
                  exact ih4 (pp + 1) (by omega) (by omega) _ _ ls hw hS (lv_sub hl [2, 3, 1, 0] rfl)
                · skip
                  have hb2 : nI 1 = b2 (qHeldP n F w (pp + 1)) := b2_t (lt_s (b2_1 c_72) (Int64.not_lt.mp (fun h => c_85 ((lg_cmp_gt _ _).mpr h))))
                  refine lv_iconst (v := nI 1) hx hb d_M_keepsHeld_88 (by decide) ?_
                  refine lv_goto (tgt := 93) hx hb d_M_keepsHeld_89 (by decide) ?_
                  refine lv_istore_n (lv' := [(2, .int (nI 1)), (0, .ref (ad (64))), (1, .int (nI w)), (3, .int (nI pp)), (4, .long (mhS F w pp (n 2))), (6, .int (nI (n 2)))]) hx hb d_M_keepsHeld_93 rfl hl (by decide) rfl (fun ls hl => ?_)
                  refine lv_iinc (v := nI (pp + 1)) (lv' := [(3, .int (nI (pp + 1))), (2, .int (nI 1)), (0, .ref (ad (64))), (1, .int (nI w)), (4, .long (mhS F w pp (n 2))), (6, .int (nI (n 2)))]) hx hb d_M_keepsHeld_94 hl (k := 3) rfl ((nI_succ _).symm) (by decide) rfl (fun ls hl => ?_)
                  refine lv_goto (tgt := 4) hx hb d_M_keepsHeld_97 (by decide) ?_
                  have el2 : b2 (qHeldP n F w (pp + 1)) = nI 1 := hb2.symm
                  have hl : lv_has ls 7 [(3, .int (nI (pp + 1))), (2, .int (b2 (qHeldP n F w (pp + 1)))), (0, .ref (ad (64))), (1, .int (nI w)), (4, .long (mhS F w pp (n 2))), (6, .int (nI (n 2)))] := by
                    have h9 := hl
                    revert h9; rw [show Value.int (b2 (qHeldP n F w (pp + 1))) = Value.int (nI 1) from congrArg _ el2]; intro h9
                    exact h9
                  exact ih4 (pp + 1) (by omega) (by omega) _ _ ls hw hS (lv_sub hl [2, 3, 1, 0] rfl)
            · skip
              have hlt : c < n 2 := Nat.not_le.mp (fun q => c_24 (nI_le q (by omega)))
              refine lv_lload hx hb d_M_keepsHeld_27 (lv_at hl 4 rfl) ?_
              refine lv_aload_n hx hb d_M_keepsHeld_29 rfl (lv_at hl 0 rfl) ?_
              refine nw_get hx hb hts i_M hown hK hw (64) (mW_64) rfl 6 (by decide) (hts _ kw_665) (fun _ h9 => h9) rfl d_M_keepsHeld_30 ?_
              refine lv_iload hx hb d_M_keepsHeld_33 (lv_at hl 5 rfl) ?_
              refine nw_iald hx hb hK hw (182) 0 (mW_row (t := 5) (j := 2) (by decide) (by decide) (rfl)) rfl (c) (rfl) (by omega) (by omega) d_M_keepsHeld_35 ?_
              refine lv_ei (y := F 5 2 c) (congrFun (hsc 5 2 (by omega)) _) ?_
              refine lv_iload_n hx hb d_M_keepsHeld_36 rfl (lv_at hl 3 rfl) ?_
              refine lv_icmp_ne (tgt := 61) hx hb d_M_keepsHeld_37 (by decide) (fun c_37 => ?_) (fun c_37 => ?_)
              · skip
                have e4 : mhS F w pp (c + 1) = mhS F w pp c + 0 := mhS_f (fun h => c_37 h.1)
                refine lv_lconst (v := 0) hx hb d_M_keepsHeld_61 (by decide) ?_
                refine lv_ladd hx hb d_M_keepsHeld_62 ?_
                refine lv_lstore (lv' := [(4, .long (((mhS F w pp c) + (0)))), (0, .ref (ad (64))), (1, .int (nI w)), (2, .int (b2 (qHeldP n F w pp))), (3, .int (nI pp)), (6, .int (nI c))]) hx hb d_M_keepsHeld_63 hl (by decide) rfl (fun ls hl => ?_)
                refine lv_iinc (v := nI (c + 1)) (lv' := [(6, .int (nI (c + 1))), (4, .long (((mhS F w pp c) + (0)))), (0, .ref (ad (64))), (1, .int (nI w)), (2, .int (b2 (qHeldP n F w pp))), (3, .int (nI pp))]) hx hb d_M_keepsHeld_65 hl (k := 5) rfl ((nI_succ _).symm) (by decide) rfl (fun ls hl => ?_)
                refine lv_goto (tgt := 18) hx hb d_M_keepsHeld_68 (by decide) ?_
                have el4 : mhS F w pp (c + 1) = ((mhS F w pp c) + (0)) := e4
                have hl : lv_has ls 7 [(6, .int (nI (c + 1))), (4, .long (mhS F w pp (c + 1))), (0, .ref (ad (64))), (1, .int (nI w)), (2, .int (b2 (qHeldP n F w pp))), (3, .int (nI pp))] := by
                  have h9 := hl
                  revert h9; rw [show Value.long (mhS F w pp (c + 1)) = Value.long (((mhS F w pp c) + (0))) from congrArg _ el4]; intro h9
                  exact h9
                exact ih18 (c + 1) (by omega) (by omega) _ _ ls hw hS (lv_sub hl [2, 3, 4, 5, 1, 0] rfl)
              · skip
                refine lv_aload_n hx hb d_M_keepsHeld_40 rfl (lv_at hl 0 rfl) ?_
                refine nw_get hx hb hts i_M hown hK hw (64) (mW_64) rfl 24 (by decide) (hts _ kw_683) (fun _ h9 => h9) rfl d_M_keepsHeld_41 ?_
                refine lv_iload hx hb d_M_keepsHeld_44 (lv_at hl 5 rfl) ?_
                refine nw_iald hx hb hK hw (194) 0 (mW_row (t := 5) (j := 14) (by decide) (by decide) (rfl)) rfl (c) (rfl) (by omega) (by omega) d_M_keepsHeld_46 ?_
                refine lv_ei (y := F 5 14 c) (congrFun (hsc 5 14 (by omega)) _) ?_
                refine lv_iload_n hx hb d_M_keepsHeld_47 rfl (lv_at hl 1 rfl) ?_
                refine lv_icmp_lt (tgt := 61) hx hb d_M_keepsHeld_48 (by decide) (fun c_48 => ?_) (fun c_48 => ?_)
                · skip
                  have e4 : mhS F w pp (c + 1) = mhS F w pp c + 0 := mhS_f (fun h => Int32.not_le.mpr c_48 h.2)
                  refine lv_lconst (v := 0) hx hb d_M_keepsHeld_61 (by decide) ?_
                  refine lv_ladd hx hb d_M_keepsHeld_62 ?_
                  refine lv_lstore (lv' := [(4, .long (((mhS F w pp c) + (0)))), (0, .ref (ad (64))), (1, .int (nI w)), (2, .int (b2 (qHeldP n F w pp))), (3, .int (nI pp)), (6, .int (nI c))]) hx hb d_M_keepsHeld_63 hl (by decide) rfl (fun ls hl => ?_)
                  refine lv_iinc (v := nI (c + 1)) (lv' := [(6, .int (nI (c + 1))), (4, .long (((mhS F w pp c) + (0)))), (0, .ref (ad (64))), (1, .int (nI w)), (2, .int (b2 (qHeldP n F w pp))), (3, .int (nI pp))]) hx hb d_M_keepsHeld_65 hl (k := 5) rfl ((nI_succ _).symm) (by decide) rfl (fun ls hl => ?_)
                  refine lv_goto (tgt := 18) hx hb d_M_keepsHeld_68 (by decide) ?_
                  have el4 : mhS F w pp (c + 1) = ((mhS F w pp c) + (0)) := e4
                  have hl : lv_has ls 7 [(6, .int (nI (c + 1))), (4, .long (mhS F w pp (c + 1))), (0, .ref (ad (64))), (1, .int (nI w)), (2, .int (b2 (qHeldP n F w pp))), (3, .int (nI pp))] := by
                    have h9 := hl
                    revert h9; rw [show Value.long (mhS F w pp (c + 1)) = Value.long (((mhS F w pp c) + (0))) from congrArg _ el4]; intro h9
                    exact h9
                  exact ih18 (c + 1) (by omega) (by omega) _ _ ls hw hS (lv_sub hl [2, 3, 4, 5, 1, 0] rfl)
                · skip
                  have e4 : mhS F w pp (c + 1) = mhS F w pp c + kM F c w := mhS_t c_37 (Int32.not_lt.mp c_48)
                  refine lv_aload_n hx hb d_M_keepsHeld_51 rfl (lv_at hl 0 rfl) ?_
                  refine lv_iload hx hb d_M_keepsHeld_52 (lv_at hl 5 rfl) ?_
                  refine lv_iload_n hx hb d_M_keepsHeld_54 rfl (lv_at hl 1 rfl) ?_
                  refine nw_callD (nw_goV (n := 2) (As := [.int (nI c), .int (nI w)]) (rest := [.long (mhS F w pp c)]) hSx hA hKs hw hS (c_M_kilos l D tC A ad n J bw L bX aY F S hsc hN c w (by omega) (by omega)) kw_792 kw_789 kw_791 ks_M_kilos kw_8 rfl rfl (by decide +kernel) ⟨Nat.le_of_ble_eq_true rfl, Nat.le_of_ble_eq_true rfl⟩ (nw_recv hK hw (mW_64) rfl) rfl hl.1 (Nat.le_of_ble_eq_true rfl) d_M_keepsHeld_55 ⟨Nat.le_of_ble_eq_true rfl, Nat.le_of_ble_eq_true rfl⟩) hS (fun H locs hw hS => ?_)
                  refine lv_goto (tgt := 62) hx hb d_M_keepsHeld_58 (by decide) ?_
                  refine lv_ladd hx hb d_M_keepsHeld_62 ?_
                  refine lv_lstore (lv' := [(4, .long (((mhS F w pp c) + (kM F c w)))), (0, .ref (ad (64))), (1, .int (nI w)), (2, .int (b2 (qHeldP n F w pp))), (3, .int (nI pp)), (6, .int (nI c))]) hx hb d_M_keepsHeld_63 hl (by decide) rfl (fun ls hl => ?_)
                  refine lv_iinc (v := nI (c + 1)) (lv' := [(6, .int (nI (c + 1))), (4, .long (((mhS F w pp c) + (kM F c w)))), (0, .ref (ad (64))), (1, .int (nI w)), (2, .int (b2 (qHeldP n F w pp))), (3, .int (nI pp))]) hx hb d_M_keepsHeld_65 hl (k := 5) rfl ((nI_succ _).symm) (by decide) rfl (fun ls hl => ?_)
                  refine lv_goto (tgt := 18) hx hb d_M_keepsHeld_68 (by decide) ?_
                  have el4 : mhS F w pp (c + 1) = ((mhS F w pp c) + (kM F c w)) := e4
                  have hl : lv_has ls 7 [(6, .int (nI (c + 1))), (4, .long (mhS F w pp (c + 1))), (0, .ref (ad (64))), (1, .int (nI w)), (2, .int (b2 (qHeldP n F w pp))), (3, .int (nI pp))] := by
                    have h9 := hl
                    revert h9; rw [show Value.long (mhS F w pp (c + 1)) = Value.long (((mhS F w pp c) + (kM F c w))) from congrArg _ el4]; intro h9
                    exact h9
                  exact ih18 (c + 1) (by omega) (by omega) _ _ ls hw hS (lv_sub hl [2, 3, 4, 5, 1, 0] rfl)
        exact loop18 (n 2 + 1) (0) (by omega) (by omega) _ _ ls hw hS (lv_sub hl [2, 3, 4, 5, 1, 0] rfl)
  exact loop4 (n 1 + 1) (0) (by omega) (by omega) _ _ ls hw hS (lv_sub hl [2, 3, 1, 0] rfl)
