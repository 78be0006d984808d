set_option maxHeartbeats 4000000 in
set_option maxRecDepth 100000 in
/-- whether an order may get of a cage -/
theorem c_Order_wants (l : Launch) (D : va_G) (tC : Nat → ClassId) (A : Nat → Prop) (ad : Nat → Nat) (n : Nat → Nat) (I : Nat → Nat → Int32) (K : Nat → Int32) (bw : Int64) (LA : Nat → Int64) (bM : Nat → Option va_E) (aM : Nat → Nat → Option (ClassId × Nat)) (S0 S : Nat → Nat → Nat → Int32) (hsc : scr S0 S) (hN : hpN n) (ow : Nat → Nat) (hO : ∀ o, o < n 4 → I 4 o = nI (ow o) ∧ ow o < n 0) (o c : Nat) (ho : o < n 4) (hc : c < n 2) (tk : Int32) : nw_Met l y_Order_wants [Cond.code y_Order_wants b_Order_wants 3 (some .boolean)] ({ frames := 0, cells := 0, slots := 0, locals := 0 } : Room) D hpC A [.ref (ad (48 + o)), .ref (ad (32 + c)), .int (tk)] (nw_pre D hpC (hpT tC) A (hW ad tC n I K bw LA bM aM S) ad) (nw_ok (some (.int (b2 (pWants I ow S0 o c tk)))) (hW ad tC n I K bw LA bM aM S) ad) 0 0 := by
  refine nw_bodyK (by decide) (Nat.le_of_ble_eq_true rfl) ?_
  intro p e s m below meth cd ls args Q hSx hr hlocks hname hA hKs hw hS hl hQ
  obtain ⟨hx, hb, hml, hown, hts⟩ := id hSx
  have hK := hKs.1
  have hl : lv_has ls 3 [(0, .ref (ad (48 + o))), (1, .ref (ad (32 + c))), (2, .int (tk))] := hl
  obtain ⟨hn0, hn0', hn1, hn2, hn3, hn4⟩ := id hN
  refine lv_iload_n hx hb d_Order_wants_0 rfl (lv_at hl 2 rfl) ?_
  refine lv_aload_n hx hb d_Order_wants_1 rfl (lv_at hl 0 rfl) ?_
  refine nw_get hx hb hts i_Order hown hK hw (48 + o) (hW_order hN (by omega)) rfl 0 (by decide) (hts _ kw_492) (fun _ h9 => h9) rfl d_Order_wants_2 ?_
  refine lv_icmp_ne (tgt := 44) hx hb d_Order_wants_5 (by decide) (fun c_5 => ?_) (fun c_5 => ?_)
  · skip
    have hres : nI 0 = b2 (pWants I ow S0 o c tk) := b2_f (fun h => c_5 h.1)
    refine lv_iconst (v := nI 0) hx hb d_Order_wants_44 (by decide) ?_
    exact nw_zret hQ hx hb hr (by first | exact Or.inl rfl | exact Or.inr rfl) hlocks hw hS (nw_okI hres) (Nat.le_of_ble_eq_true rfl) (Nat.le_of_ble_eq_true rfl) d_Order_wants_45
  · skip
    refine lv_aload_n hx hb d_Order_wants_8 rfl (lv_at hl 1 rfl) ?_
    refine nw_getN hx hb hts i_Cage hown hK hw (32 + c) (hW_cage hN (by omega)) rfl 1 (by decide) (va_Nw.use rfl (hKs.2.2 _ kn_413 rfl)) (fun _ h9 => h9) rfl d_Order_wants_9 ?_
    have hoo := (hO o (by omega)).2
    refine lv_aload_n hx hb d_Order_wants_12 rfl (lv_at hl 0 rfl) ?_
    refine nw_get hx hb hts i_Order hown hK hw (48 + o) (hW_order hN (by omega)) rfl 0 (by decide) (hts _ kw_492) (fun _ h9 => h9) rfl d_Order_wants_13 ?_
    refine nw_iald hx hb hK hw (132 + c) 0 (hW_row (t := 2) (j := c) (by decide) (by omega) (aX_cage (Or.inl rfl) (by omega))) rfl (ow o) ((hO o (by omega)).1) (by omega) (by omega) d_Order_wants_16 ?_
    refine lv_ei (y := S0 2 c (ow o)) (congrFun (hsc 2 c (by omega)) _) ?_
    refine lv_aload_n hx hb d_Order_wants_17 rfl (lv_at hl 0 rfl) ?_
    refine nw_get hx hb hts i_Order hown hK hw (48 + o) (hW_order hN (by omega)) rfl 1 (by decide) (hts _ kw_493) (fun _ h9 => h9) rfl d_Order_wants_18 ?_
    refine lv_icmp_lt (tgt := 44) hx hb d_Order_wants_21 (by decide) (fun c_21 => ?_) (fun c_21 => ?_)
    · skip
      have hres : nI 0 = b2 (pWants I ow S0 o c tk) := b2_f (fun h => Int32.not_le.mpr c_21 h.2.1)
      refine lv_iconst (v := nI 0) hx hb d_Order_wants_44 (by decide) ?_
      exact nw_zret hQ hx hb hr (by first | exact Or.inl rfl | exact Or.inr rfl) hlocks hw hS (nw_okI hres) (Nat.le_of_ble_eq_true rfl) (Nat.le_of_ble_eq_true rfl) d_Order_wants_45
    · skip
      refine lv_aload_n hx hb d_Order_wants_24 rfl (lv_at hl 1 rfl) ?_
      refine nw_getN hx hb hts i_Cage hown hK hw (32 + c) (hW_cage hN (by omega)) rfl 1 (by decide) (va_Nw.use rfl (hKs.2.2 _ kn_413 rfl)) (fun _ h9 => h9) rfl d_Order_wants_25 ?_
      refine lv_aload_n hx hb d_Order_wants_28 rfl (lv_at hl 0 rfl) ?_
      refine nw_get hx hb hts i_Order hown hK hw (48 + o) (hW_order hN (by omega)) rfl 0 (by decide) (hts _ kw_492) (fun _ h9 => h9) rfl d_Order_wants_29 ?_
      refine nw_iald hx hb hK hw (132 + c) 0 (hW_row (t := 2) (j := c) (by decide) (by omega) (aX_cage (Or.inl rfl) (by omega))) rfl (ow o) ((hO o (by omega)).1) (by omega) (by omega) d_Order_wants_32 ?_
      refine lv_ei (y := S0 2 c (ow o)) (congrFun (hsc 2 c (by omega)) _) ?_
      refine lv_aload_n hx hb d_Order_wants_33 rfl (lv_at hl 0 rfl) ?_
      refine nw_get hx hb hts i_Order hown hK hw (48 + o) (hW_order hN (by omega)) rfl 2 (by decide) (hts _ kw_494) (fun _ h9 => h9) rfl d_Order_wants_34 ?_
      refine lv_icmp_gt (tgt := 44) hx hb d_Order_wants_37 (by decide) (fun c_37 => ?_) (fun c_37 => ?_)
      · skip
        have hres : nI 0 = b2 (pWants I ow S0 o c tk) := b2_f (fun h => Int32.not_le.mpr c_37 h.2.2)
        refine lv_iconst (v := nI 0) hx hb d_Order_wants_44 (by decide) ?_
        exact nw_zret hQ hx hb hr (by first | exact Or.inl rfl | exact Or.inr rfl) hlocks hw hS (nw_okI hres) (Nat.le_of_ble_eq_true rfl) (Nat.le_of_ble_eq_true rfl) d_Order_wants_45
      · skip
        have hres : nI 1 = b2 (pWants I ow S0 o c tk) := b2_t ⟨c_5, Int32.not_lt.mp c_21, Int32.not_lt.mp c_37⟩
        refine lv_iconst (v := nI 1) hx hb d_Order_wants_40 (by decide) ?_
        refine lv_goto (tgt := 45) hx hb d_Order_wants_41 (by decide) ?_
        exact nw_zret hQ hx hb hr (by first | exact Or.inl rfl | exact Or.inr rfl) hlocks hw hS (nw_okI hres) (Nat.le_of_ble_eq_true rfl) (Nat.le_of_ble_eq_true rfl) d_Order_wants_45

set_option maxHeartbeats 4000000 in
set_option maxRecDepth 100000 in
/-- what a cage that is not taken counts -/
theorem c_Farm_centsKept (l : Launch) (D : va_G) (tC : Nat → ClassId) (A : Nat → Prop) (ad : Nat → Nat) (n : Nat → Nat) (I : Nat → Nat → Int32) (K : Nat → Int32) (bw : Int64) (LA : Nat → Int64) (bM : Nat → Option va_E) (aM : Nat → Nat → Option (ClassId × Nat)) (S0 S : Nat → Nat → Nat → Int32) (hsc : scr S0 S) (hN : hpN n) (c : Nat) (hc : c < n 2) : nw_Met l y_Farm_centsKept [Cond.code y_Farm_centsKept b_Farm_centsKept 2 (some .long)] ({ frames := 0, cells := 0, slots := 0, locals := 0 } : Room) D hpC A [.ref (ad (1)), .int (nI c)] (nw_pre D hpC (hpT tC) A (hW ad tC n I K bw LA bM aM S) ad) (nw_ok (some (.long (ckL n I S0 c))) (hW ad tC n I K bw LA bM aM S) ad) 0 0 := by
  refine nw_bodyK (by decide) (Nat.le_of_ble_eq_true rfl) ?_
  intro p e s m below meth cd ls args Q hSx hr hlocks hname hA hKs hw hS hl hQ
  obtain ⟨hx, hb, hml, hown, hts⟩ := id hSx
  have hK := hKs.1
  have hl : lv_has ls 2 [(0, .ref (ad (1))), (1, .int (nI c))] := hl
  obtain ⟨hn0, hn0', hn1, hn2, hn3, hn4⟩ := id hN
  refine lv_aload_n hx hb d_Farm_centsKept_0 rfl (lv_at hl 0 rfl) ?_
  refine nw_get hx hb hts i_Farm hown hK hw (1) (hW_1) rfl 2 (by decide) (hts _ kw_54) (fun _ h9 => h9) rfl d_Farm_centsKept_1 ?_
  refine lv_iload_n hx hb d_Farm_centsKept_4 rfl (lv_at hl 1 rfl) ?_
  refine nw_aald hx hb hK hw (7) 4 (hW_7) rfl (c) (rfl) (by omega) (by omega) (y := ad (32 + c)) (if_pos (by omega)) d_Farm_centsKept_5 ?_
  refine nw_getN hx hb hts i_Cage hown hK hw (32 + c) (hW_cage hN (by omega)) rfl 2 (by decide) (va_Nw.use rfl (hKs.2.2 _ kn_419 rfl)) (fun _ h9 => h9) rfl d_Farm_centsKept_6 ?_
  refine lv_aload_n hx hb d_Farm_centsKept_9 rfl (lv_at hl 0 rfl) ?_
  refine nw_get hx hb hts i_Farm hown hK hw (1) (hW_1) rfl 0 (by decide) (hts _ kw_47) (fun _ h9 => h9) rfl d_Farm_centsKept_10 ?_
  refine lv_iconst (v := nI 1) hx hb d_Farm_centsKept_13 (by decide) ?_
  refine lv_isub hx hb d_Farm_centsKept_14 ?_
  refine lv_ei (y := nI (n 0 - 1)) (pk_sub (by omega)) ?_
  refine nw_iald hx hb hK hw (148 + c) 0 (hW_row (t := 3) (j := c) (by decide) (by omega) (aX_cage (Or.inr rfl) (by omega))) rfl (n 0 - 1) (rfl) (by omega) (by omega) d_Farm_centsKept_15 ?_
  refine lv_ei (y := S0 3 c (n 0 - 1)) (congrFun (hsc 3 c (by omega)) _) ?_
  refine lv_i2l (v := ((S0 3 c (n 0 - 1)).toInt64)) hx hb d_Farm_centsKept_16 rfl ?_
  refine lv_aload_n hx hb d_Farm_centsKept_17 rfl (lv_at hl 0 rfl) ?_
  refine nw_get hx hb hts i_Farm hown hK hw (1) (hW_1) rfl 12 (by decide) (hts _ kw_85) (fun _ h9 => h9) rfl d_Farm_centsKept_18 ?_
  refine lv_i2l (v := ((I 0 2).toInt64)) hx hb d_Farm_centsKept_21 rfl ?_
  refine lv_lmul hx hb d_Farm_centsKept_22 ?_
  exact nw_lret hQ hx hb hr hlocks hw hS (nw_okL rfl) (Nat.le_of_ble_eq_true rfl) (Nat.le_of_ble_eq_true rfl) d_Farm_centsKept_23

set_option maxHeartbeats 4000000 in
set_option maxRecDepth 100000 in
/-- the TOP of a cage -/
theorem c_Farm_top (l : Launch) (D : va_G) (tC : Nat → ClassId) (A : Nat → Prop) (ad : Nat → Nat) (n : Nat → Nat) (I : Nat → Nat → Int32) (K : Nat → Int32) (bw : Int64) (LA : Nat → Int64) (bM : Nat → Option va_E) (aM : Nat → Nat → Option (ClassId × Nat)) (S0 S : Nat → Nat → Nat → Int32) (hsc : scr S0 S) (hN : hpN n) (ow : Nat → Nat) (hO : ∀ o, o < n 4 → I 4 o = nI (ow o) ∧ ow o < n 0) (c : Nat) (hc : c < n 2) (tk : Option Nat) (htk : ∀ w, tk = some w → w < n 0) : nw_Met l y_Farm_top [Cond.code y_Farm_top b_Farm_top 5 (some .long)] ({ frames := 1, cells := 0, slots := 0, locals := 22 } : Room) D hpC A [.ref (ad (1)), .int (nI c), .int (oI tk)] (nw_pre D hpC (hpT tC) A (hW ad tC n I K bw LA bM aM S) ad) (nw_ok (some (.long (topL n I ow S0 c tk))) (hW ad tC n I K bw LA bM aM S) ad) 0 0 := by
  refine nw_bodyK (by decide) (Nat.le_of_ble_eq_true rfl) ?_
  intro p e s m below meth cd ls args Q hSx hr hlocks hname hA hKs hw hS hl hQ
  obtain ⟨hx, hb, hml, hown, hts⟩ := id hSx
  have hK := hKs.1
  have hl : lv_has ls 5 [(0, .ref (ad (1))), (1, .int (nI c)), (2, .int (oI tk))] := hl
  obtain ⟨hn0, hn0', hn1, hn2, hn3, hn4⟩ := id hN
  refine lv_iload_n hx hb d_Farm_top_0 rfl (lv_at hl 2 rfl) ?_
  refine lv_iconst (v := (-1)) hx hb d_Farm_top_1 (by decide) ?_
  refine lv_icmp_ne (tgt := 11) hx hb d_Farm_top_2 (by decide) (fun c_2 => ?_) (fun c_2 => ?_)
  · skip
    obtain ⟨w, rfl⟩ := oI_some c_2
    have hw0 := htk w rfl
    have hl : lv_has ls 5 [(0, .ref (ad (1))), (1, .int (nI c)), (2, .int (nI w))] := hl
    refine lv_aload_n hx hb d_Farm_top_11 rfl (lv_at hl 0 rfl) ?_
    refine nw_get hx hb hts i_Farm hown hK hw (1) (hW_1) rfl 11 (by decide) (hts _ kw_83) (fun _ h9 => h9) rfl d_Farm_top_12 ?_
    refine lv_istore_n (lv' := [(3, .int (I 0 1)), (0, .ref (ad (1))), (1, .int (nI c)), (2, .int (nI w))]) hx hb d_Farm_top_15 rfl hl (by decide) rfl (fun ls hl => ?_)
    refine lv_iconst (v := nI 0) hx hb d_Farm_top_16 (by decide) ?_
    refine lv_istore (lv' := [(4, .int (nI 0)), (3, .int (I 0 1)), (0, .ref (ad (1))), (1, .int (nI c)), (2, .int (nI w))]) hx hb d_Farm_top_17 hl (by decide) rfl (fun ls hl => ?_)
    have loop19 : ∀ (k o : Nat), o ≤ n 4 → n 4 + 1 ≤ o + k → ∀ (H : Heap) (locs : List Loc) (ls : Array Slot), nw_W D hpC A (hW ad tC n I K bw LA bM aM S) ad H → va_S A s.heap H locs → lv_has ls 5 [(0, .ref (ad (1))), (1, .int (nI c)), (2, .int (nI w)), (3, .int (tcS I ow S0 c (nI w) o)), (4, .int (nI o))] → W p l e ({ frames := 1, cells := 0, slots := 0, locals := 22 } : Room) s m args below meth cd H locs 0 0 Q (F0 m 19 ls []) := by
      intro k
      induction k with
      | zero => intro o h1 h2; exact absurd h2 (by omega)
      | succ k ih19 =>
        intro o hv19 hk19 H locs ls hw hS hl
        refine lv_iload hx hb d_Farm_top_19 (lv_at hl 4 rfl) ?_
        refine lv_aload_n hx hb d_Farm_top_21 rfl (lv_at hl 0 rfl) ?_
        refine nw_get hx hb hts i_Farm hown hK hw (1) (hW_1) rfl 10 (by decide) (hts _ kw_80) (fun _ h9 => h9) rfl d_Farm_top_22 ?_
        refine lv_icmp_ge (tgt := 69) hx hb d_Farm_top_25 (by decide) (fun c_25 => ?_) (fun c_25 => ?_)
        · skip
          have hge25 : n 4 ≤ o := (nI_leI (by omega) (by omega)).mp c_25
          obtain rfl : n 4 = o := by omega
          refine lv_aload_n hx hb d_Farm_top_69 rfl (lv_at hl 0 rfl) ?_
          refine nw_get hx hb hts i_Farm hown hK hw (1) (hW_1) rfl 2 (by decide) (hts _ kw_54) (fun _ h9 => h9) rfl d_Farm_top_70 ?_
          refine lv_iload_n hx hb d_Farm_top_73 rfl (lv_at hl 1 rfl) ?_
          refine nw_aald hx hb hK hw (7) 4 (hW_7) rfl (c) (rfl) (by omega) (by omega) (y := ad (32 + c)) (if_pos (by omega)) d_Farm_top_74 ?_
          refine nw_getN hx hb hts i_Cage hown hK hw (32 + c) (hW_cage hN (by omega)) rfl 2 (by decide) (va_Nw.use rfl (hKs.2.2 _ kn_419 rfl)) (fun _ h9 => h9) rfl d_Farm_top_75 ?_
          refine lv_iload_n hx hb d_Farm_top_78 rfl (lv_at hl 2 rfl) ?_
          refine nw_iald hx hb hK hw (148 + c) 0 (hW_row (t := 3) (j := c) (by decide) (by omega) (aX_cage (Or.inr rfl) (by omega))) rfl (w) (rfl) (by omega) (by omega) d_Farm_top_79 ?_
          refine lv_ei (y := S0 3 c w) (congrFun (hsc 3 c (by omega)) _) ?_
          refine lv_i2l (v := ((S0 3 c w).toInt64)) hx hb d_Farm_top_80 rfl ?_
          refine lv_iload_n hx hb d_Farm_top_81 rfl (lv_at hl 3 rfl) ?_
          refine lv_i2l (v := ((tcS I ow S0 c (nI w) (n 4)).toInt64)) hx hb d_Farm_top_82 rfl ?_
          refine lv_lmul hx hb d_Farm_top_83 ?_
          exact nw_lret hQ hx hb hr hlocks hw hS (nw_okL rfl) (Nat.le_of_ble_eq_true rfl) (Nat.le_of_ble_eq_true rfl) d_Farm_top_84
        · skip
          have hlt : o < n 4 := Nat.not_le.mp (fun q => c_25 (nI_le q (by omega)))
          refine lv_aload_n hx hb d_Farm_top_28 rfl (lv_at hl 0 rfl) ?_
          refine nw_get hx hb hts i_Farm hown hK hw (1) (hW_1) rfl 4 (by decide) (hts _ kw_61) (fun _ h9 => h9) rfl d_Farm_top_29 ?_
          refine lv_iload hx hb d_Farm_top_32 (lv_at hl 4 rfl) ?_
          refine nw_aald hx hb hK hw (9) 6 (hW_9) rfl (o) (rfl) (by omega) (by omega) (y := ad (48 + o)) (if_pos (by omega)) d_Farm_top_34 ?_
          refine lv_aload_n hx hb d_Farm_top_35 rfl (lv_at hl 0 rfl) ?_
          refine nw_get hx hb hts i_Farm hown hK hw (1) (hW_1) rfl 2 (by decide) (hts _ kw_54) (fun _ h9 => h9) rfl d_Farm_top_36 ?_
          refine lv_iload_n hx hb d_Farm_top_39 rfl (lv_at hl 1 rfl) ?_
          refine nw_aald hx hb hK hw (7) 4 (hW_7) rfl (c) (rfl) (by omega) (by omega) (y := ad (32 + c)) (if_pos (by omega)) d_Farm_top_40 ?_
          refine lv_iload_n hx hb d_Farm_top_41 rfl (lv_at hl 2 rfl) ?_
          refine nw_callD (nw_goVN (n := 2) (As := [.ref (ad (32 + c)), .int (nI w)]) (rest := []) hSx hA hKs hw hS (c_Order_wants l D tC A ad n I K bw LA bM aM S0 S hsc hN ow hO o c (by omega) (by omega) (nI w)) kw_250 kn_246 kw_248 ks_Order_wants kw_17 rfl rfl (by decide +kernel) ⟨Nat.le_of_ble_eq_true rfl, Nat.le_of_ble_eq_true rfl⟩ (nw_recv hK hw (hW_order hN (by omega)) rfl) rfl hl.1 (Nat.le_of_ble_eq_true rfl) d_Farm_top_42 ⟨Nat.le_of_ble_eq_true rfl, Nat.le_of_ble_eq_true rfl⟩) hS (fun H locs hw hS => ?_)
          refine lv_if_eq (tgt := 63) hx hb d_Farm_top_45 (by decide) (fun c_45 => ?_) (fun c_45 => ?_)
          · skip
            have e3 : tcS I ow S0 c (nI w) (o + 1) = tcS I ow S0 c (nI w) o := tcS_f (b2_0 c_45)
            refine lv_iinc (v := nI (o + 1)) (lv' := [(4, .int (nI (o + 1))), (0, .ref (ad (1))), (1, .int (nI c)), (2, .int (nI w)), (3, .int (tcS I ow S0 c (nI w) o))]) hx hb d_Farm_top_63 hl (k := 4) rfl ((nI_succ _).symm) (by decide) rfl (fun ls hl => ?_)
            refine lv_goto (tgt := 19) hx hb d_Farm_top_66 (by decide) ?_
            have el3 : tcS I ow S0 c (nI w) (o + 1) = tcS I ow S0 c (nI w) o := e3
            have hl : lv_has ls 5 [(4, .int (nI (o + 1))), (0, .ref (ad (1))), (1, .int (nI c)), (2, .int (nI w)), (3, .int (tcS I ow S0 c (nI w) (o + 1)))] := by
              have h9 := hl
              revert h9; rw [show Value.int (tcS I ow S0 c (nI w) (o + 1)) = Value.int (tcS I ow S0 c (nI w) o) from congrArg _ el3]; intro h9
              exact h9
            exact ih19 (o + 1) (by omega) (by omega) _ _ ls hw hS (lv_sub hl [1, 2, 3, 4, 0] rfl)
          · skip
            have e3 : tcS I ow S0 c (nI w) (o + 1) = mxI (tcS I ow S0 c (nI w) o) (I 8 o) := tcS_t (b2_1 c_45)
            refine lv_iload_n hx hb d_Farm_top_48 rfl (lv_at hl 3 rfl) ?_
            refine lv_aload_n hx hb d_Farm_top_49 rfl (lv_at hl 0 rfl) ?_
            refine nw_get hx hb hts i_Farm hown hK hw (1) (hW_1) rfl 4 (by decide) (hts _ kw_61) (fun _ h9 => h9) rfl d_Farm_top_50 ?_
            refine lv_iload hx hb d_Farm_top_53 (lv_at hl 4 rfl) ?_
            refine nw_aald hx hb hK hw (9) 6 (hW_9) rfl (o) (rfl) (by omega) (by omega) (y := ad (48 + o)) (if_pos (by omega)) d_Farm_top_55 ?_
            refine nw_getN hx hb hts i_Order hown hK hw (48 + o) (hW_order hN (by omega)) rfl 4 (by decide) (va_Nw.use rfl (hKs.2.2 _ kn_499 rfl)) (fun _ h9 => h9) rfl d_Farm_top_56 ?_
            refine va_mmax hx hb (hml.trans hl.1.symm) hown (hts _ kw_251) (hts _ kw_33) (hts _ kw_3) (hts _ kw_34) (Nat.le_of_ble_eq_true rfl) (Nat.le_of_ble_eq_true rfl) (Nat.le_of_ble_eq_true rfl) (Nat.le_of_ble_eq_true rfl) d_Farm_top_59 ?_
            refine lv_ei (y := mxI (tcS I ow S0 c (nI w) o) (I 8 o)) rfl ?_
            refine lv_istore_n (lv' := [(3, .int (mxI (tcS I ow S0 c (nI w) o) (I 8 o))), (0, .ref (ad (1))), (1, .int (nI c)), (2, .int (nI w)), (4, .int (nI o))]) hx hb d_Farm_top_62 rfl hl (by decide) rfl (fun ls hl => ?_)
            refine lv_iinc (v := nI (o + 1)) (lv' := [(4, .int (nI (o + 1))), (3, .int (mxI (tcS I ow S0 c (nI w) o) (I 8 o))), (0, .ref (ad (1))), (1, .int (nI c)), (2, .int (nI w))]) hx hb d_Farm_top_63 hl (k := 4) rfl ((nI_succ _).symm) (by decide) rfl (fun ls hl => ?_)
            refine lv_goto (tgt := 19) hx hb d_Farm_top_66 (by decide) ?_
            have el3 : tcS I ow S0 c (nI w) (o + 1) = mxI (tcS I ow S0 c (nI w) o) (I 8 o) := e3
            have hl : lv_has ls 5 [(4, .int (nI (o + 1))), (3, .int (tcS I ow S0 c (nI w) (o + 1))), (0, .ref (ad (1))), (1, .int (nI c)), (2, .int (nI w))] := by
              have h9 := hl
              revert h9; rw [show Value.int (tcS I ow S0 c (nI w) (o + 1)) = Value.int (mxI (tcS I ow S0 c (nI w) o) (I 8 o)) from congrArg _ el3]; intro h9
              exact h9
            exact ih19 (o + 1) (by omega) (by omega) _ _ ls hw hS (lv_sub hl [2, 3, 4, 1, 0] rfl)
    exact loop19 (n 4 + 1) (0) (by omega) (by omega) _ _ ls hw hS (lv_sub hl [2, 3, 4, 1, 0] rfl)
  · skip
    obtain rfl := oI_none (fun w h => Nat.lt_trans (htk w h) (by omega)) c_2
    refine lv_aload_n hx hb d_Farm_top_5 rfl (lv_at hl 0 rfl) ?_
    refine lv_iload_n hx hb d_Farm_top_6 rfl (lv_at hl 1 rfl) ?_
    refine nw_callD (nw_goV (n := 1) (As := [.int (nI c)]) (rest := []) hSx hA hKs hw hS (c_Farm_centsKept l D tC A ad n I K bw LA bM aM S0 S hsc hN c (by omega)) kw_241 kw_238 kw_240 ks_Farm_centsKept kw_2 rfl rfl (by decide +kernel) ⟨Nat.le_of_ble_eq_true rfl, Nat.le_of_ble_eq_true rfl⟩ (nw_recv hK hw (hW_1) rfl) rfl hl.1 (Nat.le_of_ble_eq_true rfl) d_Farm_top_7 ⟨Nat.le_of_ble_eq_true rfl, Nat.le_of_ble_eq_true rfl⟩) hS (fun H locs hw hS => ?_)
    exact nw_lret hQ hx hb hr hlocks hw hS (nw_okL rfl) (Nat.le_of_ble_eq_true rfl) (Nat.le_of_ble_eq_true rfl) d_Farm_top_10

set_option maxHeartbeats 4000000 in
set_option maxRecDepth 100000 in
/-- the greatest of the tops -/
theorem c_Farm_greatestTop (l : Launch) (D : va_G) (tC : Nat → ClassId) (A : Nat → Prop) (ad : Nat → Nat) (n : Nat → Nat) (I : Nat → Nat → Int32) (K : Nat → Int32) (bw : Int64) (LA : Nat → Int64) (bM : Nat → Option va_E) (aM : Nat → Nat → Option (ClassId × Nat)) (S0 S : Nat → Nat → Nat → Int32) (hsc : scr S0 S) (hN : hpN n) (ow : Nat → Nat) (hO : ∀ o, o < n 4 → I 4 o = nI (ow o) ∧ ow o < n 0) (c : Nat) (hc : c < n 2) : nw_Met l y_Farm_greatestTop [Cond.code y_Farm_greatestTop b_Farm_greatestTop 5 (some .long)] ({ frames := 2, cells := 0, slots := 0, locals := 46 } : Room) D hpC A [.ref (ad (1)), .int (nI c)] (nw_pre D hpC (hpT tC) A (hW ad tC n I K bw LA bM aM S) ad) (nw_ok (some (.long (gtS n I ow S0 c (n 0)))) (hW ad tC n I K bw LA bM aM S) ad) 0 0 := by
  refine nw_bodyK (by decide) (Nat.le_of_ble_eq_true rfl) ?_
  intro p e s m below meth cd ls args Q hSx hr hlocks hname hA hKs hw hS hl hQ
  obtain ⟨hx, hb, hml, hown, hts⟩ := id hSx
  have hK := hKs.1
  have hl : lv_has ls 5 [(0, .ref (ad (1))), (1, .int (nI c))] := hl
  obtain ⟨hn0, hn0', hn1, hn2, hn3, hn4⟩ := id hN
  refine lv_aload_n hx hb d_Farm_greatestTop_0 rfl (lv_at hl 0 rfl) ?_
  refine lv_iload_n hx hb d_Farm_greatestTop_1 rfl (lv_at hl 1 rfl) ?_
  refine nw_callD (nw_goV (n := 1) (As := [.int (nI c)]) (rest := []) hSx hA hKs hw hS (c_Farm_centsKept l D tC A ad n I K bw LA bM aM S0 S hsc hN c (by omega)) kw_241 kw_238 kw_240 ks_Farm_centsKept kw_2 rfl rfl (by decide +kernel) ⟨Nat.le_of_ble_eq_true rfl, Nat.le_of_ble_eq_true rfl⟩ (nw_recv hK hw (hW_1) rfl) rfl hl.1 (Nat.le_of_ble_eq_true rfl) d_Farm_greatestTop_2 ⟨Nat.le_of_ble_eq_true rfl, Nat.le_of_ble_eq_true rfl⟩) hS (fun H locs hw hS => ?_)
  refine lv_lstore_n (lv' := [(2, .long (ckL n I S0 c)), (0, .ref (ad (1))), (1, .int (nI c))]) hx hb d_Farm_greatestTop_5 rfl hl (by decide) rfl (fun ls hl => ?_)
  refine lv_iconst (v := nI 0) hx hb d_Farm_greatestTop_6 (by decide) ?_
  refine lv_istore (lv' := [(4, .int (nI 0)), (2, .long (ckL n I S0 c)), (0, .ref (ad (1))), (1, .int (nI c))]) hx hb d_Farm_greatestTop_7 hl (by decide) rfl (fun ls hl => ?_)
  have loop9 : ∀ (k w : Nat), w ≤ n 0 → n 0 + 1 ≤ w + k → ∀ (H : Heap) (locs : List Loc) (ls : Array Slot), nw_W D hpC A (hW ad tC n I K bw LA bM aM S) ad H → va_S A s.heap H locs → lv_has ls 5 [(0, .ref (ad (1))), (1, .int (nI c)), (2, .long (gtS n I ow S0 c w)), (4, .int (nI w))] → W p l e ({ frames := 2, cells := 0, slots := 0, locals := 46 } : Room) s m args below meth cd H locs 0 0 Q (F0 m 9 ls []) := by
    intro k
    induction k with
    | zero => intro w h1 h2; exact absurd h2 (by omega)
    | succ k ih9 =>
      intro w hv9 hk9 H locs ls hw hS hl
      refine lv_iload hx hb d_Farm_greatestTop_9 (lv_at hl 3 rfl) ?_
      refine lv_aload_n hx hb d_Farm_greatestTop_11 rfl (lv_at hl 0 rfl) ?_
      refine nw_get hx hb hts i_Farm hown hK hw (1) (hW_1) rfl 0 (by decide) (hts _ kw_47) (fun _ h9 => h9) rfl d_Farm_greatestTop_12 ?_
      refine lv_icmp_ge (tgt := 36) hx hb d_Farm_greatestTop_15 (by decide) (fun c_15 => ?_) (fun c_15 => ?_)
      · skip
        have hge15 : n 0 ≤ w := (nI_leI (by omega) (by omega)).mp c_15
        obtain rfl : n 0 = w := by omega
        refine lv_lload_n hx hb d_Farm_greatestTop_36 rfl (lv_at hl 2 rfl) ?_
        exact nw_lret hQ hx hb hr hlocks hw hS (nw_okL rfl) (Nat.le_of_ble_eq_true rfl) (Nat.le_of_ble_eq_true rfl) d_Farm_greatestTop_37
      · skip
        have hlt : w < n 0 := Nat.not_le.mp (fun q => c_15 (nI_le q (by omega)))
        refine lv_lload_n hx hb d_Farm_greatestTop_18 rfl (lv_at hl 2 rfl) ?_
        refine lv_aload_n hx hb d_Farm_greatestTop_19 rfl (lv_at hl 0 rfl) ?_
        refine lv_iload_n hx hb d_Farm_greatestTop_20 rfl (lv_at hl 1 rfl) ?_
        refine lv_iload hx hb d_Farm_greatestTop_21 (lv_at hl 3 rfl) ?_
        refine nw_callD (nw_goV (n := 2) (As := [.int (nI c), .int (nI w)]) (rest := [.long (gtS n I ow S0 c w)]) hSx hA hKs hw hS (c_Farm_top l D tC A ad n I K bw LA bM aM S0 S hsc hN ow hO c (by omega) (some w) (fun w9 h9 => by cases h9; omega)) kw_245 kw_242 kw_244 ks_Farm_top kw_2 rfl rfl (by decide +kernel) ⟨Nat.le_of_ble_eq_true rfl, Nat.le_of_ble_eq_true rfl⟩ (nw_recv hK hw (hW_1) rfl) rfl hl.1 (Nat.le_of_ble_eq_true rfl) d_Farm_greatestTop_23 ⟨Nat.le_of_ble_eq_true rfl, Nat.le_of_ble_eq_true rfl⟩) hS (fun H locs hw hS => ?_)
        refine va_mmax_long hx hb (hml.trans hl.1.symm) hown (hts _ kw_252) (hts _ kw_253) (hts _ kw_3) (hts _ kw_254) (Nat.le_of_ble_eq_true rfl) (Nat.le_of_ble_eq_true rfl) (Nat.le_of_ble_eq_true rfl) (Nat.le_of_ble_eq_true rfl) d_Farm_greatestTop_26 ?_
        refine lv_el (y := mxL (gtS n I ow S0 c w) (topL n I ow S0 c (some w))) rfl ?_
        refine lv_lstore_n (lv' := [(2, .long (mxL (gtS n I ow S0 c w) (topL n I ow S0 c (some w)))), (0, .ref (ad (1))), (1, .int (nI c)), (4, .int (nI w))]) hx hb d_Farm_greatestTop_29 rfl hl (by decide) rfl (fun ls hl => ?_)
        refine lv_iinc (v := nI (w + 1)) (lv' := [(4, .int (nI (w + 1))), (2, .long (mxL (gtS n I ow S0 c w) (topL n I ow S0 c (some w)))), (0, .ref (ad (1))), (1, .int (nI c))]) hx hb d_Farm_greatestTop_30 hl (k := 3) rfl ((nI_succ _).symm) (by decide) rfl (fun ls hl => ?_)
        refine lv_goto (tgt := 9) hx hb d_Farm_greatestTop_33 (by decide) ?_
        have el2 : gtS n I ow S0 c (w + 1) = mxL (gtS n I ow S0 c w) (topL n I ow S0 c (some w)) := rfl
        have hl : lv_has ls 5 [(4, .int (nI (w + 1))), (2, .long (gtS n I ow S0 c (w + 1))), (0, .ref (ad (1))), (1, .int (nI c))] := by
          have h9 := hl
          revert h9; rw [show Value.long (gtS n I ow S0 c (w + 1)) = Value.long (mxL (gtS n I ow S0 c w) (topL n I ow S0 c (some w))) from congrArg _ el2]; intro h9
          exact h9
        exact ih9 (w + 1) (by omega) (by omega) _ _ ls hw hS (lv_sub hl [2, 3, 1, 0] rfl)
  exact loop9 (n 0 + 1) (0) (by omega) (by omega) _ _ ls hw hS (lv_sub hl [2, 3, 1, 0] rfl)

set_option maxHeartbeats 4000000 in
set_option maxRecDepth 100000 in
/-- an order is served -/
theorem c_Sales_serve (l : Launch) (D : va_G) (tC : Nat → ClassId) (A : Nat → Prop) (ad : Nat → Nat) (n : Nat → Nat) (I : Nat → Nat → Int32) (K : Nat → Int32) (bw : Int64) (LA : Nat → Int64) (bM : Nat → Option va_E) (aM : Nat → Nat → Option (ClassId × Nat)) (S0 S : Nat → Nat → Nat → Int32) (hsc : scr S0 S) (hN : hpN n) (r : Nat) (hr0 : r = 0 ∨ r = 9) (ow : Nat → Nat) (hO : ∀ o, o < n 4 → I 4 o = nI (ow o) ∧ ow o < n 0) (lf : Nat → Int32) (h7 : S 0 7 = lf) (o : Nat) (ho : o < n 4) : nw_Met l y_Sales_serve [Cond.code y_Sales_serve b_Sales_serve 6 (some .int)] ({ frames := 1, cells := 0, slots := 0, locals := 22 } : Room) D hpC A [.ref (ad (3)), .ref (ad (48 + o)), .ref (ad (100 + r))] (nw_pre D hpC (hpT tC) A (hW ad tC n I K bw LA bM aM S) ad) (nw_ok (some (.int ((svS I ow S0 o (S0 0 r) lf (n 2)).2))) (hW ad tC n I K bw LA bM aM (upR S 0 7 ((svS I ow S0 o (S0 0 r) lf (n 2)).1))) ad) 0 0 := by
  refine nw_bodyK (by decide) (Nat.le_of_ble_eq_true rfl) ?_
  intro p e s m below meth cd ls args Q hSx hr hlocks hname hA hKs hw hS hl hQ
  obtain ⟨hx, hb, hml, hown, hts⟩ := id hSx
  have hK := hKs.1
  have hl : lv_has ls 6 [(0, .ref (ad (3))), (1, .ref (ad (48 + o))), (2, .ref (ad (100 + r)))] := hl
  obtain ⟨hn0, hn0', hn1, hn2, hn3, hn4⟩ := id hN
  refine lv_iconst (v := nI 0) hx hb d_Sales_serve_0 (by decide) ?_
  refine lv_istore_n (lv' := [(3, .int (nI 0)), (0, .ref (ad (3))), (1, .ref (ad (48 + o))), (2, .ref (ad (100 + r)))]) hx hb d_Sales_serve_1 rfl hl (by decide) rfl (fun ls hl => ?_)
  refine lv_iconst (v := nI 0) hx hb d_Sales_serve_2 (by decide) ?_
  refine lv_istore (lv' := [(4, .int (nI 0)), (3, .int (nI 0)), (0, .ref (ad (3))), (1, .ref (ad (48 + o))), (2, .ref (ad (100 + r)))]) hx hb d_Sales_serve_3 hl (by decide) rfl (fun ls hl => ?_)
  have hw := nw_W.as (wn' := hW ad tC n I K bw LA bM aM (upR S 0 7 ((svS I ow S0 o (S0 0 r) lf 0).1))) hw (by rw [show (svS I ow S0 o (S0 0 r) lf 0).1 = lf from rfl, ← h7, upR_same])
  have loop5 : ∀ (k c : Nat), c ≤ n 2 → n 2 + 1 ≤ c + k → ∀ (H : Heap) (locs : List Loc) (ls : Array Slot), nw_W D hpC A (hW ad tC n I K bw LA bM aM (upR S 0 7 ((svS I ow S0 o (S0 0 r) lf c).1))) ad H → va_S A s.heap H locs → lv_has ls 6 [(0, .ref (ad (3))), (1, .ref (ad (48 + o))), (2, .ref (ad (100 + r))), (3, .int ((svS I ow S0 o (S0 0 r) lf c).2)), (4, .int (nI c))] → W p l e ({ frames := 1, cells := 0, slots := 0, locals := 22 } : Room) s m args below meth cd H locs 0 0 Q (F0 m 5 ls []) := by
    intro k
    induction k with
    | zero => intro c h1 h2; exact absurd h2 (by omega)
    | succ k ih5 =>
      intro c hv5 hk5 H locs ls hw hS hl
      refine lv_iload hx hb d_Sales_serve_5 (lv_at hl 4 rfl) ?_
      refine lv_aload_n hx hb d_Sales_serve_7 rfl (lv_at hl 0 rfl) ?_
      refine nw_get hx hb hts i_Sales hown hK hw (3) (hW_3) rfl 0 (by decide) (hts _ kw_143) (fun _ h9 => h9) rfl d_Sales_serve_8 ?_
      refine nw_getN hx hb hts i_Farm hown hK hw (1) (hW_1) rfl 8 (by decide) (va_Nw.use rfl (hKs.2.2 _ kn_71 rfl)) (fun _ h9 => h9) rfl d_Sales_serve_11 ?_
      refine lv_icmp_ge (tgt := 79) hx hb d_Sales_serve_14 (by decide) (fun c_14 => ?_) (fun c_14 => ?_)
      · skip
        have hge14 : n 2 ≤ c := (nI_leI (by omega) (by omega)).mp c_14
        obtain rfl : n 2 = c := by omega
        refine lv_iload_n hx hb d_Sales_serve_79 rfl (lv_at hl 3 rfl) ?_
        exact nw_iret hQ hx hb hr hlocks hw hS (nw_ok_rf) (Nat.le_of_ble_eq_true rfl) (Nat.le_of_ble_eq_true rfl) d_Sales_serve_80
      · skip
        have hlt : c < n 2 := Nat.not_le.mp (fun q => c_14 (nI_le q (by omega)))
        refine lv_aload_n hx hb d_Sales_serve_17 rfl (lv_at hl 1 rfl) ?_
        refine lv_aload_n hx hb d_Sales_serve_18 rfl (lv_at hl 0 rfl) ?_
        refine nw_get hx hb hts i_Sales hown hK hw (3) (hW_3) rfl 0 (by decide) (hts _ kw_143) (fun _ h9 => h9) rfl d_Sales_serve_19 ?_
        refine nw_getN hx hb hts i_Farm hown hK hw (1) (hW_1) rfl 2 (by decide) (va_Nw.use rfl (hKs.2.2 _ kn_55 rfl)) (fun _ h9 => h9) rfl d_Sales_serve_22 ?_
        refine lv_iload hx hb d_Sales_serve_25 (lv_at hl 4 rfl) ?_
        refine nw_aald hx hb hK hw (7) 4 (hW_7) rfl (c) (rfl) (by omega) (by omega) (y := ad (32 + c)) (if_pos (by omega)) d_Sales_serve_27 ?_
        refine lv_aload_n hx hb d_Sales_serve_28 rfl (lv_at hl 2 rfl) ?_
        refine lv_iload hx hb d_Sales_serve_29 (lv_at hl 4 rfl) ?_
        refine nw_iald hx hb hK hw (100 + r) 0 (hW_row (t := 0) (j := r) (by decide) (by omega) (aX_pl hr0)) rfl (c) (rfl) (by omega) (by omega) d_Sales_serve_31 ?_
        refine lv_ei (y := S0 0 r c) (congrFun ((scr_up hsc (by omega)) 0 r (by omega)) _) ?_
        refine nw_callD (nw_goVN (n := 2) (As := [.ref (ad (32 + c)), .int (S0 0 r c)]) (rest := []) hSx hA hKs hw hS (c_Order_wants l D tC A ad n I K bw LA bM aM S0 (upR S 0 7 ((svS I ow S0 o (S0 0 r) lf c).1)) (scr_up hsc (by omega)) hN ow hO o c (by omega) (by omega) (S0 0 r c)) kw_250 kn_559 kw_248 ks_Order_wants kw_17 rfl rfl (by decide +kernel) ⟨Nat.le_of_ble_eq_true rfl, Nat.le_of_ble_eq_true rfl⟩ (nw_recv hK hw (hW_order hN (by omega)) rfl) rfl hl.1 (Nat.le_of_ble_eq_true rfl) d_Sales_serve_32 ⟨Nat.le_of_ble_eq_true rfl, Nat.le_of_ble_eq_true rfl⟩) hS (fun H locs hw hS => ?_)
        refine lv_if_eq (tgt := 73) hx hb d_Sales_serve_35 (by decide) (fun c_35 => ?_) (fun c_35 => ?_)
        · skip
          have e7 : svS I ow S0 o (S0 0 r) lf (c + 1) = svS I ow S0 o (S0 0 r) lf c := svS_f (b2_0 c_35)
          refine lv_iinc (v := nI (c + 1)) (lv' := [(4, .int (nI (c + 1))), (0, .ref (ad (3))), (1, .ref (ad (48 + o))), (2, .ref (ad (100 + r))), (3, .int ((svS I ow S0 o (S0 0 r) lf c).2))]) hx hb d_Sales_serve_73 hl (k := 4) rfl ((nI_succ _).symm) (by decide) rfl (fun ls hl => ?_)
          refine lv_goto (tgt := 5) hx hb d_Sales_serve_76 (by decide) ?_
          have el3 : (svS I ow S0 o (S0 0 r) lf (c + 1)).2 = (svS I ow S0 o (S0 0 r) lf c).2 := by rw [e7]
          have hl : lv_has ls 6 [(4, .int (nI (c + 1))), (0, .ref (ad (3))), (1, .ref (ad (48 + o))), (2, .ref (ad (100 + r))), (3, .int ((svS I ow S0 o (S0 0 r) lf (c + 1)).2))] := by
            have h9 := hl
            revert h9; rw [show Value.int ((svS I ow S0 o (S0 0 r) lf (c + 1)).2) = Value.int ((svS I ow S0 o (S0 0 r) lf c).2) from congrArg _ el3]; intro h9
            exact h9
          have hw := nw_W.as (wn' := hW ad tC n I K bw LA bM aM (upR S 0 7 ((svS I ow S0 o (S0 0 r) lf (c + 1)).1))) hw (by rw [e7])
          exact ih5 (c + 1) (by omega) (by omega) _ _ ls hw hS (lv_sub hl [1, 2, 3, 4, 0] rfl)
        · skip
          have e7 : svS I ow S0 o (S0 0 r) lf (c + 1) = (upd (svS I ow S0 o (S0 0 r) lf c).1 c ((svS I ow S0 o (S0 0 r) lf c).1 c - mnI ((svS I ow S0 o (S0 0 r) lf c).1 c) (I 7 o - (svS I ow S0 o (S0 0 r) lf c).2)), (svS I ow S0 o (S0 0 r) lf c).2 + mnI ((svS I ow S0 o (S0 0 r) lf c).1 c) (I 7 o - (svS I ow S0 o (S0 0 r) lf c).2)) := svS_t (b2_1 c_35)
          refine lv_aload_n hx hb d_Sales_serve_38 rfl (lv_at hl 0 rfl) ?_
          refine nw_get hx hb hts i_Sales hown hK hw (3) (hW_3) rfl 1 (by decide) (hts _ kw_144) (fun _ h9 => h9) rfl d_Sales_serve_39 ?_
          refine lv_iload hx hb d_Sales_serve_42 (lv_at hl 4 rfl) ?_
          refine nw_iald hx hb hK hw (107) 0 (hW_row (t := 0) (j := 7) (by decide) (by omega) (rfl)) rfl (c) (rfl) (by omega) (by omega) d_Sales_serve_44 ?_
          refine lv_ei (y := ((svS I ow S0 o (S0 0 r) lf c).1) c) (congrFun upR_self _) ?_
          refine lv_aload_n hx hb d_Sales_serve_45 rfl (lv_at hl 1 rfl) ?_
          refine nw_getN hx hb hts i_Order hown hK hw (48 + o) (hW_order hN (by omega)) rfl 3 (by decide) (va_Nw.use rfl (hKs.2.2 _ kn_496 rfl)) (fun _ h9 => h9) rfl d_Sales_serve_46 ?_
          refine lv_iload_n hx hb d_Sales_serve_49 rfl (lv_at hl 3 rfl) ?_
          refine lv_isub hx hb d_Sales_serve_50 ?_
          refine va_mmin hx hb (hml.trans hl.1.symm) hown (hts _ kw_560) (hts _ kw_30) (hts _ kw_3) (hts _ kw_31) (Nat.le_of_ble_eq_true rfl) (Nat.le_of_ble_eq_true rfl) (Nat.le_of_ble_eq_true rfl) (Nat.le_of_ble_eq_true rfl) d_Sales_serve_51 ?_
          refine lv_ei (y := mnI (((svS I ow S0 o (S0 0 r) lf c).1) c) (((I 7 o) - ((svS I ow S0 o (S0 0 r) lf c).2)))) rfl ?_
          refine lv_istore (lv' := [(5, .int (mnI (((svS I ow S0 o (S0 0 r) lf c).1) c) (((I 7 o) - ((svS I ow S0 o (S0 0 r) lf c).2))))), (0, .ref (ad (3))), (1, .ref (ad (48 + o))), (2, .ref (ad (100 + r))), (3, .int ((svS I ow S0 o (S0 0 r) lf c).2)), (4, .int (nI c))]) hx hb d_Sales_serve_54 hl (by decide) rfl (fun ls hl => ?_)
          refine lv_aload_n hx hb d_Sales_serve_56 rfl (lv_at hl 1 rfl) ?_
          refine nw_get hx hb hts i_Sales hown hK hw (3) (hW_3) rfl 1 (by decide) (hts _ kw_144) (fun _ h9 => h9) rfl d_Sales_serve_57 ?_
          refine lv_iload hx hb d_Sales_serve_60 (lv_at hl 5 rfl) ?_
          refine lv_dup2_11 hx hb d_Sales_serve_62 rfl rfl ?_
          refine nw_iald hx hb hK hw (107) 0 (hW_row (t := 0) (j := 7) (by decide) (by omega) (rfl)) rfl (c) (rfl) (by omega) (by omega) d_Sales_serve_63 ?_
          refine lv_ei (y := ((svS I ow S0 o (S0 0 r) lf c).1) c) (congrFun upR_self _) ?_
          refine lv_iload hx hb d_Sales_serve_64 (lv_at hl 0 rfl) ?_
          refine lv_isub hx hb d_Sales_serve_66 ?_
          refine nw_iast hx hb hK hw hS (107) 0 (hW_row (t := 0) (j := 7) (by decide) (by omega) (rfl)) rfl (c) (rfl) (by omega) (by omega) d_Sales_serve_67 (fun H locs hw hS => ?_)
          have hw := hW_setRow (t := 0) (j := 7) (by decide) (by omega) (rfl) hw
          rw [upR_upR, upR_self] at hw
          refine lv_iload_n hx hb d_Sales_serve_68 rfl (lv_at hl 4 rfl) ?_
          refine lv_iload hx hb d_Sales_serve_69 (lv_at hl 0 rfl) ?_
          refine lv_iadd hx hb d_Sales_serve_71 ?_
          refine lv_istore_n (lv' := [(3, .int ((((svS I ow S0 o (S0 0 r) lf c).2) + (mnI (((svS I ow S0 o (S0 0 r) lf c).1) c) (((I 7 o) - ((svS I ow S0 o (S0 0 r) lf c).2))))))), (5, .int (mnI (((svS I ow S0 o (S0 0 r) lf c).1) c) (((I 7 o) - ((svS I ow S0 o (S0 0 r) lf c).2))))), (0, .ref (ad (3))), (1, .ref (ad (48 + o))), (2, .ref (ad (100 + r))), (4, .int (nI c))]) hx hb d_Sales_serve_72 rfl hl (by decide) rfl (fun ls hl => ?_)
          refine lv_iinc (v := nI (c + 1)) (lv' := [(4, .int (nI (c + 1))), (3, .int ((((svS I ow S0 o (S0 0 r) lf c).2) + (mnI (((svS I ow S0 o (S0 0 r) lf c).1) c) (((I 7 o) - ((svS I ow S0 o (S0 0 r) lf c).2))))))), (5, .int (mnI (((svS I ow S0 o (S0 0 r) lf c).1) c) (((I 7 o) - ((svS I ow S0 o (S0 0 r) lf c).2))))), (0, .ref (ad (3))), (1, .ref (ad (48 + o))), (2, .ref (ad (100 + r)))]) hx hb d_Sales_serve_73 hl (k := 5) rfl ((nI_succ _).symm) (by decide) rfl (fun ls hl => ?_)
          refine lv_goto (tgt := 5) hx hb d_Sales_serve_76 (by decide) ?_
          have el3 : (svS I ow S0 o (S0 0 r) lf (c + 1)).2 = (((svS I ow S0 o (S0 0 r) lf c).2) + (mnI (((svS I ow S0 o (S0 0 r) lf c).1) c) (((I 7 o) - ((svS I ow S0 o (S0 0 r) lf c).2))))) := by rw [e7]
          have hl : lv_has ls 6 [(4, .int (nI (c + 1))), (3, .int ((svS I ow S0 o (S0 0 r) lf (c + 1)).2)), (5, .int (mnI (((svS I ow S0 o (S0 0 r) lf c).1) c) (((I 7 o) - ((svS I ow S0 o (S0 0 r) lf c).2))))), (0, .ref (ad (3))), (1, .ref (ad (48 + o))), (2, .ref (ad (100 + r)))] := by
            have h9 := hl
            revert h9; rw [show Value.int ((svS I ow S0 o (S0 0 r) lf (c + 1)).2) = Value.int ((((svS I ow S0 o (S0 0 r) lf c).2) + (mnI (((svS I ow S0 o (S0 0 r) lf c).1) c) (((I 7 o) - ((svS I ow S0 o (S0 0 r) lf c).2)))))) from congrArg _ el3]; intro h9
            exact h9
          have hw := nw_W.as (wn' := hW ad tC n I K bw LA bM aM (upR S 0 7 ((svS I ow S0 o (S0 0 r) lf (c + 1)).1))) hw (by rw [e7])
          exact ih5 (c + 1) (by omega) (by omega) _ _ ls hw hS (lv_sub hl [3, 4, 5, 1, 0] rfl)
  exact loop5 (n 2 + 1) (0) (by omega) (by omega) _ _ ls hw hS (lv_sub hl [2, 3, 4, 1, 0] rfl)

set_option maxHeartbeats 4000000 in
set_option maxRecDepth 100000 in
/-- what the rest is worth -/
theorem c_Sales_priceOfRest (l : Launch) (D : va_G) (tC : Nat → ClassId) (A : Nat → Prop) (ad : Nat → Nat) (n : Nat → Nat) (I : Nat → Nat → Int32) (K : Nat → Int32) (bw : Int64) (LA : Nat → Int64) (bM : Nat → Option va_E) (aM : Nat → Nat → Option (ClassId × Nat)) (S0 S : Nat → Nat → Nat → Int32) (hsc : scr S0 S) (hN : hpN n) (r : Nat) (hr0 : r = 0 ∨ r = 9) : nw_Met l y_Sales_priceOfRest [Cond.code y_Sales_priceOfRest b_Sales_priceOfRest 5 (some .long)] ({ frames := 1, cells := 0, slots := 0, locals := 21 } : Room) D hpC A [.ref (ad (3)), .ref (ad (100 + r))] (nw_pre D hpC (hpT tC) A (hW ad tC n I K bw LA bM aM S) ad) (nw_ok (some (.long (prS n I S0 (S0 0 r) (S 0 7) (n 2)))) (hW ad tC n I K bw LA bM aM S) ad) 0 0 := by
  refine nw_bodyK (by decide) (Nat.le_of_ble_eq_true rfl) ?_
  intro p e s m below meth cd ls args Q hSx hr hlocks hname hA hKs hw hS hl hQ
  obtain ⟨hx, hb, hml, hown, hts⟩ := id hSx
  have hK := hKs.1
  have hl : lv_has ls 5 [(0, .ref (ad (3))), (1, .ref (ad (100 + r)))] := hl
  obtain ⟨hn0, hn0', hn1, hn2, hn3, hn4⟩ := id hN
  refine lv_lconst (v := 0) hx hb d_Sales_priceOfRest_0 (by decide) ?_
  refine lv_lstore_n (lv' := [(2, .long (0)), (0, .ref (ad (3))), (1, .ref (ad (100 + r)))]) hx hb d_Sales_priceOfRest_1 rfl hl (by decide) rfl (fun ls hl => ?_)
  refine lv_iconst (v := nI 0) hx hb d_Sales_priceOfRest_2 (by decide) ?_
  refine lv_istore (lv' := [(4, .int (nI 0)), (2, .long (0)), (0, .ref (ad (3))), (1, .ref (ad (100 + r)))]) hx hb d_Sales_priceOfRest_3 hl (by decide) rfl (fun ls hl => ?_)
  have loop5 : ∀ (k c : Nat), c ≤ n 2 → n 2 + 1 ≤ c + k → ∀ (H : Heap) (locs : List Loc) (ls : Array Slot), nw_W D hpC A (hW ad tC n I K bw LA bM aM S) ad H → va_S A s.heap H locs → lv_has ls 5 [(0, .ref (ad (3))), (1, .ref (ad (100 + r))), (2, .long (prS n I S0 (S0 0 r) (S 0 7) c)), (4, .int (nI c))] → W p l e ({ frames := 1, cells := 0, slots := 0, locals := 21 } : Room) s m args below meth cd H locs 0 0 Q (F0 m 5 ls []) := by
    intro k
    induction k with
    | zero => intro c h1 h2; exact absurd h2 (by omega)
    | succ k ih5 =>
      intro c hv5 hk5 H locs ls hw hS hl
      refine lv_iload hx hb d_Sales_priceOfRest_5 (lv_at hl 3 rfl) ?_
      refine lv_aload_n hx hb d_Sales_priceOfRest_7 rfl (lv_at hl 0 rfl) ?_
      refine nw_get hx hb hts i_Sales hown hK hw (3) (hW_3) rfl 0 (by decide) (hts _ kw_143) (fun _ h9 => h9) rfl d_Sales_priceOfRest_8 ?_
      refine nw_getN hx hb hts i_Farm hown hK hw (1) (hW_1) rfl 8 (by decide) (va_Nw.use rfl (hKs.2.2 _ kn_71 rfl)) (fun _ h9 => h9) rfl d_Sales_priceOfRest_11 ?_
      refine lv_icmp_ge (tgt := 63) hx hb d_Sales_priceOfRest_14 (by decide) (fun c_14 => ?_) (fun c_14 => ?_)
      · skip
        have hge14 : n 2 ≤ c := (nI_leI (by omega) (by omega)).mp c_14
        obtain rfl : n 2 = c := by omega
        refine lv_lload_n hx hb d_Sales_priceOfRest_63 rfl (lv_at hl 2 rfl) ?_
        exact nw_lret hQ hx hb hr hlocks hw hS (nw_okL rfl) (Nat.le_of_ble_eq_true rfl) (Nat.le_of_ble_eq_true rfl) d_Sales_priceOfRest_64
      · skip
        have hlt : c < n 2 := Nat.not_le.mp (fun q => c_14 (nI_le q (by omega)))
        refine lv_lload_n hx hb d_Sales_priceOfRest_17 rfl (lv_at hl 2 rfl) ?_
        refine lv_aload_n hx hb d_Sales_priceOfRest_18 rfl (lv_at hl 1 rfl) ?_
        refine lv_iload hx hb d_Sales_priceOfRest_19 (lv_at hl 3 rfl) ?_
        refine nw_iald hx hb hK hw (100 + r) 0 (hW_row (t := 0) (j := r) (by decide) (by omega) (aX_pl hr0)) rfl (c) (rfl) (by omega) (by omega) d_Sales_priceOfRest_21 ?_
        refine lv_ei (y := S0 0 r c) (congrFun (hsc 0 r (by omega)) _) ?_
        refine lv_iconst (v := (-1)) hx hb d_Sales_priceOfRest_22 (by decide) ?_
        refine lv_icmp_ne (tgt := 38) hx hb d_Sales_priceOfRest_23 (by decide) (fun c_23 => ?_) (fun c_23 => ?_)
        · skip
          have e2 : prS n I S0 (S0 0 r) (S 0 7) (c + 1) = prS n I S0 (S0 0 r) (S 0 7) c + (S 0 7 c).toInt64 * (I 0 1).toInt64 := prS_f c_23
          refine lv_aload_n hx hb d_Sales_priceOfRest_38 rfl (lv_at hl 0 rfl) ?_
          refine nw_get hx hb hts i_Sales hown hK hw (3) (hW_3) rfl 1 (by decide) (hts _ kw_144) (fun _ h9 => h9) rfl d_Sales_priceOfRest_39 ?_
          refine lv_iload hx hb d_Sales_priceOfRest_42 (lv_at hl 3 rfl) ?_
          refine nw_iald hx hb hK hw (107) 0 (hW_row (t := 0) (j := 7) (by decide) (by omega) (rfl)) rfl (c) (rfl) (by omega) (by omega) d_Sales_priceOfRest_44 ?_
          refine lv_i2l (v := (((S 0 7 (c))).toInt64)) hx hb d_Sales_priceOfRest_45 rfl ?_
          refine lv_aload_n hx hb d_Sales_priceOfRest_46 rfl (lv_at hl 0 rfl) ?_
          refine nw_get hx hb hts i_Sales hown hK hw (3) (hW_3) rfl 0 (by decide) (hts _ kw_143) (fun _ h9 => h9) rfl d_Sales_priceOfRest_47 ?_
          refine nw_getN hx hb hts i_Farm hown hK hw (1) (hW_1) rfl 11 (by decide) (va_Nw.use rfl (hKs.2.2 _ kn_82 rfl)) (fun _ h9 => h9) rfl d_Sales_priceOfRest_50 ?_
          refine lv_i2l (v := ((I 0 1).toInt64)) hx hb d_Sales_priceOfRest_53 rfl ?_
          refine lv_lmul hx hb d_Sales_priceOfRest_54 ?_
          refine lv_ladd hx hb d_Sales_priceOfRest_55 ?_
          refine lv_lstore_n (lv' := [(2, .long (((prS n I S0 (S0 0 r) (S 0 7) c) + ((((((S 0 7 (c))).toInt64)) * (((I 0 1).toInt64))))))), (0, .ref (ad (3))), (1, .ref (ad (100 + r))), (4, .int (nI c))]) hx hb d_Sales_priceOfRest_56 rfl hl (by decide) rfl (fun ls hl => ?_)
          refine lv_iinc (v := nI (c + 1)) (lv' := [(4, .int (nI (c + 1))), (2, .long (((prS n I S0 (S0 0 r) (S 0 7) c) + ((((((S 0 7 (c))).toInt64)) * (((I 0 1).toInt64))))))), (0, .ref (ad (3))), (1, .ref (ad (100 + r)))]) hx hb d_Sales_priceOfRest_57 hl (k := 3) rfl ((nI_succ _).symm) (by decide) rfl (fun ls hl => ?_)
          refine lv_goto (tgt := 5) hx hb d_Sales_priceOfRest_60 (by decide) ?_
          have el2 : prS n I S0 (S0 0 r) (S 0 7) (c + 1) = ((prS n I S0 (S0 0 r) (S 0 7) c) + ((((((S 0 7 (c))).toInt64)) * (((I 0 1).toInt64))))) := e2
          have hl : lv_has ls 5 [(4, .int (nI (c + 1))), (2, .long (prS n I S0 (S0 0 r) (S 0 7) (c + 1))), (0, .ref (ad (3))), (1, .ref (ad (100 + r)))] := by
            have h9 := hl
            revert h9; rw [show Value.long (prS n I S0 (S0 0 r) (S 0 7) (c + 1)) = Value.long (((prS n I S0 (S0 0 r) (S 0 7) c) + ((((((S 0 7 (c))).toInt64)) * (((I 0 1).toInt64)))))) from congrArg _ el2]; intro h9
            exact h9
          exact ih5 (c + 1) (by omega) (by omega) _ _ ls hw hS (lv_sub hl [2, 3, 1, 0] rfl)
        · skip
          have e2 : prS n I S0 (S0 0 r) (S 0 7) (c + 1) = prS n I S0 (S0 0 r) (S 0 7) c + ckL n I S0 c := prS_t c_23
          refine lv_aload_n hx hb d_Sales_priceOfRest_26 rfl (lv_at hl 0 rfl) ?_
          refine nw_get hx hb hts i_Sales hown hK hw (3) (hW_3) rfl 0 (by decide) (hts _ kw_143) (fun _ h9 => h9) rfl d_Sales_priceOfRest_27 ?_
          refine lv_iload hx hb d_Sales_priceOfRest_30 (lv_at hl 3 rfl) ?_
          refine nw_callD (nw_goVN (n := 1) (As := [.int (nI c)]) (rest := [.long (prS n I S0 (S0 0 r) (S 0 7) c)]) hSx hA hKs hw hS (c_Farm_centsKept l D tC A ad n I K bw LA bM aM S0 S hsc hN c (by omega)) kw_241 kn_565 kw_240 ks_Farm_centsKept kw_2 rfl rfl (by decide +kernel) ⟨Nat.le_of_ble_eq_true rfl, Nat.le_of_ble_eq_true rfl⟩ (nw_recv hK hw (hW_1) rfl) rfl hl.1 (Nat.le_of_ble_eq_true rfl) d_Sales_priceOfRest_32 ⟨Nat.le_of_ble_eq_true rfl, Nat.le_of_ble_eq_true rfl⟩) hS (fun H locs hw hS => ?_)
          refine lv_goto (tgt := 55) hx hb d_Sales_priceOfRest_35 (by decide) ?_
          refine lv_ladd hx hb d_Sales_priceOfRest_55 ?_
          refine lv_lstore_n (lv' := [(2, .long (((prS n I S0 (S0 0 r) (S 0 7) c) + (ckL n I S0 c)))), (0, .ref (ad (3))), (1, .ref (ad (100 + r))), (4, .int (nI c))]) hx hb d_Sales_priceOfRest_56 rfl hl (by decide) rfl (fun ls hl => ?_)
          refine lv_iinc (v := nI (c + 1)) (lv' := [(4, .int (nI (c + 1))), (2, .long (((prS n I S0 (S0 0 r) (S 0 7) c) + (ckL n I S0 c)))), (0, .ref (ad (3))), (1, .ref (ad (100 + r)))]) hx hb d_Sales_priceOfRest_57 hl (k := 3) rfl ((nI_succ _).symm) (by decide) rfl (fun ls hl => ?_)
          refine lv_goto (tgt := 5) hx hb d_Sales_priceOfRest_60 (by decide) ?_
          have el2 : prS n I S0 (S0 0 r) (S 0 7) (c + 1) = ((prS n I S0 (S0 0 r) (S 0 7) c) + (ckL n I S0 c)) := e2
          have hl : lv_has ls 5 [(4, .int (nI (c + 1))), (2, .long (prS n I S0 (S0 0 r) (S 0 7) (c + 1))), (0, .ref (ad (3))), (1, .ref (ad (100 + r)))] := by
            have h9 := hl
            revert h9; rw [show Value.long (prS n I S0 (S0 0 r) (S 0 7) (c + 1)) = Value.long (((prS n I S0 (S0 0 r) (S 0 7) c) + (ckL n I S0 c))) from congrArg _ el2]; intro h9
            exact h9
          exact ih5 (c + 1) (by omega) (by omega) _ _ ls hw hS (lv_sub hl [2, 3, 1, 0] rfl)
  exact loop5 (n 2 + 1) (0) (by omega) (by omega) _ _ ls hw hS (lv_sub hl [2, 3, 1, 0] rfl)
