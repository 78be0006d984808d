set_option maxHeartbeats 4000000 in
set_option maxRecDepth 100000 in
/-- PLANT: whether the kilos taken in the week are within the plant's -/
theorem c_Rules_keepsPlant (l : Launch) (D : va_G) (tC : Nat → ClassId) (A : Nat → Prop) (ad : Nat → Nat) (n : Nat → Nat) (I : Nat → Nat → Int32) (bw : Int64) (LA : Nat → Int64) (bM : Nat → Option va_E) (aM : Nat → Nat → Option (ClassId × Nat)) (S : Nat → Nat → Nat → Int32) (hN : hpN n) (r : Nat) (hr0 : r = 0 ∨ r = 9) (w : Nat) (hwk : w < n 0) : nw_Met l y_Rules_keepsPlant [Cond.code y_Rules_keepsPlant b_Rules_keepsPlant 5 (some .boolean)] ({ frames := 0, cells := 0, slots := 0, locals := 0 } : Room) D hpC A [.ref (ad (2)), .ref (ad (100 + r)), .int (nI w)] (nw_pre D hpC (hpT tC) A (hW ad tC n I bw LA bM aM S) ad) (nw_ok (some (.int (b2 (kpS (S 0 r) (S 3) w (n 2) ≤ S 0 2 w)))) (hW ad tC n I bw LA bM aM S) ad) 0 0 := by
  refine nw_bodyK (by decide) (Nat.le_of_ble_eq_true rfl) ?_
  intro p e s m below meth cd ls args Q hSx hr hlocks hname hA hKs hw hS hl hQ
  obtain ⟨hx, hb, hml, hown, hts⟩ := id hSx
  have hK := hKs.1
  have hl : lv_has ls 5 [(0, .ref (ad (2))), (1, .ref (ad (100 + r))), (2, .int (nI w))] := hl
  obtain ⟨hn0, hn0', hn1, hn2, hn3, hn4⟩ := id hN
  refine lv_iconst (v := nI 0) hx hb d_Rules_keepsPlant_0 (by decide) ?_
  refine lv_istore_n (lv' := [(3, .int (nI 0)), (0, .ref (ad (2))), (1, .ref (ad (100 + r))), (2, .int (nI w))]) hx hb d_Rules_keepsPlant_1 rfl hl (by decide) rfl (fun ls hl => ?_)
  refine lv_iconst (v := nI 0) hx hb d_Rules_keepsPlant_2 (by decide) ?_
  refine lv_istore (lv' := [(4, .int (nI 0)), (3, .int (nI 0)), (0, .ref (ad (2))), (1, .ref (ad (100 + r))), (2, .int (nI w))]) hx hb d_Rules_keepsPlant_3 hl (by decide) rfl (fun ls hl => ?_)
  have loop5 : ∀ (k c : Nat), c ≤ n 2 → n 2 + 1 ≤ c + k → ∀ (H : Heap) (locs : List Loc) (ls : Array Slot), nw_W D hpC A (hW ad tC n I bw LA bM aM S) ad H → va_S A s.heap H locs → lv_has ls 5 [(0, .ref (ad (2))), (1, .ref (ad (100 + r))), (2, .int (nI w)), (3, .int (kpS (S 0 r) (S 3) w (c))), (4, .int (nI c))] → W p l e ({ frames := 0, cells := 0, slots := 0, locals := 0 } : Room) s m args below meth cd H locs 0 0 Q (F0 m 5 ls []) := by
    intro k
    induction k with
    | zero => intro c h1 h2; exact absurd h2 (by omega)
    | succ k ih5 =>
      intro c hv5 hk5 H locs ls hw hS hl
      refine lv_iload hx hb d_Rules_keepsPlant_5 (lv_at hl 4 rfl) ?_
      refine lv_aload_n hx hb d_Rules_keepsPlant_7 rfl (lv_at hl 0 rfl) ?_
      refine nw_get hx hb hts i_Rules hown hK hw (2) (hW_2) rfl 0 (by decide) (hts _ kw_121) (fun _ h9 => h9) rfl d_Rules_keepsPlant_8 ?_
      refine nw_getN hx hb hts i_Farm hown hK hw (1) (hW_1) rfl 8 (by decide) (va_Nw.use rfl (hKs.2.2 _ kn_73 rfl)) (fun _ h9 => h9) rfl d_Rules_keepsPlant_11 ?_
      refine lv_icmp_ge (tgt := 49) hx hb d_Rules_keepsPlant_14 (by decide) (fun c_14 => ?_) (fun c_14 => ?_)
      · skip
        have hge14 : n 2 ≤ c := (nI_leI (by omega) (by omega)).mp c_14
        obtain rfl : c = n 2 := by omega
        refine lv_iload_n hx hb d_Rules_keepsPlant_49 rfl (lv_at hl 3 rfl) ?_
        refine lv_aload_n hx hb d_Rules_keepsPlant_50 rfl (lv_at hl 0 rfl) ?_
        refine nw_get hx hb hts i_Rules hown hK hw (2) (hW_2) rfl 0 (by decide) (hts _ kw_121) (fun _ h9 => h9) rfl d_Rules_keepsPlant_51 ?_
        refine nw_getN hx hb hts i_Farm hown hK hw (1) (hW_1) rfl 6 (by decide) (va_Nw.use rfl (hKs.2.2 _ kn_66 rfl)) (fun _ h9 => h9) rfl d_Rules_keepsPlant_54 ?_
        refine lv_iload_n hx hb d_Rules_keepsPlant_57 rfl (lv_at hl 2 rfl) ?_
        refine nw_iald hx hb hK hw (102) 0 (hW_row (t := 0) (j := 2) (by decide) (by omega) (rfl)) rfl (w) (rfl) (by omega) (by omega) d_Rules_keepsPlant_58 ?_
        refine lv_icmp_gt (tgt := 66) hx hb d_Rules_keepsPlant_59 (by decide) (fun c_59 => ?_) (fun c_59 => ?_)
        · skip
          have hres : nI 0 = b2 (kpS (S 0 r) (S 3) w (n 2) ≤ S 0 2 w) := b2_f (Int32.not_le.mpr c_59)
          refine lv_iconst (v := nI 0) hx hb d_Rules_keepsPlant_66 (by decide) ?_
          exact nw_zret hQ hx hb hr (by first | exact Or.inl rfl | exact Or.inr rfl) hlocks hw hS (nw_okI hres) (Nat.le_of_ble_eq_true rfl) (Nat.le_of_ble_eq_true rfl) d_Rules_keepsPlant_67
        · skip
          have hres : nI 1 = b2 (kpS (S 0 r) (S 3) w (n 2) ≤ S 0 2 w) := b2_t (Int32.not_lt.mp c_59)
          refine lv_iconst (v := nI 1) hx hb d_Rules_keepsPlant_62 (by decide) ?_
          refine lv_goto (tgt := 67) hx hb d_Rules_keepsPlant_63 (by decide) ?_
          exact nw_zret hQ hx hb hr (by first | exact Or.inl rfl | exact Or.inr rfl) hlocks hw hS (nw_okI hres) (Nat.le_of_ble_eq_true rfl) (Nat.le_of_ble_eq_true rfl) d_Rules_keepsPlant_67
      · skip
        have hlt : c < n 2 := Nat.not_le.mp (fun q => c_14 (nI_le q (by omega)))
        refine lv_aload_n hx hb d_Rules_keepsPlant_17 rfl (lv_at hl 1 rfl) ?_
        refine lv_iload hx hb d_Rules_keepsPlant_18 (lv_at hl 4 rfl) ?_
        refine nw_iald hx hb hK hw (100 + r) 0 (hW_row (t := 0) (j := r) (by decide) (by omega) (aX_pl hr0)) rfl (c) (rfl) (by omega) (by omega) d_Rules_keepsPlant_20 ?_
        refine lv_iload_n hx hb d_Rules_keepsPlant_21 rfl (lv_at hl 2 rfl) ?_
        refine lv_icmp_ne (tgt := 43) hx hb d_Rules_keepsPlant_22 (by decide) (fun c_22 => ?_) (fun c_22 => ?_)
        · skip
          have e22 : kpS (S 0 r) (S 3) w (c + 1) = kpS (S 0 r) (S 3) w c := kpS_f c_22
          refine lv_iinc (v := nI (c + 1)) (lv' := [(4, .int (nI (c + 1))), (0, .ref (ad (2))), (1, .ref (ad (100 + r))), (2, .int (nI w)), (3, .int (kpS (S 0 r) (S 3) w (c)))]) hx hb d_Rules_keepsPlant_43 hl (k := 4) rfl ((nI_succ _).symm) (by decide) rfl (fun ls hl => ?_)
          refine lv_goto (tgt := 5) hx hb d_Rules_keepsPlant_46 (by decide) ?_
          have hl : lv_has ls 5 [(4, .int (nI (c + 1))), (0, .ref (ad (2))), (1, .ref (ad (100 + r))), (2, .int (nI w)), (3, .int (kpS (S 0 r) (S 3) w (c + 1)))] := by rw [show kpS (S 0 r) (S 3) w (c + 1) = kpS (S 0 r) (S 3) w (c) from e22]; exact hl
          exact ih5 (c + 1) (by omega) (by omega) _ _ ls hw hS (lv_sub hl [1, 2, 3, 4, 0] rfl)
        · skip
          have e22 : kpS (S 0 r) (S 3) w (c + 1) = kpS (S 0 r) (S 3) w c + S 3 c w := kpS_t (Classical.not_not.mp c_22)
          refine lv_iload_n hx hb d_Rules_keepsPlant_25 rfl (lv_at hl 3 rfl) ?_
          refine lv_aload_n hx hb d_Rules_keepsPlant_26 rfl (lv_at hl 0 rfl) ?_
          refine nw_get hx hb hts i_Rules hown hK hw (2) (hW_2) rfl 0 (by decide) (hts _ kw_121) (fun _ h9 => h9) rfl d_Rules_keepsPlant_27 ?_
          refine nw_getN hx hb hts i_Farm hown hK hw (1) (hW_1) rfl 2 (by decide) (va_Nw.use rfl (hKs.2.2 _ kn_56 rfl)) (fun _ h9 => h9) rfl d_Rules_keepsPlant_30 ?_
          refine lv_iload hx hb d_Rules_keepsPlant_33 (lv_at hl 4 rfl) ?_
          refine nw_aald hx hb hK hw (7) 4 (hW_7) rfl (c) (rfl) (by omega) (by omega) (y := ad (32 + c)) (if_pos (by omega)) d_Rules_keepsPlant_35 ?_
          refine nw_getN hx hb hts i_Cage hown hK hw (32 + c) (hW_cage hN (by omega)) rfl 2 (by decide) (va_Nw.use rfl (hKs.2.2 _ kn_417 rfl)) (fun _ h9 => h9) rfl d_Rules_keepsPlant_36 ?_
          refine lv_iload_n hx hb d_Rules_keepsPlant_39 rfl (lv_at hl 2 rfl) ?_
          refine nw_iald hx hb hK hw (148 + c) 0 (hW_row (t := 3) (j := c) (by decide) (by omega) (aX_cage (Or.inr rfl) (by omega))) rfl (w) (rfl) (by omega) (by omega) d_Rules_keepsPlant_40 ?_
          refine lv_iadd hx hb d_Rules_keepsPlant_41 ?_
          refine lv_istore_n (lv' := [(3, .int (((kpS (S 0 r) (S 3) w (c)) + ((S 3 c (w)))))), (0, .ref (ad (2))), (1, .ref (ad (100 + r))), (2, .int (nI w)), (4, .int (nI c))]) hx hb d_Rules_keepsPlant_42 rfl hl (by decide) rfl (fun ls hl => ?_)
          refine lv_iinc (v := nI (c + 1)) (lv' := [(4, .int (nI (c + 1))), (3, .int (((kpS (S 0 r) (S 3) w (c)) + ((S 3 c (w)))))), (0, .ref (ad (2))), (1, .ref (ad (100 + r))), (2, .int (nI w))]) hx hb d_Rules_keepsPlant_43 hl (k := 4) rfl ((nI_succ _).symm) (by decide) rfl (fun ls hl => ?_)
          refine lv_goto (tgt := 5) hx hb d_Rules_keepsPlant_46 (by decide) ?_
          have hl : lv_has ls 5 [(4, .int (nI (c + 1))), (3, .int (kpS (S 0 r) (S 3) w (c + 1))), (0, .ref (ad (2))), (1, .ref (ad (100 + r))), (2, .int (nI w))] := by rw [show kpS (S 0 r) (S 3) w (c + 1) = ((kpS (S 0 r) (S 3) w (c)) + ((S 3 c (w)))) from e22]; exact hl
          exact ih5 (c + 1) (by omega) (by omega) _ _ ls hw hS (lv_sub hl [2, 3, 4, 1, 0] rfl)
  exact loop5 (n 2 + 1) (0) (by omega) (by omega) _ _ ls hw hS (lv_sub hl [2, 3, 4, 1, 0] rfl)
