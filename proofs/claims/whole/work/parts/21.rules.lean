set_option maxHeartbeats 4000000 in
set_option maxRecDepth 100000 in
/-- Arrays.fill on a row of the class -/
theorem c_Arr_fill (l : Launch) (D : va_G) (tC : Nat → ClassId) (A : Nat → Prop) (ad : Nat → Nat) (n : Nat → Nat) (I : Nat → Nat → Int32) (K : Nat → Int32) (bw : Int64) (LA : Nat → Int64) (bM : Nat → Option va_E) (aM : Nat → Nat → Option (ClassId × Nat)) (S0 S : Nat → Nat → Nat → Int32) (hsc : scr S0 S) (hN : hpN n) (j m0 : Nat) (v : Int32) (hj16 : j < 16) (hm0 : m0 < 2147483648) (hj : aX tC n 0 j = some (tC 0, m0)) : nw_Met l y_Arr_fill [Cond.code y_Arr_fill b_Arr_fill 4 none] ({ frames := 0, cells := 0, slots := 0, locals := 0 } : Room) D hpC A [.ref (ad (100 + j)), .int (v)] (nw_pre D hpC (hpT tC) A (hW ad tC n I K bw LA bM aM S) ad) (nw_ok none (hW ad tC n I K bw LA bM aM (upR S 0 j (flR (S 0 j) v m0))) ad) 0 0 := by
  refine nw_bodyK (by decide) (Nat.le_of_ble_eq_true rfl) ?_
  intro p e s m below meth cd ls args Q hSx hr hlocks hname hA hKs hw hS hl hQ
  obtain ⟨hx, hb, hml, hown, hts⟩ := id hSx
  have hK := hKs.1
  have hl : lv_has ls 4 [(0, .ref (ad (100 + j))), (1, .int (v))] := hl
  obtain ⟨hn0, hn0', hn1, hn2, hn3, hn4⟩ := id hN
  refine lv_iconst (v := nI 0) hx hb d_Arr_fill_0 (by decide) ?_
  refine lv_istore_n (lv' := [(2, .int (nI 0)), (0, .ref (ad (100 + j))), (1, .int (v))]) hx hb d_Arr_fill_1 rfl hl (by decide) rfl (fun ls hl => ?_)
  refine lv_aload_n hx hb d_Arr_fill_2 rfl (lv_at hl 1 rfl) ?_
  refine nw_alen (v := nI (m0)) hx hb hK hw (100 + j) 0 (hW_row (t := 0) (j := j) (by decide) (by omega) (hj)) rfl rfl d_Arr_fill_3 ?_
  refine lv_istore_n (lv' := [(3, .int (nI (m0))), (2, .int (nI 0)), (0, .ref (ad (100 + j))), (1, .int (v))]) hx hb d_Arr_fill_4 rfl hl (by decide) rfl (fun ls hl => ?_)
  have hw := nw_W.as (wn' := hW ad tC n I K bw LA bM aM (upR S 0 j (flR (S 0 j) v 0))) hw (by rw [flR_0, upR_same])
  have loop5 : ∀ (k i : Nat), i ≤ m0 → m0 + 1 ≤ i + k → ∀ (H : Heap) (locs : List Loc) (ls : Array Slot), nw_W D hpC A (hW ad tC n I K bw LA bM aM (upR S 0 j (flR (S 0 j) v i))) ad H → va_S A s.heap H locs → lv_has ls 4 [(0, .ref (ad (100 + j))), (1, .int (v)), (2, .int (nI i)), (3, .int (nI m0))] → W p l e ({ frames := 0, cells := 0, slots := 0, locals := 0 } : Room) s m args below meth cd H locs 0 0 Q (F0 m 5 ls []) := by
    intro k
    induction k with
    | zero => intro i h1 h2; exact absurd h2 (by omega)
    | succ k ih5 =>
      intro i hv5 hk5 H locs ls hw hS hl
      refine lv_iload_n hx hb d_Arr_fill_5 rfl (lv_at hl 2 rfl) ?_
      refine lv_iload_n hx hb d_Arr_fill_6 rfl (lv_at hl 3 rfl) ?_
      refine lv_icmp_ge (tgt := 20) hx hb d_Arr_fill_7 (by decide) (fun c_7 => ?_) (fun c_7 => ?_)
      · skip
        have hge7 : m0 ≤ i := (nI_leI (by omega) (by omega)).mp c_7
        obtain rfl : m0 = i := by omega
        exact nw_vret hQ hx hb hr hlocks hw hS (nw_ok_rf) (Nat.le_of_ble_eq_true rfl) (Nat.le_of_ble_eq_true rfl) d_Arr_fill_20
      · skip
        have hlt : i < m0 := Nat.not_le.mp (fun q => c_7 (nI_le q (by omega)))
        refine lv_aload_n hx hb d_Arr_fill_10 rfl (lv_at hl 0 rfl) ?_
        refine lv_iload_n hx hb d_Arr_fill_11 rfl (lv_at hl 2 rfl) ?_
        refine lv_iload_n hx hb d_Arr_fill_12 rfl (lv_at hl 1 rfl) ?_
        refine nw_iast hx hb hK hw hS (100 + j) 0 (hW_row (t := 0) (j := j) (by decide) (by omega) (hj)) rfl (i) (rfl) (by omega) (by omega) d_Arr_fill_13 (fun H locs hw hS => ?_)
        have hw := hW_setRow (t := 0) (j := j) (by decide) (by omega) (hj) hw
        rw [upR_upR, upR_self] at hw
        refine lv_iinc (v := nI (i + 1)) (lv' := [(2, .int (nI (i + 1))), (0, .ref (ad (100 + j))), (1, .int (v)), (3, .int (nI m0))]) hx hb d_Arr_fill_14 hl (k := 2) rfl ((nI_succ _).symm) (by decide) rfl (fun ls hl => ?_)
        refine lv_goto (tgt := 5) hx hb d_Arr_fill_17 (by decide) ?_
        have hw := nw_W.as (wn' := hW ad tC n I K bw LA bM aM (upR S 0 j (flR (S 0 j) v (i + 1)))) hw (by rw [← flR_s])
        exact ih5 (i + 1) (by omega) (by omega) _ _ ls hw hS (lv_sub hl [1, 2, 0, 3] rfl)
  exact loop5 (m0 + 1) (0) (by omega) (by omega) _ _ ls hw hS (lv_sub hl [2, 3, 1, 0] rfl)

set_option maxHeartbeats 4000000 in
set_option maxRecDepth 100000 in
/-- PLANT -/
theorem c_Rules_keepsPlant (l : Launch) (D : va_G) (tC : Nat → ClassId) (A : Nat → Prop) (ad : Nat → Nat) (n : Nat → Nat) (I : Nat → Nat → Int32) (K : Nat → Int32) (bw : Int64) (LA : Nat → Int64) (bM : Nat → Option va_E) (aM : Nat → Nat → Option (ClassId × Nat)) (S0 S : Nat → Nat → Nat → Int32) (hsc : scr S0 S) (hN : hpN n) (r : Nat) (hr0 : r = 0 ∨ r = 9) (w : Nat) (hwk : w < n 0) : nw_Met l y_Rules_keepsPlant [Cond.code y_Rules_keepsPlant b_Rules_keepsPlant 5 (some .boolean)] ({ frames := 0, cells := 0, slots := 0, locals := 0 } : Room) D hpC A [.ref (ad (2)), .ref (ad (100 + r)), .int (nI w)] (nw_pre D hpC (hpT tC) A (hW ad tC n I K bw LA bM aM S) ad) (nw_ok (some (.int (b2 (pPlant n S0 (S0 0 r) w)))) (hW ad tC n I K bw LA bM aM S) ad) 0 0 := by
  refine nw_bodyK (by decide) (Nat.le_of_ble_eq_true rfl) ?_
  intro p e s m below meth cd ls args Q hSx hr hlocks hname hA hKs hw hS hl hQ
  obtain ⟨hx, hb, hml, hown, hts⟩ := id hSx
  have hK := hKs.1
  have hl : lv_has ls 5 [(0, .ref (ad (2))), (1, .ref (ad (100 + r))), (2, .int (nI w))] := hl
  obtain ⟨hn0, hn0', hn1, hn2, hn3, hn4⟩ := id hN
  refine lv_iconst (v := nI 0) hx hb d_Rules_keepsPlant_0 (by decide) ?_
  refine lv_istore_n (lv' := [(3, .int (nI 0)), (0, .ref (ad (2))), (1, .ref (ad (100 + r))), (2, .int (nI w))]) hx hb d_Rules_keepsPlant_1 rfl hl (by decide) rfl (fun ls hl => ?_)
  refine lv_iconst (v := nI 0) hx hb d_Rules_keepsPlant_2 (by decide) ?_
  refine lv_istore (lv' := [(4, .int (nI 0)), (3, .int (nI 0)), (0, .ref (ad (2))), (1, .ref (ad (100 + r))), (2, .int (nI w))]) hx hb d_Rules_keepsPlant_3 hl (by decide) rfl (fun ls hl => ?_)
  have loop5 : ∀ (k c : Nat), c ≤ n 2 → n 2 + 1 ≤ c + k → ∀ (H : Heap) (locs : List Loc) (ls : Array Slot), nw_W D hpC A (hW ad tC n I K bw LA bM aM S) ad H → va_S A s.heap H locs → lv_has ls 5 [(0, .ref (ad (2))), (1, .ref (ad (100 + r))), (2, .int (nI w)), (3, .int (kpS (S0 0 r) (S0 3) w (c))), (4, .int (nI c))] → W p l e ({ frames := 0, cells := 0, slots := 0, locals := 0 } : Room) s m args below meth cd H locs 0 0 Q (F0 m 5 ls []) := by
    intro k
    induction k with
    | zero => intro c h1 h2; exact absurd h2 (by omega)
    | succ k ih5 =>
      intro c hv5 hk5 H locs ls hw hS hl
      refine lv_iload hx hb d_Rules_keepsPlant_5 (lv_at hl 4 rfl) ?_
      refine lv_aload_n hx hb d_Rules_keepsPlant_7 rfl (lv_at hl 0 rfl) ?_
      refine nw_get hx hb hts i_Rules hown hK hw (2) (hW_2) rfl 0 (by decide) (hts _ kw_121) (fun _ h9 => h9) rfl d_Rules_keepsPlant_8 ?_
      refine nw_getN hx hb hts i_Farm hown hK hw (1) (hW_1) rfl 8 (by decide) (va_Nw.use rfl (hKs.2.2 _ kn_73 rfl)) (fun _ h9 => h9) rfl d_Rules_keepsPlant_11 ?_
      refine lv_icmp_ge (tgt := 49) hx hb d_Rules_keepsPlant_14 (by decide) (fun c_14 => ?_) (fun c_14 => ?_)
      · skip
        have hge14 : n 2 ≤ c := (nI_leI (by omega) (by omega)).mp c_14
        obtain rfl : n 2 = c := by omega
        refine lv_iload_n hx hb d_Rules_keepsPlant_49 rfl (lv_at hl 3 rfl) ?_
        refine lv_aload_n hx hb d_Rules_keepsPlant_50 rfl (lv_at hl 0 rfl) ?_
        refine nw_get hx hb hts i_Rules hown hK hw (2) (hW_2) rfl 0 (by decide) (hts _ kw_121) (fun _ h9 => h9) rfl d_Rules_keepsPlant_51 ?_
        refine nw_getN hx hb hts i_Farm hown hK hw (1) (hW_1) rfl 6 (by decide) (va_Nw.use rfl (hKs.2.2 _ kn_66 rfl)) (fun _ h9 => h9) rfl d_Rules_keepsPlant_54 ?_
        refine lv_iload_n hx hb d_Rules_keepsPlant_57 rfl (lv_at hl 2 rfl) ?_
        refine nw_iald hx hb hK hw (102) 0 (hW_row (t := 0) (j := 2) (by decide) (by omega) (rfl)) rfl (w) (rfl) (by omega) (by omega) d_Rules_keepsPlant_58 ?_
        refine lv_ei (y := S0 0 2 w) (congrFun (hsc 0 2 (by omega)) _) ?_
        refine lv_icmp_gt (tgt := 66) hx hb d_Rules_keepsPlant_59 (by decide) (fun c_59 => ?_) (fun c_59 => ?_)
        · skip
          have hres : nI 0 = b2 (pPlant n S0 (S0 0 r) w) := b2_f (Int32.not_le.mpr c_59)
          refine lv_iconst (v := nI 0) hx hb d_Rules_keepsPlant_66 (by decide) ?_
          exact nw_zret hQ hx hb hr (by first | exact Or.inl rfl | exact Or.inr rfl) hlocks hw hS (nw_okI hres) (Nat.le_of_ble_eq_true rfl) (Nat.le_of_ble_eq_true rfl) d_Rules_keepsPlant_67
        · skip
          have hres : nI 1 = b2 (pPlant n S0 (S0 0 r) w) := b2_t (Int32.not_lt.mp c_59)
          refine lv_iconst (v := nI 1) hx hb d_Rules_keepsPlant_62 (by decide) ?_
          refine lv_goto (tgt := 67) hx hb d_Rules_keepsPlant_63 (by decide) ?_
          exact nw_zret hQ hx hb hr (by first | exact Or.inl rfl | exact Or.inr rfl) hlocks hw hS (nw_okI hres) (Nat.le_of_ble_eq_true rfl) (Nat.le_of_ble_eq_true rfl) d_Rules_keepsPlant_67
      · skip
        have hlt : c < n 2 := Nat.not_le.mp (fun q => c_14 (nI_le q (by omega)))
        refine lv_aload_n hx hb d_Rules_keepsPlant_17 rfl (lv_at hl 1 rfl) ?_
        refine lv_iload hx hb d_Rules_keepsPlant_18 (lv_at hl 4 rfl) ?_
        refine nw_iald hx hb hK hw (100 + r) 0 (hW_row (t := 0) (j := r) (by decide) (by omega) (aX_pl hr0)) rfl (c) (rfl) (by omega) (by omega) d_Rules_keepsPlant_20 ?_
        refine lv_ei (y := S0 0 r c) (congrFun (hsc 0 r (by omega)) _) ?_
        refine lv_iload_n hx hb d_Rules_keepsPlant_21 rfl (lv_at hl 2 rfl) ?_
        refine lv_icmp_ne (tgt := 43) hx hb d_Rules_keepsPlant_22 (by decide) (fun c_22 => ?_) (fun c_22 => ?_)
        · skip
          have e22 : kpS (S0 0 r) (S0 3) w (c + 1) = kpS (S0 0 r) (S0 3) w (c) := kpS_f c_22
          refine lv_iinc (v := nI (c + 1)) (lv' := [(4, .int (nI (c + 1))), (0, .ref (ad (2))), (1, .ref (ad (100 + r))), (2, .int (nI w)), (3, .int (kpS (S0 0 r) (S0 3) w (c)))]) hx hb d_Rules_keepsPlant_43 hl (k := 4) rfl ((nI_succ _).symm) (by decide) rfl (fun ls hl => ?_)
          refine lv_goto (tgt := 5) hx hb d_Rules_keepsPlant_46 (by decide) ?_
          have el3 : kpS (S0 0 r) (S0 3) w (c + 1) = kpS (S0 0 r) (S0 3) w (c) := e22
          have hl : lv_has ls 5 [(4, .int (nI (c + 1))), (0, .ref (ad (2))), (1, .ref (ad (100 + r))), (2, .int (nI w)), (3, .int (kpS (S0 0 r) (S0 3) w (c + 1)))] := by
            have h9 := hl
            revert h9; rw [show Value.int (kpS (S0 0 r) (S0 3) w (c + 1)) = Value.int (kpS (S0 0 r) (S0 3) w (c)) from congrArg _ el3]; intro h9
            exact h9
          exact ih5 (c + 1) (by omega) (by omega) _ _ ls hw hS (lv_sub hl [1, 2, 3, 4, 0] rfl)
        · skip
          have e22 : kpS (S0 0 r) (S0 3) w (c + 1) = kpS (S0 0 r) (S0 3) w (c) + S0 3 c w := kpS_t c_22
          refine lv_iload_n hx hb d_Rules_keepsPlant_25 rfl (lv_at hl 3 rfl) ?_
          refine lv_aload_n hx hb d_Rules_keepsPlant_26 rfl (lv_at hl 0 rfl) ?_
          refine nw_get hx hb hts i_Rules hown hK hw (2) (hW_2) rfl 0 (by decide) (hts _ kw_121) (fun _ h9 => h9) rfl d_Rules_keepsPlant_27 ?_
          refine nw_getN hx hb hts i_Farm hown hK hw (1) (hW_1) rfl 2 (by decide) (va_Nw.use rfl (hKs.2.2 _ kn_56 rfl)) (fun _ h9 => h9) rfl d_Rules_keepsPlant_30 ?_
          refine lv_iload hx hb d_Rules_keepsPlant_33 (lv_at hl 4 rfl) ?_
          refine nw_aald hx hb hK hw (7) 4 (hW_7) rfl (c) (rfl) (by omega) (by omega) (y := ad (32 + c)) (if_pos (by omega)) d_Rules_keepsPlant_35 ?_
          refine nw_getN hx hb hts i_Cage hown hK hw (32 + c) (hW_cage hN (by omega)) rfl 2 (by decide) (va_Nw.use rfl (hKs.2.2 _ kn_417 rfl)) (fun _ h9 => h9) rfl d_Rules_keepsPlant_36 ?_
          refine lv_iload_n hx hb d_Rules_keepsPlant_39 rfl (lv_at hl 2 rfl) ?_
          refine nw_iald hx hb hK hw (148 + c) 0 (hW_row (t := 3) (j := c) (by decide) (by omega) (aX_cage (Or.inr rfl) (by omega))) rfl (w) (rfl) (by omega) (by omega) d_Rules_keepsPlant_40 ?_
          refine lv_ei (y := S0 3 c w) (congrFun (hsc 3 c (by omega)) _) ?_
          refine lv_iadd hx hb d_Rules_keepsPlant_41 ?_
          refine lv_istore_n (lv' := [(3, .int (((kpS (S0 0 r) (S0 3) w (c)) + (S0 3 c w)))), (0, .ref (ad (2))), (1, .ref (ad (100 + r))), (2, .int (nI w)), (4, .int (nI c))]) hx hb d_Rules_keepsPlant_42 rfl hl (by decide) rfl (fun ls hl => ?_)
          refine lv_iinc (v := nI (c + 1)) (lv' := [(4, .int (nI (c + 1))), (3, .int (((kpS (S0 0 r) (S0 3) w (c)) + (S0 3 c w)))), (0, .ref (ad (2))), (1, .ref (ad (100 + r))), (2, .int (nI w))]) hx hb d_Rules_keepsPlant_43 hl (k := 4) rfl ((nI_succ _).symm) (by decide) rfl (fun ls hl => ?_)
          refine lv_goto (tgt := 5) hx hb d_Rules_keepsPlant_46 (by decide) ?_
          have el3 : kpS (S0 0 r) (S0 3) w (c + 1) = ((kpS (S0 0 r) (S0 3) w (c)) + (S0 3 c w)) := e22
          have hl : lv_has ls 5 [(4, .int (nI (c + 1))), (3, .int (kpS (S0 0 r) (S0 3) w (c + 1))), (0, .ref (ad (2))), (1, .ref (ad (100 + r))), (2, .int (nI w))] := by
            have h9 := hl
            revert h9; rw [show Value.int (kpS (S0 0 r) (S0 3) w (c + 1)) = Value.int (((kpS (S0 0 r) (S0 3) w (c)) + (S0 3 c w))) from congrArg _ el3]; intro h9
            exact h9
          exact ih5 (c + 1) (by omega) (by omega) _ _ ls hw hS (lv_sub hl [2, 3, 4, 1, 0] rfl)
  exact loop5 (n 2 + 1) (0) (by omega) (by omega) _ _ ls hw hS (lv_sub hl [2, 3, 4, 1, 0] rfl)

set_option maxHeartbeats 4000000 in
set_option maxRecDepth 100000 in
/-- CLOSED -/
theorem c_Rules_keepsClosed (l : Launch) (D : va_G) (tC : Nat → ClassId) (A : Nat → Prop) (ad : Nat → Nat) (n : Nat → Nat) (I : Nat → Nat → Int32) (K : Nat → Int32) (bw : Int64) (LA : Nat → Int64) (bM : Nat → Option va_E) (aM : Nat → Nat → Option (ClassId × Nat)) (S0 S : Nat → Nat → Nat → Int32) (hsc : scr S0 S) (hN : hpN n) (r : Nat) (hr0 : r = 0 ∨ r = 9) (w : Nat) (hwk : w < n 0) (hm : Nat → Nat) (hH : ∀ c, c < n 2 → I 2 c = nI (hm c) ∧ hm c < n 1) : nw_Met l y_Rules_keepsClosed [Cond.code y_Rules_keepsClosed b_Rules_keepsClosed 4 (some .boolean)] ({ frames := 0, cells := 0, slots := 0, locals := 0 } : Room) D hpC A [.ref (ad (2)), .ref (ad (100 + r)), .int (nI w)] (nw_pre D hpC (hpT tC) A (hW ad tC n I K bw LA bM aM S) ad) (nw_ok (some (.int (b2 (pClosed n hm S0 (S0 0 r) w)))) (hW ad tC n I K bw LA bM aM S) ad) 0 0 := by
  refine nw_bodyK (by decide) (Nat.le_of_ble_eq_true rfl) ?_
  intro p e s m below meth cd ls args Q hSx hr hlocks hname hA hKs hw hS hl hQ
  obtain ⟨hx, hb, hml, hown, hts⟩ := id hSx
  have hK := hKs.1
  have hl : lv_has ls 4 [(0, .ref (ad (2))), (1, .ref (ad (100 + r))), (2, .int (nI w))] := hl
  obtain ⟨hn0, hn0', hn1, hn2, hn3, hn4⟩ := id hN
  refine lv_iconst (v := nI 0) hx hb d_Rules_keepsClosed_0 (by decide) ?_
  refine lv_istore_n (lv' := [(3, .int (nI 0)), (0, .ref (ad (2))), (1, .ref (ad (100 + r))), (2, .int (nI w))]) hx hb d_Rules_keepsClosed_1 rfl hl (by decide) rfl (fun ls hl => ?_)
  have loop2 : ∀ (k c : Nat), c ≤ n 2 → n 2 + 1 ≤ c + k → (∀ j, j < c → S0 0 r j = nI w → S0 1 (hm j) w = 0) → ∀ (H : Heap) (locs : List Loc) (ls : Array Slot), nw_W D hpC A (hW ad tC n I K bw LA bM aM S) ad H → va_S A s.heap H locs → lv_has ls 4 [(0, .ref (ad (2))), (1, .ref (ad (100 + r))), (2, .int (nI w)), (3, .int (nI c))] → W p l e ({ frames := 0, cells := 0, slots := 0, locals := 0 } : Room) s m args below meth cd H locs 0 0 Q (F0 m 2 ls []) := by
    intro k
    induction k with
    | zero => intro c h1 h2; exact absurd h2 (by omega)
    | succ k ih2 =>
      intro c hv2 hk2 hinv H locs ls hw hS hl
      refine lv_iload_n hx hb d_Rules_keepsClosed_2 rfl (lv_at hl 3 rfl) ?_
      refine lv_aload_n hx hb d_Rules_keepsClosed_3 rfl (lv_at hl 0 rfl) ?_
      refine nw_get hx hb hts i_Rules hown hK hw (2) (hW_2) rfl 0 (by decide) (hts _ kw_121) (fun _ h9 => h9) rfl d_Rules_keepsClosed_4 ?_
      refine nw_getN hx hb hts i_Farm hown hK hw (1) (hW_1) rfl 8 (by decide) (va_Nw.use rfl (hKs.2.2 _ kn_73 rfl)) (fun _ h9 => h9) rfl d_Rules_keepsClosed_7 ?_
      refine lv_icmp_ge (tgt := 56) hx hb d_Rules_keepsClosed_10 (by decide) (fun c_10 => ?_) (fun c_10 => ?_)
      · skip
        have hge10 : n 2 ≤ c := (nI_leI (by omega) (by omega)).mp c_10
        obtain rfl : n 2 = c := by omega
        have hres : nI 1 = b2 (pClosed n hm S0 (S0 0 r) w) := b2_t hinv
        refine lv_iconst (v := nI 1) hx hb d_Rules_keepsClosed_56 (by decide) ?_
        exact nw_zret hQ hx hb hr (by first | exact Or.inl rfl | exact Or.inr rfl) hlocks hw hS (nw_okI hres) (Nat.le_of_ble_eq_true rfl) (Nat.le_of_ble_eq_true rfl) d_Rules_keepsClosed_57
      · skip
        have hlt : c < n 2 := Nat.not_le.mp (fun q => c_10 (nI_le q (by omega)))
        refine lv_aload_n hx hb d_Rules_keepsClosed_13 rfl (lv_at hl 1 rfl) ?_
        refine lv_iload_n hx hb d_Rules_keepsClosed_14 rfl (lv_at hl 3 rfl) ?_
        refine nw_iald hx hb hK hw (100 + r) 0 (hW_row (t := 0) (j := r) (by decide) (by omega) (aX_pl hr0)) rfl (c) (rfl) (by omega) (by omega) d_Rules_keepsClosed_15 ?_
        refine lv_ei (y := S0 0 r c) (congrFun (hsc 0 r (by omega)) _) ?_
        refine lv_iload_n hx hb d_Rules_keepsClosed_16 rfl (lv_at hl 2 rfl) ?_
        refine lv_icmp_ne (tgt := 50) hx hb d_Rules_keepsClosed_17 (by decide) (fun c_17 => ?_) (fun c_17 => ?_)
        · skip
          have hinv' : ∀ j, j < (c + 1) → S0 0 r j = nI w → S0 1 (hm j) w = 0 := lt_s hinv (fun h => absurd h c_17)
          refine lv_iinc (v := nI (c + 1)) (lv' := [(3, .int (nI (c + 1))), (0, .ref (ad (2))), (1, .ref (ad (100 + r))), (2, .int (nI w))]) hx hb d_Rules_keepsClosed_50 hl (k := 3) rfl ((nI_succ _).symm) (by decide) rfl (fun ls hl => ?_)
          refine lv_goto (tgt := 2) hx hb d_Rules_keepsClosed_53 (by decide) ?_
          exact ih2 (c + 1) (by omega) (by omega) (hinv') _ _ ls hw hS (lv_sub hl [1, 2, 3, 0] rfl)
        · skip
          refine lv_aload_n hx hb d_Rules_keepsClosed_20 rfl (lv_at hl 0 rfl) ?_
          refine nw_get hx hb hts i_Rules hown hK hw (2) (hW_2) rfl 0 (by decide) (hts _ kw_121) (fun _ h9 => h9) rfl d_Rules_keepsClosed_21 ?_
          refine nw_getN hx hb hts i_Farm hown hK hw (1) (hW_1) rfl 1 (by decide) (va_Nw.use rfl (hKs.2.2 _ kn_53 rfl)) (fun _ h9 => h9) rfl d_Rules_keepsClosed_24 ?_
          refine lv_aload_n hx hb d_Rules_keepsClosed_27 rfl (lv_at hl 0 rfl) ?_
          refine nw_get hx hb hts i_Rules hown hK hw (2) (hW_2) rfl 0 (by decide) (hts _ kw_121) (fun _ h9 => h9) rfl d_Rules_keepsClosed_28 ?_
          refine nw_getN hx hb hts i_Farm hown hK hw (1) (hW_1) rfl 2 (by decide) (va_Nw.use rfl (hKs.2.2 _ kn_56 rfl)) (fun _ h9 => h9) rfl d_Rules_keepsClosed_31 ?_
          refine lv_iload_n hx hb d_Rules_keepsClosed_34 rfl (lv_at hl 3 rfl) ?_
          refine nw_aald hx hb hK hw (7) 4 (hW_7) rfl (c) (rfl) (by omega) (by omega) (y := ad (32 + c)) (if_pos (by omega)) d_Rules_keepsClosed_35 ?_
          refine nw_getN hx hb hts i_Cage hown hK hw (32 + c) (hW_cage hN (by omega)) rfl 0 (by decide) (va_Nw.use rfl (hKs.2.2 _ kn_411 rfl)) (fun _ h9 => h9) rfl d_Rules_keepsClosed_36 ?_
          have hmc := (hH c (by omega)).2
          refine nw_aald hx hb hK hw (6) 3 (hW_6) rfl (hm c) ((hH c (by omega)).1) (by omega) (by omega) (y := ad (24 + (hm c))) (if_pos (by omega)) d_Rules_keepsClosed_39 ?_
          refine nw_getN hx hb hts i_Place hown hK hw (24 + (hm c)) (hW_place hN (by omega)) rfl 1 (by decide) (va_Nw.use rfl (hKs.2.2 _ kn_371 rfl)) (fun _ h9 => h9) rfl d_Rules_keepsClosed_40 ?_
          refine lv_iload_n hx hb d_Rules_keepsClosed_43 rfl (lv_at hl 2 rfl) ?_
          refine nw_zald hx hb hK hw (116 + (hm c)) 2 (hW_row (t := 1) (j := hm c) (by decide) (by omega) (aX_place (by omega))) rfl (w) (rfl) (by omega) (by omega) d_Rules_keepsClosed_44 ?_
          refine lv_ei (y := S0 1 (hm c) w) (congrFun (hsc 1 (hm c) (by omega)) _) ?_
          refine lv_if_eq (tgt := 50) hx hb d_Rules_keepsClosed_45 (by decide) (fun c_45 => ?_) (fun c_45 => ?_)
          · skip
            have hinv' : ∀ j, j < (c + 1) → S0 0 r j = nI w → S0 1 (hm j) w = 0 := lt_s hinv (fun _ => c_45)
            refine lv_iinc (v := nI (c + 1)) (lv' := [(3, .int (nI (c + 1))), (0, .ref (ad (2))), (1, .ref (ad (100 + r))), (2, .int (nI w))]) hx hb d_Rules_keepsClosed_50 hl (k := 3) rfl ((nI_succ _).symm) (by decide) rfl (fun ls hl => ?_)
            refine lv_goto (tgt := 2) hx hb d_Rules_keepsClosed_53 (by decide) ?_
            exact ih2 (c + 1) (by omega) (by omega) (hinv') _ _ ls hw hS (lv_sub hl [1, 2, 3, 0] rfl)
          · skip
            have hres : nI 0 = b2 (pClosed n hm S0 (S0 0 r) w) := b2_f (fun h => c_45 (h c (by omega) c_17))
            refine lv_iconst (v := nI 0) hx hb d_Rules_keepsClosed_48 (by decide) ?_
            exact nw_zret hQ hx hb hr (by first | exact Or.inl rfl | exact Or.inr rfl) hlocks hw hS (nw_okI hres) (Nat.le_of_ble_eq_true rfl) (Nat.le_of_ble_eq_true rfl) d_Rules_keepsClosed_49
  exact loop2 (n 2 + 1) (0) (by omega) (by omega) (fun j hj => absurd hj (Nat.not_lt_zero j)) _ _ ls hw hS (lv_sub hl [1, 2, 3, 0] rfl)

set_option maxHeartbeats 4000000 in
set_option maxRecDepth 100000 in
/-- HELD -/
theorem c_Rules_keepsHeld (l : Launch) (D : va_G) (tC : Nat → ClassId) (A : Nat → Prop) (ad : Nat → Nat) (n : Nat → Nat) (I : Nat → Nat → Int32) (K : Nat → Int32) (bw : Int64) (LA : Nat → Int64) (bM : Nat → Option va_E) (aM : Nat → Nat → Option (ClassId × Nat)) (S0 S : Nat → Nat → Nat → Int32) (hsc : scr S0 S) (hN : hpN n) (r : Nat) (hr0 : r = 0 ∨ r = 9) (w : Nat) (hwk : w < n 0) (hm : Nat → Nat) (hH : ∀ c, c < n 2 → I 2 c = nI (hm c) ∧ hm c < n 1) : nw_Met l y_Rules_keepsHeld [Cond.code y_Rules_keepsHeld b_Rules_keepsHeld 4 (some .boolean)] ({ frames := 1, cells := 0, slots := 0, locals := 23 } : Room) D hpC A [.ref (ad (2)), .ref (ad (100 + r)), .int (nI w)] (nw_pre D hpC (hpT tC) A (hW ad tC n I K bw LA bM aM S) ad) (nw_sc (some (.int (b2 (pHeld n I hm S0 (S0 0 r) w)))) (fun S' => hW ad tC n I K bw LA bM aM S') S0 ad) 0 0 := by
  refine nw_bodyK (by decide) (Nat.le_of_ble_eq_true rfl) ?_
  intro p e s m below meth cd ls args Q hSx hr hlocks hname hA hKs hw hS hl hQ
  obtain ⟨hx, hb, hml, hown, hts⟩ := id hSx
  have hK := hKs.1
  have hl : lv_has ls 4 [(0, .ref (ad (2))), (1, .ref (ad (100 + r))), (2, .int (nI w))] := hl
  obtain ⟨hn0, hn0', hn1, hn2, hn3, hn4⟩ := id hN
  refine lv_aload_n hx hb d_Rules_keepsHeld_0 rfl (lv_at hl 0 rfl) ?_
  refine nw_get hx hb hts i_Rules hown hK hw (2) (hW_2) rfl 4 (by decide) (hts _ kw_125) (fun _ h9 => h9) rfl d_Rules_keepsHeld_1 ?_
  refine lv_iconst (v := nI 0) hx hb d_Rules_keepsHeld_4 (by decide) ?_
  refine nw_callD (nw_goS (n := 2) (As := [.ref (ad (106)), .int (nI 0)]) (rest := []) hSx hA hKs hw hS (c_Arr_fill l D tC A ad n I K bw LA bM aM S0 S hsc hN 6 4 (nI 0) (by omega) (by omega) (rfl)) kw_198 kw_550 kw_197 kw_7 rfl rfl (by decide +kernel) ⟨Nat.le_of_ble_eq_true rfl, Nat.le_of_ble_eq_true rfl⟩ rfl hl.1 (Nat.le_of_ble_eq_true rfl) d_Rules_keepsHeld_5 ⟨Nat.le_of_ble_eq_true rfl, Nat.le_of_ble_eq_true rfl⟩) hS (fun H locs hw hS => ?_)
  refine lv_iconst (v := nI 0) hx hb d_Rules_keepsHeld_8 (by decide) ?_
  refine lv_istore_n (lv' := [(3, .int (nI 0)), (0, .ref (ad (2))), (1, .ref (ad (100 + r))), (2, .int (nI w))]) hx hb d_Rules_keepsHeld_9 rfl hl (by decide) rfl (fun ls hl => ?_)
  have loop10 : ∀ (k c : Nat), c ≤ n 2 → n 2 + 1 ≤ c + k → ∀ (H : Heap) (locs : List Loc) (ls : Array Slot), nw_W D hpC A (hW ad tC n I K bw LA bM aM (upR S 0 6 (hdA (S0 0 r) (S0 3) hm w (flR (S 0 6) (nI 0) 4) c))) ad H → va_S A s.heap H locs → lv_has ls 4 [(0, .ref (ad (2))), (1, .ref (ad (100 + r))), (2, .int (nI w)), (3, .int (nI c))] → W p l e ({ frames := 1, cells := 0, slots := 0, locals := 23 } : Room) s m args below meth cd H locs 0 0 Q (F0 m 10 ls []) := by
    intro k
    induction k with
    | zero => intro c h1 h2; exact absurd h2 (by omega)
    | succ k ih10 =>
      intro c hv10 hk10 H locs ls hw hS hl
      refine lv_iload_n hx hb d_Rules_keepsHeld_10 rfl (lv_at hl 3 rfl) ?_
      refine lv_aload_n hx hb d_Rules_keepsHeld_11 rfl (lv_at hl 0 rfl) ?_
      refine nw_get hx hb hts i_Rules hown hK hw (2) (hW_2) rfl 0 (by decide) (hts _ kw_121) (fun _ h9 => h9) rfl d_Rules_keepsHeld_12 ?_
      refine nw_getN hx hb hts i_Farm hown hK hw (1) (hW_1) rfl 8 (by decide) (va_Nw.use rfl (hKs.2.2 _ kn_73 rfl)) (fun _ h9 => h9) rfl d_Rules_keepsHeld_15 ?_
      refine lv_icmp_ge (tgt := 75) hx hb d_Rules_keepsHeld_18 (by decide) (fun c_18 => ?_) (fun c_18 => ?_)
      · skip
        have hge18 : n 2 ≤ c := (nI_leI (by omega) (by omega)).mp c_18
        obtain rfl : n 2 = c := by omega
        refine lv_iconst (v := nI 0) hx hb d_Rules_keepsHeld_75 (by decide) ?_
        refine lv_istore_n (lv' := [(3, .int (nI 0)), (0, .ref (ad (2))), (1, .ref (ad (100 + r))), (2, .int (nI w))]) hx hb d_Rules_keepsHeld_76 rfl hl (by decide) rfl (fun ls hl => ?_)
        have loop77 : ∀ (k pp : Nat), pp ≤ n 1 → n 1 + 1 ≤ pp + k → (∀ j, j < pp → hsS (S0 0 r) (S0 3) hm w j (n 2) ≤ I 1 j) → ∀ (H : Heap) (locs : List Loc) (ls : Array Slot), nw_W D hpC A (hW ad tC n I K bw LA bM aM (upR S 0 6 (hdA (S0 0 r) (S0 3) hm w (flR (S 0 6) (nI 0) 4) (n 2)))) ad H → va_S A s.heap H locs → lv_has ls 4 [(0, .ref (ad (2))), (1, .ref (ad (100 + r))), (2, .int (nI w)), (3, .int (nI pp))] → W p l e ({ frames := 1, cells := 0, slots := 0, locals := 23 } : Room) s m args below meth cd H locs 0 0 Q (F0 m 77 ls []) := by
          intro k
          induction k with
          | zero => intro pp h1 h2; exact absurd h2 (by omega)
          | succ k ih77 =>
            intro pp hv77 hk77 hinv H locs ls hw hS hl
            refine lv_iload_n hx hb d_Rules_keepsHeld_77 rfl (lv_at hl 3 rfl) ?_
            refine lv_aload_n hx hb d_Rules_keepsHeld_78 rfl (lv_at hl 0 rfl) ?_
            refine nw_get hx hb hts i_Rules hown hK hw (2) (hW_2) rfl 0 (by decide) (hts _ kw_121) (fun _ h9 => h9) rfl d_Rules_keepsHeld_79 ?_
            refine nw_getN hx hb hts i_Farm hown hK hw (1) (hW_1) rfl 7 (by decide) (va_Nw.use rfl (hKs.2.2 _ kn_70 rfl)) (fun _ h9 => h9) rfl d_Rules_keepsHeld_82 ?_
            refine lv_icmp_ge (tgt := 117) hx hb d_Rules_keepsHeld_85 (by decide) (fun c_85 => ?_) (fun c_85 => ?_)
            · skip
              have hge85 : n 1 ≤ pp := (nI_leI (by omega) (by omega)).mp c_85
              obtain rfl : n 1 = pp := by omega
              have hres : nI 1 = b2 (pHeld n I hm S0 (S0 0 r) w) := b2_t hinv
              refine lv_iconst (v := nI 1) hx hb d_Rules_keepsHeld_117 (by decide) ?_
              exact nw_zret hQ hx hb hr (by first | exact Or.inl rfl | exact Or.inr rfl) hlocks hw hS (nw_scI (scr_up hsc (by omega)) hres) (Nat.le_of_ble_eq_true rfl) (Nat.le_of_ble_eq_true rfl) d_Rules_keepsHeld_118
            · skip
              have hlt : pp < n 1 := Nat.not_le.mp (fun q => c_85 (nI_le q (by omega)))
              have ehs : hdA (S0 0 r) (S0 3) hm w (flR (S 0 6) (nI 0) 4) (n 2) pp = hsS (S0 0 r) (S0 3) hm w pp (n 2) := hd_hs (by simp only [flR]; rw [if_pos (by omega)]; rfl)
              refine lv_aload_n hx hb d_Rules_keepsHeld_88 rfl (lv_at hl 0 rfl) ?_
              refine nw_get hx hb hts i_Rules hown hK hw (2) (hW_2) rfl 4 (by decide) (hts _ kw_125) (fun _ h9 => h9) rfl d_Rules_keepsHeld_89 ?_
              refine lv_iload_n hx hb d_Rules_keepsHeld_92 rfl (lv_at hl 3 rfl) ?_
              refine nw_iald hx hb hK hw (106) 0 (hW_row (t := 0) (j := 6) (by decide) (by omega) (rfl)) rfl (pp) (rfl) (by omega) (by omega) d_Rules_keepsHeld_93 ?_
              refine lv_ei (y := (hdA (S0 0 r) (S0 3) hm w (flR (S 0 6) (nI 0) 4) (n 2)) pp) (congrFun upR_self _) ?_
              refine lv_ei (y := hsS (S0 0 r) (S0 3) hm w pp (n 2)) (ehs) ?_
              refine lv_aload_n hx hb d_Rules_keepsHeld_94 rfl (lv_at hl 0 rfl) ?_
              refine nw_get hx hb hts i_Rules hown hK hw (2) (hW_2) rfl 0 (by decide) (hts _ kw_121) (fun _ h9 => h9) rfl d_Rules_keepsHeld_95 ?_
              refine nw_getN hx hb hts i_Farm hown hK hw (1) (hW_1) rfl 1 (by decide) (va_Nw.use rfl (hKs.2.2 _ kn_53 rfl)) (fun _ h9 => h9) rfl d_Rules_keepsHeld_98 ?_
              refine lv_iload_n hx hb d_Rules_keepsHeld_101 rfl (lv_at hl 3 rfl) ?_
              refine nw_aald hx hb hK hw (6) 3 (hW_6) rfl (pp) (rfl) (by omega) (by omega) (y := ad (24 + pp)) (if_pos (by omega)) d_Rules_keepsHeld_102 ?_
              refine nw_getN hx hb hts i_Place hown hK hw (24 + pp) (hW_place hN (by omega)) rfl 0 (by decide) (va_Nw.use rfl (hKs.2.2 _ kn_368 rfl)) (fun _ h9 => h9) rfl d_Rules_keepsHeld_103 ?_
              refine lv_icmp_le (tgt := 111) hx hb d_Rules_keepsHeld_106 (by decide) (fun c_106 => ?_) (fun c_106 => ?_)
              · skip
                have hinv' : ∀ j, j < (pp + 1) → hsS (S0 0 r) (S0 3) hm w j (n 2) ≤ I 1 j := lt_s hinv c_106
                refine lv_iinc (v := nI (pp + 1)) (lv' := [(3, .int (nI (pp + 1))), (0, .ref (ad (2))), (1, .ref (ad (100 + r))), (2, .int (nI w))]) hx hb d_Rules_keepsHeld_111 hl (k := 3) rfl ((nI_succ _).symm) (by decide) rfl (fun ls hl => ?_)
                refine lv_goto (tgt := 77) hx hb d_Rules_keepsHeld_114 (by decide) ?_
                exact ih77 (pp + 1) (by omega) (by omega) (hinv') _ _ ls hw hS (lv_sub hl [1, 2, 3, 0] rfl)
              · skip
                have hres : nI 0 = b2 (pHeld n I hm S0 (S0 0 r) w) := b2_f (fun h => c_106 (h pp (by omega)))
                refine lv_iconst (v := nI 0) hx hb d_Rules_keepsHeld_109 (by decide) ?_
                exact nw_zret hQ hx hb hr (by first | exact Or.inl rfl | exact Or.inr rfl) hlocks hw hS (nw_scI (scr_up hsc (by omega)) hres) (Nat.le_of_ble_eq_true rfl) (Nat.le_of_ble_eq_true rfl) d_Rules_keepsHeld_110
        exact loop77 (n 1 + 1) (0) (by omega) (by omega) (fun j hj => absurd hj (Nat.not_lt_zero j)) _ _ ls hw hS (lv_sub hl [1, 2, 3, 0] rfl)
      · skip
        have hlt : c < n 2 := Nat.not_le.mp (fun q => c_18 (nI_le q (by omega)))
        refine lv_aload_n hx hb d_Rules_keepsHeld_21 rfl (lv_at hl 1 rfl) ?_
        refine lv_iload_n hx hb d_Rules_keepsHeld_22 rfl (lv_at hl 3 rfl) ?_
        refine nw_iald hx hb hK hw (100 + r) 0 (hW_row (t := 0) (j := r) (by decide) (by omega) (aX_pl hr0)) rfl (c) (rfl) (by omega) (by omega) d_Rules_keepsHeld_23 ?_
        refine lv_ei (y := S0 0 r c) (congrFun ((scr_up hsc (by omega)) 0 r (by omega)) _) ?_
        refine lv_iconst (v := (-1)) hx hb d_Rules_keepsHeld_24 (by decide) ?_
        refine lv_icmp_eq (tgt := 35) hx hb d_Rules_keepsHeld_25 (by decide) (fun c_25 => ?_) (fun c_25 => ?_)
        · skip
          have hcond : S0 0 r c = -1 ∨ nI w ≤ S0 0 r c := Or.inl c_25
          have e6 : hdA (S0 0 r) (S0 3) hm w (flR (S 0 6) (nI 0) 4) (c + 1) = upd (hdA (S0 0 r) (S0 3) hm w (flR (S 0 6) (nI 0) 4) c) (hm c) (hdA (S0 0 r) (S0 3) hm w (flR (S 0 6) (nI 0) 4) c (hm c) + S0 3 c w) := hd_t hcond
          have hmc := (hH c (by omega)).2
          refine lv_aload_n hx hb d_Rules_keepsHeld_35 rfl (lv_at hl 0 rfl) ?_
          refine nw_get hx hb hts i_Rules hown hK hw (2) (hW_2) rfl 4 (by decide) (hts _ kw_125) (fun _ h9 => h9) rfl d_Rules_keepsHeld_36 ?_
          refine lv_aload_n hx hb d_Rules_keepsHeld_39 rfl (lv_at hl 0 rfl) ?_
          refine nw_get hx hb hts i_Rules hown hK hw (2) (hW_2) rfl 0 (by decide) (hts _ kw_121) (fun _ h9 => h9) rfl d_Rules_keepsHeld_40 ?_
          refine nw_getN hx hb hts i_Farm hown hK hw (1) (hW_1) rfl 2 (by decide) (va_Nw.use rfl (hKs.2.2 _ kn_56 rfl)) (fun _ h9 => h9) rfl d_Rules_keepsHeld_43 ?_
          refine lv_iload_n hx hb d_Rules_keepsHeld_46 rfl (lv_at hl 3 rfl) ?_
          refine nw_aald hx hb hK hw (7) 4 (hW_7) rfl (c) (rfl) (by omega) (by omega) (y := ad (32 + c)) (if_pos (by omega)) d_Rules_keepsHeld_47 ?_
          refine nw_getN hx hb hts i_Cage hown hK hw (32 + c) (hW_cage hN (by omega)) rfl 0 (by decide) (va_Nw.use rfl (hKs.2.2 _ kn_411 rfl)) (fun _ h9 => h9) rfl d_Rules_keepsHeld_48 ?_
          refine lv_dup2_11 hx hb d_Rules_keepsHeld_51 rfl rfl ?_
          refine nw_iald hx hb hK hw (106) 0 (hW_row (t := 0) (j := 6) (by decide) (by omega) (rfl)) rfl (hm c) ((hH c (by omega)).1) (by omega) (by omega) d_Rules_keepsHeld_52 ?_
          refine lv_ei (y := (hdA (S0 0 r) (S0 3) hm w (flR (S 0 6) (nI 0) 4) c) (hm c)) (congrFun upR_self _) ?_
          refine lv_aload_n hx hb d_Rules_keepsHeld_53 rfl (lv_at hl 0 rfl) ?_
          refine nw_get hx hb hts i_Rules hown hK hw (2) (hW_2) rfl 0 (by decide) (hts _ kw_121) (fun _ h9 => h9) rfl d_Rules_keepsHeld_54 ?_
          refine nw_getN hx hb hts i_Farm hown hK hw (1) (hW_1) rfl 2 (by decide) (va_Nw.use rfl (hKs.2.2 _ kn_56 rfl)) (fun _ h9 => h9) rfl d_Rules_keepsHeld_57 ?_
          refine lv_iload_n hx hb d_Rules_keepsHeld_60 rfl (lv_at hl 3 rfl) ?_
          refine nw_aald hx hb hK hw (7) 4 (hW_7) rfl (c) (rfl) (by omega) (by omega) (y := ad (32 + c)) (if_pos (by omega)) d_Rules_keepsHeld_61 ?_
          refine nw_getN hx hb hts i_Cage hown hK hw (32 + c) (hW_cage hN (by omega)) rfl 2 (by decide) (va_Nw.use rfl (hKs.2.2 _ kn_417 rfl)) (fun _ h9 => h9) rfl d_Rules_keepsHeld_62 ?_
          refine lv_iload_n hx hb d_Rules_keepsHeld_65 rfl (lv_at hl 2 rfl) ?_
          refine nw_iald hx hb hK hw (148 + c) 0 (hW_row (t := 3) (j := c) (by decide) (by omega) (aX_cage (Or.inr rfl) (by omega))) rfl (w) (rfl) (by omega) (by omega) d_Rules_keepsHeld_66 ?_
          refine lv_ei (y := S0 3 c w) (congrFun ((scr_up hsc (by omega)) 3 c (by omega)) _) ?_
          refine lv_iadd hx hb d_Rules_keepsHeld_67 ?_
          refine nw_iast hx hb hK hw hS (106) 0 (hW_row (t := 0) (j := 6) (by decide) (by omega) (rfl)) rfl (hm c) ((hH c (by omega)).1) (by omega) (by omega) d_Rules_keepsHeld_68 (fun H locs hw hS => ?_)
          have hw := hW_setRow (t := 0) (j := 6) (by decide) (by omega) (rfl) hw
          rw [upR_upR, upR_self] at hw
          refine lv_iinc (v := nI (c + 1)) (lv' := [(3, .int (nI (c + 1))), (0, .ref (ad (2))), (1, .ref (ad (100 + r))), (2, .int (nI w))]) hx hb d_Rules_keepsHeld_69 hl (k := 3) rfl ((nI_succ _).symm) (by decide) rfl (fun ls hl => ?_)
          refine lv_goto (tgt := 10) hx hb d_Rules_keepsHeld_72 (by decide) ?_
          have hw := nw_W.as (wn' := hW ad tC n I K bw LA bM aM (upR S 0 6 (hdA (S0 0 r) (S0 3) hm w (flR (S 0 6) (nI 0) 4) (c + 1)))) hw (by rw [e6])
          exact ih10 (c + 1) (by omega) (by omega) _ _ ls hw hS (lv_sub hl [1, 2, 3, 0] rfl)
        · skip
          refine lv_aload_n hx hb d_Rules_keepsHeld_28 rfl (lv_at hl 1 rfl) ?_
          refine lv_iload_n hx hb d_Rules_keepsHeld_29 rfl (lv_at hl 3 rfl) ?_
          refine nw_iald hx hb hK hw (100 + r) 0 (hW_row (t := 0) (j := r) (by decide) (by omega) (aX_pl hr0)) rfl (c) (rfl) (by omega) (by omega) d_Rules_keepsHeld_30 ?_
          refine lv_ei (y := S0 0 r c) (congrFun ((scr_up hsc (by omega)) 0 r (by omega)) _) ?_
          refine lv_iload_n hx hb d_Rules_keepsHeld_31 rfl (lv_at hl 2 rfl) ?_
          refine lv_icmp_lt (tgt := 69) hx hb d_Rules_keepsHeld_32 (by decide) (fun c_32 => ?_) (fun c_32 => ?_)
          · skip
            have e6 : hdA (S0 0 r) (S0 3) hm w (flR (S 0 6) (nI 0) 4) (c + 1) = hdA (S0 0 r) (S0 3) hm w (flR (S 0 6) (nI 0) 4) c := hd_f (fun h => h.elim c_25 (fun h => Int32.not_le.mpr c_32 h))
            refine lv_iinc (v := nI (c + 1)) (lv' := [(3, .int (nI (c + 1))), (0, .ref (ad (2))), (1, .ref (ad (100 + r))), (2, .int (nI w))]) hx hb d_Rules_keepsHeld_69 hl (k := 3) rfl ((nI_succ _).symm) (by decide) rfl (fun ls hl => ?_)
            refine lv_goto (tgt := 10) hx hb d_Rules_keepsHeld_72 (by decide) ?_
            have hw := nw_W.as (wn' := hW ad tC n I K bw LA bM aM (upR S 0 6 (hdA (S0 0 r) (S0 3) hm w (flR (S 0 6) (nI 0) 4) (c + 1)))) hw (by rw [e6])
            exact ih10 (c + 1) (by omega) (by omega) _ _ ls hw hS (lv_sub hl [1, 2, 3, 0] rfl)
          · skip
            have hcond : S0 0 r c = -1 ∨ nI w ≤ S0 0 r c := Or.inr (Int32.not_lt.mp c_32)
            have e6 : hdA (S0 0 r) (S0 3) hm w (flR (S 0 6) (nI 0) 4) (c + 1) = upd (hdA (S0 0 r) (S0 3) hm w (flR (S 0 6) (nI 0) 4) c) (hm c) (hdA (S0 0 r) (S0 3) hm w (flR (S 0 6) (nI 0) 4) c (hm c) + S0 3 c w) := hd_t hcond
            have hmc := (hH c (by omega)).2
            refine lv_aload_n hx hb d_Rules_keepsHeld_35 rfl (lv_at hl 0 rfl) ?_
            refine nw_get hx hb hts i_Rules hown hK hw (2) (hW_2) rfl 4 (by decide) (hts _ kw_125) (fun _ h9 => h9) rfl d_Rules_keepsHeld_36 ?_
            refine lv_aload_n hx hb d_Rules_keepsHeld_39 rfl (lv_at hl 0 rfl) ?_
            refine nw_get hx hb hts i_Rules hown hK hw (2) (hW_2) rfl 0 (by decide) (hts _ kw_121) (fun _ h9 => h9) rfl d_Rules_keepsHeld_40 ?_
            refine nw_getN hx hb hts i_Farm hown hK hw (1) (hW_1) rfl 2 (by decide) (va_Nw.use rfl (hKs.2.2 _ kn_56 rfl)) (fun _ h9 => h9) rfl d_Rules_keepsHeld_43 ?_
            refine lv_iload_n hx hb d_Rules_keepsHeld_46 rfl (lv_at hl 3 rfl) ?_
            refine nw_aald hx hb hK hw (7) 4 (hW_7) rfl (c) (rfl) (by omega) (by omega) (y := ad (32 + c)) (if_pos (by omega)) d_Rules_keepsHeld_47 ?_
            refine nw_getN hx hb hts i_Cage hown hK hw (32 + c) (hW_cage hN (by omega)) rfl 0 (by decide) (va_Nw.use rfl (hKs.2.2 _ kn_411 rfl)) (fun _ h9 => h9) rfl d_Rules_keepsHeld_48 ?_
            refine lv_dup2_11 hx hb d_Rules_keepsHeld_51 rfl rfl ?_
            refine nw_iald hx hb hK hw (106) 0 (hW_row (t := 0) (j := 6) (by decide) (by omega) (rfl)) rfl (hm c) ((hH c (by omega)).1) (by omega) (by omega) d_Rules_keepsHeld_52 ?_
            refine lv_ei (y := (hdA (S0 0 r) (S0 3) hm w (flR (S 0 6) (nI 0) 4) c) (hm c)) (congrFun upR_self _) ?_
            refine lv_aload_n hx hb d_Rules_keepsHeld_53 rfl (lv_at hl 0 rfl) ?_
            refine nw_get hx hb hts i_Rules hown hK hw (2) (hW_2) rfl 0 (by decide) (hts _ kw_121) (fun _ h9 => h9) rfl d_Rules_keepsHeld_54 ?_
            refine nw_getN hx hb hts i_Farm hown hK hw (1) (hW_1) rfl 2 (by decide) (va_Nw.use rfl (hKs.2.2 _ kn_56 rfl)) (fun _ h9 => h9) rfl d_Rules_keepsHeld_57 ?_
            refine lv_iload_n hx hb d_Rules_keepsHeld_60 rfl (lv_at hl 3 rfl) ?_
            refine nw_aald hx hb hK hw (7) 4 (hW_7) rfl (c) (rfl) (by omega) (by omega) (y := ad (32 + c)) (if_pos (by omega)) d_Rules_keepsHeld_61 ?_
            refine nw_getN hx hb hts i_Cage hown hK hw (32 + c) (hW_cage hN (by omega)) rfl 2 (by decide) (va_Nw.use rfl (hKs.2.2 _ kn_417 rfl)) (fun _ h9 => h9) rfl d_Rules_keepsHeld_62 ?_
            refine lv_iload_n hx hb d_Rules_keepsHeld_65 rfl (lv_at hl 2 rfl) ?_
            refine nw_iald hx hb hK hw (148 + c) 0 (hW_row (t := 3) (j := c) (by decide) (by omega) (aX_cage (Or.inr rfl) (by omega))) rfl (w) (rfl) (by omega) (by omega) d_Rules_keepsHeld_66 ?_
            refine lv_ei (y := S0 3 c w) (congrFun ((scr_up hsc (by omega)) 3 c (by omega)) _) ?_
            refine lv_iadd hx hb d_Rules_keepsHeld_67 ?_
            refine nw_iast hx hb hK hw hS (106) 0 (hW_row (t := 0) (j := 6) (by decide) (by omega) (rfl)) rfl (hm c) ((hH c (by omega)).1) (by omega) (by omega) d_Rules_keepsHeld_68 (fun H locs hw hS => ?_)
            have hw := hW_setRow (t := 0) (j := 6) (by decide) (by omega) (rfl) hw
            rw [upR_upR, upR_self] at hw
            refine lv_iinc (v := nI (c + 1)) (lv' := [(3, .int (nI (c + 1))), (0, .ref (ad (2))), (1, .ref (ad (100 + r))), (2, .int (nI w))]) hx hb d_Rules_keepsHeld_69 hl (k := 3) rfl ((nI_succ _).symm) (by decide) rfl (fun ls hl => ?_)
            refine lv_goto (tgt := 10) hx hb d_Rules_keepsHeld_72 (by decide) ?_
            have hw := nw_W.as (wn' := hW ad tC n I K bw LA bM aM (upR S 0 6 (hdA (S0 0 r) (S0 3) hm w (flR (S 0 6) (nI 0) 4) (c + 1)))) hw (by rw [e6])
            exact ih10 (c + 1) (by omega) (by omega) _ _ ls hw hS (lv_sub hl [1, 2, 3, 0] rfl)
  exact loop10 (n 2 + 1) (0) (by omega) (by omega) _ _ ls hw hS (lv_sub hl [1, 2, 3, 0] rfl)

set_option maxHeartbeats 4000000 in
set_option maxRecDepth 100000 in
/-- the kilos of the needy cages -/
theorem c_Rules_gatherNeeds (l : Launch) (D : va_G) (tC : Nat → ClassId) (A : Nat → Prop) (ad : Nat → Nat) (n : Nat → Nat) (I : Nat → Nat → Int32) (K : Nat → Int32) (bw : Int64) (LA : Nat → Int64) (bM : Nat → Option va_E) (aM : Nat → Nat → Option (ClassId × Nat)) (S0 S : Nat → Nat → Nat → Int32) (hsc : scr S0 S) (hN : hpN n) (r : Nat) (hr0 : r = 0 ∨ r = 9) (w : Nat) (hwk : w < n 0) : nw_Met l y_Rules_gatherNeeds [Cond.code y_Rules_gatherNeeds b_Rules_gatherNeeds 5 (some .int)] ({ frames := 0, cells := 0, slots := 0, locals := 0 } : Room) D hpC A [.ref (ad (2)), .ref (ad (100 + r)), .int (nI w)] (nw_pre D hpC (hpT tC) A (hW ad tC n I K bw LA bM aM S) ad) (nw_ok (some (.int (nI (ngC (S0 0 r) (S0 3) w (n 2))))) (hW ad tC n I K bw LA bM aM (upR S 0 3 (ngA (S0 0 r) (S0 3) w (S 0 3) (n 2)))) ad) 0 0 := by
  refine nw_bodyK (by decide) (Nat.le_of_ble_eq_true rfl) ?_
  intro p e s m below meth cd ls args Q hSx hr hlocks hname hA hKs hw hS hl hQ
  obtain ⟨hx, hb, hml, hown, hts⟩ := id hSx
  have hK := hKs.1
  have hl : lv_has ls 5 [(0, .ref (ad (2))), (1, .ref (ad (100 + r))), (2, .int (nI w))] := hl
  obtain ⟨hn0, hn0', hn1, hn2, hn3, hn4⟩ := id hN
  refine lv_iconst (v := nI 0) hx hb d_Rules_gatherNeeds_0 (by decide) ?_
  refine lv_istore_n (lv' := [(3, .int (nI 0)), (0, .ref (ad (2))), (1, .ref (ad (100 + r))), (2, .int (nI w))]) hx hb d_Rules_gatherNeeds_1 rfl hl (by decide) rfl (fun ls hl => ?_)
  refine lv_iconst (v := nI 0) hx hb d_Rules_gatherNeeds_2 (by decide) ?_
  refine lv_istore (lv' := [(4, .int (nI 0)), (3, .int (nI 0)), (0, .ref (ad (2))), (1, .ref (ad (100 + r))), (2, .int (nI w))]) hx hb d_Rules_gatherNeeds_3 hl (by decide) rfl (fun ls hl => ?_)
  have hw := nw_W.as (wn' := hW ad tC n I K bw LA bM aM (upR S 0 3 (ngA (S0 0 r) (S0 3) w (S 0 3) 0))) hw (by rw [show ngA (S0 0 r) (S0 3) w (S 0 3) 0 = S 0 3 from rfl, upR_same])
  have loop5 : ∀ (k c : Nat), c ≤ n 2 → n 2 + 1 ≤ c + k → ∀ (H : Heap) (locs : List Loc) (ls : Array Slot), nw_W D hpC A (hW ad tC n I K bw LA bM aM (upR S 0 3 (ngA (S0 0 r) (S0 3) w (S 0 3) c))) ad H → va_S A s.heap H locs → lv_has ls 5 [(0, .ref (ad (2))), (1, .ref (ad (100 + r))), (2, .int (nI w)), (3, .int (nI (ngC (S0 0 r) (S0 3) w c))), (4, .int (nI c))] → W p l e ({ frames := 0, cells := 0, slots := 0, locals := 0 } : Room) s m args below meth cd H locs 0 0 Q (F0 m 5 ls []) := by
    intro k
    induction k with
    | zero => intro c h1 h2; exact absurd h2 (by omega)
    | succ k ih5 =>
      intro c hv5 hk5 H locs ls hw hS hl
      have hng : ngC (S0 0 r) (S0 3) w c ≤ c := ngC_le
      refine lv_iload hx hb d_Rules_gatherNeeds_5 (lv_at hl 4 rfl) ?_
      refine lv_aload_n hx hb d_Rules_gatherNeeds_7 rfl (lv_at hl 0 rfl) ?_
      refine nw_get hx hb hts i_Rules hown hK hw (2) (hW_2) rfl 0 (by decide) (hts _ kw_121) (fun _ h9 => h9) rfl d_Rules_gatherNeeds_8 ?_
      refine nw_getN hx hb hts i_Farm hown hK hw (1) (hW_1) rfl 8 (by decide) (va_Nw.use rfl (hKs.2.2 _ kn_73 rfl)) (fun _ h9 => h9) rfl d_Rules_gatherNeeds_11 ?_
      refine lv_icmp_ge (tgt := 73) hx hb d_Rules_gatherNeeds_14 (by decide) (fun c_14 => ?_) (fun c_14 => ?_)
      · skip
        have hge14 : n 2 ≤ c := (nI_leI (by omega) (by omega)).mp c_14
        obtain rfl : n 2 = c := by omega
        refine lv_iload_n hx hb d_Rules_gatherNeeds_73 rfl (lv_at hl 3 rfl) ?_
        exact nw_iret hQ hx hb hr hlocks hw hS (nw_ok_rf) (Nat.le_of_ble_eq_true rfl) (Nat.le_of_ble_eq_true rfl) d_Rules_gatherNeeds_74
      · skip
        have hlt : c < n 2 := Nat.not_le.mp (fun q => c_14 (nI_le q (by omega)))
        refine lv_aload_n hx hb d_Rules_gatherNeeds_17 rfl (lv_at hl 1 rfl) ?_
        refine lv_iload hx hb d_Rules_gatherNeeds_18 (lv_at hl 4 rfl) ?_
        refine nw_iald hx hb hK hw (100 + r) 0 (hW_row (t := 0) (j := r) (by decide) (by omega) (aX_pl hr0)) rfl (c) (rfl) (by omega) (by omega) d_Rules_gatherNeeds_20 ?_
        refine lv_ei (y := S0 0 r c) (congrFun ((scr_up hsc (by omega)) 0 r (by omega)) _) ?_
        refine lv_iload_n hx hb d_Rules_gatherNeeds_21 rfl (lv_at hl 2 rfl) ?_
        refine lv_icmp_ne (tgt := 67) hx hb d_Rules_gatherNeeds_22 (by decide) (fun c_22 => ?_) (fun c_22 => ?_)
        · skip
          have e3 : ngC (S0 0 r) (S0 3) w (c + 1) = ngC (S0 0 r) (S0 3) w c ∧ ngA (S0 0 r) (S0 3) w (S 0 3) (c + 1) = ngA (S0 0 r) (S0 3) w (S 0 3) c := ng_f (fun h => c_22 h.1)
          refine lv_iinc (v := nI (c + 1)) (lv' := [(4, .int (nI (c + 1))), (0, .ref (ad (2))), (1, .ref (ad (100 + r))), (2, .int (nI w)), (3, .int (nI (ngC (S0 0 r) (S0 3) w c)))]) hx hb d_Rules_gatherNeeds_67 hl (k := 4) rfl ((nI_succ _).symm) (by decide) rfl (fun ls hl => ?_)
          refine lv_goto (tgt := 5) hx hb d_Rules_gatherNeeds_70 (by decide) ?_
          have el3 : nI (ngC (S0 0 r) (S0 3) w (c + 1)) = nI (ngC (S0 0 r) (S0 3) w c) := by rw [e3.1]
          have hl : lv_has ls 5 [(4, .int (nI (c + 1))), (0, .ref (ad (2))), (1, .ref (ad (100 + r))), (2, .int (nI w)), (3, .int (nI (ngC (S0 0 r) (S0 3) w (c + 1))))] := by
            have h9 := hl
            revert h9; rw [show Value.int (nI (ngC (S0 0 r) (S0 3) w (c + 1))) = Value.int (nI (ngC (S0 0 r) (S0 3) w c)) from congrArg _ el3]; intro h9
            exact h9
          have hw := nw_W.as (wn' := hW ad tC n I K bw LA bM aM (upR S 0 3 (ngA (S0 0 r) (S0 3) w (S 0 3) (c + 1)))) hw (by rw [e3.2])
          exact ih5 (c + 1) (by omega) (by omega) _ _ ls hw hS (lv_sub hl [1, 2, 3, 4, 0] rfl)
        · skip
          refine lv_aload_n hx hb d_Rules_gatherNeeds_25 rfl (lv_at hl 0 rfl) ?_
          refine nw_get hx hb hts i_Rules hown hK hw (2) (hW_2) rfl 0 (by decide) (hts _ kw_121) (fun _ h9 => h9) rfl d_Rules_gatherNeeds_26 ?_
          refine nw_getN hx hb hts i_Farm hown hK hw (1) (hW_1) rfl 2 (by decide) (va_Nw.use rfl (hKs.2.2 _ kn_56 rfl)) (fun _ h9 => h9) rfl d_Rules_gatherNeeds_29 ?_
          refine lv_iload hx hb d_Rules_gatherNeeds_32 (lv_at hl 4 rfl) ?_
          refine nw_aald hx hb hK hw (7) 4 (hW_7) rfl (c) (rfl) (by omega) (by omega) (y := ad (32 + c)) (if_pos (by omega)) d_Rules_gatherNeeds_34 ?_
          refine nw_getN hx hb hts i_Cage hown hK hw (32 + c) (hW_cage hN (by omega)) rfl 2 (by decide) (va_Nw.use rfl (hKs.2.2 _ kn_417 rfl)) (fun _ h9 => h9) rfl d_Rules_gatherNeeds_35 ?_
          refine lv_iload_n hx hb d_Rules_gatherNeeds_38 rfl (lv_at hl 2 rfl) ?_
          refine nw_iald hx hb hK hw (148 + c) 0 (hW_row (t := 3) (j := c) (by decide) (by omega) (aX_cage (Or.inr rfl) (by omega))) rfl (w) (rfl) (by omega) (by omega) d_Rules_gatherNeeds_39 ?_
          refine lv_ei (y := S0 3 c w) (congrFun ((scr_up hsc (by omega)) 3 c (by omega)) _) ?_
          refine lv_if_le (tgt := 67) hx hb d_Rules_gatherNeeds_40 (by decide) (fun c_40 => ?_) (fun c_40 => ?_)
          · skip
            have e3 : ngC (S0 0 r) (S0 3) w (c + 1) = ngC (S0 0 r) (S0 3) w c ∧ ngA (S0 0 r) (S0 3) w (S 0 3) (c + 1) = ngA (S0 0 r) (S0 3) w (S 0 3) c := ng_f (fun h => Int32.not_le.mpr h.2 c_40)
            refine lv_iinc (v := nI (c + 1)) (lv' := [(4, .int (nI (c + 1))), (0, .ref (ad (2))), (1, .ref (ad (100 + r))), (2, .int (nI w)), (3, .int (nI (ngC (S0 0 r) (S0 3) w c)))]) hx hb d_Rules_gatherNeeds_67 hl (k := 4) rfl ((nI_succ _).symm) (by decide) rfl (fun ls hl => ?_)
            refine lv_goto (tgt := 5) hx hb d_Rules_gatherNeeds_70 (by decide) ?_
            have el3 : nI (ngC (S0 0 r) (S0 3) w (c + 1)) = nI (ngC (S0 0 r) (S0 3) w c) := by rw [e3.1]
            have hl : lv_has ls 5 [(4, .int (nI (c + 1))), (0, .ref (ad (2))), (1, .ref (ad (100 + r))), (2, .int (nI w)), (3, .int (nI (ngC (S0 0 r) (S0 3) w (c + 1))))] := by
              have h9 := hl
              revert h9; rw [show Value.int (nI (ngC (S0 0 r) (S0 3) w (c + 1))) = Value.int (nI (ngC (S0 0 r) (S0 3) w c)) from congrArg _ el3]; intro h9
              exact h9
            have hw := nw_W.as (wn' := hW ad tC n I K bw LA bM aM (upR S 0 3 (ngA (S0 0 r) (S0 3) w (S 0 3) (c + 1)))) hw (by rw [e3.2])
            exact ih5 (c + 1) (by omega) (by omega) _ _ ls hw hS (lv_sub hl [1, 2, 3, 4, 0] rfl)
          · skip
            have e3 : ngC (S0 0 r) (S0 3) w (c + 1) = ngC (S0 0 r) (S0 3) w c + 1 ∧ ngA (S0 0 r) (S0 3) w (S 0 3) (c + 1) = upd (ngA (S0 0 r) (S0 3) w (S 0 3) c) (ngC (S0 0 r) (S0 3) w c) (S0 3 c w) := ng_t c_22 (Int32.not_le.mp c_40)
            refine lv_aload_n hx hb d_Rules_gatherNeeds_43 rfl (lv_at hl 0 rfl) ?_
            refine nw_get hx hb hts i_Rules hown hK hw (2) (hW_2) rfl 1 (by decide) (hts _ kw_122) (fun _ h9 => h9) rfl d_Rules_gatherNeeds_44 ?_
            refine lv_iload_n hx hb d_Rules_gatherNeeds_47 rfl (lv_at hl 3 rfl) ?_
            refine lv_aload_n hx hb d_Rules_gatherNeeds_48 rfl (lv_at hl 0 rfl) ?_
            refine nw_get hx hb hts i_Rules hown hK hw (2) (hW_2) rfl 0 (by decide) (hts _ kw_121) (fun _ h9 => h9) rfl d_Rules_gatherNeeds_49 ?_
            refine nw_getN hx hb hts i_Farm hown hK hw (1) (hW_1) rfl 2 (by decide) (va_Nw.use rfl (hKs.2.2 _ kn_56 rfl)) (fun _ h9 => h9) rfl d_Rules_gatherNeeds_52 ?_
            refine lv_iload hx hb d_Rules_gatherNeeds_55 (lv_at hl 4 rfl) ?_
            refine nw_aald hx hb hK hw (7) 4 (hW_7) rfl (c) (rfl) (by omega) (by omega) (y := ad (32 + c)) (if_pos (by omega)) d_Rules_gatherNeeds_57 ?_
            refine nw_getN hx hb hts i_Cage hown hK hw (32 + c) (hW_cage hN (by omega)) rfl 2 (by decide) (va_Nw.use rfl (hKs.2.2 _ kn_417 rfl)) (fun _ h9 => h9) rfl d_Rules_gatherNeeds_58 ?_
            refine lv_iload_n hx hb d_Rules_gatherNeeds_61 rfl (lv_at hl 2 rfl) ?_
            refine nw_iald hx hb hK hw (148 + c) 0 (hW_row (t := 3) (j := c) (by decide) (by omega) (aX_cage (Or.inr rfl) (by omega))) rfl (w) (rfl) (by omega) (by omega) d_Rules_gatherNeeds_62 ?_
            refine lv_ei (y := S0 3 c w) (congrFun ((scr_up hsc (by omega)) 3 c (by omega)) _) ?_
            refine nw_iast hx hb hK hw hS (103) 0 (hW_row (t := 0) (j := 3) (by decide) (by omega) (rfl)) rfl (ngC (S0 0 r) (S0 3) w c) (rfl) (by omega) (by omega) d_Rules_gatherNeeds_63 (fun H locs hw hS => ?_)
            have hw := hW_setRow (t := 0) (j := 3) (by decide) (by omega) (rfl) hw
            rw [upR_upR, upR_self] at hw
            refine lv_iinc (v := nI (ngC (S0 0 r) (S0 3) w c + 1)) (lv' := [(3, .int (nI (ngC (S0 0 r) (S0 3) w c + 1))), (0, .ref (ad (2))), (1, .ref (ad (100 + r))), (2, .int (nI w)), (4, .int (nI c))]) hx hb d_Rules_gatherNeeds_64 hl (k := 3) rfl ((nI_succ _).symm) (by decide) rfl (fun ls hl => ?_)
            refine lv_iinc (v := nI (c + 1)) (lv' := [(4, .int (nI (c + 1))), (3, .int (nI (ngC (S0 0 r) (S0 3) w c + 1))), (0, .ref (ad (2))), (1, .ref (ad (100 + r))), (2, .int (nI w))]) hx hb d_Rules_gatherNeeds_67 hl (k := 4) rfl ((nI_succ _).symm) (by decide) rfl (fun ls hl => ?_)
            refine lv_goto (tgt := 5) hx hb d_Rules_gatherNeeds_70 (by decide) ?_
            have el3 : nI (ngC (S0 0 r) (S0 3) w (c + 1)) = nI (ngC (S0 0 r) (S0 3) w c + 1) := by rw [e3.1]
            have hl : lv_has ls 5 [(4, .int (nI (c + 1))), (3, .int (nI (ngC (S0 0 r) (S0 3) w (c + 1)))), (0, .ref (ad (2))), (1, .ref (ad (100 + r))), (2, .int (nI w))] := by
              have h9 := hl
              revert h9; rw [show Value.int (nI (ngC (S0 0 r) (S0 3) w (c + 1))) = Value.int (nI (ngC (S0 0 r) (S0 3) w c + 1)) from congrArg _ el3]; intro h9
              exact h9
            have hw := nw_W.as (wn' := hW ad tC n I K bw LA bM aM (upR S 0 3 (ngA (S0 0 r) (S0 3) w (S 0 3) (c + 1)))) hw (by rw [e3.2])
            exact ih5 (c + 1) (by omega) (by omega) _ _ ls hw hS (lv_sub hl [2, 3, 4, 1, 0] rfl)
  exact loop5 (n 2 + 1) (0) (by omega) (by omega) _ _ ls hw hS (lv_sub hl [2, 3, 4, 1, 0] rfl)

set_option maxHeartbeats 4000000 in
set_option maxRecDepth 100000 in
/-- the loads of the boats that are not barred -/
theorem c_Rules_gatherLoads (l : Launch) (D : va_G) (tC : Nat → ClassId) (A : Nat → Prop) (ad : Nat → Nat) (n : Nat → Nat) (I : Nat → Nat → Int32) (K : Nat → Int32) (bw : Int64) (LA : Nat → Int64) (bM : Nat → Option va_E) (aM : Nat → Nat → Option (ClassId × Nat)) (S0 S : Nat → Nat → Nat → Int32) (hsc : scr S0 S) (hN : hpN n) (w : Nat) (hwk : w < n 0) : nw_Met l y_Rules_gatherLoads [Cond.code y_Rules_gatherLoads b_Rules_gatherLoads 4 (some .int)] ({ frames := 0, cells := 0, slots := 0, locals := 0 } : Room) D hpC A [.ref (ad (2)), .int (nI w)] (nw_pre D hpC (hpT tC) A (hW ad tC n I K bw LA bM aM S) ad) (nw_ok (some (.int (nI (lgC (S0 4) w (n 3))))) (hW ad tC n I K bw LA bM aM (upR S 0 4 (lgA (S0 4) (I 3) w (S 0 4) (n 3)))) ad) 0 0 := by
  refine nw_bodyK (by decide) (Nat.le_of_ble_eq_true rfl) ?_
  intro p e s m below meth cd ls args Q hSx hr hlocks hname hA hKs hw hS hl hQ
  obtain ⟨hx, hb, hml, hown, hts⟩ := id hSx
  have hK := hKs.1
  have hl : lv_has ls 4 [(0, .ref (ad (2))), (1, .int (nI w))] := hl
  obtain ⟨hn0, hn0', hn1, hn2, hn3, hn4⟩ := id hN
  refine lv_iconst (v := nI 0) hx hb d_Rules_gatherLoads_0 (by decide) ?_
  refine lv_istore_n (lv' := [(2, .int (nI 0)), (0, .ref (ad (2))), (1, .int (nI w))]) hx hb d_Rules_gatherLoads_1 rfl hl (by decide) rfl (fun ls hl => ?_)
  refine lv_iconst (v := nI 0) hx hb d_Rules_gatherLoads_2 (by decide) ?_
  refine lv_istore_n (lv' := [(3, .int (nI 0)), (2, .int (nI 0)), (0, .ref (ad (2))), (1, .int (nI w))]) hx hb d_Rules_gatherLoads_3 rfl hl (by decide) rfl (fun ls hl => ?_)
  have hw := nw_W.as (wn' := hW ad tC n I K bw LA bM aM (upR S 0 4 (lgA (S0 4) (I 3) w (S 0 4) 0))) hw (by rw [show lgA (S0 4) (I 3) w (S 0 4) 0 = S 0 4 from rfl, upR_same])
  have loop4 : ∀ (k b : Nat), b ≤ n 3 → n 3 + 1 ≤ b + k → ∀ (H : Heap) (locs : List Loc) (ls : Array Slot), nw_W D hpC A (hW ad tC n I K bw LA bM aM (upR S 0 4 (lgA (S0 4) (I 3) w (S 0 4) b))) ad H → va_S A s.heap H locs → lv_has ls 4 [(0, .ref (ad (2))), (1, .int (nI w)), (2, .int (nI (lgC (S0 4) w b))), (3, .int (nI b))] → W p l e ({ frames := 0, cells := 0, slots := 0, locals := 0 } : Room) s m args below meth cd H locs 0 0 Q (F0 m 4 ls []) := by
    intro k
    induction k with
    | zero => intro b h1 h2; exact absurd h2 (by omega)
    | succ k ih4 =>
      intro b hv4 hk4 H locs ls hw hS hl
      have hlg : lgC (S0 4) w b ≤ b := lgC_le
      refine lv_iload_n hx hb d_Rules_gatherLoads_4 rfl (lv_at hl 3 rfl) ?_
      refine lv_aload_n hx hb d_Rules_gatherLoads_5 rfl (lv_at hl 0 rfl) ?_
      refine nw_get hx hb hts i_Rules hown hK hw (2) (hW_2) rfl 0 (by decide) (hts _ kw_121) (fun _ h9 => h9) rfl d_Rules_gatherLoads_6 ?_
      refine nw_getN hx hb hts i_Farm hown hK hw (1) (hW_1) rfl 9 (by decide) (va_Nw.use rfl (hKs.2.2 _ kn_78 rfl)) (fun _ h9 => h9) rfl d_Rules_gatherLoads_9 ?_
      refine lv_icmp_ge (tgt := 59) hx hb d_Rules_gatherLoads_12 (by decide) (fun c_12 => ?_) (fun c_12 => ?_)
      · skip
        have hge12 : n 3 ≤ b := (nI_leI (by omega) (by omega)).mp c_12
        obtain rfl : n 3 = b := by omega
        refine lv_iload_n hx hb d_Rules_gatherLoads_59 rfl (lv_at hl 2 rfl) ?_
        exact nw_iret hQ hx hb hr hlocks hw hS (nw_ok_rf) (Nat.le_of_ble_eq_true rfl) (Nat.le_of_ble_eq_true rfl) d_Rules_gatherLoads_60
      · skip
        have hlt : b < n 3 := Nat.not_le.mp (fun q => c_12 (nI_le q (by omega)))
        refine lv_aload_n hx hb d_Rules_gatherLoads_15 rfl (lv_at hl 0 rfl) ?_
        refine nw_get hx hb hts i_Rules hown hK hw (2) (hW_2) rfl 0 (by decide) (hts _ kw_121) (fun _ h9 => h9) rfl d_Rules_gatherLoads_16 ?_
        refine nw_getN hx hb hts i_Farm hown hK hw (1) (hW_1) rfl 3 (by decide) (va_Nw.use rfl (hKs.2.2 _ kn_60 rfl)) (fun _ h9 => h9) rfl d_Rules_gatherLoads_19 ?_
        refine lv_iload_n hx hb d_Rules_gatherLoads_22 rfl (lv_at hl 3 rfl) ?_
        refine nw_aald hx hb hK hw (8) 5 (hW_8) rfl (b) (rfl) (by omega) (by omega) (y := ad (40 + b)) (if_pos (by omega)) d_Rules_gatherLoads_23 ?_
        refine nw_getN hx hb hts i_Boat hown hK hw (40 + b) (hW_boat hN (by omega)) rfl 1 (by decide) (va_Nw.use rfl (hKs.2.2 _ kn_456 rfl)) (fun _ h9 => h9) rfl d_Rules_gatherLoads_24 ?_
        refine lv_iload_n hx hb d_Rules_gatherLoads_27 rfl (lv_at hl 1 rfl) ?_
        refine nw_zald hx hb hK hw (164 + b) 2 (hW_row (t := 4) (j := b) (by decide) (by omega) (aX_boat (by omega))) rfl (w) (rfl) (by omega) (by omega) d_Rules_gatherLoads_28 ?_
        refine lv_ei (y := S0 4 b w) (congrFun ((scr_up hsc (by omega)) 4 b (by omega)) _) ?_
        refine lv_if_ne (tgt := 53) hx hb d_Rules_gatherLoads_29 (by decide) (fun c_29 => ?_) (fun c_29 => ?_)
        · skip
          have e4 : lgC (S0 4) w (b + 1) = lgC (S0 4) w b ∧ lgA (S0 4) (I 3) w (S 0 4) (b + 1) = lgA (S0 4) (I 3) w (S 0 4) b := lg_f c_29
          refine lv_iinc (v := nI (b + 1)) (lv' := [(3, .int (nI (b + 1))), (0, .ref (ad (2))), (1, .int (nI w)), (2, .int (nI (lgC (S0 4) w b)))]) hx hb d_Rules_gatherLoads_53 hl (k := 3) rfl ((nI_succ _).symm) (by decide) rfl (fun ls hl => ?_)
          refine lv_goto (tgt := 4) hx hb d_Rules_gatherLoads_56 (by decide) ?_
          have el2 : nI (lgC (S0 4) w (b + 1)) = nI (lgC (S0 4) w b) := by rw [e4.1]
          have hl : lv_has ls 4 [(3, .int (nI (b + 1))), (0, .ref (ad (2))), (1, .int (nI w)), (2, .int (nI (lgC (S0 4) w (b + 1))))] := by
            have h9 := hl
            revert h9; rw [show Value.int (nI (lgC (S0 4) w (b + 1))) = Value.int (nI (lgC (S0 4) w b)) from congrArg _ el2]; intro h9
            exact h9
          have hw := nw_W.as (wn' := hW ad tC n I K bw LA bM aM (upR S 0 4 (lgA (S0 4) (I 3) w (S 0 4) (b + 1)))) hw (by rw [e4.2])
          exact ih4 (b + 1) (by omega) (by omega) _ _ ls hw hS (lv_sub hl [1, 2, 3, 0] rfl)
        · skip
          have e4 : lgC (S0 4) w (b + 1) = lgC (S0 4) w b + 1 ∧ lgA (S0 4) (I 3) w (S 0 4) (b + 1) = upd (lgA (S0 4) (I 3) w (S 0 4) b) (lgC (S0 4) w b) (I 3 b) := lg_t c_29
          refine lv_aload_n hx hb d_Rules_gatherLoads_32 rfl (lv_at hl 0 rfl) ?_
          refine nw_get hx hb hts i_Rules hown hK hw (2) (hW_2) rfl 2 (by decide) (hts _ kw_123) (fun _ h9 => h9) rfl d_Rules_gatherLoads_33 ?_
          refine lv_iload_n hx hb d_Rules_gatherLoads_36 rfl (lv_at hl 2 rfl) ?_
          refine lv_aload_n hx hb d_Rules_gatherLoads_37 rfl (lv_at hl 0 rfl) ?_
          refine nw_get hx hb hts i_Rules hown hK hw (2) (hW_2) rfl 0 (by decide) (hts _ kw_121) (fun _ h9 => h9) rfl d_Rules_gatherLoads_38 ?_
          refine nw_getN hx hb hts i_Farm hown hK hw (1) (hW_1) rfl 3 (by decide) (va_Nw.use rfl (hKs.2.2 _ kn_60 rfl)) (fun _ h9 => h9) rfl d_Rules_gatherLoads_41 ?_
          refine lv_iload_n hx hb d_Rules_gatherLoads_44 rfl (lv_at hl 3 rfl) ?_
          refine nw_aald hx hb hK hw (8) 5 (hW_8) rfl (b) (rfl) (by omega) (by omega) (y := ad (40 + b)) (if_pos (by omega)) d_Rules_gatherLoads_45 ?_
          refine nw_getN hx hb hts i_Boat hown hK hw (40 + b) (hW_boat hN (by omega)) rfl 0 (by decide) (va_Nw.use rfl (hKs.2.2 _ kn_453 rfl)) (fun _ h9 => h9) rfl d_Rules_gatherLoads_46 ?_
          refine nw_iast hx hb hK hw hS (104) 0 (hW_row (t := 0) (j := 4) (by decide) (by omega) (rfl)) rfl (lgC (S0 4) w b) (rfl) (by omega) (by omega) d_Rules_gatherLoads_49 (fun H locs hw hS => ?_)
          have hw := hW_setRow (t := 0) (j := 4) (by decide) (by omega) (rfl) hw
          rw [upR_upR, upR_self] at hw
          refine lv_iinc (v := nI (lgC (S0 4) w b + 1)) (lv' := [(2, .int (nI (lgC (S0 4) w b + 1))), (0, .ref (ad (2))), (1, .int (nI w)), (3, .int (nI b))]) hx hb d_Rules_gatherLoads_50 hl (k := 2) rfl ((nI_succ _).symm) (by decide) rfl (fun ls hl => ?_)
          refine lv_iinc (v := nI (b + 1)) (lv' := [(3, .int (nI (b + 1))), (2, .int (nI (lgC (S0 4) w b + 1))), (0, .ref (ad (2))), (1, .int (nI w))]) hx hb d_Rules_gatherLoads_53 hl (k := 3) rfl ((nI_succ _).symm) (by decide) rfl (fun ls hl => ?_)
          refine lv_goto (tgt := 4) hx hb d_Rules_gatherLoads_56 (by decide) ?_
          have el2 : nI (lgC (S0 4) w (b + 1)) = nI (lgC (S0 4) w b + 1) := by rw [e4.1]
          have hl : lv_has ls 4 [(3, .int (nI (b + 1))), (2, .int (nI (lgC (S0 4) w (b + 1)))), (0, .ref (ad (2))), (1, .int (nI w))] := by
            have h9 := hl
            revert h9; rw [show Value.int (nI (lgC (S0 4) w (b + 1))) = Value.int (nI (lgC (S0 4) w b + 1)) from congrArg _ el2]; intro h9
            exact h9
          have hw := nw_W.as (wn' := hW ad tC n I K bw LA bM aM (upR S 0 4 (lgA (S0 4) (I 3) w (S 0 4) (b + 1)))) hw (by rw [e4.2])
          exact ih4 (b + 1) (by omega) (by omega) _ _ ls hw hS (lv_sub hl [2, 3, 1, 0] rfl)
  exact loop4 (n 3 + 1) (0) (by omega) (by omega) _ _ ls hw hS (lv_sub hl [2, 3, 1, 0] rfl)

set_option maxHeartbeats 4000000 in
set_option maxRecDepth 100000 in
/-- whether the boats carry all by a way -/
theorem c_Rules_carriesAll (l : Launch) (D : va_G) (tC : Nat → ClassId) (A : Nat → Prop) (ad : Nat → Nat) (n : Nat → Nat) (I : Nat → Nat → Int32) (K : Nat → Int32) (bw : Int64) (LA : Nat → Int64) (bM : Nat → Option va_E) (aM : Nat → Nat → Option (ClassId × Nat)) (S0 S : Nat → Nat → Nat → Int32) (hsc : scr S0 S) (hN : hpN n) (f3 f4 : Nat → Int32) (h3 : S 0 3 = f3) (h4 : S 0 4 = f4) (way nd af : Nat) (hway : way < 2 ^ 31) (hnd : 1 ≤ nd) (hnd6 : nd ≤ 6) (haf : af ≤ 3) : nw_Met l y_Rules_carriesAll [Cond.code y_Rules_carriesAll b_Rules_carriesAll 6 (some .boolean)] ({ frames := 1, cells := 0, slots := 0, locals := 40 } : Room) D hpC A [.ref (ad (2)), .int (nI way), .int (nI nd), .int (nI af)] (nw_pre D hpC (hpT tC) A (hW ad tC n I K bw LA bM aM S) ad) (nw_ok (some (.int (b2 (pCarries f3 f4 nd af way)))) (hW ad tC n I K bw LA bM aM (upR S 0 5 (msA (S 0 4) way nd (va_cpy (S 0 3) (S 0 5) 0 0 nd) af))) ad) 0 0 := by
  refine nw_bodyK (by decide) (Nat.le_of_ble_eq_true rfl) ?_
  intro p e s m below meth cd ls args Q hSx hr hlocks hname hA hKs hw hS hl hQ
  obtain ⟨hx, hb, hml, hown, hts⟩ := id hSx
  have hK := hKs.1
  have hl : lv_has ls 6 [(0, .ref (ad (2))), (1, .int (nI way)), (2, .int (nI nd)), (3, .int (nI af))] := hl
  obtain ⟨hn0, hn0', hn1, hn2, hn3, hn4⟩ := id hN
  refine lv_aload_n hx hb d_Rules_carriesAll_0 rfl (lv_at hl 0 rfl) ?_
  refine nw_get hx hb hts i_Rules hown hK hw (2) (hW_2) rfl 1 (by decide) (hts _ kw_122) (fun _ h9 => h9) rfl d_Rules_carriesAll_1 ?_
  refine lv_iconst (v := nI 0) hx hb d_Rules_carriesAll_4 (by decide) ?_
  refine lv_aload_n hx hb d_Rules_carriesAll_5 rfl (lv_at hl 0 rfl) ?_
  refine nw_get hx hb hts i_Rules hown hK hw (2) (hW_2) rfl 3 (by decide) (hts _ kw_124) (fun _ h9 => h9) rfl d_Rules_carriesAll_6 ?_
  refine lv_iconst (v := nI 0) hx hb d_Rules_carriesAll_9 (by decide) ?_
  refine lv_iload_n hx hb d_Rules_carriesAll_10 rfl (lv_at hl 2 rfl) ?_
  refine nw_copy hx hb (hml.trans hl.1.symm) hown (hts _ kw_597) (hts _ kw_568) (hts _ kw_567) (hts _ kw_18) hK hw hS (103) (105) 0 (hW_row (t := 0) (j := 3) (by decide) (by omega) (rfl)) (hW_row (t := 0) (j := 5) (by decide) (by omega) (rfl)) rfl (nI_pos (by omega)) (nI_pos (by omega)) (nI_pos (by omega)) (by rw [nI_clamp (by omega), nI_clamp (by omega)]; omega) (by rw [nI_clamp (by omega), nI_clamp (by omega)]; omega) (Nat.le_of_ble_eq_true rfl) (Nat.le_of_ble_eq_true rfl) d_Rules_carriesAll_11 (fun H locs hw hS => ?_)
  rw [nI_clamp (n := 0) (by omega), nI_clamp (n := nd) (by omega)] at hw
  have hw := hW_setRow (t := 0) (j := 5) (by decide) (by omega) (rfl) hw
  refine lv_iload_n hx hb d_Rules_carriesAll_14 rfl (lv_at hl 1 rfl) ?_
  refine lv_istore (lv' := [(4, .int (nI way)), (0, .ref (ad (2))), (1, .int (nI way)), (2, .int (nI nd)), (3, .int (nI af))]) hx hb d_Rules_carriesAll_15 hl (by decide) rfl (fun ls hl => ?_)
  refine lv_iconst (v := nI 0) hx hb d_Rules_carriesAll_17 (by decide) ?_
  refine lv_istore (lv' := [(5, .int (nI 0)), (4, .int (nI way)), (0, .ref (ad (2))), (1, .int (nI way)), (2, .int (nI nd)), (3, .int (nI af))]) hx hb d_Rules_carriesAll_18 hl (by decide) rfl (fun ls hl => ?_)
  have el4 : nI (way / nd ^ 0) = nI way := by rw [Nat.pow_zero, Nat.div_one]
  have hl : lv_has ls 6 [(5, .int (nI 0)), (4, .int (nI (way / nd ^ 0))), (0, .ref (ad (2))), (1, .int (nI way)), (2, .int (nI nd)), (3, .int (nI af))] := by
    have h9 := hl
    revert h9; rw [show Value.int (nI (way / nd ^ 0)) = Value.int (nI way) from congrArg _ el4]; intro h9
    exact h9
  have loop20 : ∀ (k b : Nat), b ≤ af → af + 1 ≤ b + k → ∀ (H : Heap) (locs : List Loc) (ls : Array Slot), nw_W D hpC A (hW ad tC n I K bw LA bM aM (upR S 0 5 (msA (S 0 4) way nd (va_cpy (S 0 3) (S 0 5) 0 0 nd) b))) ad H → va_S A s.heap H locs → lv_has ls 6 [(0, .ref (ad (2))), (1, .int (nI way)), (2, .int (nI nd)), (3, .int (nI af)), (4, .int (nI (way / nd ^ b))), (5, .int (nI b))] → W p l e ({ frames := 1, cells := 0, slots := 0, locals := 40 } : Room) s m args below meth cd H locs 0 0 Q (F0 m 20 ls []) := by
    intro k
    induction k with
    | zero => intro b h1 h2; exact absurd h2 (by omega)
    | succ k ih20 =>
      intro b hv20 hk20 H locs ls hw hS hl
      refine lv_iload hx hb d_Rules_carriesAll_20 (lv_at hl 5 rfl) ?_
      refine lv_iload_n hx hb d_Rules_carriesAll_22 rfl (lv_at hl 3 rfl) ?_
      refine lv_icmp_ge (tgt := 57) hx hb d_Rules_carriesAll_23 (by decide) (fun c_23 => ?_) (fun c_23 => ?_)
      · skip
        have hge23 : af ≤ b := (nI_leI (by omega) (by omega)).mp c_23
        obtain rfl : af = b := by omega
        refine lv_iconst (v := nI 0) hx hb d_Rules_carriesAll_57 (by decide) ?_
        refine lv_istore (lv' := [(5, .int (nI 0)), (0, .ref (ad (2))), (1, .int (nI way)), (2, .int (nI nd)), (3, .int (nI af)), (4, .int (nI (way / nd ^ af)))]) hx hb d_Rules_carriesAll_58 hl (by decide) rfl (fun ls hl => ?_)
        have loop60 : ∀ (k i : Nat), i ≤ nd → nd + 1 ≤ i + k → (∀ k, k < i → msA f4 way nd f3 af k ≤ 0) → ∀ (H : Heap) (locs : List Loc) (ls : Array Slot), nw_W D hpC A (hW ad tC n I K bw LA bM aM (upR S 0 5 (msA (S 0 4) way nd (va_cpy (S 0 3) (S 0 5) 0 0 nd) af))) ad H → va_S A s.heap H locs → lv_has ls 6 [(0, .ref (ad (2))), (1, .int (nI way)), (2, .int (nI nd)), (3, .int (nI af)), (5, .int (nI i))] → W p l e ({ frames := 1, cells := 0, slots := 0, locals := 40 } : Room) s m args below meth cd H locs 0 0 Q (F0 m 60 ls []) := by
          intro k
          induction k with
          | zero => intro i h1 h2; exact absurd h2 (by omega)
          | succ k ih60 =>
            intro i hv60 hk60 hinv H locs ls hw hS hl
            refine lv_iload hx hb d_Rules_carriesAll_60 (lv_at hl 4 rfl) ?_
            refine lv_iload_n hx hb d_Rules_carriesAll_62 rfl (lv_at hl 2 rfl) ?_
            refine lv_icmp_ge (tgt := 84) hx hb d_Rules_carriesAll_63 (by decide) (fun c_63 => ?_) (fun c_63 => ?_)
            · skip
              have hge63 : nd ≤ i := (nI_leI (by omega) (by omega)).mp c_63
              obtain rfl : nd = i := by omega
              have hres : nI 1 = b2 (pCarries f3 f4 nd af way) := b2_t hinv
              refine lv_iconst (v := nI 1) hx hb d_Rules_carriesAll_84 (by decide) ?_
              exact nw_zret hQ hx hb hr (by first | exact Or.inl rfl | exact Or.inr rfl) hlocks hw hS (nw_okI hres) (Nat.le_of_ble_eq_true rfl) (Nat.le_of_ble_eq_true rfl) d_Rules_carriesAll_85
            · skip
              have hlt : i < nd := Nat.not_le.mp (fun q => c_63 (nI_le q (by omega)))
              have ems : msA (S 0 4) way nd (va_cpy (S 0 3) (S 0 5) 0 0 nd) af i = msA f4 way nd f3 af i := msA_base (by omega) (fun k hk => by rw [cpy_lo hk, h3]) (fun k hk => by rw [h4]) i (by omega)
              refine lv_aload_n hx hb d_Rules_carriesAll_66 rfl (lv_at hl 0 rfl) ?_
              refine nw_get hx hb hts i_Rules hown hK hw (2) (hW_2) rfl 3 (by decide) (hts _ kw_124) (fun _ h9 => h9) rfl d_Rules_carriesAll_67 ?_
              refine lv_iload hx hb d_Rules_carriesAll_70 (lv_at hl 4 rfl) ?_
              refine nw_iald hx hb hK hw (105) 0 (hW_row (t := 0) (j := 5) (by decide) (by omega) (rfl)) rfl (i) (rfl) (by omega) (by omega) d_Rules_carriesAll_72 ?_
              refine lv_ei (y := (msA (S 0 4) way nd (va_cpy (S 0 3) (S 0 5) 0 0 nd) af) i) (congrFun upR_self _) ?_
              refine lv_ei (y := msA f4 way nd f3 af i) (ems) ?_
              refine lv_if_le (tgt := 78) hx hb d_Rules_carriesAll_73 (by decide) (fun c_73 => ?_) (fun c_73 => ?_)
              · skip
                have hinv' : ∀ k, k < (i + 1) → msA f4 way nd f3 af k ≤ 0 := lt_s hinv c_73
                refine lv_iinc (v := nI (i + 1)) (lv' := [(5, .int (nI (i + 1))), (0, .ref (ad (2))), (1, .int (nI way)), (2, .int (nI nd)), (3, .int (nI af))]) hx hb d_Rules_carriesAll_78 hl (k := 4) rfl ((nI_succ _).symm) (by decide) rfl (fun ls hl => ?_)
                refine lv_goto (tgt := 60) hx hb d_Rules_carriesAll_81 (by decide) ?_
                exact ih60 (i + 1) (by omega) (by omega) (hinv') _ _ ls hw hS (lv_sub hl [1, 2, 3, 4, 0] rfl)
              · skip
                have hres : nI 0 = b2 (pCarries f3 f4 nd af way) := b2_f (fun h => c_73 (h i (by omega)))
                refine lv_iconst (v := nI 0) hx hb d_Rules_carriesAll_76 (by decide) ?_
                exact nw_zret hQ hx hb hr (by first | exact Or.inl rfl | exact Or.inr rfl) hlocks hw hS (nw_okI hres) (Nat.le_of_ble_eq_true rfl) (Nat.le_of_ble_eq_true rfl) d_Rules_carriesAll_77
        exact loop60 (nd + 1) (0) (by omega) (by omega) (fun j hj => absurd hj (Nat.not_lt_zero j)) _ _ ls hw hS (lv_sub hl [1, 2, 3, 4, 0] rfl)
      · skip
        have hlt : b < af := Nat.not_le.mp (fun q => c_23 (nI_le q (by omega)))
        refine lv_aload_n hx hb d_Rules_carriesAll_26 rfl (lv_at hl 0 rfl) ?_
        refine nw_get hx hb hts i_Rules hown hK hw (2) (hW_2) rfl 3 (by decide) (hts _ kw_124) (fun _ h9 => h9) rfl d_Rules_carriesAll_27 ?_
        refine lv_iload hx hb d_Rules_carriesAll_30 (lv_at hl 4 rfl) ?_
        refine lv_iload_n hx hb d_Rules_carriesAll_32 rfl (lv_at hl 2 rfl) ?_
        refine lv_irem hx hb d_Rules_carriesAll_33 (nI_ne0 (by omega) (by omega)) ?_
        refine lv_ei (y := nI (way / nd ^ b % nd)) (pk_rem (Nat.lt_of_le_of_lt (Nat.div_le_self _ _) hway) (by omega) (by omega)) ?_
        refine lv_dup2_11 hx hb d_Rules_carriesAll_34 rfl rfl ?_
        refine nw_iald hx hb hK hw (105) 0 (hW_row (t := 0) (j := 5) (by decide) (by omega) (rfl)) rfl (way / nd ^ b % nd) (rfl) (Nat.lt_of_lt_of_le (Nat.mod_lt _ (by omega)) (by omega)) (by omega) d_Rules_carriesAll_35 ?_
        refine lv_ei (y := (msA (S 0 4) way nd (va_cpy (S 0 3) (S 0 5) 0 0 nd) b) (way / nd ^ b % nd)) (congrFun upR_self _) ?_
        refine lv_aload_n hx hb d_Rules_carriesAll_36 rfl (lv_at hl 0 rfl) ?_
        refine nw_get hx hb hts i_Rules hown hK hw (2) (hW_2) rfl 2 (by decide) (hts _ kw_123) (fun _ h9 => h9) rfl d_Rules_carriesAll_37 ?_
        refine lv_iload hx hb d_Rules_carriesAll_40 (lv_at hl 5 rfl) ?_
        refine nw_iald hx hb hK hw (104) 0 (hW_row (t := 0) (j := 4) (by decide) (by omega) (rfl)) rfl (b) (rfl) (by omega) (by omega) d_Rules_carriesAll_42 ?_
        refine lv_ei (y := S 0 4 b) (congrFun (by simp [upR]) _) ?_
        refine lv_isub hx hb d_Rules_carriesAll_43 ?_
        refine nw_iast hx hb hK hw hS (105) 0 (hW_row (t := 0) (j := 5) (by decide) (by omega) (rfl)) rfl (way / nd ^ b % nd) (rfl) (Nat.lt_of_lt_of_le (Nat.mod_lt _ (by omega)) (by omega)) (by omega) d_Rules_carriesAll_44 (fun H locs hw hS => ?_)
        have hw := hW_setRow (t := 0) (j := 5) (by decide) (by omega) (rfl) hw
        rw [upR_upR, upR_self] at hw
        refine lv_iload hx hb d_Rules_carriesAll_45 (lv_at hl 4 rfl) ?_
        refine lv_iload_n hx hb d_Rules_carriesAll_47 rfl (lv_at hl 2 rfl) ?_
        refine lv_idiv hx hb d_Rules_carriesAll_48 (nI_ne0 (by omega) (by omega)) ?_
        refine lv_ei (y := nI (way / nd ^ b / nd)) (pk_div (Nat.lt_of_le_of_lt (Nat.div_le_self _ _) hway) (by omega) (by omega)) ?_
        refine lv_istore (lv' := [(4, .int (nI (way / nd ^ b / nd))), (0, .ref (ad (2))), (1, .int (nI way)), (2, .int (nI nd)), (3, .int (nI af)), (5, .int (nI b))]) hx hb d_Rules_carriesAll_49 hl (by decide) rfl (fun ls hl => ?_)
        refine lv_iinc (v := nI (b + 1)) (lv' := [(5, .int (nI (b + 1))), (4, .int (nI (way / nd ^ b / nd))), (0, .ref (ad (2))), (1, .int (nI way)), (2, .int (nI nd)), (3, .int (nI af))]) hx hb d_Rules_carriesAll_51 hl (k := 5) rfl ((nI_succ _).symm) (by decide) rfl (fun ls hl => ?_)
        refine lv_goto (tgt := 20) hx hb d_Rules_carriesAll_54 (by decide) ?_
        have el4 : nI (way / nd ^ (b + 1)) = nI (way / nd ^ b / nd) := by rw [Nat.pow_succ, Nat.div_div_eq_div_mul]
        have hl : lv_has ls 6 [(5, .int (nI (b + 1))), (4, .int (nI (way / nd ^ (b + 1)))), (0, .ref (ad (2))), (1, .int (nI way)), (2, .int (nI nd)), (3, .int (nI af))] := by
          have h9 := hl
          revert h9; rw [show Value.int (nI (way / nd ^ (b + 1))) = Value.int (nI (way / nd ^ b / nd)) from congrArg _ el4]; intro h9
          exact h9
        have hw := nw_W.as (wn' := hW ad tC n I K bw LA bM aM (upR S 0 5 (msA (S 0 4) way nd (va_cpy (S 0 3) (S 0 5) 0 0 nd) (b + 1)))) hw (by rw [ms_s])
        exact ih20 (b + 1) (by omega) (by omega) _ _ ls hw hS (lv_sub hl [2, 3, 4, 5, 1, 0] rfl)
  exact loop20 (af + 1) (0) (by omega) (by omega) _ _ ls hw hS (lv_sub hl [2, 3, 4, 5, 1, 0] rfl)
