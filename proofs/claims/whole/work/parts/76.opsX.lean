set_option maxHeartbeats 4000000 in
set_option maxRecDepth 100000 in
/-- closed -/
theorem c_X_closed (l : Launch) (D : va_G) (tC : Nat → ClassId) (A : Nat → Prop) (ad : Nat → Nat) (n : Nat → Nat) (I : Nat → Nat → Int32) (K : Nat → Int32) (bw : Int64) (LA : Nat → Int64) (bM : Nat → Option va_E) (aM : Nat → Nat → Option (ClassId × Nat)) (S : Nat → Nat → Nat → Int32) (hN : hpN n) (s0 : State) (hF : nx_F s0) (hfl : l.stackTraces = false) (hAs : ∀ q, A q → s0.heap.size ≤ q) (x1 x2 x3 : Int32) (hz : x3 = 0 ∨ x3 = 1) (hzz : ∀ j k, S 1 j k = 0 ∨ S 1 j k = 1) : nx_M l y_X_closed [Cond.code y_X_closed b_X_closed 6 (some .boolean)] ({ frames := 8, cells := 2, slots := 12, locals := 152 } : Room) D hpC A [.ref (ad (0)), .int (x1), .int (x2), .int (x3)] (nx_pre D hpC (hpT tC) A (hW ad tC n I K bw LA bM aM S) ad s0) (nx_po (¬ ((0 ≤ x1 ∧ x1 < nI (n 1)) ∧ (0 ≤ x2 ∧ x2 < nI (n 0)))) (¬ (True)) (hW ad tC n I K bw LA bM aM S) ad (nw_ok (some (.int ((upR S 0 0 (flR (S 0 0) (-1) 6)) 1 (x1.toNatClampNeg) (x2.toNatClampNeg)))) (hW ad tC n I (va_up K 0 (nI 0)) bw LA bM aM (upR (upR S 0 0 (flR (S 0 0) (-1) 6)) 1 (x1.toNatClampNeg) (upd ((upR S 0 0 (flR (S 0 0) (-1) 6)) 1 (x1.toNatClampNeg)) (x2.toNatClampNeg) x3))) ad)) 2 12 := by
  refine nx_bodyK (by decide) (Nat.le_of_ble_eq_true rfl) ?_
  intro p e s m below meth cd ls args Q hSx hr hlocks hout hB hA hKs hw hS hl hQ
  obtain ⟨hx, hb, hml, hown, hts⟩ := id hSx
  have hK := hKs.1
  have hl : lv_has ls 6 [(0, .ref (ad (0))), (1, .int (x1)), (2, .int (x2)), (3, .int (x3))] := hl
  obtain ⟨hn0, hn0', hn1, hn2, hn3, hn4⟩ := id hN
  refine lv_iload_n hx hb d_X_closed_0 rfl (lv_at hl 1 rfl) ?_
  refine lv_aload_n hx hb d_X_closed_1 rfl (lv_at hl 0 rfl) ?_
  refine nw_get hx hb hts i_X hown hK hw (0) (hW_0) rfl 0 (by decide) (hts _ kw_199) (fun _ h9 => h9) rfl d_X_closed_2 ?_
  refine nw_getN hx hb hts i_Farm hown hK hw (1) (hW_1) rfl 7 (by decide) (va_Nw.use rfl (hKs.2.2 _ kn_69 rfl)) (fun _ h9 => h9) rfl d_X_closed_5 ?_
  refine nx_callP (nx_goS (n := 2) (As := [.int (x1), .int (nI (n 1))]) (rest := []) hSx hA hKs hB hAs hw hS (c_X_requireOneOf l D tC A ad (hW ad tC n I K bw LA bM aM S) s0 hF hfl hAs (x1) (nI (n 1))) kw_391 kw_389 kw_390 kw_1 rfl rfl (by decide +kernel) ⟨Nat.le_of_ble_eq_true rfl, Nat.le_of_ble_eq_true rfl⟩ rfl hl.1 (Nat.le_of_ble_eq_true rfl) d_X_closed_8 ⟨Nat.le_of_ble_eq_true rfl, Nat.le_of_ble_eq_true rfl⟩) hQ hlocks hout hS (Nat.le_of_ble_eq_true rfl) (Nat.le_of_ble_eq_true rfl) (fun Y wn' ad' hpost => ?_) (fun rv wn' ad' H locs hpost hw hS => ?_)
  · skip
    obtain ⟨hY, hw0, had0, hnP⟩ := nx_req_x hpost
    subst hY
    exact ⟨hw0, had0, Or.inl ⟨rfl, fun h => hnP (h.1)⟩⟩
  obtain ⟨hv, hw0, had0, hP1⟩ := nx_req_i hpost
  rw [hw0, had0] at hw
  subst hv
  obtain ⟨i1, rfl, hi1⟩ := nat_of (by omega) hP1
  refine lv_aload_n hx hb d_X_closed_11 rfl (lv_at hl 0 rfl) ?_
  refine lv_iload_n hx hb d_X_closed_12 rfl (lv_at hl 2 rfl) ?_
  refine nx_callP (nx_goV (n := 1) (As := [.int (x2)]) (rest := []) hSx hA hKs hB hAs hw hS (c_X_requireWeek l D tC A ad n I K bw LA bM aM S hN s0 hF hfl hAs (x2)) kw_396 kw_393 kw_395 ks_X_requireWeek kw_1 rfl rfl (by decide +kernel) ⟨Nat.le_of_ble_eq_true rfl, Nat.le_of_ble_eq_true rfl⟩ (nw_recv hK hw (hW_0) rfl) rfl hl.1 (Nat.le_of_ble_eq_true rfl) d_X_closed_13 ⟨Nat.le_of_ble_eq_true rfl, Nat.le_of_ble_eq_true rfl⟩) hQ hlocks hout hS (Nat.le_of_ble_eq_true rfl) (Nat.le_of_ble_eq_true rfl) (fun Y wn' ad' hpost => ?_) (fun rv wn' ad' H locs hpost hw hS => ?_)
  · skip
    obtain ⟨hY, hw0, had0, hnP⟩ := nx_req_x hpost
    subst hY
    exact ⟨hw0, had0, Or.inl ⟨rfl, fun h => hnP (h.2)⟩⟩
  obtain ⟨hv, hw0, had0, hP2⟩ := nx_req_i hpost
  rw [hw0, had0] at hw
  subst hv
  obtain ⟨i2, rfl, hi2⟩ := nat_of (by omega) hP2
  refine lv_aload_n hx hb d_X_closed_16 rfl (lv_at hl 0 rfl) ?_
  refine nw_callD (nw_goV (n := 0) (As := []) (rest := []) hSx hA hKs hw hS (c_X_forgetPlan l D tC A ad n I K bw LA bM aM S hN) kw_360 kw_357 kw_359 ks_X_forgetPlan kw_1 rfl rfl (by decide +kernel) ⟨Nat.le_of_ble_eq_true rfl, Nat.le_of_ble_eq_true rfl⟩ (nw_recv hK hw (hW_0) rfl) rfl hl.1 (Nat.le_of_ble_eq_true rfl) d_X_closed_17 ⟨Nat.le_of_ble_eq_true rfl, Nat.le_of_ble_eq_true rfl⟩) hS (fun H locs hw hS => ?_)
  refine lv_aload_n hx hb d_X_closed_20 rfl (lv_at hl 0 rfl) ?_
  refine nw_get hx hb hts i_X hown hK hw (0) (hW_0) rfl 0 (by decide) (hts _ kw_199) (fun _ h9 => h9) rfl d_X_closed_21 ?_
  refine nw_getN hx hb hts i_Farm hown hK hw (1) (hW_1) rfl 1 (by decide) (va_Nw.use rfl (hKs.2.2 _ kn_52 rfl)) (fun _ h9 => h9) rfl d_X_closed_24 ?_
  refine lv_iload_n hx hb d_X_closed_27 rfl (lv_at hl 1 rfl) ?_
  refine nw_aald hx hb hK hw (6) 3 (hW_6) rfl (i1) (rfl) (by omega) (by omega) (y := ad (24 + i1)) (if_pos (by omega)) d_X_closed_28 ?_
  refine nw_getN hx hb hts i_Place hown hK hw (24 + i1) (hW_place hN (by omega)) rfl 1 (by decide) (va_Nw.use rfl (hKs.2.2 _ kn_370 rfl)) (fun _ h9 => h9) rfl d_X_closed_29 ?_
  refine lv_astore (lv' := [(4, .ref (ad (116 + i1))), (0, .ref (ad (0))), (1, .int (nI i1)), (2, .int (nI i2)), (3, .int (x3))]) hx hb d_X_closed_32 hl (by decide) rfl (fun ls hl => ?_)
  refine lv_aload hx hb d_X_closed_34 (lv_at hl 0 rfl) ?_
  refine lv_iload_n hx hb d_X_closed_36 rfl (lv_at hl 3 rfl) ?_
  refine nw_zald hx hb hK hw (116 + i1) 2 (hW_row (t := 1) (j := i1) (by decide) (by omega) (aX_place (by omega))) rfl (i2) (rfl) (by omega) (by omega) d_X_closed_37 ?_
  refine lv_ei (y := (upR S 0 0 (flR (S 0 0) (-1) 6)) 1 i1 i2) (congrFun (scr_rf 1 i1 (by omega)) _) ?_
  refine lv_istore (lv' := [(5, .int ((upR S 0 0 (flR (S 0 0) (-1) 6)) 1 i1 i2)), (4, .ref (ad (116 + i1))), (0, .ref (ad (0))), (1, .int (nI i1)), (2, .int (nI i2)), (3, .int (x3))]) hx hb d_X_closed_38 hl (by decide) rfl (fun ls hl => ?_)
  refine lv_aload hx hb d_X_closed_40 (lv_at hl 1 rfl) ?_
  refine lv_iload_n hx hb d_X_closed_42 rfl (lv_at hl 4 rfl) ?_
  refine lv_iload_n hx hb d_X_closed_43 rfl (lv_at hl 5 rfl) ?_
  refine nw_zast (z := x3) hx hb hK hw hS (116 + i1) 2 (hW_row (t := 1) (j := i1) (by decide) (by omega) (aX_place (by omega))) rfl (i2) (rfl) (by omega) (by omega) (by rcases hz with rfl | rfl <;> rfl) d_X_closed_44 (fun H locs hw hS => ?_)
  have hw := hW_setRow (t := 1) (j := i1) (by decide) (by omega) (aX_place (by omega)) hw
  refine lv_iload hx hb d_X_closed_45 (lv_at hl 0 rfl) ?_
  exact nx_ret hQ (nw_zret rfl hx hb hr (hzz i1 i2) hlocks hw hS (⟨fun h => h ⟨hP1, hP2⟩, fun h => h trivial, by rw [nI_clamp (n := i1) (by omega), nI_clamp (n := i2) (by omega)]; exact ⟨rfl, rfl, rfl⟩⟩) (Nat.le_of_ble_eq_true rfl) (Nat.le_of_ble_eq_true rfl) d_X_closed_47)

set_option maxHeartbeats 4000000 in
set_option maxRecDepth 100000 in
/-- weather -/
theorem c_X_weather (l : Launch) (D : va_G) (tC : Nat → ClassId) (A : Nat → Prop) (ad : Nat → Nat) (n : Nat → Nat) (I : Nat → Nat → Int32) (K : Nat → Int32) (bw : Int64) (LA : Nat → Int64) (bM : Nat → Option va_E) (aM : Nat → Nat → Option (ClassId × Nat)) (S : Nat → Nat → Nat → Int32) (hN : hpN n) (s0 : State) (hF : nx_F s0) (hfl : l.stackTraces = false) (hAs : ∀ q, A q → s0.heap.size ≤ q) (x1 x2 x3 : Int32) (hz : x3 = 0 ∨ x3 = 1) (hzz : ∀ j k, S 4 j k = 0 ∨ S 4 j k = 1) : nx_M l y_X_weather [Cond.code y_X_weather b_X_weather 6 (some .boolean)] ({ frames := 8, cells := 2, slots := 12, locals := 152 } : Room) D hpC A [.ref (ad (0)), .int (x1), .int (x2), .int (x3)] (nx_pre D hpC (hpT tC) A (hW ad tC n I K bw LA bM aM S) ad s0) (nx_po (¬ ((0 ≤ x1 ∧ x1 < nI (n 3)) ∧ (0 ≤ x2 ∧ x2 < nI (n 0)))) (¬ (True)) (hW ad tC n I K bw LA bM aM S) ad (nw_ok (some (.int ((upR S 0 0 (flR (S 0 0) (-1) 6)) 4 (x1.toNatClampNeg) (x2.toNatClampNeg)))) (hW ad tC n I (va_up K 0 (nI 0)) bw LA bM aM (upR (upR S 0 0 (flR (S 0 0) (-1) 6)) 4 (x1.toNatClampNeg) (upd ((upR S 0 0 (flR (S 0 0) (-1) 6)) 4 (x1.toNatClampNeg)) (x2.toNatClampNeg) x3))) ad)) 2 12 := by
  refine nx_bodyK (by decide) (Nat.le_of_ble_eq_true rfl) ?_
  intro p e s m below meth cd ls args Q hSx hr hlocks hout hB hA hKs hw hS hl hQ
  obtain ⟨hx, hb, hml, hown, hts⟩ := id hSx
  have hK := hKs.1
  have hl : lv_has ls 6 [(0, .ref (ad (0))), (1, .int (x1)), (2, .int (x2)), (3, .int (x3))] := hl
  obtain ⟨hn0, hn0', hn1, hn2, hn3, hn4⟩ := id hN
  refine lv_iload_n hx hb d_X_weather_0 rfl (lv_at hl 1 rfl) ?_
  refine lv_aload_n hx hb d_X_weather_1 rfl (lv_at hl 0 rfl) ?_
  refine nw_get hx hb hts i_X hown hK hw (0) (hW_0) rfl 0 (by decide) (hts _ kw_199) (fun _ h9 => h9) rfl d_X_weather_2 ?_
  refine nw_getN hx hb hts i_Farm hown hK hw (1) (hW_1) rfl 9 (by decide) (va_Nw.use rfl (hKs.2.2 _ kn_77 rfl)) (fun _ h9 => h9) rfl d_X_weather_5 ?_
  refine nx_callP (nx_goS (n := 2) (As := [.int (x1), .int (nI (n 3))]) (rest := []) hSx hA hKs hB hAs hw hS (c_X_requireOneOf l D tC A ad (hW ad tC n I K bw LA bM aM S) s0 hF hfl hAs (x1) (nI (n 3))) kw_391 kw_389 kw_390 kw_1 rfl rfl (by decide +kernel) ⟨Nat.le_of_ble_eq_true rfl, Nat.le_of_ble_eq_true rfl⟩ rfl hl.1 (Nat.le_of_ble_eq_true rfl) d_X_weather_8 ⟨Nat.le_of_ble_eq_true rfl, Nat.le_of_ble_eq_true rfl⟩) hQ hlocks hout hS (Nat.le_of_ble_eq_true rfl) (Nat.le_of_ble_eq_true rfl) (fun Y wn' ad' hpost => ?_) (fun rv wn' ad' H locs hpost hw hS => ?_)
  · skip
    obtain ⟨hY, hw0, had0, hnP⟩ := nx_req_x hpost
    subst hY
    exact ⟨hw0, had0, Or.inl ⟨rfl, fun h => hnP (h.1)⟩⟩
  obtain ⟨hv, hw0, had0, hP1⟩ := nx_req_i hpost
  rw [hw0, had0] at hw
  subst hv
  obtain ⟨i1, rfl, hi1⟩ := nat_of (by omega) hP1
  refine lv_aload_n hx hb d_X_weather_11 rfl (lv_at hl 0 rfl) ?_
  refine lv_iload_n hx hb d_X_weather_12 rfl (lv_at hl 2 rfl) ?_
  refine nx_callP (nx_goV (n := 1) (As := [.int (x2)]) (rest := []) hSx hA hKs hB hAs hw hS (c_X_requireWeek l D tC A ad n I K bw LA bM aM S hN s0 hF hfl hAs (x2)) kw_396 kw_393 kw_395 ks_X_requireWeek kw_1 rfl rfl (by decide +kernel) ⟨Nat.le_of_ble_eq_true rfl, Nat.le_of_ble_eq_true rfl⟩ (nw_recv hK hw (hW_0) rfl) rfl hl.1 (Nat.le_of_ble_eq_true rfl) d_X_weather_13 ⟨Nat.le_of_ble_eq_true rfl, Nat.le_of_ble_eq_true rfl⟩) hQ hlocks hout hS (Nat.le_of_ble_eq_true rfl) (Nat.le_of_ble_eq_true rfl) (fun Y wn' ad' hpost => ?_) (fun rv wn' ad' H locs hpost hw hS => ?_)
  · skip
    obtain ⟨hY, hw0, had0, hnP⟩ := nx_req_x hpost
    subst hY
    exact ⟨hw0, had0, Or.inl ⟨rfl, fun h => hnP (h.2)⟩⟩
  obtain ⟨hv, hw0, had0, hP2⟩ := nx_req_i hpost
  rw [hw0, had0] at hw
  subst hv
  obtain ⟨i2, rfl, hi2⟩ := nat_of (by omega) hP2
  refine lv_aload_n hx hb d_X_weather_16 rfl (lv_at hl 0 rfl) ?_
  refine nw_callD (nw_goV (n := 0) (As := []) (rest := []) hSx hA hKs hw hS (c_X_forgetPlan l D tC A ad n I K bw LA bM aM S hN) kw_360 kw_357 kw_359 ks_X_forgetPlan kw_1 rfl rfl (by decide +kernel) ⟨Nat.le_of_ble_eq_true rfl, Nat.le_of_ble_eq_true rfl⟩ (nw_recv hK hw (hW_0) rfl) rfl hl.1 (Nat.le_of_ble_eq_true rfl) d_X_weather_17 ⟨Nat.le_of_ble_eq_true rfl, Nat.le_of_ble_eq_true rfl⟩) hS (fun H locs hw hS => ?_)
  refine lv_aload_n hx hb d_X_weather_20 rfl (lv_at hl 0 rfl) ?_
  refine nw_get hx hb hts i_X hown hK hw (0) (hW_0) rfl 0 (by decide) (hts _ kw_199) (fun _ h9 => h9) rfl d_X_weather_21 ?_
  refine nw_getN hx hb hts i_Farm hown hK hw (1) (hW_1) rfl 3 (by decide) (va_Nw.use rfl (hKs.2.2 _ kn_59 rfl)) (fun _ h9 => h9) rfl d_X_weather_24 ?_
  refine lv_iload_n hx hb d_X_weather_27 rfl (lv_at hl 1 rfl) ?_
  refine nw_aald hx hb hK hw (8) 5 (hW_8) rfl (i1) (rfl) (by omega) (by omega) (y := ad (40 + i1)) (if_pos (by omega)) d_X_weather_28 ?_
  refine nw_getN hx hb hts i_Boat hown hK hw (40 + i1) (hW_boat hN (by omega)) rfl 1 (by decide) (va_Nw.use rfl (hKs.2.2 _ kn_455 rfl)) (fun _ h9 => h9) rfl d_X_weather_29 ?_
  refine lv_astore (lv' := [(4, .ref (ad (164 + i1))), (0, .ref (ad (0))), (1, .int (nI i1)), (2, .int (nI i2)), (3, .int (x3))]) hx hb d_X_weather_32 hl (by decide) rfl (fun ls hl => ?_)
  refine lv_aload hx hb d_X_weather_34 (lv_at hl 0 rfl) ?_
  refine lv_iload_n hx hb d_X_weather_36 rfl (lv_at hl 3 rfl) ?_
  refine nw_zald hx hb hK hw (164 + i1) 2 (hW_row (t := 4) (j := i1) (by decide) (by omega) (aX_boat (by omega))) rfl (i2) (rfl) (by omega) (by omega) d_X_weather_37 ?_
  refine lv_ei (y := (upR S 0 0 (flR (S 0 0) (-1) 6)) 4 i1 i2) (congrFun (scr_rf 4 i1 (by omega)) _) ?_
  refine lv_istore (lv' := [(5, .int ((upR S 0 0 (flR (S 0 0) (-1) 6)) 4 i1 i2)), (4, .ref (ad (164 + i1))), (0, .ref (ad (0))), (1, .int (nI i1)), (2, .int (nI i2)), (3, .int (x3))]) hx hb d_X_weather_38 hl (by decide) rfl (fun ls hl => ?_)
  refine lv_aload hx hb d_X_weather_40 (lv_at hl 1 rfl) ?_
  refine lv_iload_n hx hb d_X_weather_42 rfl (lv_at hl 4 rfl) ?_
  refine lv_iload_n hx hb d_X_weather_43 rfl (lv_at hl 5 rfl) ?_
  refine nw_zast (z := x3) hx hb hK hw hS (164 + i1) 2 (hW_row (t := 4) (j := i1) (by decide) (by omega) (aX_boat (by omega))) rfl (i2) (rfl) (by omega) (by omega) (by rcases hz with rfl | rfl <;> rfl) d_X_weather_44 (fun H locs hw hS => ?_)
  have hw := hW_setRow (t := 4) (j := i1) (by decide) (by omega) (aX_boat (by omega)) hw
  refine lv_iload hx hb d_X_weather_45 (lv_at hl 0 rfl) ?_
  exact nx_ret hQ (nw_zret rfl hx hb hr (hzz i1 i2) hlocks hw hS (⟨fun h => h ⟨hP1, hP2⟩, fun h => h trivial, by rw [nI_clamp (n := i1) (by omega), nI_clamp (n := i2) (by omega)]; exact ⟨rfl, rfl, rfl⟩⟩) (Nat.le_of_ble_eq_true rfl) (Nat.le_of_ble_eq_true rfl) d_X_weather_47)

set_option maxHeartbeats 4000000 in
set_option maxRecDepth 100000 in
/-- size -/
theorem c_X_size (l : Launch) (D : va_G) (tC : Nat → ClassId) (A : Nat → Prop) (ad : Nat → Nat) (n : Nat → Nat) (I : Nat → Nat → Int32) (K : Nat → Int32) (bw : Int64) (LA : Nat → Int64) (bM : Nat → Option va_E) (aM : Nat → Nat → Option (ClassId × Nat)) (S : Nat → Nat → Nat → Int32) (hN : hpN n) (s0 : State) (hF : nx_F s0) (hfl : l.stackTraces = false) (hAs : ∀ q, A q → s0.heap.size ≤ q) (x1 x2 x3 x4 : Int32) : nx_M l y_X_size [Cond.code y_X_size b_X_size 6 (some .int)] ({ frames := 8, cells := 4, slots := 24, locals := 152 } : Room) D hpC A [.ref (ad (0)), .int (x1), .int (x2), .int (x3), .int (x4)] (nx_pre D hpC (hpT tC) A (hW ad tC n I K bw LA bM aM S) ad s0) (nx_po (¬ ((0 ≤ x1 ∧ x1 < nI (n 2)) ∧ (0 ≤ x2 ∧ x2 < nI (n 0)) ∧ (nI 0 ≤ x3 ∧ x3 ≤ nI 20000) ∧ (nI 0 ≤ x4 ∧ x4 ≤ 100000))) (¬ (True)) (hW ad tC n I K bw LA bM aM S) ad (nw_ok (some (.int ((x3 * x4) / (nI 1000)))) (hW ad tC n I (va_up K 0 (nI 0)) bw LA bM aM (upR (upR (upR S 0 0 (flR (S 0 0) (-1) 6)) 2 (x1.toNatClampNeg) (upd ((upR S 0 0 (flR (S 0 0) (-1) 6)) 2 (x1.toNatClampNeg)) (x2.toNatClampNeg) x3)) 3 (x1.toNatClampNeg) (upd ((upR (upR S 0 0 (flR (S 0 0) (-1) 6)) 2 (x1.toNatClampNeg) (upd ((upR S 0 0 (flR (S 0 0) (-1) 6)) 2 (x1.toNatClampNeg)) (x2.toNatClampNeg) x3)) 3 (x1.toNatClampNeg)) (x2.toNatClampNeg) ((x3 * x4) / (nI 1000))))) ad)) 4 24 := by
  refine nx_bodyK (by decide) (Nat.le_of_ble_eq_true rfl) ?_
  intro p e s m below meth cd ls args Q hSx hr hlocks hout hB hA hKs hw hS hl hQ
  obtain ⟨hx, hb, hml, hown, hts⟩ := id hSx
  have hK := hKs.1
  have hl : lv_has ls 6 [(0, .ref (ad (0))), (1, .int (x1)), (2, .int (x2)), (3, .int (x3)), (4, .int (x4))] := hl
  obtain ⟨hn0, hn0', hn1, hn2, hn3, hn4⟩ := id hN
  refine lv_iload_n hx hb d_X_size_0 rfl (lv_at hl 1 rfl) ?_
  refine lv_aload_n hx hb d_X_size_1 rfl (lv_at hl 0 rfl) ?_
  refine nw_get hx hb hts i_X hown hK hw (0) (hW_0) rfl 0 (by decide) (hts _ kw_199) (fun _ h9 => h9) rfl d_X_size_2 ?_
  refine nw_getN hx hb hts i_Farm hown hK hw (1) (hW_1) rfl 8 (by decide) (va_Nw.use rfl (hKs.2.2 _ kn_74 rfl)) (fun _ h9 => h9) rfl d_X_size_5 ?_
  refine nx_callP (nx_goS (n := 2) (As := [.int (x1), .int (nI (n 2))]) (rest := []) hSx hA hKs hB hAs hw hS (c_X_requireOneOf l D tC A ad (hW ad tC n I K bw LA bM aM S) s0 hF hfl hAs (x1) (nI (n 2))) kw_391 kw_389 kw_390 kw_1 rfl rfl (by decide +kernel) ⟨Nat.le_of_ble_eq_true rfl, Nat.le_of_ble_eq_true rfl⟩ rfl hl.1 (Nat.le_of_ble_eq_true rfl) d_X_size_8 ⟨Nat.le_of_ble_eq_true rfl, Nat.le_of_ble_eq_true rfl⟩) hQ hlocks hout hS (Nat.le_of_ble_eq_true rfl) (Nat.le_of_ble_eq_true rfl) (fun Y wn' ad' hpost => ?_) (fun rv wn' ad' H locs hpost hw hS => ?_)
  · skip
    obtain ⟨hY, hw0, had0, hnP⟩ := nx_req_x hpost
    subst hY
    exact ⟨hw0, had0, Or.inl ⟨rfl, fun h => hnP (h.1)⟩⟩
  obtain ⟨hv, hw0, had0, hP1⟩ := nx_req_i hpost
  rw [hw0, had0] at hw
  subst hv
  obtain ⟨i1, rfl, hi1⟩ := nat_of (by omega) hP1
  refine lv_aload_n hx hb d_X_size_11 rfl (lv_at hl 0 rfl) ?_
  refine lv_iload_n hx hb d_X_size_12 rfl (lv_at hl 2 rfl) ?_
  refine nx_callP (nx_goV (n := 1) (As := [.int (x2)]) (rest := []) hSx hA hKs hB hAs hw hS (c_X_requireWeek l D tC A ad n I K bw LA bM aM S hN s0 hF hfl hAs (x2)) kw_396 kw_393 kw_395 ks_X_requireWeek kw_1 rfl rfl (by decide +kernel) ⟨Nat.le_of_ble_eq_true rfl, Nat.le_of_ble_eq_true rfl⟩ (nw_recv hK hw (hW_0) rfl) rfl hl.1 (Nat.le_of_ble_eq_true rfl) d_X_size_13 ⟨Nat.le_of_ble_eq_true rfl, Nat.le_of_ble_eq_true rfl⟩) hQ hlocks hout hS (Nat.le_of_ble_eq_true rfl) (Nat.le_of_ble_eq_true rfl) (fun Y wn' ad' hpost => ?_) (fun rv wn' ad' H locs hpost hw hS => ?_)
  · skip
    obtain ⟨hY, hw0, had0, hnP⟩ := nx_req_x hpost
    subst hY
    exact ⟨hw0, had0, Or.inl ⟨rfl, fun h => hnP (h.2.1)⟩⟩
  obtain ⟨hv, hw0, had0, hP2⟩ := nx_req_i hpost
  rw [hw0, had0] at hw
  subst hv
  obtain ⟨i2, rfl, hi2⟩ := nat_of (by omega) hP2
  refine lv_iload_n hx hb d_X_size_16 rfl (lv_at hl 3 rfl) ?_
  refine lv_iconst (v := nI 0) hx hb d_X_size_17 (by decide) ?_
  refine lv_sipush (v := nI 20000) hx hb d_X_size_18 (by decide) ?_
  refine nx_callP (nx_goS (n := 3) (As := [.int (x3), .int (nI 0), .int (nI 20000)]) (rest := []) hSx hA hKs hB hAs hw hS (c_X_requireWithin l D tC A ad (hW ad tC n I K bw LA bM aM S) s0 hF hfl hAs (x3) (nI 0) (nI 20000)) kw_270 kw_268 kw_269 kw_1 rfl rfl (by decide +kernel) ⟨Nat.le_of_ble_eq_true rfl, Nat.le_of_ble_eq_true rfl⟩ rfl hl.1 (Nat.le_of_ble_eq_true rfl) d_X_size_21 ⟨Nat.le_of_ble_eq_true rfl, Nat.le_of_ble_eq_true rfl⟩) hQ hlocks hout hS (Nat.le_of_ble_eq_true rfl) (Nat.le_of_ble_eq_true rfl) (fun Y wn' ad' hpost => ?_) (fun rv wn' ad' H locs hpost hw hS => ?_)
  · skip
    obtain ⟨hY, hw0, had0, hnP⟩ := nx_req_x hpost
    subst hY
    exact ⟨hw0, had0, Or.inl ⟨rfl, fun h => hnP (h.2.2.1)⟩⟩
  obtain ⟨hv, hw0, had0, hP3⟩ := nx_req_i hpost
  rw [hw0, had0] at hw
  subst hv
  refine lv_iload hx hb d_X_size_24 (lv_at hl 4 rfl) ?_
  refine lv_iconst (v := nI 0) hx hb d_X_size_26 (by decide) ?_
  refine lv_ldc (v := 100000) hx hb hown (hts _ kw_438) d_X_size_27 ?_
  refine nx_callP (nx_goS (n := 3) (As := [.int (x4), .int (nI 0), .int (100000)]) (rest := []) hSx hA hKs hB hAs hw hS (c_X_requireWithin l D tC A ad (hW ad tC n I K bw LA bM aM S) s0 hF hfl hAs (x4) (nI 0) (100000)) kw_270 kw_268 kw_269 kw_1 rfl rfl (by decide +kernel) ⟨Nat.le_of_ble_eq_true rfl, Nat.le_of_ble_eq_true rfl⟩ rfl hl.1 (Nat.le_of_ble_eq_true rfl) d_X_size_29 ⟨Nat.le_of_ble_eq_true rfl, Nat.le_of_ble_eq_true rfl⟩) hQ hlocks hout hS (Nat.le_of_ble_eq_true rfl) (Nat.le_of_ble_eq_true rfl) (fun Y wn' ad' hpost => ?_) (fun rv wn' ad' H locs hpost hw hS => ?_)
  · skip
    obtain ⟨hY, hw0, had0, hnP⟩ := nx_req_x hpost
    subst hY
    exact ⟨hw0, had0, Or.inl ⟨rfl, fun h => hnP (h.2.2.2)⟩⟩
  obtain ⟨hv, hw0, had0, hP4⟩ := nx_req_i hpost
  rw [hw0, had0] at hw
  subst hv
  refine lv_aload_n hx hb d_X_size_32 rfl (lv_at hl 0 rfl) ?_
  refine nw_callD (nw_goV (n := 0) (As := []) (rest := []) hSx hA hKs hw hS (c_X_forgetPlan l D tC A ad n I K bw LA bM aM S hN) kw_360 kw_357 kw_359 ks_X_forgetPlan kw_1 rfl rfl (by decide +kernel) ⟨Nat.le_of_ble_eq_true rfl, Nat.le_of_ble_eq_true rfl⟩ (nw_recv hK hw (hW_0) rfl) rfl hl.1 (Nat.le_of_ble_eq_true rfl) d_X_size_33 ⟨Nat.le_of_ble_eq_true rfl, Nat.le_of_ble_eq_true rfl⟩) hS (fun H locs hw hS => ?_)
  refine lv_aload_n hx hb d_X_size_36 rfl (lv_at hl 0 rfl) ?_
  refine nw_get hx hb hts i_X hown hK hw (0) (hW_0) rfl 0 (by decide) (hts _ kw_199) (fun _ h9 => h9) rfl d_X_size_37 ?_
  refine nw_getN hx hb hts i_Farm hown hK hw (1) (hW_1) rfl 2 (by decide) (va_Nw.use rfl (hKs.2.2 _ kn_57 rfl)) (fun _ h9 => h9) rfl d_X_size_40 ?_
  refine lv_iload_n hx hb d_X_size_43 rfl (lv_at hl 1 rfl) ?_
  refine nw_aald hx hb hK hw (7) 4 (hW_7) rfl (i1) (rfl) (by omega) (by omega) (y := ad (32 + i1)) (if_pos (by omega)) d_X_size_44 ?_
  refine lv_astore (lv' := [(5, .ref (ad (32 + i1))), (0, .ref (ad (0))), (1, .int (nI i1)), (2, .int (nI i2)), (3, .int (x3)), (4, .int (x4))]) hx hb d_X_size_45 hl (by decide) rfl (fun ls hl => ?_)
  refine lv_aload hx hb d_X_size_47 (lv_at hl 0 rfl) ?_
  refine nw_getN hx hb hts i_Cage hown hK hw (32 + i1) (hW_cage hN (by omega)) rfl 1 (by decide) (va_Nw.use rfl (hKs.2.2 _ kn_414 rfl)) (fun _ h9 => h9) rfl d_X_size_49 ?_
  refine lv_iload_n hx hb d_X_size_52 rfl (lv_at hl 3 rfl) ?_
  refine lv_iload_n hx hb d_X_size_53 rfl (lv_at hl 4 rfl) ?_
  refine nw_iast hx hb hK hw hS (132 + i1) 0 (hW_row (t := 2) (j := i1) (by decide) (by omega) (aX_cage (Or.inl rfl) (by omega))) rfl (i2) (rfl) (by omega) (by omega) d_X_size_54 (fun H locs hw hS => ?_)
  have hw := hW_setRow (t := 2) (j := i1) (by decide) (by omega) (aX_cage (Or.inl rfl) (by omega)) hw
  refine lv_aload hx hb d_X_size_55 (lv_at hl 0 rfl) ?_
  refine nw_getN hx hb hts i_Cage hown hK hw (32 + i1) (hW_cage hN (by omega)) rfl 2 (by decide) (va_Nw.use rfl (hKs.2.2 _ kn_418 rfl)) (fun _ h9 => h9) rfl d_X_size_57 ?_
  refine lv_iload_n hx hb d_X_size_60 rfl (lv_at hl 3 rfl) ?_
  refine lv_iload_n hx hb d_X_size_61 rfl (lv_at hl 4 rfl) ?_
  refine lv_iload hx hb d_X_size_62 (lv_at hl 5 rfl) ?_
  refine lv_imul hx hb d_X_size_64 ?_
  refine lv_sipush (v := nI 1000) hx hb d_X_size_65 (by decide) ?_
  refine lv_idiv hx hb d_X_size_68 (by decide) ?_
  refine nw_iast hx hb hK hw hS (148 + i1) 0 (hW_row (t := 3) (j := i1) (by decide) (by omega) (aX_cage (Or.inr rfl) (by omega))) rfl (i2) (rfl) (by omega) (by omega) d_X_size_69 (fun H locs hw hS => ?_)
  have hw := hW_setRow (t := 3) (j := i1) (by decide) (by omega) (aX_cage (Or.inr rfl) (by omega)) hw
  
  refine lv_aload hx hb d_X_size_70 (lv_at hl 0 rfl) ?_
  refine nw_getN hx hb hts i_Cage hown hK hw (32 + i1) (hW_cage hN (by omega)) rfl 2 (by decide) (va_Nw.use rfl (hKs.2.2 _ kn_418 rfl)) (fun _ h9 => h9) rfl d_X_size_72 ?_
  refine lv_iload_n hx hb d_X_size_75 rfl (lv_at hl 3 rfl) ?_
  refine nw_iald hx hb hK hw (148 + i1) 0 (hW_row (t := 3) (j := i1) (by decide) (by omega) (aX_cage (Or.inr rfl) (by omega))) rfl (i2) (rfl) (by omega) (by omega) d_X_size_76 ?_
  refine lv_ei (y := (upd ((upR S 0 0 (flR (S 0 0) (-1) 6)) 3 i1) i2 ((((x3) * (x4))) / (nI 1000))) i2) (congrFun upR_self _) ?_
  refine lv_ei (y := ((x3 * x4) / (nI 1000))) (pk_us) ?_
  exact nx_ret hQ (nw_iret rfl hx hb hr hlocks hw hS (⟨fun h => h ⟨hP1, hP2, hP3, hP4⟩, fun h => h trivial, by rw [nI_clamp (n := i1) (by omega), nI_clamp (n := i2) (by omega)]; exact ⟨rfl, rfl, rfl⟩⟩) (Nat.le_of_ble_eq_true rfl) (Nat.le_of_ble_eq_true rfl) d_X_size_77)

set_option maxHeartbeats 4000000 in
set_option maxRecDepth 100000 in
/-- plant -/
theorem c_X_plant (l : Launch) (D : va_G) (tC : Nat → ClassId) (A : Nat → Prop) (ad : Nat → Nat) (n : Nat → Nat) (I : Nat → Nat → Int32) (K : Nat → Int32) (bw : Int64) (LA : Nat → Int64) (bM : Nat → Option va_E) (aM : Nat → Nat → Option (ClassId × Nat)) (S : Nat → Nat → Nat → Int32) (hN : hpN n) (s0 : State) (hF : nx_F s0) (hfl : l.stackTraces = false) (hAs : ∀ q, A q → s0.heap.size ≤ q) (x1 x2 : Int32) : nx_M l y_X_plant [Cond.code y_X_plant b_X_plant 4 (some .int)] ({ frames := 8, cells := 2, slots := 12, locals := 152 } : Room) D hpC A [.ref (ad (0)), .int (x1), .int (x2)] (nx_pre D hpC (hpT tC) A (hW ad tC n I K bw LA bM aM S) ad s0) (nx_po (¬ ((0 ≤ x1 ∧ x1 < nI (n 0)) ∧ (nI 0 ≤ x2 ∧ x2 ≤ 100000000))) (¬ (True)) (hW ad tC n I K bw LA bM aM S) ad (nw_ok (some (.int ((upR S 0 0 (flR (S 0 0) (-1) 6)) 0 2 (x1.toNatClampNeg)))) (hW ad tC n I (va_up K 0 (nI 0)) bw LA bM aM (upR (upR S 0 0 (flR (S 0 0) (-1) 6)) 0 2 (upd ((upR S 0 0 (flR (S 0 0) (-1) 6)) 0 2) (x1.toNatClampNeg) x2))) ad)) 2 12 := by
  refine nx_bodyK (by decide) (Nat.le_of_ble_eq_true rfl) ?_
  intro p e s m below meth cd ls args Q hSx hr hlocks hout hB hA hKs hw hS hl hQ
  obtain ⟨hx, hb, hml, hown, hts⟩ := id hSx
  have hK := hKs.1
  have hl : lv_has ls 4 [(0, .ref (ad (0))), (1, .int (x1)), (2, .int (x2))] := hl
  obtain ⟨hn0, hn0', hn1, hn2, hn3, hn4⟩ := id hN
  refine lv_aload_n hx hb d_X_plant_0 rfl (lv_at hl 0 rfl) ?_
  refine lv_iload_n hx hb d_X_plant_1 rfl (lv_at hl 1 rfl) ?_
  refine nx_callP (nx_goV (n := 1) (As := [.int (x1)]) (rest := []) hSx hA hKs hB hAs hw hS (c_X_requireWeek l D tC A ad n I K bw LA bM aM S hN s0 hF hfl hAs (x1)) kw_396 kw_393 kw_395 ks_X_requireWeek kw_1 rfl rfl (by decide +kernel) ⟨Nat.le_of_ble_eq_true rfl, Nat.le_of_ble_eq_true rfl⟩ (nw_recv hK hw (hW_0) rfl) rfl hl.1 (Nat.le_of_ble_eq_true rfl) d_X_plant_2 ⟨Nat.le_of_ble_eq_true rfl, Nat.le_of_ble_eq_true rfl⟩) hQ hlocks hout hS (Nat.le_of_ble_eq_true rfl) (Nat.le_of_ble_eq_true rfl) (fun Y wn' ad' hpost => ?_) (fun rv wn' ad' H locs hpost hw hS => ?_)
  · skip
    obtain ⟨hY, hw0, had0, hnP⟩ := nx_req_x hpost
    subst hY
    exact ⟨hw0, had0, Or.inl ⟨rfl, fun h => hnP (h.1)⟩⟩
  obtain ⟨hv, hw0, had0, hP1⟩ := nx_req_i hpost
  rw [hw0, had0] at hw
  subst hv
  obtain ⟨i1, rfl, hi1⟩ := nat_of (by omega) hP1
  refine lv_iload_n hx hb d_X_plant_5 rfl (lv_at hl 2 rfl) ?_
  refine lv_iconst (v := nI 0) hx hb d_X_plant_6 (by decide) ?_
  refine lv_ldc (v := 100000000) hx hb hown (hts _ kw_267) d_X_plant_7 ?_
  refine nx_callP (nx_goS (n := 3) (As := [.int (x2), .int (nI 0), .int (100000000)]) (rest := []) hSx hA hKs hB hAs hw hS (c_X_requireWithin l D tC A ad (hW ad tC n I K bw LA bM aM S) s0 hF hfl hAs (x2) (nI 0) (100000000)) kw_270 kw_268 kw_269 kw_1 rfl rfl (by decide +kernel) ⟨Nat.le_of_ble_eq_true rfl, Nat.le_of_ble_eq_true rfl⟩ rfl hl.1 (Nat.le_of_ble_eq_true rfl) d_X_plant_9 ⟨Nat.le_of_ble_eq_true rfl, Nat.le_of_ble_eq_true rfl⟩) hQ hlocks hout hS (Nat.le_of_ble_eq_true rfl) (Nat.le_of_ble_eq_true rfl) (fun Y wn' ad' hpost => ?_) (fun rv wn' ad' H locs hpost hw hS => ?_)
  · skip
    obtain ⟨hY, hw0, had0, hnP⟩ := nx_req_x hpost
    subst hY
    exact ⟨hw0, had0, Or.inl ⟨rfl, fun h => hnP (h.2)⟩⟩
  obtain ⟨hv, hw0, had0, hP2⟩ := nx_req_i hpost
  rw [hw0, had0] at hw
  subst hv
  refine lv_aload_n hx hb d_X_plant_12 rfl (lv_at hl 0 rfl) ?_
  refine nw_callD (nw_goV (n := 0) (As := []) (rest := []) hSx hA hKs hw hS (c_X_forgetPlan l D tC A ad n I K bw LA bM aM S hN) kw_360 kw_357 kw_359 ks_X_forgetPlan kw_1 rfl rfl (by decide +kernel) ⟨Nat.le_of_ble_eq_true rfl, Nat.le_of_ble_eq_true rfl⟩ (nw_recv hK hw (hW_0) rfl) rfl hl.1 (Nat.le_of_ble_eq_true rfl) d_X_plant_13 ⟨Nat.le_of_ble_eq_true rfl, Nat.le_of_ble_eq_true rfl⟩) hS (fun H locs hw hS => ?_)
  refine lv_aload_n hx hb d_X_plant_16 rfl (lv_at hl 0 rfl) ?_
  refine nw_get hx hb hts i_X hown hK hw (0) (hW_0) rfl 0 (by decide) (hts _ kw_199) (fun _ h9 => h9) rfl d_X_plant_17 ?_
  refine nw_getN hx hb hts i_Farm hown hK hw (1) (hW_1) rfl 6 (by decide) (va_Nw.use rfl (hKs.2.2 _ kn_67 rfl)) (fun _ h9 => h9) rfl d_X_plant_20 ?_
  refine lv_iload_n hx hb d_X_plant_23 rfl (lv_at hl 1 rfl) ?_
  refine nw_iald hx hb hK hw (102) 0 (hW_row (t := 0) (j := 2) (by decide) (by omega) (rfl)) rfl (i1) (rfl) (by omega) (by omega) d_X_plant_24 ?_
  refine lv_ei (y := (upR S 0 0 (flR (S 0 0) (-1) 6)) 0 2 i1) (congrFun (scr_rf 0 2 (by omega)) _) ?_
  refine lv_istore_n (lv' := [(3, .int ((upR S 0 0 (flR (S 0 0) (-1) 6)) 0 2 i1)), (0, .ref (ad (0))), (1, .int (nI i1)), (2, .int (x2))]) hx hb d_X_plant_25 rfl hl (by decide) rfl (fun ls hl => ?_)
  refine lv_aload_n hx hb d_X_plant_26 rfl (lv_at hl 1 rfl) ?_
  refine nw_get hx hb hts i_X hown hK hw (0) (hW_0) rfl 0 (by decide) (hts _ kw_199) (fun _ h9 => h9) rfl d_X_plant_27 ?_
  refine nw_getN hx hb hts i_Farm hown hK hw (1) (hW_1) rfl 6 (by decide) (va_Nw.use rfl (hKs.2.2 _ kn_67 rfl)) (fun _ h9 => h9) rfl d_X_plant_30 ?_
  refine lv_iload_n hx hb d_X_plant_33 rfl (lv_at hl 2 rfl) ?_
  refine lv_iload_n hx hb d_X_plant_34 rfl (lv_at hl 3 rfl) ?_
  refine nw_iast hx hb hK hw hS (102) 0 (hW_row (t := 0) (j := 2) (by decide) (by omega) (rfl)) rfl (i1) (rfl) (by omega) (by omega) d_X_plant_35 (fun H locs hw hS => ?_)
  have hw := hW_setRow (t := 0) (j := 2) (by decide) (by omega) (rfl) hw
  refine lv_iload_n hx hb d_X_plant_36 rfl (lv_at hl 0 rfl) ?_
  exact nx_ret hQ (nw_iret rfl hx hb hr hlocks hw hS (⟨fun h => h ⟨hP1, hP2⟩, fun h => h trivial, by rw [nI_clamp (n := i1) (by omega)]; exact ⟨rfl, rfl, rfl⟩⟩) (Nat.le_of_ble_eq_true rfl) (Nat.le_of_ble_eq_true rfl) d_X_plant_37)

set_option maxHeartbeats 4000000 in
set_option maxRecDepth 100000 in
/-- prices -/
theorem c_X_prices (l : Launch) (D : va_G) (tC : Nat → ClassId) (A : Nat → Prop) (ad : Nat → Nat) (n : Nat → Nat) (I : Nat → Nat → Int32) (K : Nat → Int32) (bw : Int64) (LA : Nat → Int64) (bM : Nat → Option va_E) (aM : Nat → Nat → Option (ClassId × Nat)) (S : Nat → Nat → Nat → Int32) (hN : hpN n) (s0 : State) (hF : nx_F s0) (hfl : l.stackTraces = false) (hAs : ∀ q, A q → s0.heap.size ≤ q) (x1 x2 : Int32) : nx_M l y_X_prices [Cond.code y_X_prices b_X_prices 3 none] ({ frames := 7, cells := 2, slots := 12, locals := 132 } : Room) D hpC A [.ref (ad (0)), .int (x1), .int (x2)] (nx_pre D hpC (hpT tC) A (hW ad tC n I K bw LA bM aM S) ad s0) (nx_po (¬ ((nI 0 ≤ x1 ∧ x1 ≤ nI 10000) ∧ (nI 0 ≤ x2 ∧ x2 ≤ nI 10000))) (¬ (True)) (hW ad tC n I K bw LA bM aM S) ad (nw_ok (none) (hW ad tC n (up2 (up2 I 0 1 x1) 0 2 x2) (va_up K 0 (nI 0)) bw LA bM aM (upR S 0 0 (flR (S 0 0) (-1) 6))) ad)) 2 12 := by
  refine nx_bodyK (by decide) (Nat.le_of_ble_eq_true rfl) ?_
  intro p e s m below meth cd ls args Q hSx hr hlocks hout hB hA hKs hw hS hl hQ
  obtain ⟨hx, hb, hml, hown, hts⟩ := id hSx
  have hK := hKs.1
  have hl : lv_has ls 3 [(0, .ref (ad (0))), (1, .int (x1)), (2, .int (x2))] := hl
  obtain ⟨hn0, hn0', hn1, hn2, hn3, hn4⟩ := id hN
  refine lv_iload_n hx hb d_X_prices_0 rfl (lv_at hl 1 rfl) ?_
  refine lv_iconst (v := nI 0) hx hb d_X_prices_1 (by decide) ?_
  refine lv_sipush (v := nI 10000) hx hb d_X_prices_2 (by decide) ?_
  refine nx_callP (nx_goS (n := 3) (As := [.int (x1), .int (nI 0), .int (nI 10000)]) (rest := []) hSx hA hKs hB hAs hw hS (c_X_requireWithin l D tC A ad (hW ad tC n I K bw LA bM aM S) s0 hF hfl hAs (x1) (nI 0) (nI 10000)) kw_270 kw_268 kw_269 kw_1 rfl rfl (by decide +kernel) ⟨Nat.le_of_ble_eq_true rfl, Nat.le_of_ble_eq_true rfl⟩ rfl hl.1 (Nat.le_of_ble_eq_true rfl) d_X_prices_5 ⟨Nat.le_of_ble_eq_true rfl, Nat.le_of_ble_eq_true rfl⟩) hQ hlocks hout hS (Nat.le_of_ble_eq_true rfl) (Nat.le_of_ble_eq_true rfl) (fun Y wn' ad' hpost => ?_) (fun rv wn' ad' H locs hpost hw hS => ?_)
  · skip
    obtain ⟨hY, hw0, had0, hnP⟩ := nx_req_x hpost
    subst hY
    exact ⟨hw0, had0, Or.inl ⟨rfl, fun h => hnP (h.1)⟩⟩
  obtain ⟨hv, hw0, had0, hP1⟩ := nx_req_i hpost
  rw [hw0, had0] at hw
  subst hv
  refine lv_iload_n hx hb d_X_prices_8 rfl (lv_at hl 2 rfl) ?_
  refine lv_iconst (v := nI 0) hx hb d_X_prices_9 (by decide) ?_
  refine lv_sipush (v := nI 10000) hx hb d_X_prices_10 (by decide) ?_
  refine nx_callP (nx_goS (n := 3) (As := [.int (x2), .int (nI 0), .int (nI 10000)]) (rest := []) hSx hA hKs hB hAs hw hS (c_X_requireWithin l D tC A ad (hW ad tC n I K bw LA bM aM S) s0 hF hfl hAs (x2) (nI 0) (nI 10000)) kw_270 kw_268 kw_269 kw_1 rfl rfl (by decide +kernel) ⟨Nat.le_of_ble_eq_true rfl, Nat.le_of_ble_eq_true rfl⟩ rfl hl.1 (Nat.le_of_ble_eq_true rfl) d_X_prices_13 ⟨Nat.le_of_ble_eq_true rfl, Nat.le_of_ble_eq_true rfl⟩) hQ hlocks hout hS (Nat.le_of_ble_eq_true rfl) (Nat.le_of_ble_eq_true rfl) (fun Y wn' ad' hpost => ?_) (fun rv wn' ad' H locs hpost hw hS => ?_)
  · skip
    obtain ⟨hY, hw0, had0, hnP⟩ := nx_req_x hpost
    subst hY
    exact ⟨hw0, had0, Or.inl ⟨rfl, fun h => hnP (h.2)⟩⟩
  obtain ⟨hv, hw0, had0, hP2⟩ := nx_req_i hpost
  rw [hw0, had0] at hw
  subst hv
  refine lv_aload_n hx hb d_X_prices_16 rfl (lv_at hl 0 rfl) ?_
  refine nw_callD (nw_goV (n := 0) (As := []) (rest := []) hSx hA hKs hw hS (c_X_forgetPlan l D tC A ad n I K bw LA bM aM S hN) kw_360 kw_357 kw_359 ks_X_forgetPlan kw_1 rfl rfl (by decide +kernel) ⟨Nat.le_of_ble_eq_true rfl, Nat.le_of_ble_eq_true rfl⟩ (nw_recv hK hw (hW_0) rfl) rfl hl.1 (Nat.le_of_ble_eq_true rfl) d_X_prices_17 ⟨Nat.le_of_ble_eq_true rfl, Nat.le_of_ble_eq_true rfl⟩) hS (fun H locs hw hS => ?_)
  refine lv_aload_n hx hb d_X_prices_20 rfl (lv_at hl 0 rfl) ?_
  refine nw_get hx hb hts i_X hown hK hw (0) (hW_0) rfl 0 (by decide) (hts _ kw_199) (fun _ h9 => h9) rfl d_X_prices_21 ?_
  refine lv_iload_n hx hb d_X_prices_24 rfl (lv_at hl 1 rfl) ?_
  refine nw_putN (v := .int (x1)) (ty := .int) hx hb hts i_Farm t_Farm tk_Farm n_Farm hown hK hw hS (1) (hW_1) rfl 11 (by decide) (va_Nw.use rfl (hKs.2.2 _ kn_84 rfl)) (fun _ h9 => h9) rfl (by decide +kernel) (rfl) (rfl) (Nat.le_of_ble_eq_true rfl) d_X_prices_25 (fun H locs hw hS => ?_)
  have hw := hW_setSpot hw
  refine lv_aload_n hx hb d_X_prices_28 rfl (lv_at hl 0 rfl) ?_
  refine nw_get hx hb hts i_X hown hK hw (0) (hW_0) rfl 0 (by decide) (hts _ kw_199) (fun _ h9 => h9) rfl d_X_prices_29 ?_
  refine lv_iload_n hx hb d_X_prices_32 rfl (lv_at hl 2 rfl) ?_
  refine nw_putN (v := .int (x2)) (ty := .int) hx hb hts i_Farm t_Farm tk_Farm n_Farm hown hK hw hS (1) (hW_1) rfl 12 (by decide) (va_Nw.use rfl (hKs.2.2 _ kn_86 rfl)) (fun _ h9 => h9) rfl (by decide +kernel) (rfl) (rfl) (Nat.le_of_ble_eq_true rfl) d_X_prices_33 (fun H locs hw hS => ?_)
  have hw := hW_setKeep hw
  exact nx_ret hQ (nw_vret rfl hx hb hr hlocks hw hS (⟨fun h => h ⟨hP1, hP2⟩, fun h => h trivial, nw_ok_rf⟩) (Nat.le_of_ble_eq_true rfl) (Nat.le_of_ble_eq_true rfl) d_X_prices_36)

set_option maxHeartbeats 4000000 in
set_option maxRecDepth 100000 in
/-- taken -/
theorem c_X_taken (l : Launch) (D : va_G) (tC : Nat → ClassId) (A : Nat → Prop) (ad : Nat → Nat) (n : Nat → Nat) (I : Nat → Nat → Int32) (K : Nat → Int32) (bw : Int64) (LA : Nat → Int64) (bM : Nat → Option va_E) (aM : Nat → Nat → Option (ClassId × Nat)) (S : Nat → Nat → Nat → Int32) (hN : hpN n) (s0 : State) (hF : nx_F s0) (hfl : l.stackTraces = false) (hAs : ∀ q, A q → s0.heap.size ≤ q) (x1 : Int32) : nx_M l y_X_taken [Cond.code y_X_taken b_X_taken 2 (some .int)] ({ frames := 7, cells := 1, slots := 6, locals := 131 } : Room) D hpC A [.ref (ad (0)), .int (x1)] (nx_pre D hpC (hpT tC) A (hW ad tC n I K bw LA bM aM S) ad s0) (nx_po (¬ ((0 ≤ x1 ∧ x1 < nI (n 2)))) (¬ (True)) (hW ad tC n I K bw LA bM aM S) ad (nw_ok (some (.int (S 0 0 (x1.toNatClampNeg)))) (hW ad tC n I K bw LA bM aM S) ad)) 1 6 := by
  refine nx_bodyK (by decide) (Nat.le_of_ble_eq_true rfl) ?_
  intro p e s m below meth cd ls args Q hSx hr hlocks hout hB hA hKs hw hS hl hQ
  obtain ⟨hx, hb, hml, hown, hts⟩ := id hSx
  have hK := hKs.1
  have hl : lv_has ls 2 [(0, .ref (ad (0))), (1, .int (x1))] := hl
  obtain ⟨hn0, hn0', hn1, hn2, hn3, hn4⟩ := id hN
  refine lv_iload_n hx hb d_X_taken_0 rfl (lv_at hl 1 rfl) ?_
  refine lv_aload_n hx hb d_X_taken_1 rfl (lv_at hl 0 rfl) ?_
  refine nw_get hx hb hts i_X hown hK hw (0) (hW_0) rfl 0 (by decide) (hts _ kw_199) (fun _ h9 => h9) rfl d_X_taken_2 ?_
  refine nw_getN hx hb hts i_Farm hown hK hw (1) (hW_1) rfl 8 (by decide) (va_Nw.use rfl (hKs.2.2 _ kn_74 rfl)) (fun _ h9 => h9) rfl d_X_taken_5 ?_
  refine nx_callP (nx_goS (n := 2) (As := [.int (x1), .int (nI (n 2))]) (rest := []) hSx hA hKs hB hAs hw hS (c_X_requireOneOf l D tC A ad (hW ad tC n I K bw LA bM aM S) s0 hF hfl hAs (x1) (nI (n 2))) kw_391 kw_389 kw_390 kw_1 rfl rfl (by decide +kernel) ⟨Nat.le_of_ble_eq_true rfl, Nat.le_of_ble_eq_true rfl⟩ rfl hl.1 (Nat.le_of_ble_eq_true rfl) d_X_taken_8 ⟨Nat.le_of_ble_eq_true rfl, Nat.le_of_ble_eq_true rfl⟩) hQ hlocks hout hS (Nat.le_of_ble_eq_true rfl) (Nat.le_of_ble_eq_true rfl) (fun Y wn' ad' hpost => ?_) (fun rv wn' ad' H locs hpost hw hS => ?_)
  · skip
    obtain ⟨hY, hw0, had0, hnP⟩ := nx_req_x hpost
    subst hY
    exact ⟨hw0, had0, Or.inl ⟨rfl, fun h => hnP (h)⟩⟩
  obtain ⟨hv, hw0, had0, hP1⟩ := nx_req_i hpost
  rw [hw0, had0] at hw
  subst hv
  obtain ⟨i1, rfl, hi1⟩ := nat_of (by omega) hP1
  refine lv_aload_n hx hb d_X_taken_11 rfl (lv_at hl 0 rfl) ?_
  refine nw_get hx hb hts i_X hown hK hw (0) (hW_0) rfl 4 (by decide) (hts _ kw_203) (fun _ h9 => h9) rfl d_X_taken_12 ?_
  refine lv_iload_n hx hb d_X_taken_15 rfl (lv_at hl 1 rfl) ?_
  refine nw_iald hx hb hK hw (100) 0 (hW_row (t := 0) (j := 0) (by decide) (by omega) (rfl)) rfl (i1) (rfl) (by omega) (by omega) d_X_taken_16 ?_
  refine lv_ei (y := S 0 0 i1) (congrFun (scr_rf 0 0 (by omega)) _) ?_
  exact nx_ret hQ (nw_iret rfl hx hb hr hlocks hw hS (⟨fun h => h hP1, fun h => h trivial, by rw [nI_clamp (n := i1) (by omega)]; exact ⟨rfl, rfl, rfl⟩⟩) (Nat.le_of_ble_eq_true rfl) (Nat.le_of_ble_eq_true rfl) d_X_taken_17)

set_option maxHeartbeats 4000000 in
set_option maxRecDepth 100000 in
/-- move -/
theorem c_X_move (l : Launch) (D : va_G) (tC : Nat → ClassId) (A : Nat → Prop) (ad : Nat → Nat) (n : Nat → Nat) (I : Nat → Nat → Int32) (K : Nat → Int32) (bw : Int64) (LA : Nat → Int64) (bM : Nat → Option va_E) (aM : Nat → Nat → Option (ClassId × Nat)) (S : Nat → Nat → Nat → Int32) (hN : hpN n) (s0 : State) (hF : nx_F s0) (hfl : l.stackTraces = false) (hAs : ∀ q, A q → s0.heap.size ≤ q) (x1 x2 : Int32) : nx_M l y_X_move [Cond.code y_X_move b_X_move 4 (some .int)] ({ frames := 8, cells := 2, slots := 12, locals := 152 } : Room) D hpC A [.ref (ad (0)), .int (x1), .int (x2)] (nx_pre D hpC (hpT tC) A (hW ad tC n I K bw LA bM aM S) ad s0) (nx_po (¬ ((0 ≤ x1 ∧ x1 < nI (n 2)) ∧ (x2 = -1 ∨ (0 ≤ x2 ∧ x2 < nI (n 0))))) (¬ (True)) (hW ad tC n I K bw LA bM aM S) ad (nw_ok (some (.int (S 0 0 (x1.toNatClampNeg)))) (hW ad tC n I (va_up K 0 (nI 1)) bw LA bM aM (upR S 0 0 (upd (S 0 0) (x1.toNatClampNeg) x2))) ad)) 2 12 := by
  refine nx_bodyK (by decide) (Nat.le_of_ble_eq_true rfl) ?_
  intro p e s m below meth cd ls args Q hSx hr hlocks hout hB hA hKs hw hS hl hQ
  obtain ⟨hx, hb, hml, hown, hts⟩ := id hSx
  have hK := hKs.1
  have hl : lv_has ls 4 [(0, .ref (ad (0))), (1, .int (x1)), (2, .int (x2))] := hl
  obtain ⟨hn0, hn0', hn1, hn2, hn3, hn4⟩ := id hN
  refine lv_iload_n hx hb d_X_move_0 rfl (lv_at hl 1 rfl) ?_
  refine lv_aload_n hx hb d_X_move_1 rfl (lv_at hl 0 rfl) ?_
  refine nw_get hx hb hts i_X hown hK hw (0) (hW_0) rfl 0 (by decide) (hts _ kw_199) (fun _ h9 => h9) rfl d_X_move_2 ?_
  refine nw_getN hx hb hts i_Farm hown hK hw (1) (hW_1) rfl 8 (by decide) (va_Nw.use rfl (hKs.2.2 _ kn_74 rfl)) (fun _ h9 => h9) rfl d_X_move_5 ?_
  refine nx_callP (nx_goS (n := 2) (As := [.int (x1), .int (nI (n 2))]) (rest := []) hSx hA hKs hB hAs hw hS (c_X_requireOneOf l D tC A ad (hW ad tC n I K bw LA bM aM S) s0 hF hfl hAs (x1) (nI (n 2))) kw_391 kw_389 kw_390 kw_1 rfl rfl (by decide +kernel) ⟨Nat.le_of_ble_eq_true rfl, Nat.le_of_ble_eq_true rfl⟩ rfl hl.1 (Nat.le_of_ble_eq_true rfl) d_X_move_8 ⟨Nat.le_of_ble_eq_true rfl, Nat.le_of_ble_eq_true rfl⟩) hQ hlocks hout hS (Nat.le_of_ble_eq_true rfl) (Nat.le_of_ble_eq_true rfl) (fun Y wn' ad' hpost => ?_) (fun rv wn' ad' H locs hpost hw hS => ?_)
  · skip
    obtain ⟨hY, hw0, had0, hnP⟩ := nx_req_x hpost
    subst hY
    exact ⟨hw0, had0, Or.inl ⟨rfl, fun h => hnP (h.1)⟩⟩
  obtain ⟨hv, hw0, had0, hP1⟩ := nx_req_i hpost
  rw [hw0, had0] at hw
  subst hv
  obtain ⟨i1, rfl, hi1⟩ := nat_of (by omega) hP1
  refine lv_iload_n hx hb d_X_move_11 rfl (lv_at hl 2 rfl) ?_
  refine lv_iconst (v := (-1)) hx hb d_X_move_12 (by decide) ?_
  refine lv_icmp_eq (tgt := 21) hx hb d_X_move_13 (by decide) (fun c_13 => ?_) (fun c_13 => ?_)
  · skip
    have hP2 : x2 = -1 ∨ (0 ≤ x2 ∧ x2 < nI (n 0)) := Or.inl c_13
    refine lv_aload_n hx hb d_X_move_21 rfl (lv_at hl 0 rfl) ?_
    refine nw_get hx hb hts i_X hown hK hw (0) (hW_0) rfl 4 (by decide) (hts _ kw_203) (fun _ h9 => h9) rfl d_X_move_22 ?_
    refine lv_iload_n hx hb d_X_move_25 rfl (lv_at hl 1 rfl) ?_
    refine nw_iald hx hb hK hw (100) 0 (hW_row (t := 0) (j := 0) (by decide) (by omega) (rfl)) rfl (i1) (rfl) (by omega) (by omega) d_X_move_26 ?_
    refine lv_ei (y := S 0 0 i1) (congrFun (scr_rf 0 0 (by omega)) _) ?_
    refine lv_istore_n (lv' := [(3, .int (S 0 0 i1)), (0, .ref (ad (0))), (1, .int (nI i1)), (2, .int (x2))]) hx hb d_X_move_27 rfl hl (by decide) rfl (fun ls hl => ?_)
    refine lv_aload_n hx hb d_X_move_28 rfl (lv_at hl 1 rfl) ?_
    refine nw_get hx hb hts i_X hown hK hw (0) (hW_0) rfl 4 (by decide) (hts _ kw_203) (fun _ h9 => h9) rfl d_X_move_29 ?_
    refine lv_iload_n hx hb d_X_move_32 rfl (lv_at hl 2 rfl) ?_
    refine lv_iload_n hx hb d_X_move_33 rfl (lv_at hl 3 rfl) ?_
    refine nw_iast hx hb hK hw hS (100) 0 (hW_row (t := 0) (j := 0) (by decide) (by omega) (rfl)) rfl (i1) (rfl) (by omega) (by omega) d_X_move_34 (fun H locs hw hS => ?_)
    have hw := hW_setRow (t := 0) (j := 0) (by decide) (by omega) (rfl) hw
    refine lv_aload_n hx hb d_X_move_35 rfl (lv_at hl 1 rfl) ?_
    refine lv_iconst (v := nI 1) hx hb d_X_move_36 (by decide) ?_
    refine nw_put (v := .int (nI 1)) (ty := .boolean) hx hb hts i_X t_X tk_X n_X hown hK hw hS (0) (hW_0) rfl 5 (by decide) (hts _ kw_204) (fun _ h9 => h9) rfl (by decide +kernel) (rfl) (rfl) (Nat.le_of_ble_eq_true rfl) d_X_move_37 (fun H locs hw hS => ?_)
    have hw := hW_setHand hw
    refine lv_iload_n hx hb d_X_move_40 rfl (lv_at hl 0 rfl) ?_
    exact nx_ret hQ (nw_iret rfl hx hb hr hlocks hw hS (⟨fun h => h ⟨hP1, hP2⟩, fun h => h trivial, by rw [nI_clamp (n := i1) (by omega)]; exact ⟨rfl, rfl, rfl⟩⟩) (Nat.le_of_ble_eq_true rfl) (Nat.le_of_ble_eq_true rfl) d_X_move_41)
  · skip
    refine lv_aload_n hx hb d_X_move_16 rfl (lv_at hl 0 rfl) ?_
    refine lv_iload_n hx hb d_X_move_17 rfl (lv_at hl 2 rfl) ?_
    refine nx_callP (nx_goV (n := 1) (As := [.int (x2)]) (rest := []) hSx hA hKs hB hAs hw hS (c_X_requireWeek l D tC A ad n I K bw LA bM aM S hN s0 hF hfl hAs (x2)) kw_396 kw_393 kw_395 ks_X_requireWeek kw_1 rfl rfl (by decide +kernel) ⟨Nat.le_of_ble_eq_true rfl, Nat.le_of_ble_eq_true rfl⟩ (nw_recv hK hw (hW_0) rfl) rfl hl.1 (Nat.le_of_ble_eq_true rfl) d_X_move_18 ⟨Nat.le_of_ble_eq_true rfl, Nat.le_of_ble_eq_true rfl⟩) hQ hlocks hout hS (Nat.le_of_ble_eq_true rfl) (Nat.le_of_ble_eq_true rfl) (fun Y wn' ad' hpost => ?_) (fun rv wn' ad' H locs hpost hw hS => ?_)
    · skip
      obtain ⟨hY, hw0, had0, hnP⟩ := nx_req_x hpost
      subst hY
      exact ⟨hw0, had0, Or.inl ⟨rfl, fun h => h.2.elim (fun e => c_13 e) hnP⟩⟩
    obtain ⟨hv, hw0, had0, hP2⟩ := nx_req_i hpost
    rw [hw0, had0] at hw
    subst hv
    have hP2 : x2 = -1 ∨ (0 ≤ x2 ∧ x2 < nI (n 0)) := Or.inr hP2
    refine lv_aload_n hx hb d_X_move_21 rfl (lv_at hl 0 rfl) ?_
    refine nw_get hx hb hts i_X hown hK hw (0) (hW_0) rfl 4 (by decide) (hts _ kw_203) (fun _ h9 => h9) rfl d_X_move_22 ?_
    refine lv_iload_n hx hb d_X_move_25 rfl (lv_at hl 1 rfl) ?_
    refine nw_iald hx hb hK hw (100) 0 (hW_row (t := 0) (j := 0) (by decide) (by omega) (rfl)) rfl (i1) (rfl) (by omega) (by omega) d_X_move_26 ?_
    refine lv_ei (y := S 0 0 i1) (congrFun (scr_rf 0 0 (by omega)) _) ?_
    refine lv_istore_n (lv' := [(3, .int (S 0 0 i1)), (0, .ref (ad (0))), (1, .int (nI i1)), (2, .int (x2))]) hx hb d_X_move_27 rfl hl (by decide) rfl (fun ls hl => ?_)
    refine lv_aload_n hx hb d_X_move_28 rfl (lv_at hl 1 rfl) ?_
    refine nw_get hx hb hts i_X hown hK hw (0) (hW_0) rfl 4 (by decide) (hts _ kw_203) (fun _ h9 => h9) rfl d_X_move_29 ?_
    refine lv_iload_n hx hb d_X_move_32 rfl (lv_at hl 2 rfl) ?_
    refine lv_iload_n hx hb d_X_move_33 rfl (lv_at hl 3 rfl) ?_
    refine nw_iast hx hb hK hw hS (100) 0 (hW_row (t := 0) (j := 0) (by decide) (by omega) (rfl)) rfl (i1) (rfl) (by omega) (by omega) d_X_move_34 (fun H locs hw hS => ?_)
    have hw := hW_setRow (t := 0) (j := 0) (by decide) (by omega) (rfl) hw
    refine lv_aload_n hx hb d_X_move_35 rfl (lv_at hl 1 rfl) ?_
    refine lv_iconst (v := nI 1) hx hb d_X_move_36 (by decide) ?_
    refine nw_put (v := .int (nI 1)) (ty := .boolean) hx hb hts i_X t_X tk_X n_X hown hK hw hS (0) (hW_0) rfl 5 (by decide) (hts _ kw_204) (fun _ h9 => h9) rfl (by decide +kernel) (rfl) (rfl) (Nat.le_of_ble_eq_true rfl) d_X_move_37 (fun H locs hw hS => ?_)
    have hw := hW_setHand hw
    refine lv_iload_n hx hb d_X_move_40 rfl (lv_at hl 0 rfl) ?_
    exact nx_ret hQ (nw_iret rfl hx hb hr hlocks hw hS (⟨fun h => h ⟨hP1, hP2⟩, fun h => h trivial, by rw [nI_clamp (n := i1) (by omega)]; exact ⟨rfl, rfl, rfl⟩⟩) (Nat.le_of_ble_eq_true rfl) (Nat.le_of_ble_eq_true rfl) d_X_move_41)

set_option maxHeartbeats 4000000 in
set_option maxRecDepth 100000 in
/-- how many nodes -/
theorem c_X_nodes (l : Launch) (D : va_G) (tC : Nat → ClassId) (A : Nat → Prop) (ad : Nat → Nat) (n : Nat → Nat) (I : Nat → Nat → Int32) (K : Nat → Int32) (bw : Int64) (LA : Nat → Int64) (bM : Nat → Option va_E) (aM : Nat → Nat → Option (ClassId × Nat)) (S : Nat → Nat → Nat → Int32) (hN : hpN n)  : nw_Met l y_X_nodes [Cond.code y_X_nodes b_X_nodes 1 (some .int)] ({ frames := 0, cells := 0, slots := 0, locals := 0 } : Room) D hpC A [.ref (ad (0))] (nw_pre D hpC (hpT tC) A (hW ad tC n I K bw LA bM aM S) ad) (nw_ok (some (.int (K 2))) (hW ad tC n I K bw LA bM aM S) ad) 0 0 := by
  refine nw_bodyK (by decide) (Nat.le_of_ble_eq_true rfl) ?_
  intro p e s m below meth cd ls args Q hSx hr hlocks hname hA hKs hw hS hl hQ
  obtain ⟨hx, hb, hml, hown, hts⟩ := id hSx
  have hK := hKs.1
  have hl : lv_has ls 1 [(0, .ref (ad (0)))] := hl
  obtain ⟨hn0, hn0', hn1, hn2, hn3, hn4⟩ := id hN
  refine lv_aload_n hx hb d_X_nodes_0 rfl (lv_at hl 0 rfl) ?_
  refine nw_get hx hb hts i_X hown hK hw (0) (hW_0) rfl 3 (by decide) (hts _ kw_202) (fun _ h9 => h9) rfl d_X_nodes_1 ?_
  refine nw_getN hx hb hts i_Search hown hK hw (4) (hW_4) rfl 8 (by decide) (va_Nw.use rfl (hKs.2.2 _ kn_171 rfl)) (fun _ h9 => h9) rfl d_X_nodes_4 ?_
  exact nw_iret hQ hx hb hr hlocks hw hS (nw_ok_rf) (Nat.le_of_ble_eq_true rfl) (Nat.le_of_ble_eq_true rfl) d_X_nodes_7

set_option maxHeartbeats 4000000 in
set_option maxRecDepth 100000 in
/-- THE HOPE before any cage -/
theorem c_X_hope (l : Launch) (D : va_G) (tC : Nat → ClassId) (A : Nat → Prop) (ad : Nat → Nat) (n : Nat → Nat) (I : Nat → Nat → Int32) (K : Nat → Int32) (bw : Int64) (LA : Nat → Int64) (bM : Nat → Option va_E) (aM : Nat → Nat → Option (ClassId × Nat)) (S : Nat → Nat → Nat → Int32) (hN : hpN n) (ow : Nat → Nat) (hO : ∀ o, o < n 4 → I 4 o = nI (ow o) ∧ ow o < n 0) : nw_Met l y_X_hope [Cond.code y_X_hope b_X_hope 1 (some .long)] ({ frames := 5, cells := 0, slots := 0, locals := 111 } : Room) D hpC A [.ref (ad (0))] (nw_pre D hpC (hpT tC) A (hW ad tC n I K bw LA bM aM S) ad) (nw_fo (some (.long (hpS n I ow S (n 2)))) (fun L' => hW ad tC n I K bw L' bM aM S) ad (fun _ => True)) 0 0 := by
  refine nw_bodyK (by decide) (Nat.le_of_ble_eq_true rfl) ?_
  intro p e s m below meth cd ls args Q hSx hr hlocks hname hA hKs hw hS hl hQ
  obtain ⟨hx, hb, hml, hown, hts⟩ := id hSx
  have hK := hKs.1
  have hl : lv_has ls 1 [(0, .ref (ad (0)))] := hl
  obtain ⟨hn0, hn0', hn1, hn2, hn3, hn4⟩ := id hN
  refine lv_aload_n hx hb d_X_hope_0 rfl (lv_at hl 0 rfl) ?_
  refine nw_get hx hb hts i_X hown hK hw (0) (hW_0) rfl 3 (by decide) (hts _ kw_202) (fun _ h9 => h9) rfl d_X_hope_1 ?_
  refine nw_call (nw_goVN (n := 0) (As := []) (rest := []) hSx hA hKs hw hS (c_Search_hopeBeforeAny l D tC A ad n I K bw LA bM aM S S scr_rf hN ow hO) kw_229 kn_226 kw_228 ks_Search_hopeBeforeAny kw_6 rfl rfl (by decide +kernel) ⟨Nat.le_of_ble_eq_true rfl, Nat.le_of_ble_eq_true rfl⟩ (nw_recv hK hw (hW_4) rfl) rfl hl.1 (Nat.le_of_ble_eq_true rfl) d_X_hope_4 ⟨Nat.le_of_ble_eq_true rfl, Nat.le_of_ble_eq_true rfl⟩) hS (fun rv wn' ad' H locs hpost hw hS => ?_)
  obtain ⟨hrv1, L1z, hL1z, hw⟩ := nw_fo_out hpost hw
  subst hrv1
  exact nw_lret hQ hx hb hr hlocks hw hS (⟨rfl, rfl, _, trivial, rfl⟩) (Nat.le_of_ble_eq_true rfl) (Nat.le_of_ble_eq_true rfl) d_X_hope_7
