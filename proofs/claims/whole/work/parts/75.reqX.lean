set_option maxHeartbeats 4000000 in
set_option maxRecDepth 100000 in
/-- a week -/
theorem c_X_requireWeek (l : Launch) (D : va_G) (tC : Nat → ClassId) (A : Nat → Prop) (ad : Nat → Nat) (n : Nat → Nat) (I : Nat → Nat → Int32) (K : Nat → Int32) (bw : Int64) (LA : Nat → Int64) (bM : Nat → Option va_E) (aM : Nat → Nat → Option (ClassId × Nat)) (S : Nat → Nat → Nat → Int32) (hN : hpN n) (s0 : State) (hF : nx_F s0) (hfl : l.stackTraces = false) (hAs : ∀ q, A q → s0.heap.size ≤ q) (x : Int32) : nx_M l y_X_requireWeek [Cond.code y_X_requireWeek b_X_requireWeek 2 none] ({ frames := 7, cells := 1, slots := 6, locals := 131 } : Room) D hpC A [.ref (ad (0)), .int (x)] (nx_pre D hpC (hpT tC) A (hW ad tC n I K bw LA bM aM S) ad s0) (nx_req (0 ≤ x ∧ x < nI (n 0)) xIA (hW ad tC n I K bw LA bM aM S) ad) 1 6 := by
  refine nx_bodyK (by decide) (Nat.le_of_ble_eq_true rfl) ?_
  intro p e s m below meth cd ls args Q hSx hr hlocks hout hB hA hKs hw hS hl hQ
  obtain ⟨hx, hb, hml, hown, hts⟩ := id hSx
  have hK := hKs.1
  have hl : lv_has ls 2 [(0, .ref (ad (0))), (1, .int (x))] := hl
  obtain ⟨hn0, hn0', hn1, hn2, hn3, hn4⟩ := id hN
  refine lv_iload_n hx hb d_X_requireWeek_0 rfl (lv_at hl 1 rfl) ?_
  refine lv_aload_n hx hb d_X_requireWeek_1 rfl (lv_at hl 0 rfl) ?_
  refine nw_get hx hb hts i_X hown hK hw (0) (hW_0) rfl 0 (by decide) (hts _ kw_199) (fun _ h9 => h9) rfl d_X_requireWeek_2 ?_
  refine nw_getN hx hb hts i_Farm hown hK hw (1) (hW_1) rfl 0 (by decide) (va_Nw.use rfl (hKs.2.2 _ kn_48 rfl)) (fun _ h9 => h9) rfl d_X_requireWeek_5 ?_
  refine nx_callP (nx_goS (n := 2) (As := [.int (x), .int (nI (n 0))]) (rest := []) hSx hA hKs hB hAs hw hS (c_X_requireOneOf l D tC A ad (hW ad tC n I K bw LA bM aM S) s0 hF hfl hAs (x) (nI (n 0))) kw_391 kw_389 kw_390 kw_1 rfl rfl (by decide +kernel) ⟨Nat.le_of_ble_eq_true rfl, Nat.le_of_ble_eq_true rfl⟩ rfl hl.1 (Nat.le_of_ble_eq_true rfl) d_X_requireWeek_8 ⟨Nat.le_of_ble_eq_true rfl, Nat.le_of_ble_eq_true rfl⟩) hQ hlocks hout hS (Nat.le_of_ble_eq_true rfl) (Nat.le_of_ble_eq_true rfl) (fun Y wn' ad' hpost => ?_) (fun rv wn' ad' H locs hpost hw hS => ?_)
  · skip
    obtain ⟨hY, hw0, had0, hnP⟩ := nx_req_x hpost
    subst hY
    exact ⟨hw0, had0, Or.inr ⟨rfl, hnP⟩⟩
  obtain ⟨hv, hw0, had0, hP⟩ := nx_req_i hpost
  rw [hw0, had0] at hw
  subst hv
  exact nx_ret hQ (nw_vret rfl hx hb hr hlocks hw hS (⟨rfl, rfl, Or.inl ⟨rfl, hP⟩⟩) (Nat.le_of_ble_eq_true rfl) (Nat.le_of_ble_eq_true rfl) d_X_requireWeek_11)

set_option maxHeartbeats 4000000 in
set_option maxRecDepth 100000 in
/-- a plan at hand -/
theorem c_X_requirePlan (l : Launch) (D : va_G) (tC : Nat → ClassId) (A : Nat → Prop) (ad : Nat → Nat) (n : Nat → Nat) (I : Nat → Nat → Int32) (K : Nat → Int32) (bw : Int64) (LA : Nat → Int64) (bM : Nat → Option va_E) (aM : Nat → Nat → Option (ClassId × Nat)) (S : Nat → Nat → Nat → Int32) (hN : hpN n) (s0 : State) (hF : nx_F s0) (hfl : l.stackTraces = false) (hAs : ∀ q, A q → s0.heap.size ≤ q)  : nx_M l y_X_requirePlan [Cond.code y_X_requirePlan b_X_requirePlan 1 none] ({ frames := 6, cells := 1, slots := 6, locals := 110 } : Room) D hpC A [.ref (ad (0))] (nx_pre D hpC (hpT tC) A (hW ad tC n I K bw LA bM aM S) ad s0) (nx_req (¬ K 0 = 0) xIS (hW ad tC n I K bw LA bM aM S) ad) 1 6 := by
  refine nx_bodyK (by decide) (Nat.le_of_ble_eq_true rfl) ?_
  intro p e s m below meth cd ls args Q hSx hr hlocks hout hB hA hKs hw hS hl hQ
  obtain ⟨hx, hb, hml, hown, hts⟩ := id hSx
  have hK := hKs.1
  have hl : lv_has ls 1 [(0, .ref (ad (0)))] := hl
  obtain ⟨hn0, hn0', hn1, hn2, hn3, hn4⟩ := id hN
  refine lv_aload_n hx hb d_X_requirePlan_0 rfl (lv_at hl 0 rfl) ?_
  refine nw_get hx hb hts i_X hown hK hw (0) (hW_0) rfl 5 (by decide) (hts _ kw_204) (fun _ h9 => h9) rfl d_X_requirePlan_1 ?_
  refine lv_if_ne (tgt := 17) hx hb d_X_requirePlan_4 (by decide) (fun c_4 => ?_) (fun c_4 => ?_)
  · skip
    exact nx_ret hQ (nw_vret rfl hx hb hr hlocks hw hS (⟨rfl, rfl, Or.inl ⟨rfl, c_4⟩⟩) (Nat.le_of_ble_eq_true rfl) (Nat.le_of_ble_eq_true rfl) d_X_requirePlan_17)
  · skip
    exact nx_throw hfl hF hB hx hb (hml.trans hl.1.symm) hown hQ hlocks hout (hts _ kw_341) (hts _ kw_342) (hts _ kw_13) (by decide +kernel) nx_atS kt_633 hw hA (⟨rfl, rfl, Or.inr ⟨rfl, fun h => h c_4⟩⟩) (Nat.le_of_ble_eq_true rfl) (Nat.le_of_ble_eq_true rfl) (Nat.le_of_ble_eq_true rfl) (Nat.le_of_ble_eq_true rfl) (Nat.le_of_ble_eq_true rfl) (Nat.le_of_ble_eq_true rfl) d_X_requirePlan_7 d_X_requirePlan_10 d_X_requirePlan_11 d_X_requirePlan_13 d_X_requirePlan_16

set_option maxHeartbeats 4000000 in
set_option maxRecDepth 100000 in
/-- no plan at hand -/
theorem c_X_forgetPlan (l : Launch) (D : va_G) (tC : Nat → ClassId) (A : Nat → Prop) (ad : Nat → Nat) (n : Nat → Nat) (I : Nat → Nat → Int32) (K : Nat → Int32) (bw : Int64) (LA : Nat → Int64) (bM : Nat → Option va_E) (aM : Nat → Nat → Option (ClassId × Nat)) (S : Nat → Nat → Nat → Int32) (hN : hpN n)  : nw_Met l y_X_forgetPlan [Cond.code y_X_forgetPlan b_X_forgetPlan 1 none] ({ frames := 1, cells := 0, slots := 0, locals := 23 } : Room) D hpC A [.ref (ad (0))] (nw_pre D hpC (hpT tC) A (hW ad tC n I K bw LA bM aM S) ad) (nw_ok none (hW ad tC n I (va_up K 0 (nI 0)) bw LA bM aM (upR S 0 0 (flR (S 0 0) (-1) 6))) ad) 0 0 := by
  refine nw_bodyK (by decide) (Nat.le_of_ble_eq_true rfl) ?_
  intro p e s m below meth cd ls args Q hSx hr hlocks hname hA hKs hw hS hl hQ
  obtain ⟨hx, hb, hml, hown, hts⟩ := id hSx
  have hK := hKs.1
  have hl : lv_has ls 1 [(0, .ref (ad (0)))] := hl
  obtain ⟨hn0, hn0', hn1, hn2, hn3, hn4⟩ := id hN
  refine lv_aload_n hx hb d_X_forgetPlan_0 rfl (lv_at hl 0 rfl) ?_
  refine nw_get hx hb hts i_X hown hK hw (0) (hW_0) rfl 4 (by decide) (hts _ kw_203) (fun _ h9 => h9) rfl d_X_forgetPlan_1 ?_
  refine lv_iconst (v := (-1)) hx hb d_X_forgetPlan_4 (by decide) ?_
  refine nw_callD (nw_goS (n := 2) (As := [.ref (ad (100)), .int ((-1))]) (rest := []) hSx hA hKs hw hS (c_Arr_fill l D tC A ad n I K bw LA bM aM S S scr_rf hN 0 6 (-1) (by omega) (by omega) (rfl)) kw_198 kw_196 kw_197 kw_7 rfl rfl (by decide +kernel) ⟨Nat.le_of_ble_eq_true rfl, Nat.le_of_ble_eq_true rfl⟩ rfl hl.1 (Nat.le_of_ble_eq_true rfl) d_X_forgetPlan_5 ⟨Nat.le_of_ble_eq_true rfl, Nat.le_of_ble_eq_true rfl⟩) hS (fun H locs hw hS => ?_)
  refine lv_aload_n hx hb d_X_forgetPlan_8 rfl (lv_at hl 0 rfl) ?_
  refine lv_iconst (v := nI 0) hx hb d_X_forgetPlan_9 (by decide) ?_
  refine nw_put (v := .int (nI 0)) (ty := .boolean) hx hb hts i_X t_X tk_X n_X hown hK hw hS (0) (hW_0) rfl 5 (by decide) (hts _ kw_204) (fun _ h9 => h9) rfl (by decide +kernel) (rfl) (rfl) (Nat.le_of_ble_eq_true rfl) d_X_forgetPlan_10 (fun H locs hw hS => ?_)
  have hw := hW_setHand hw
  exact nw_vret hQ hx hb hr hlocks hw hS (nw_ok_rf) (Nat.le_of_ble_eq_true rfl) (Nat.le_of_ble_eq_true rfl) d_X_forgetPlan_13
