set_option maxHeartbeats 4000000 in
set_option maxRecDepth 100000 in
/-- place -/
theorem c_X_place (l : Launch) (D : va_G) (tC : Nat → ClassId) (A : Nat → Prop) (ad : Nat → Nat) (n : Nat → Nat) (I : Nat → Nat → Int32) (K : Nat → Int32) (bw : Int64) (LA : Nat → Int64) (bM : Nat → Option va_E) (aM : Nat → Nat → Option (ClassId × Nat)) (S : Nat → Nat → Nat → Int32) (hN : hpN n) (s0 : State) (hF : nx_F s0) (hfl : l.stackTraces = false) (hAs : ∀ q, A q → s0.heap.size ≤ q) (x1 : Int32) : nx_M l y_X_place [Cond.code y_X_place b_X_place 2 (some .int)] ({ frames := 7, cells := 4, slots := 22, locals := 132 } : Room) D hpC A [.ref (ad (0)), .int (x1)] (nx_pre D hpC (hpT tC) A (hW ad tC n I K bw LA bM aM S) ad s0) (nx_po (¬ ((nI 0 ≤ x1 ∧ x1 ≤ 100000000))) (¬ ((nI (n 1) < nI 4))) (hW ad tC n I K bw LA bM aM S) ad (fun v wn' ad' => v = some (.int (nI (n 1))) ∧ (∀ k, k ≠ (24 + n 1) → k ≠ (116 + n 1) → ad' k = ad k) ∧ wn' = hW ad' tC (va_up n 1 (n 1 + 1)) (adI I 1 1 (n 1) (fun _ => x1)) (va_up K 0 (nI 0)) bw LA bM aM (adS (upR S 0 0 (flR (S 0 0) (-1) 6)) 1 1 (n 1)))) 4 22 := by
  refine nx_bodyK (by decide) (Nat.le_of_ble_eq_true rfl) ?_
  intro p e s m below meth cd ls args Q hSx hr hlocks hout hB hA hKs hw hS hl hQ
  obtain ⟨hx, hb, hml, hown, hts⟩ := id hSx
  have hK := hKs.1
  have hl : lv_has ls 2 [(0, .ref (ad (0))), (1, .int (x1))] := hl
  obtain ⟨hn0, hn0', hn1, hn2, hn3, hn4⟩ := id hN
  refine lv_iload_n hx hb d_X_place_0 rfl (lv_at hl 1 rfl) ?_
  refine lv_iconst (v := nI 0) hx hb d_X_place_1 (by decide) ?_
  refine lv_ldc (v := 100000000) hx hb hown (hts _ kw_267) d_X_place_2 ?_
  refine nx_callP (nx_goS (n := 3) (As := [.int (x1), .int (nI 0), .int (100000000)]) (rest := []) hSx hA hKs hB hAs hw hS (c_X_requireWithin l D tC A ad (hW ad tC n I K bw LA bM aM S) s0 hF hfl hAs (x1) (nI 0) (100000000)) kw_270 kw_268 kw_269 kw_1 rfl rfl (by decide +kernel) ⟨Nat.le_of_ble_eq_true rfl, Nat.le_of_ble_eq_true rfl⟩ rfl hl.1 (Nat.le_of_ble_eq_true rfl) d_X_place_4 ⟨Nat.le_of_ble_eq_true rfl, Nat.le_of_ble_eq_true rfl⟩) hQ hlocks hout hS (Nat.le_of_ble_eq_true rfl) (Nat.le_of_ble_eq_true rfl) (fun Y wn' ad' hpost => ?_) (fun rv wn' ad' H locs hpost hw hS => ?_)
  · skip
    obtain ⟨hY, hw0, had0, hnP⟩ := nx_req_x hpost
    subst hY
    exact ⟨hw0, had0, Or.inl ⟨rfl, fun h => hnP (h)⟩⟩
  obtain ⟨hv, hw0, had0, hP1⟩ := nx_req_i hpost
  rw [hw0, had0] at hw
  subst hv
  refine lv_aload_n hx hb d_X_place_7 rfl (lv_at hl 0 rfl) ?_
  refine nw_get hx hb hts i_X hown hK hw (0) (hW_0) rfl 0 (by decide) (hts _ kw_199) (fun _ h9 => h9) rfl d_X_place_8 ?_
  refine nw_getN hx hb hts i_Farm hown hK hw (1) (hW_1) rfl 7 (by decide) (va_Nw.use rfl (hKs.2.2 _ kn_69 rfl)) (fun _ h9 => h9) rfl d_X_place_11 ?_
  refine lv_iconst (v := nI 4) hx hb d_X_place_14 (by decide) ?_
  refine nx_callP (nx_goS (n := 2) (As := [.int (nI (n 1)), .int (nI 4)]) (rest := []) hSx hA hKs hB hAs hw hS (c_X_requireRoom l D tC A ad (hW ad tC n I K bw LA bM aM S) s0 hF hfl hAs (nI (n 1)) (nI 4)) kw_340 kw_338 kw_339 kw_1 rfl rfl (by decide +kernel) ⟨Nat.le_of_ble_eq_true rfl, Nat.le_of_ble_eq_true rfl⟩ rfl hl.1 (Nat.le_of_ble_eq_true rfl) d_X_place_15 ⟨Nat.le_of_ble_eq_true rfl, Nat.le_of_ble_eq_true rfl⟩) hQ hlocks hout hS (Nat.le_of_ble_eq_true rfl) (Nat.le_of_ble_eq_true rfl) (fun Y wn' ad' hpost => ?_) (fun rv wn' ad' H locs hpost hw hS => ?_)
  · skip
    obtain ⟨hY, hw0, had0, hnP⟩ := nx_req_x hpost
    subst hY
    exact ⟨hw0, had0, Or.inr ⟨rfl, fun h => h hP1, hnP⟩⟩
  obtain ⟨hv, hw0, had0, hP2⟩ := nx_req_i hpost
  rw [hw0, had0] at hw
  subst hv
  have hi9 : n 1 < 4 := (nI_ltI (by omega) (by omega)).mp hP2
  refine lv_aload_n hx hb d_X_place_18 rfl (lv_at hl 0 rfl) ?_
  refine nw_callD (nw_goV (n := 0) (As := []) (rest := []) hSx hA hKs hw hS (c_X_forgetPlan l D tC A ad n I K bw LA bM aM S hN) kw_360 kw_357 kw_359 ks_X_forgetPlan kw_1 rfl rfl (by decide +kernel) ⟨Nat.le_of_ble_eq_true rfl, Nat.le_of_ble_eq_true rfl⟩ (nw_recv hK hw (hW_0) rfl) rfl hl.1 (Nat.le_of_ble_eq_true rfl) d_X_place_19 ⟨Nat.le_of_ble_eq_true rfl, Nat.le_of_ble_eq_true rfl⟩) hS (fun H locs hw hS => ?_)
  refine lv_aload_n hx hb d_X_place_22 rfl (lv_at hl 0 rfl) ?_
  refine nw_get hx hb hts i_X hown hK hw (0) (hW_0) rfl 0 (by decide) (hts _ kw_199) (fun _ h9 => h9) rfl d_X_place_23 ?_
  refine nw_new (fs := [.int (nI 0), .null]) hx hb hts i_Place t_Place tk_Place hown (hts _ kw_361) (hts _ kw_362) (hts _ kw_14) hK hw hS hA (24 + n 1) (hWn_Place hN hi9) (ci := 5) rfl (by intro j hj; revert j; decide) (Nat.le_of_ble_eq_true rfl) (Nat.le_of_ble_eq_true rfl) d_X_place_26 (fun ad1 H had1 hw hS => ?_)
  have ea0 : ad (0) = ad1 (0) := (had1 (0) (by omega)).symm
  have ea1 : ad (1) = ad1 (1) := (had1 (1) (by omega)).symm
  simp only [ea0, ea1] at hl
  simp only [ea0, ea1]
  rw [hW_ad (ad' := ad) (ad := ad1) (fun k hk => (had1 k (by omega)).symm)] at hw
  try simp only [ea0, ea1] at hw
  refine lv_dup hx hb d_X_place_29 rfl ?_
  refine lv_iload_n hx hb d_X_place_30 rfl (lv_at hl 1 rfl) ?_
  refine lv_aload_n hx hb d_X_place_31 rfl (lv_at hl 0 rfl) ?_
  refine nw_get hx hb hts i_X hown hK hw (0) ((va_up_ne _ _ (by omega)).trans (hW_0)) rfl 0 (by decide) (hts _ kw_199) (fun _ h9 => h9) rfl d_X_place_32 ?_
  refine nw_getN hx hb hts i_Farm hown hK hw (1) ((va_up_ne _ _ (by omega)).trans (hW_1)) rfl 0 (by decide) (va_Nw.use rfl (hKs.2.2 _ kn_48 rfl)) (fun _ h9 => h9) rfl d_X_place_35 ?_
  refine nw_call (nw_goIN (n := 2) (As := [.int (x1), .int (nI (n 0))]) (rest := [.ref (ad1 (24 + n 1)), .ref (ad1 (1))]) hSx hA hKs hw hS (c_Place_init l D tC A ad1 (hW ad1 tC n I (va_up K 0 (nI 0)) bw LA bM aM (upR S 0 0 (flR (S 0 0) (-1) 6))) (24 + n 1) (116 + n 1) (hWr_Place_1 hi9) (by omega) (x1) (n 0) (by omega)) kw_365 kn_363 kw_364 kw_14 rfl rfl rfl (by decide +kernel) ⟨Nat.le_of_ble_eq_true rfl, Nat.le_of_ble_eq_true rfl⟩ rfl hl.1 (Nat.le_of_ble_eq_true rfl) d_X_place_38 ⟨Nat.le_of_ble_eq_true rfl, Nat.le_of_ble_eq_true rfl⟩) hS (fun rv wn' ad2 H locs hpost hw hS => ?_)
  obtain ⟨rfl, had2, rfl⟩ := hpost
  have ea0 : ad1 (0) = ad2 (0) := (had2 (0) (by omega)).symm
  have ea1 : ad1 (1) = ad2 (1) := (had2 (1) (by omega)).symm
  have ea2 : ad1 (24 + n 1) = ad2 (24 + n 1) := (had2 (24 + n 1) (by omega)).symm
  simp only [ea0, ea1, ea2] at hl
  simp only [ea0, ea1, ea2]
  rw [hW_ad (ad' := ad1) (ad := ad2) (fun k hk => (had2 k (by omega)).symm)] at hw
  try simp only [ea0, ea1, ea2] at hw
  refine nw_callD (nw_goVN (n := 1) (As := [.ref (ad2 (24 + n 1))]) (rest := []) hSx hA hKs hw hS (c_Farm_addPlace l D tC A ad2 n I (va_up K 0 (nI 0)) bw LA bM aM (upR S 0 0 (flR (S 0 0) (-1) 6)) hN (x1) hi9) kw_381 kn_378 kw_380 ks_Farm_addPlace kw_2 rfl rfl (by decide +kernel) ⟨Nat.le_of_ble_eq_true rfl, Nat.le_of_ble_eq_true rfl⟩ (nw_recv hK hw ((va_up_ne _ _ (by omega)).trans ((va_up_ne _ _ (by omega)).trans (hW_1))) rfl) rfl hl.1 (Nat.le_of_ble_eq_true rfl) d_X_place_41 ⟨Nat.le_of_ble_eq_true rfl, Nat.le_of_ble_eq_true rfl⟩) hS (fun H locs hw hS => ?_)
  exact nx_ret hQ (nw_iret rfl hx hb hr hlocks hw hS (⟨fun h => h hP1, fun h => h hP2, ⟨rfl, fun k g0 g1 => by rw [had2 k (by omega)]; rw [had1 k (by omega)], rfl⟩⟩) (Nat.le_of_ble_eq_true rfl) (Nat.le_of_ble_eq_true rfl) d_X_place_44)

set_option maxHeartbeats 4000000 in
set_option maxRecDepth 100000 in
/-- cage -/
theorem c_X_cage (l : Launch) (D : va_G) (tC : Nat → ClassId) (A : Nat → Prop) (ad : Nat → Nat) (n : Nat → Nat) (I : Nat → Nat → Int32) (K : Nat → Int32) (bw : Int64) (LA : Nat → Int64) (bM : Nat → Option va_E) (aM : Nat → Nat → Option (ClassId × Nat)) (S : Nat → Nat → Nat → Int32) (hN : hpN n) (s0 : State) (hF : nx_F s0) (hfl : l.stackTraces = false) (hAs : ∀ q, A q → s0.heap.size ≤ q) (x1 : Int32) : nx_M l y_X_cage [Cond.code y_X_cage b_X_cage 2 (some .int)] ({ frames := 7, cells := 5, slots := 31, locals := 131 } : Room) D hpC A [.ref (ad (0)), .int (x1)] (nx_pre D hpC (hpT tC) A (hW ad tC n I K bw LA bM aM S) ad s0) (nx_po (¬ ((0 ≤ x1 ∧ x1 < nI (n 1)))) (¬ ((nI (n 2) < nI 6))) (hW ad tC n I K bw LA bM aM S) ad (fun v wn' ad' => v = some (.int (nI (n 2))) ∧ (∀ k, k ≠ (32 + n 2) → k ≠ (132 + n 2) → k ≠ (148 + n 2) → ad' k = ad k) ∧ wn' = hW ad' tC (va_up n 2 (n 2 + 1)) (adI I 2 2 (n 2) (fun _ => x1)) (va_up K 0 (nI 0)) bw LA bM aM (adS (upR S 0 0 (flR (S 0 0) (-1) 6)) 2 3 (n 2)))) 5 31 := by
  refine nx_bodyK (by decide) (Nat.le_of_ble_eq_true rfl) ?_
  intro p e s m below meth cd ls args Q hSx hr hlocks hout hB hA hKs hw hS hl hQ
  obtain ⟨hx, hb, hml, hown, hts⟩ := id hSx
  have hK := hKs.1
  have hl : lv_has ls 2 [(0, .ref (ad (0))), (1, .int (x1))] := hl
  obtain ⟨hn0, hn0', hn1, hn2, hn3, hn4⟩ := id hN
  refine lv_iload_n hx hb d_X_cage_0 rfl (lv_at hl 1 rfl) ?_
  refine lv_aload_n hx hb d_X_cage_1 rfl (lv_at hl 0 rfl) ?_
  refine nw_get hx hb hts i_X hown hK hw (0) (hW_0) rfl 0 (by decide) (hts _ kw_199) (fun _ h9 => h9) rfl d_X_cage_2 ?_
  refine nw_getN hx hb hts i_Farm hown hK hw (1) (hW_1) rfl 7 (by decide) (va_Nw.use rfl (hKs.2.2 _ kn_69 rfl)) (fun _ h9 => h9) rfl d_X_cage_5 ?_
  refine nx_callP (nx_goS (n := 2) (As := [.int (x1), .int (nI (n 1))]) (rest := []) hSx hA hKs hB hAs hw hS (c_X_requireOneOf l D tC A ad (hW ad tC n I K bw LA bM aM S) s0 hF hfl hAs (x1) (nI (n 1))) kw_391 kw_389 kw_390 kw_1 rfl rfl (by decide +kernel) ⟨Nat.le_of_ble_eq_true rfl, Nat.le_of_ble_eq_true rfl⟩ rfl hl.1 (Nat.le_of_ble_eq_true rfl) d_X_cage_8 ⟨Nat.le_of_ble_eq_true rfl, Nat.le_of_ble_eq_true rfl⟩) hQ hlocks hout hS (Nat.le_of_ble_eq_true rfl) (Nat.le_of_ble_eq_true rfl) (fun Y wn' ad' hpost => ?_) (fun rv wn' ad' H locs hpost hw hS => ?_)
  · skip
    obtain ⟨hY, hw0, had0, hnP⟩ := nx_req_x hpost
    subst hY
    exact ⟨hw0, had0, Or.inl ⟨rfl, fun h => hnP (h)⟩⟩
  obtain ⟨hv, hw0, had0, hP1⟩ := nx_req_i hpost
  rw [hw0, had0] at hw
  subst hv
  obtain ⟨i1, rfl, hi1⟩ := nat_of (by omega) hP1
  refine lv_aload_n hx hb d_X_cage_11 rfl (lv_at hl 0 rfl) ?_
  refine nw_get hx hb hts i_X hown hK hw (0) (hW_0) rfl 0 (by decide) (hts _ kw_199) (fun _ h9 => h9) rfl d_X_cage_12 ?_
  refine nw_getN hx hb hts i_Farm hown hK hw (1) (hW_1) rfl 8 (by decide) (va_Nw.use rfl (hKs.2.2 _ kn_74 rfl)) (fun _ h9 => h9) rfl d_X_cage_15 ?_
  refine lv_bipush (v := nI 6) hx hb d_X_cage_18 (by decide) ?_
  refine nx_callP (nx_goS (n := 2) (As := [.int (nI (n 2)), .int (nI 6)]) (rest := []) hSx hA hKs hB hAs hw hS (c_X_requireRoom l D tC A ad (hW ad tC n I K bw LA bM aM S) s0 hF hfl hAs (nI (n 2)) (nI 6)) kw_340 kw_338 kw_339 kw_1 rfl rfl (by decide +kernel) ⟨Nat.le_of_ble_eq_true rfl, Nat.le_of_ble_eq_true rfl⟩ rfl hl.1 (Nat.le_of_ble_eq_true rfl) d_X_cage_20 ⟨Nat.le_of_ble_eq_true rfl, Nat.le_of_ble_eq_true rfl⟩) hQ hlocks hout hS (Nat.le_of_ble_eq_true rfl) (Nat.le_of_ble_eq_true rfl) (fun Y wn' ad' hpost => ?_) (fun rv wn' ad' H locs hpost hw hS => ?_)
  · skip
    obtain ⟨hY, hw0, had0, hnP⟩ := nx_req_x hpost
    subst hY
    exact ⟨hw0, had0, Or.inr ⟨rfl, fun h => h hP1, hnP⟩⟩
  obtain ⟨hv, hw0, had0, hP2⟩ := nx_req_i hpost
  rw [hw0, had0] at hw
  subst hv
  have hi9 : n 2 < 6 := (nI_ltI (by omega) (by omega)).mp hP2
  refine lv_aload_n hx hb d_X_cage_23 rfl (lv_at hl 0 rfl) ?_
  refine nw_callD (nw_goV (n := 0) (As := []) (rest := []) hSx hA hKs hw hS (c_X_forgetPlan l D tC A ad n I K bw LA bM aM S hN) kw_360 kw_357 kw_359 ks_X_forgetPlan kw_1 rfl rfl (by decide +kernel) ⟨Nat.le_of_ble_eq_true rfl, Nat.le_of_ble_eq_true rfl⟩ (nw_recv hK hw (hW_0) rfl) rfl hl.1 (Nat.le_of_ble_eq_true rfl) d_X_cage_24 ⟨Nat.le_of_ble_eq_true rfl, Nat.le_of_ble_eq_true rfl⟩) hS (fun H locs hw hS => ?_)
  refine lv_aload_n hx hb d_X_cage_27 rfl (lv_at hl 0 rfl) ?_
  refine nw_get hx hb hts i_X hown hK hw (0) (hW_0) rfl 0 (by decide) (hts _ kw_199) (fun _ h9 => h9) rfl d_X_cage_28 ?_
  refine nw_new (fs := [.int (nI 0), .null, .null]) hx hb hts i_Cage t_Cage tk_Cage hown (hts _ kw_404) (hts _ kw_405) (hts _ kw_15) hK hw hS hA (32 + n 2) (hWn_Cage hN hi9) (ci := 6) rfl (by intro j hj; revert j; decide) (Nat.le_of_ble_eq_true rfl) (Nat.le_of_ble_eq_true rfl) d_X_cage_31 (fun ad1 H had1 hw hS => ?_)
  have ea0 : ad (0) = ad1 (0) := (had1 (0) (by omega)).symm
  have ea1 : ad (1) = ad1 (1) := (had1 (1) (by omega)).symm
  simp only [ea0, ea1] at hl
  simp only [ea0, ea1]
  rw [hW_ad (ad' := ad) (ad := ad1) (fun k hk => (had1 k (by omega)).symm)] at hw
  try simp only [ea0, ea1] at hw
  refine lv_dup hx hb d_X_cage_34 rfl ?_
  refine lv_iload_n hx hb d_X_cage_35 rfl (lv_at hl 1 rfl) ?_
  refine lv_aload_n hx hb d_X_cage_36 rfl (lv_at hl 0 rfl) ?_
  refine nw_get hx hb hts i_X hown hK hw (0) ((va_up_ne _ _ (by omega)).trans (hW_0)) rfl 0 (by decide) (hts _ kw_199) (fun _ h9 => h9) rfl d_X_cage_37 ?_
  refine nw_getN hx hb hts i_Farm hown hK hw (1) ((va_up_ne _ _ (by omega)).trans (hW_1)) rfl 0 (by decide) (va_Nw.use rfl (hKs.2.2 _ kn_48 rfl)) (fun _ h9 => h9) rfl d_X_cage_40 ?_
  refine nw_call (nw_goIN (n := 2) (As := [.int (nI i1), .int (nI (n 0))]) (rest := [.ref (ad1 (32 + n 2)), .ref (ad1 (1))]) hSx hA hKs hw hS (c_Cage_init l D tC A ad1 (hW ad1 tC n I (va_up K 0 (nI 0)) bw LA bM aM (upR S 0 0 (flR (S 0 0) (-1) 6))) (32 + n 2) (132 + n 2) (148 + n 2) (hWr_Cage_2 hi9) (hWr_Cage_3 hi9) (by omega) (by omega) (by omega) (nI i1) (n 0) (by omega)) kw_408 kn_406 kw_407 kw_15 rfl rfl rfl (by decide +kernel) ⟨Nat.le_of_ble_eq_true rfl, Nat.le_of_ble_eq_true rfl⟩ rfl hl.1 (Nat.le_of_ble_eq_true rfl) d_X_cage_43 ⟨Nat.le_of_ble_eq_true rfl, Nat.le_of_ble_eq_true rfl⟩) hS (fun rv wn' ad2 H locs hpost hw hS => ?_)
  obtain ⟨rfl, had2, rfl⟩ := hpost
  have ea0 : ad1 (0) = ad2 (0) := (had2 (0) (by omega) (by omega)).symm
  have ea1 : ad1 (1) = ad2 (1) := (had2 (1) (by omega) (by omega)).symm
  have ea2 : ad1 (32 + n 2) = ad2 (32 + n 2) := (had2 (32 + n 2) (by omega) (by omega)).symm
  simp only [ea0, ea1, ea2] at hl
  simp only [ea0, ea1, ea2]
  rw [hW_ad (ad' := ad1) (ad := ad2) (fun k hk => (had2 k (by omega) (by omega)).symm)] at hw
  try simp only [ea0, ea1, ea2] at hw
  refine nw_callD (nw_goVN (n := 1) (As := [.ref (ad2 (32 + n 2))]) (rest := []) hSx hA hKs hw hS (c_Farm_addCage l D tC A ad2 n I (va_up K 0 (nI 0)) bw LA bM aM (upR S 0 0 (flR (S 0 0) (-1) 6)) hN (nI i1) hi9) kw_430 kn_427 kw_429 ks_Farm_addCage kw_2 rfl rfl (by decide +kernel) ⟨Nat.le_of_ble_eq_true rfl, Nat.le_of_ble_eq_true rfl⟩ (nw_recv hK hw ((va_up_ne _ _ (by omega)).trans ((va_up_ne _ _ (by omega)).trans ((va_up_ne _ _ (by omega)).trans (hW_1)))) rfl) rfl hl.1 (Nat.le_of_ble_eq_true rfl) d_X_cage_46 ⟨Nat.le_of_ble_eq_true rfl, Nat.le_of_ble_eq_true rfl⟩) hS (fun H locs hw hS => ?_)
  exact nx_ret hQ (nw_iret rfl hx hb hr hlocks hw hS (⟨fun h => h hP1, fun h => h hP2, ⟨rfl, fun k g0 g1 g2 => by rw [had2 k (by omega) (by omega)]; rw [had1 k (by omega)], rfl⟩⟩) (Nat.le_of_ble_eq_true rfl) (Nat.le_of_ble_eq_true rfl) d_X_cage_49)

set_option maxHeartbeats 4000000 in
set_option maxRecDepth 100000 in
/-- boat -/
theorem c_X_boat (l : Launch) (D : va_G) (tC : Nat → ClassId) (A : Nat → Prop) (ad : Nat → Nat) (n : Nat → Nat) (I : Nat → Nat → Int32) (K : Nat → Int32) (bw : Int64) (LA : Nat → Int64) (bM : Nat → Option va_E) (aM : Nat → Nat → Option (ClassId × Nat)) (S : Nat → Nat → Nat → Int32) (hN : hpN n) (s0 : State) (hF : nx_F s0) (hfl : l.stackTraces = false) (hAs : ∀ q, A q → s0.heap.size ≤ q) (x1 : Int32) : nx_M l y_X_boat [Cond.code y_X_boat b_X_boat 2 (some .int)] ({ frames := 7, cells := 4, slots := 22, locals := 132 } : Room) D hpC A [.ref (ad (0)), .int (x1)] (nx_pre D hpC (hpT tC) A (hW ad tC n I K bw LA bM aM S) ad s0) (nx_po (¬ ((nI 0 ≤ x1 ∧ x1 ≤ 100000000))) (¬ ((nI (n 3) < nI 3))) (hW ad tC n I K bw LA bM aM S) ad (fun v wn' ad' => v = some (.int (nI (n 3))) ∧ (∀ k, k ≠ (40 + n 3) → k ≠ (164 + n 3) → ad' k = ad k) ∧ wn' = hW ad' tC (va_up n 3 (n 3 + 1)) (adI I 3 3 (n 3) (fun _ => x1)) (va_up K 0 (nI 0)) bw LA bM aM (adS (upR S 0 0 (flR (S 0 0) (-1) 6)) 4 4 (n 3)))) 4 22 := by
  refine nx_bodyK (by decide) (Nat.le_of_ble_eq_true rfl) ?_
  intro p e s m below meth cd ls args Q hSx hr hlocks hout hB hA hKs hw hS hl hQ
  obtain ⟨hx, hb, hml, hown, hts⟩ := id hSx
  have hK := hKs.1
  have hl : lv_has ls 2 [(0, .ref (ad (0))), (1, .int (x1))] := hl
  obtain ⟨hn0, hn0', hn1, hn2, hn3, hn4⟩ := id hN
  refine lv_iload_n hx hb d_X_boat_0 rfl (lv_at hl 1 rfl) ?_
  refine lv_iconst (v := nI 0) hx hb d_X_boat_1 (by decide) ?_
  refine lv_ldc (v := 100000000) hx hb hown (hts _ kw_267) d_X_boat_2 ?_
  refine nx_callP (nx_goS (n := 3) (As := [.int (x1), .int (nI 0), .int (100000000)]) (rest := []) hSx hA hKs hB hAs hw hS (c_X_requireWithin l D tC A ad (hW ad tC n I K bw LA bM aM S) s0 hF hfl hAs (x1) (nI 0) (100000000)) kw_270 kw_268 kw_269 kw_1 rfl rfl (by decide +kernel) ⟨Nat.le_of_ble_eq_true rfl, Nat.le_of_ble_eq_true rfl⟩ rfl hl.1 (Nat.le_of_ble_eq_true rfl) d_X_boat_4 ⟨Nat.le_of_ble_eq_true rfl, Nat.le_of_ble_eq_true rfl⟩) hQ hlocks hout hS (Nat.le_of_ble_eq_true rfl) (Nat.le_of_ble_eq_true rfl) (fun Y wn' ad' hpost => ?_) (fun rv wn' ad' H locs hpost hw hS => ?_)
  · skip
    obtain ⟨hY, hw0, had0, hnP⟩ := nx_req_x hpost
    subst hY
    exact ⟨hw0, had0, Or.inl ⟨rfl, fun h => hnP (h)⟩⟩
  obtain ⟨hv, hw0, had0, hP1⟩ := nx_req_i hpost
  rw [hw0, had0] at hw
  subst hv
  refine lv_aload_n hx hb d_X_boat_7 rfl (lv_at hl 0 rfl) ?_
  refine nw_get hx hb hts i_X hown hK hw (0) (hW_0) rfl 0 (by decide) (hts _ kw_199) (fun _ h9 => h9) rfl d_X_boat_8 ?_
  refine nw_getN hx hb hts i_Farm hown hK hw (1) (hW_1) rfl 9 (by decide) (va_Nw.use rfl (hKs.2.2 _ kn_77 rfl)) (fun _ h9 => h9) rfl d_X_boat_11 ?_
  refine lv_iconst (v := nI 3) hx hb d_X_boat_14 (by decide) ?_
  refine nx_callP (nx_goS (n := 2) (As := [.int (nI (n 3)), .int (nI 3)]) (rest := []) hSx hA hKs hB hAs hw hS (c_X_requireRoom l D tC A ad (hW ad tC n I K bw LA bM aM S) s0 hF hfl hAs (nI (n 3)) (nI 3)) kw_340 kw_338 kw_339 kw_1 rfl rfl (by decide +kernel) ⟨Nat.le_of_ble_eq_true rfl, Nat.le_of_ble_eq_true rfl⟩ rfl hl.1 (Nat.le_of_ble_eq_true rfl) d_X_boat_15 ⟨Nat.le_of_ble_eq_true rfl, Nat.le_of_ble_eq_true rfl⟩) hQ hlocks hout hS (Nat.le_of_ble_eq_true rfl) (Nat.le_of_ble_eq_true rfl) (fun Y wn' ad' hpost => ?_) (fun rv wn' ad' H locs hpost hw hS => ?_)
  · skip
    obtain ⟨hY, hw0, had0, hnP⟩ := nx_req_x hpost
    subst hY
    exact ⟨hw0, had0, Or.inr ⟨rfl, fun h => h hP1, hnP⟩⟩
  obtain ⟨hv, hw0, had0, hP2⟩ := nx_req_i hpost
  rw [hw0, had0] at hw
  subst hv
  have hi9 : n 3 < 3 := (nI_ltI (by omega) (by omega)).mp hP2
  refine lv_aload_n hx hb d_X_boat_18 rfl (lv_at hl 0 rfl) ?_
  refine nw_callD (nw_goV (n := 0) (As := []) (rest := []) hSx hA hKs hw hS (c_X_forgetPlan l D tC A ad n I K bw LA bM aM S hN) kw_360 kw_357 kw_359 ks_X_forgetPlan kw_1 rfl rfl (by decide +kernel) ⟨Nat.le_of_ble_eq_true rfl, Nat.le_of_ble_eq_true rfl⟩ (nw_recv hK hw (hW_0) rfl) rfl hl.1 (Nat.le_of_ble_eq_true rfl) d_X_boat_19 ⟨Nat.le_of_ble_eq_true rfl, Nat.le_of_ble_eq_true rfl⟩) hS (fun H locs hw hS => ?_)
  refine lv_aload_n hx hb d_X_boat_22 rfl (lv_at hl 0 rfl) ?_
  refine nw_get hx hb hts i_X hown hK hw (0) (hW_0) rfl 0 (by decide) (hts _ kw_199) (fun _ h9 => h9) rfl d_X_boat_23 ?_
  refine nw_new (fs := [.int (nI 0), .null]) hx hb hts i_Boat t_Boat tk_Boat hown (hts _ kw_446) (hts _ kw_447) (hts _ kw_16) hK hw hS hA (40 + n 3) (hWn_Boat hN hi9) (ci := 7) rfl (by intro j hj; revert j; decide) (Nat.le_of_ble_eq_true rfl) (Nat.le_of_ble_eq_true rfl) d_X_boat_26 (fun ad1 H had1 hw hS => ?_)
  have ea0 : ad (0) = ad1 (0) := (had1 (0) (by omega)).symm
  have ea1 : ad (1) = ad1 (1) := (had1 (1) (by omega)).symm
  simp only [ea0, ea1] at hl
  simp only [ea0, ea1]
  rw [hW_ad (ad' := ad) (ad := ad1) (fun k hk => (had1 k (by omega)).symm)] at hw
  try simp only [ea0, ea1] at hw
  refine lv_dup hx hb d_X_boat_29 rfl ?_
  refine lv_iload_n hx hb d_X_boat_30 rfl (lv_at hl 1 rfl) ?_
  refine lv_aload_n hx hb d_X_boat_31 rfl (lv_at hl 0 rfl) ?_
  refine nw_get hx hb hts i_X hown hK hw (0) ((va_up_ne _ _ (by omega)).trans (hW_0)) rfl 0 (by decide) (hts _ kw_199) (fun _ h9 => h9) rfl d_X_boat_32 ?_
  refine nw_getN hx hb hts i_Farm hown hK hw (1) ((va_up_ne _ _ (by omega)).trans (hW_1)) rfl 0 (by decide) (va_Nw.use rfl (hKs.2.2 _ kn_48 rfl)) (fun _ h9 => h9) rfl d_X_boat_35 ?_
  refine nw_call (nw_goIN (n := 2) (As := [.int (x1), .int (nI (n 0))]) (rest := [.ref (ad1 (40 + n 3)), .ref (ad1 (1))]) hSx hA hKs hw hS (c_Boat_init l D tC A ad1 (hW ad1 tC n I (va_up K 0 (nI 0)) bw LA bM aM (upR S 0 0 (flR (S 0 0) (-1) 6))) (40 + n 3) (164 + n 3) (hWr_Boat_4 hi9) (by omega) (x1) (n 0) (by omega)) kw_450 kn_448 kw_449 kw_16 rfl rfl rfl (by decide +kernel) ⟨Nat.le_of_ble_eq_true rfl, Nat.le_of_ble_eq_true rfl⟩ rfl hl.1 (Nat.le_of_ble_eq_true rfl) d_X_boat_38 ⟨Nat.le_of_ble_eq_true rfl, Nat.le_of_ble_eq_true rfl⟩) hS (fun rv wn' ad2 H locs hpost hw hS => ?_)
  obtain ⟨rfl, had2, rfl⟩ := hpost
  have ea0 : ad1 (0) = ad2 (0) := (had2 (0) (by omega)).symm
  have ea1 : ad1 (1) = ad2 (1) := (had2 (1) (by omega)).symm
  have ea2 : ad1 (40 + n 3) = ad2 (40 + n 3) := (had2 (40 + n 3) (by omega)).symm
  simp only [ea0, ea1, ea2] at hl
  simp only [ea0, ea1, ea2]
  rw [hW_ad (ad' := ad1) (ad := ad2) (fun k hk => (had2 k (by omega)).symm)] at hw
  try simp only [ea0, ea1, ea2] at hw
  refine nw_callD (nw_goVN (n := 1) (As := [.ref (ad2 (40 + n 3))]) (rest := []) hSx hA hKs hw hS (c_Farm_addBoat l D tC A ad2 n I (va_up K 0 (nI 0)) bw LA bM aM (upR S 0 0 (flR (S 0 0) (-1) 6)) hN (x1) hi9) kw_465 kn_462 kw_464 ks_Farm_addBoat kw_2 rfl rfl (by decide +kernel) ⟨Nat.le_of_ble_eq_true rfl, Nat.le_of_ble_eq_true rfl⟩ (nw_recv hK hw ((va_up_ne _ _ (by omega)).trans ((va_up_ne _ _ (by omega)).trans (hW_1))) rfl) rfl hl.1 (Nat.le_of_ble_eq_true rfl) d_X_boat_41 ⟨Nat.le_of_ble_eq_true rfl, Nat.le_of_ble_eq_true rfl⟩) hS (fun H locs hw hS => ?_)
  exact nx_ret hQ (nw_iret rfl hx hb hr hlocks hw hS (⟨fun h => h hP1, fun h => h hP2, ⟨rfl, fun k g0 g1 => by rw [had2 k (by omega)]; rw [had1 k (by omega)], rfl⟩⟩) (Nat.le_of_ble_eq_true rfl) (Nat.le_of_ble_eq_true rfl) d_X_boat_44)

set_option maxHeartbeats 4000000 in
set_option maxRecDepth 100000 in
/-- order -/
theorem c_X_order (l : Launch) (D : va_G) (tC : Nat → ClassId) (A : Nat → Prop) (ad : Nat → Nat) (n : Nat → Nat) (I : Nat → Nat → Int32) (K : Nat → Int32) (bw : Int64) (LA : Nat → Int64) (bM : Nat → Option va_E) (aM : Nat → Nat → Option (ClassId × Nat)) (S : Nat → Nat → Nat → Int32) (hN : hpN n) (s0 : State) (hF : nx_F s0) (hfl : l.stackTraces = false) (hAs : ∀ q, A q → s0.heap.size ≤ q) (x1 x2 x3 x4 x5 : Int32) (sq : Nat → Nat) (hSq : ∀ k, k < n 4 → S 0 1 k = nI (sq k) ∧ sq k < n 4) : nx_M l y_X_order [Cond.code y_X_order b_X_order 6 (some .int)] ({ frames := 8, cells := 7, slots := 41, locals := 152 } : Room) D hpC A [.ref (ad (0)), .int (x1), .int (x2), .int (x3), .int (x4), .int (x5)] (nx_pre D hpC (hpT tC) A (hW ad tC n I K bw LA bM aM S) ad s0) (nx_po (¬ ((0 ≤ x1 ∧ x1 < nI (n 0)) ∧ (nI 0 ≤ x3 ∧ x3 ≤ nI 20000) ∧ (nI 0 ≤ x2 ∧ x2 ≤ x3) ∧ (nI 0 ≤ x4 ∧ x4 ≤ 100000000) ∧ (nI 0 ≤ x5 ∧ x5 ≤ nI 10000))) (¬ ((nI (n 4) < nI 6))) (hW ad tC n I K bw LA bM aM S) ad (fun v wn' ad' => v = some (.int (nI (n 4))) ∧ (∀ k, k ≠ (48 + n 4) → ad' k = ad k) ∧ ∃ d, d ≤ n 4 ∧ (∀ j, j < d → I 8 (sq (n 4 - 1 - j)) < x5) ∧ (d < n 4 → ¬ I 8 (sq (n 4 - 1 - d)) < x5) ∧ wn' = hW ad' tC (va_up n 4 (n 4 + 1)) (adI I 4 8 (n 4) (v4 x1 x2 x3 x4 x5)) (va_up K 0 (nI 0)) bw LA bM aM (upR (upR S 0 0 (flR (S 0 0) (-1) 6)) 0 1 (inF ((upR S 0 0 (flR (S 0 0) (-1) 6)) 0 1) (n 4) d)))) 7 41 := by
  refine nx_bodyK (by decide) (Nat.le_of_ble_eq_true rfl) ?_
  intro p e s m below meth cd ls args Q hSx hr hlocks hout hB hA hKs hw hS hl hQ
  obtain ⟨hx, hb, hml, hown, hts⟩ := id hSx
  have hK := hKs.1
  have hl : lv_has ls 6 [(0, .ref (ad (0))), (1, .int (x1)), (2, .int (x2)), (3, .int (x3)), (4, .int (x4)), (5, .int (x5))] := hl
  obtain ⟨hn0, hn0', hn1, hn2, hn3, hn4⟩ := id hN
  refine lv_aload_n hx hb d_X_order_0 rfl (lv_at hl 0 rfl) ?_
  refine lv_iload_n hx hb d_X_order_1 rfl (lv_at hl 1 rfl) ?_
  refine nx_callP (nx_goV (n := 1) (As := [.int (x1)]) (rest := []) hSx hA hKs hB hAs hw hS (c_X_requireWeek l D tC A ad n I K bw LA bM aM S hN s0 hF hfl hAs (x1)) kw_396 kw_393 kw_395 ks_X_requireWeek kw_1 rfl rfl (by decide +kernel) ⟨Nat.le_of_ble_eq_true rfl, Nat.le_of_ble_eq_true rfl⟩ (nw_recv hK hw (hW_0) rfl) rfl hl.1 (Nat.le_of_ble_eq_true rfl) d_X_order_2 ⟨Nat.le_of_ble_eq_true rfl, Nat.le_of_ble_eq_true rfl⟩) hQ hlocks hout hS (Nat.le_of_ble_eq_true rfl) (Nat.le_of_ble_eq_true rfl) (fun Y wn' ad' hpost => ?_) (fun rv wn' ad' H locs hpost hw hS => ?_)
  · skip
    obtain ⟨hY, hw0, had0, hnP⟩ := nx_req_x hpost
    subst hY
    exact ⟨hw0, had0, Or.inl ⟨rfl, fun h => hnP (h.1)⟩⟩
  obtain ⟨hv, hw0, had0, hP1⟩ := nx_req_i hpost
  rw [hw0, had0] at hw
  subst hv
  refine lv_iload_n hx hb d_X_order_5 rfl (lv_at hl 3 rfl) ?_
  refine lv_iconst (v := nI 0) hx hb d_X_order_6 (by decide) ?_
  refine lv_sipush (v := nI 20000) hx hb d_X_order_7 (by decide) ?_
  refine nx_callP (nx_goS (n := 3) (As := [.int (x3), .int (nI 0), .int (nI 20000)]) (rest := []) hSx hA hKs hB hAs hw hS (c_X_requireWithin l D tC A ad (hW ad tC n I K bw LA bM aM S) s0 hF hfl hAs (x3) (nI 0) (nI 20000)) kw_270 kw_268 kw_269 kw_1 rfl rfl (by decide +kernel) ⟨Nat.le_of_ble_eq_true rfl, Nat.le_of_ble_eq_true rfl⟩ rfl hl.1 (Nat.le_of_ble_eq_true rfl) d_X_order_10 ⟨Nat.le_of_ble_eq_true rfl, Nat.le_of_ble_eq_true rfl⟩) hQ hlocks hout hS (Nat.le_of_ble_eq_true rfl) (Nat.le_of_ble_eq_true rfl) (fun Y wn' ad' hpost => ?_) (fun rv wn' ad' H locs hpost hw hS => ?_)
  · skip
    obtain ⟨hY, hw0, had0, hnP⟩ := nx_req_x hpost
    subst hY
    exact ⟨hw0, had0, Or.inl ⟨rfl, fun h => hnP (h.2.1)⟩⟩
  obtain ⟨hv, hw0, had0, hP2⟩ := nx_req_i hpost
  rw [hw0, had0] at hw
  subst hv
  refine lv_iload_n hx hb d_X_order_13 rfl (lv_at hl 2 rfl) ?_
  refine lv_iconst (v := nI 0) hx hb d_X_order_14 (by decide) ?_
  refine lv_iload_n hx hb d_X_order_15 rfl (lv_at hl 3 rfl) ?_
  refine nx_callP (nx_goS (n := 3) (As := [.int (x2), .int (nI 0), .int (x3)]) (rest := []) hSx hA hKs hB hAs hw hS (c_X_requireWithin l D tC A ad (hW ad tC n I K bw LA bM aM S) s0 hF hfl hAs (x2) (nI 0) (x3)) kw_270 kw_268 kw_269 kw_1 rfl rfl (by decide +kernel) ⟨Nat.le_of_ble_eq_true rfl, Nat.le_of_ble_eq_true rfl⟩ rfl hl.1 (Nat.le_of_ble_eq_true rfl) d_X_order_16 ⟨Nat.le_of_ble_eq_true rfl, Nat.le_of_ble_eq_true rfl⟩) hQ hlocks hout hS (Nat.le_of_ble_eq_true rfl) (Nat.le_of_ble_eq_true rfl) (fun Y wn' ad' hpost => ?_) (fun rv wn' ad' H locs hpost hw hS => ?_)
  · skip
    obtain ⟨hY, hw0, had0, hnP⟩ := nx_req_x hpost
    subst hY
    exact ⟨hw0, had0, Or.inl ⟨rfl, fun h => hnP (h.2.2.1)⟩⟩
  obtain ⟨hv, hw0, had0, hP3⟩ := nx_req_i hpost
  rw [hw0, had0] at hw
  subst hv
  refine lv_iload hx hb d_X_order_19 (lv_at hl 4 rfl) ?_
  refine lv_iconst (v := nI 0) hx hb d_X_order_21 (by decide) ?_
  refine lv_ldc (v := 100000000) hx hb hown (hts _ kw_267) d_X_order_22 ?_
  refine nx_callP (nx_goS (n := 3) (As := [.int (x4), .int (nI 0), .int (100000000)]) (rest := []) hSx hA hKs hB hAs hw hS (c_X_requireWithin l D tC A ad (hW ad tC n I K bw LA bM aM S) s0 hF hfl hAs (x4) (nI 0) (100000000)) kw_270 kw_268 kw_269 kw_1 rfl rfl (by decide +kernel) ⟨Nat.le_of_ble_eq_true rfl, Nat.le_of_ble_eq_true rfl⟩ rfl hl.1 (Nat.le_of_ble_eq_true rfl) d_X_order_24 ⟨Nat.le_of_ble_eq_true rfl, Nat.le_of_ble_eq_true rfl⟩) hQ hlocks hout hS (Nat.le_of_ble_eq_true rfl) (Nat.le_of_ble_eq_true rfl) (fun Y wn' ad' hpost => ?_) (fun rv wn' ad' H locs hpost hw hS => ?_)
  · skip
    obtain ⟨hY, hw0, had0, hnP⟩ := nx_req_x hpost
    subst hY
    exact ⟨hw0, had0, Or.inl ⟨rfl, fun h => hnP (h.2.2.2.1)⟩⟩
  obtain ⟨hv, hw0, had0, hP4⟩ := nx_req_i hpost
  rw [hw0, had0] at hw
  subst hv
  refine lv_iload hx hb d_X_order_27 (lv_at hl 5 rfl) ?_
  refine lv_iconst (v := nI 0) hx hb d_X_order_29 (by decide) ?_
  refine lv_sipush (v := nI 10000) hx hb d_X_order_30 (by decide) ?_
  refine nx_callP (nx_goS (n := 3) (As := [.int (x5), .int (nI 0), .int (nI 10000)]) (rest := []) hSx hA hKs hB hAs hw hS (c_X_requireWithin l D tC A ad (hW ad tC n I K bw LA bM aM S) s0 hF hfl hAs (x5) (nI 0) (nI 10000)) kw_270 kw_268 kw_269 kw_1 rfl rfl (by decide +kernel) ⟨Nat.le_of_ble_eq_true rfl, Nat.le_of_ble_eq_true rfl⟩ rfl hl.1 (Nat.le_of_ble_eq_true rfl) d_X_order_33 ⟨Nat.le_of_ble_eq_true rfl, Nat.le_of_ble_eq_true rfl⟩) hQ hlocks hout hS (Nat.le_of_ble_eq_true rfl) (Nat.le_of_ble_eq_true rfl) (fun Y wn' ad' hpost => ?_) (fun rv wn' ad' H locs hpost hw hS => ?_)
  · skip
    obtain ⟨hY, hw0, had0, hnP⟩ := nx_req_x hpost
    subst hY
    exact ⟨hw0, had0, Or.inl ⟨rfl, fun h => hnP (h.2.2.2.2)⟩⟩
  obtain ⟨hv, hw0, had0, hP5⟩ := nx_req_i hpost
  rw [hw0, had0] at hw
  subst hv
  refine lv_aload_n hx hb d_X_order_36 rfl (lv_at hl 0 rfl) ?_
  refine nw_get hx hb hts i_X hown hK hw (0) (hW_0) rfl 0 (by decide) (hts _ kw_199) (fun _ h9 => h9) rfl d_X_order_37 ?_
  refine nw_getN hx hb hts i_Farm hown hK hw (1) (hW_1) rfl 10 (by decide) (va_Nw.use rfl (hKs.2.2 _ kn_81 rfl)) (fun _ h9 => h9) rfl d_X_order_40 ?_
  refine lv_bipush (v := nI 6) hx hb d_X_order_43 (by decide) ?_
  refine nx_callP (nx_goS (n := 2) (As := [.int (nI (n 4)), .int (nI 6)]) (rest := []) hSx hA hKs hB hAs hw hS (c_X_requireRoom l D tC A ad (hW ad tC n I K bw LA bM aM S) s0 hF hfl hAs (nI (n 4)) (nI 6)) kw_340 kw_338 kw_339 kw_1 rfl rfl (by decide +kernel) ⟨Nat.le_of_ble_eq_true rfl, Nat.le_of_ble_eq_true rfl⟩ rfl hl.1 (Nat.le_of_ble_eq_true rfl) d_X_order_45 ⟨Nat.le_of_ble_eq_true rfl, Nat.le_of_ble_eq_true rfl⟩) hQ hlocks hout hS (Nat.le_of_ble_eq_true rfl) (Nat.le_of_ble_eq_true rfl) (fun Y wn' ad' hpost => ?_) (fun rv wn' ad' H locs hpost hw hS => ?_)
  · skip
    obtain ⟨hY, hw0, had0, hnP⟩ := nx_req_x hpost
    subst hY
    exact ⟨hw0, had0, Or.inr ⟨rfl, fun h => h ⟨hP1, hP2, hP3, hP4, hP5⟩, hnP⟩⟩
  obtain ⟨hv, hw0, had0, hP6⟩ := nx_req_i hpost
  rw [hw0, had0] at hw
  subst hv
  have hi9 : n 4 < 6 := (nI_ltI (by omega) (by omega)).mp hP6
  refine lv_aload_n hx hb d_X_order_48 rfl (lv_at hl 0 rfl) ?_
  refine nw_callD (nw_goV (n := 0) (As := []) (rest := []) hSx hA hKs hw hS (c_X_forgetPlan l D tC A ad n I K bw LA bM aM S hN) kw_360 kw_357 kw_359 ks_X_forgetPlan kw_1 rfl rfl (by decide +kernel) ⟨Nat.le_of_ble_eq_true rfl, Nat.le_of_ble_eq_true rfl⟩ (nw_recv hK hw (hW_0) rfl) rfl hl.1 (Nat.le_of_ble_eq_true rfl) d_X_order_49 ⟨Nat.le_of_ble_eq_true rfl, Nat.le_of_ble_eq_true rfl⟩) hS (fun H locs hw hS => ?_)
  refine lv_aload_n hx hb d_X_order_52 rfl (lv_at hl 0 rfl) ?_
  refine nw_get hx hb hts i_X hown hK hw (0) (hW_0) rfl 0 (by decide) (hts _ kw_199) (fun _ h9 => h9) rfl d_X_order_53 ?_
  refine nw_new (fs := [.int (nI 0), .int (nI 0), .int (nI 0), .int (nI 0), .int (nI 0)]) hx hb hts i_Order t_Order tk_Order hown (hts _ kw_487) (hts _ kw_249) (hts _ kw_17) hK hw hS hA (48 + n 4) (hWn_Order hN hi9) (ci := 8) rfl (by intro j hj; revert j; decide) (Nat.le_of_ble_eq_true rfl) (Nat.le_of_ble_eq_true rfl) d_X_order_56 (fun ad1 H had1 hw hS => ?_)
  have ea0 : ad (0) = ad1 (0) := (had1 (0) (by omega)).symm
  have ea1 : ad (1) = ad1 (1) := (had1 (1) (by omega)).symm
  simp only [ea0, ea1] at hl
  simp only [ea0, ea1]
  rw [hW_ad (ad' := ad) (ad := ad1) (fun k hk => (had1 k (by omega)).symm)] at hw
  try simp only [ea0, ea1] at hw
  refine lv_dup hx hb d_X_order_59 rfl ?_
  refine lv_iload_n hx hb d_X_order_60 rfl (lv_at hl 1 rfl) ?_
  refine lv_iload_n hx hb d_X_order_61 rfl (lv_at hl 2 rfl) ?_
  refine lv_iload_n hx hb d_X_order_62 rfl (lv_at hl 3 rfl) ?_
  refine lv_iload hx hb d_X_order_63 (lv_at hl 4 rfl) ?_
  refine lv_iload hx hb d_X_order_65 (lv_at hl 5 rfl) ?_
  refine nw_call (nw_goIN (n := 5) (As := [.int (x1), .int (x2), .int (x3), .int (x4), .int (x5)]) (rest := [.ref (ad1 (48 + n 4)), .ref (ad1 (1))]) hSx hA hKs hw hS (c_Order_init l D tC A ad1 (hW ad1 tC n I (va_up K 0 (nI 0)) bw LA bM aM (upR S 0 0 (flR (S 0 0) (-1) 6))) (48 + n 4)    (x1) (x2) (x3) (x4) (x5)) kw_490 kn_488 kw_489 kw_17 rfl rfl rfl (by decide +kernel) ⟨Nat.le_of_ble_eq_true rfl, Nat.le_of_ble_eq_true rfl⟩ rfl hl.1 (Nat.le_of_ble_eq_true rfl) d_X_order_67 ⟨Nat.le_of_ble_eq_true rfl, Nat.le_of_ble_eq_true rfl⟩) hS (fun rv wn' ad2 H locs hpost hw hS => ?_)
  obtain ⟨rfl, had2, rfl⟩ := hpost
  have ea0 : ad1 (0) = ad2 (0) := (had2 (0) ).symm
  have ea1 : ad1 (1) = ad2 (1) := (had2 (1) ).symm
  have ea2 : ad1 (48 + n 4) = ad2 (48 + n 4) := (had2 (48 + n 4) ).symm
  simp only [ea0, ea1, ea2] at hl
  simp only [ea0, ea1, ea2]
  rw [hW_ad (ad' := ad1) (ad := ad2) (fun k hk => (had2 k ).symm)] at hw
  try simp only [ea0, ea1, ea2] at hw
  refine nw_call (nw_goVN (n := 1) (As := [.ref (ad2 (48 + n 4))]) (rest := []) hSx hA hKs hw hS (c_Farm_addOrder l D tC A ad2 n I (va_up K 0 (nI 0)) bw LA bM aM (upR S 0 0 (flR (S 0 0) (-1) 6)) hN (x1) (x2) (x3) (x4) (x5) hi9 sq hSq) kw_514 kn_511 kw_513 ks_Farm_addOrder kw_2 rfl rfl (by decide +kernel) ⟨Nat.le_of_ble_eq_true rfl, Nat.le_of_ble_eq_true rfl⟩ (nw_recv hK hw ((va_up_ne _ _ (by omega)).trans (hW_1)) rfl) rfl hl.1 (Nat.le_of_ble_eq_true rfl) d_X_order_70 ⟨Nat.le_of_ble_eq_true rfl, Nat.le_of_ble_eq_true rfl⟩) hS (fun rv wn' ad' H locs hpost hw hS => ?_)
  obtain ⟨hrv9, had9, d9, g1, g2, g3, hwn9⟩ := hpost
  subst hrv9
  rw [hwn9, had9] at hw
  exact nx_ret hQ (nw_iret rfl hx hb hr hlocks hw hS (⟨fun h => h ⟨hP1, hP2, hP3, hP4, hP5⟩, fun h => h hP6, ⟨rfl, fun k g0 => by rw [had2 k ]; rw [had1 k (by omega)], d9, g1, g2, g3, rfl⟩⟩) (Nat.le_of_ble_eq_true rfl) (Nat.le_of_ble_eq_true rfl) d_X_order_73)
