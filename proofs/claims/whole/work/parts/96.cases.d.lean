set_option maxHeartbeats 4000000 in
set_option maxRecDepth 100000 in
/-- case 3: size -/
theorem law_3 {p : Program} {l : Launch} {e : Env} {s : State} {m : MethodId} {args : Array Value} {below : List Frame} {meth : Method} {cd : Code} {Q : State → Prop} {D : va_G} {tC : Nat → ClassId} {A : Nat → Prop} {b N : Nat} {xs : Nat → Int32} (hSx : CallFix p m cd b_L_law 8 s args nw_T "HarvestPlansLaw") (hA : ∀ q, s.heap.size ≤ q → A q) (hAs : ∀ q, A q → s.heap.size ≤ q) (hKs : nw_K D hpC (hpT tC) s) (hF : nx_F s) (hfl : l.stackTraces = false) (hX : va_X b N xs s s.heap) (hbl : b < s.heap.size) (hbA : ¬ A b) (hN3 : N ≤ 3073) {cc cs i : Nat} (hcc : cc + 12 ≤ 669896) (hcs : cs + 120 ≤ 7086383) (hi : 1 + 6 * i + 6 ≤ N) (hNext : ∀ (ad : Nat → Nat) (n : Nat → Nat) (I : Nat → Nat → Int32) (K : Nat → Int32) (bw : Int64) (LA : Nat → Int64) (J : Nat → Int32) (bw2 : Int64) (L : Nat → Nat → Int64) (o : Nat → Int64) (S : Nat → Nat → Nat → Int32), LR n I K J S → ∀ (H : Heap) (locs : List Loc) (ls : Array Slot), nw_W D hpC A (cW ad tC n I K bw LA n J bw2 L o S) ad H → va_S A s.heap H locs → lv_has ls 8 [(0, .ref (b)), (1, .ref (ad (0))), (2, .ref (ad (64))), (3, .ref (ad (69))), (4, .int (nI (1 + 6 * i)))] → W p l e room_1 s m args below meth cd H locs (cc + 12) (cs + 120) Q (F0 m 1168 ls [])) (ad : Nat → Nat) (n : Nat → Nat) (I : Nat → Nat → Int32) (K : Nat → Int32) (bw : Int64) (LA : Nat → Int64) (J : Nat → Int32) (bw2 : Int64) (L : Nat → Nat → Int64) (o : Nat → Int64) (S : Nat → Nat → Nat → Int32) (hL : LR n I K J S) (H : Heap) (locs : List Loc) (ls : Array Slot) (hw : nw_W D hpC A (cW ad tC n I K bw LA n J bw2 L o S) ad H) (hS : va_S A s.heap H locs) (hl : lv_has ls 8 [(0, .ref (b)), (1, .ref (ad (0))), (2, .ref (ad (64))), (3, .ref (ad (69))), (4, .int (nI (1 + 6 * i)))]) : W p l e room_1 s m args below meth cd H locs cc cs Q (F0 m 347 ls []) := by
  obtain ⟨hx, hb, hml, hown, hts⟩ := id hSx
  have hK := hKs.1
  have hB : nx_B s s := ⟨State.WarmedH.refl s, Nat.le_refl _, fun _ _ => rfl⟩
  obtain ⟨hm, ow, sq, hLx⟩ := id hL
  have hN : hpN n := hLx.1.1
  obtain ⟨hn0, hn0', hn1, hn2, hn3, hn4⟩ := id hN
  have hJK : J 3 = K 0 := hLx.2.2.1.1
  have hH : ∀ c, c < n 2 → I 2 c = nI (hm c) ∧ hm c < n 1 := fun c hc => ⟨hLx.2.1.1 c hc, (hLx.1.2.2.2.1 c hc).2.1⟩
  have hHm : ∀ c, c < n 2 → S 5 2 c = nI (hm c) ∧ hm c < n 1 := fun c hc => ⟨(hLx.1.2.2.2.1 c hc).1, (hLx.1.2.2.2.1 c hc).2.1⟩
  have hO : ∀ o, o < n 4 → I 4 o = nI (ow o) ∧ ow o < n 0 := fun o ho => ⟨(hLx.1.2.2.2.2.2.2.1 o ho).2.1, (hLx.1.2.2.2.2.2.2.1 o ho).2.2.1⟩
  have hSq : ∀ k, k < n 4 → S 0 1 k = nI (sq k) ∧ sq k < n 4 := fun k hk => ⟨hLx.2.1.2.1 k hk, hLx.1.2.2.2.2.2.2.2.1 k hk⟩
  have hSo : ∀ q, q < n 4 → ∃ j, j < n 4 ∧ sq j = q := hLx.1.2.2.2.2.2.2.2.2.1
  have hPl := ok_pl hLx
  obtain ⟨hz1, hz4, hz51, hz56⟩ := hLx.2.1.2.2.2
  refine lv_aload_n hx hb d_L_law_347 rfl (lv_at hl 1 rfl) ?_
  refine lv_aload_n hx hb d_L_law_348 rfl (lv_at hl 0 rfl) ?_
  refine lv_iload hx hb d_L_law_349 (lv_at hl 4 rfl) ?_
  refine lv_iconst (v := nI 1) hx hb d_L_law_351 (by decide) ?_
  refine lv_iadd hx hb d_L_law_352 ?_
  refine lv_ei (y := nI (1 + 6 * i + 1)) (nI_add _ _) ?_
  refine va_sld hx hb hX hbl hbA hS (vp_in_nI (by omega) (by omega)) d_L_law_353 ?_
  refine lv_ei (y := xs (1 + 6 * i + 1)) (by rw [nI_clamp (by omega)]) ?_
  refine lv_aload_n hx hb d_L_law_354 rfl (lv_at hl 0 rfl) ?_
  refine lv_iload hx hb d_L_law_355 (lv_at hl 4 rfl) ?_
  refine lv_iconst (v := nI 2) hx hb d_L_law_357 (by decide) ?_
  refine lv_iadd hx hb d_L_law_358 ?_
  refine lv_ei (y := nI (1 + 6 * i + 2)) (nI_add _ _) ?_
  refine va_sld hx hb hX hbl hbA hS (vp_in_nI (by omega) (by omega)) d_L_law_359 ?_
  refine lv_ei (y := xs (1 + 6 * i + 2)) (by rw [nI_clamp (by omega)]) ?_
  refine lv_aload_n hx hb d_L_law_360 rfl (lv_at hl 0 rfl) ?_
  refine lv_iload hx hb d_L_law_361 (lv_at hl 4 rfl) ?_
  refine lv_iconst (v := nI 3) hx hb d_L_law_363 (by decide) ?_
  refine lv_iadd hx hb d_L_law_364 ?_
  refine lv_ei (y := nI (1 + 6 * i + 3)) (nI_add _ _) ?_
  refine va_sld hx hb hX hbl hbA hS (vp_in_nI (by omega) (by omega)) d_L_law_365 ?_
  refine lv_ei (y := xs (1 + 6 * i + 3)) (by rw [nI_clamp (by omega)]) ?_
  refine lv_aload_n hx hb d_L_law_366 rfl (lv_at hl 0 rfl) ?_
  refine lv_iload hx hb d_L_law_367 (lv_at hl 4 rfl) ?_
  refine lv_iconst (v := nI 4) hx hb d_L_law_369 (by decide) ?_
  refine lv_iadd hx hb d_L_law_370 ?_
  refine lv_ei (y := nI (1 + 6 * i + 4)) (nI_add _ _) ?_
  refine va_sld hx hb hX hbl hbA hS (vp_in_nI (by omega) (by omega)) d_L_law_371 ?_
  refine lv_ei (y := xs (1 + 6 * i + 4)) (by rw [nI_clamp (by omega)]) ?_
  refine lv_aload_n hx hb d_L_law_372 rfl (lv_at hl 3 rfl) ?_
  refine nx_callC (nx_goW (n := 6) (As := [.ref (ad (0)), .int (xs (1 + 6 * i + 1)), .int (xs (1 + 6 * i + 2)), .int (xs (1 + 6 * i + 3)), .int (xs (1 + 6 * i + 4)), .ref (ad (69))]) (rest := []) hSx hA hKs hF hB hAs hw hS (w_size l D tC A ad n I K bw LA n J bw2 L o S hN s hF hfl hAs (xs (1 + 6 * i + 1)) (xs (1 + 6 * i + 2)) (xs (1 + 6 * i + 3)) (xs (1 + 6 * i + 4)) ) kt_433 kw_431 kw_432 kw_0 rfl rfl (by decide +kernel) ⟨Nat.le_of_ble_eq_true rfl, Nat.le_of_ble_eq_true rfl⟩ rfl hl.1 (Nat.le_of_ble_eq_true rfl) d_L_law_373 ⟨by show _ ≤ 669896; omega, by show _ ≤ 7086383; omega⟩) hS (fun X wn' ad' H locs x cell hpost hw hS hcell hst hcls T' hT X0 => (lw_po_x hpost).elim) (fun rv wn' ad' H locs hpost hw hS => ?_)
  rcases lw_po_i hpost with ⟨hv, hba, hwn, had⟩ | ⟨hv, hnba, hbs, hwn, had⟩ | ⟨hv, hnba, hnbs, hG⟩
  · skip
    subst hv
    rw [hwn, had] at hw
    refine lv_istore (lv' := [(5, .int (nI 1)), (0, .ref (b)), (1, .ref (ad (0))), (2, .ref (ad (64))), (3, .ref (ad (69))), (4, .int (nI (1 + 6 * i)))]) hx hb d_L_law_376 hl (by decide) rfl (fun ls hl => ?_)
    refine lv_aload_n hx hb d_L_law_378 rfl (lv_at hl 3 rfl) ?_
    refine lv_aload_n hx hb d_L_law_379 rfl (lv_at hl 1 rfl) ?_
    refine lv_iload hx hb d_L_law_380 (lv_at hl 5 rfl) ?_
    refine lv_iconst (v := nI 1) hx hb d_L_law_382 (by decide) ?_
    refine lv_iadd hx hb d_L_law_383 ?_
    refine lv_ei (y := nI (1 + 6 * i + 1)) (nI_add _ _) ?_
    refine va_sld hx hb hX hbl hbA hS (vp_in_nI (by omega) (by omega)) d_L_law_384 ?_
    refine lv_ei (y := xs (1 + 6 * i + 1)) (by rw [nI_clamp (by omega)]) ?_
    refine lv_aload_n hx hb d_L_law_385 rfl (lv_at hl 1 rfl) ?_
    refine lv_iload hx hb d_L_law_386 (lv_at hl 5 rfl) ?_
    refine lv_iconst (v := nI 2) hx hb d_L_law_388 (by decide) ?_
    refine lv_iadd hx hb d_L_law_389 ?_
    refine lv_ei (y := nI (1 + 6 * i + 2)) (nI_add _ _) ?_
    refine va_sld hx hb hX hbl hbA hS (vp_in_nI (by omega) (by omega)) d_L_law_390 ?_
    refine lv_ei (y := xs (1 + 6 * i + 2)) (by rw [nI_clamp (by omega)]) ?_
    refine lv_aload_n hx hb d_L_law_391 rfl (lv_at hl 1 rfl) ?_
    refine lv_iload hx hb d_L_law_392 (lv_at hl 5 rfl) ?_
    refine lv_iconst (v := nI 3) hx hb d_L_law_394 (by decide) ?_
    refine lv_iadd hx hb d_L_law_395 ?_
    refine lv_ei (y := nI (1 + 6 * i + 3)) (nI_add _ _) ?_
    refine va_sld hx hb hX hbl hbA hS (vp_in_nI (by omega) (by omega)) d_L_law_396 ?_
    refine lv_ei (y := xs (1 + 6 * i + 3)) (by rw [nI_clamp (by omega)]) ?_
    refine lv_aload_n hx hb d_L_law_397 rfl (lv_at hl 1 rfl) ?_
    refine lv_iload hx hb d_L_law_398 (lv_at hl 5 rfl) ?_
    refine lv_iconst (v := nI 4) hx hb d_L_law_400 (by decide) ?_
    refine lv_iadd hx hb d_L_law_401 ?_
    refine lv_ei (y := nI (1 + 6 * i + 4)) (nI_add _ _) ?_
    refine va_sld hx hb hX hbl hbA hS (vp_in_nI (by omega) (by omega)) d_L_law_402 ?_
    refine lv_ei (y := xs (1 + 6 * i + 4)) (by rw [nI_clamp (by omega)]) ?_
    have hw := nw_W.as (wn' := mW ad tC n J bw2 L (obX ad tC n I K bw LA (bE tC o)) (arX tC n aE0) S) hw cW_m.symm
    refine nw_call (nw_goV (n := 4) (As := [.int (xs (1 + 6 * i + 1)), .int (xs (1 + 6 * i + 2)), .int (xs (1 + 6 * i + 3)), .int (xs (1 + 6 * i + 4))]) (rest := []) hSx hA hKs hw hS (c_M_size l D tC A ad n J bw2 L (obX ad tC n I K bw LA (bE tC o)) (arX tC n aE0) S hN (xs (1 + 6 * i + 1)) (xs (1 + 6 * i + 2)) (xs (1 + 6 * i + 3)) (xs (1 + 6 * i + 4)) ) kw_786 kw_783 kw_784 kw_785 kw_8 rfl rfl (by decide +kernel) ⟨Nat.le_of_ble_eq_true rfl, Nat.le_of_ble_eq_true rfl⟩ (nw_recv hK hw (mW_64) rfl) rfl hl.1 (Nat.le_of_ble_eq_true rfl) d_L_law_403 ⟨by show _ ≤ 669896; omega, by show _ ≤ 7086383; omega⟩) hS (fun rv wn' ad9 H locs hpost hw hS => ?_)
    obtain ⟨had9, hmo⟩ := hpost
    rw [had9] at hw
    rcases hmo with ⟨hq1, hq2, hq3⟩ | ⟨hq1, _⟩ | ⟨hq1, _⟩
    rotate_left
    · exact absurd hba hq1
    · exact absurd hba hq1
    subst hq2
    rw [hq3] at hw
    have hw := nw_W.as (wn' := cW ad tC n I K bw LA n (va_up J 0 1) bw2 L o S) hw cW_m
    refine lv_istore (lv' := [(6, .int (nI 0)), (5, .int (nI 1)), (0, .ref (b)), (1, .ref (ad (0))), (2, .ref (ad (64))), (3, .ref (ad (69))), (4, .int (nI (1 + 6 * i)))]) hx hb d_L_law_406 hl (by decide) rfl (fun ls hl => ?_)
    refine lv_aload_n hx hb d_L_law_408 rfl (lv_at hl 4 rfl) ?_
    have hw := nw_W.as (wn' := mW ad tC n (va_up J 0 1) bw2 L (obX ad tC n I K bw LA (bE tC o)) (arX tC n aE0) S) hw cW_m.symm
    refine nw_call (nw_goV (n := 0) (As := []) (rest := []) hSx hA hKs hw hS (c_M_thrown l D tC A ad n (va_up J 0 1) bw2 L (obX ad tC n I K bw LA (bE tC o)) (arX tC n aE0) S hN  ) kw_762 kw_759 kw_760 kw_761 kw_8 rfl rfl (by decide +kernel) ⟨Nat.le_of_ble_eq_true rfl, Nat.le_of_ble_eq_true rfl⟩ (nw_recv hK hw (mW_64) rfl) rfl hl.1 (Nat.le_of_ble_eq_true rfl) d_L_law_409 ⟨by show _ ≤ 669896; omega, by show _ ≤ 7086383; omega⟩) hS (fun rv wn' ad9 H locs hpost hw hS => ?_)
    obtain ⟨hv9, hwn9, had9⟩ := hpost
    subst hv9
    rw [hwn9, had9] at hw
    have hw := nw_W.as (wn' := cW ad tC n I K bw LA n (va_up J 0 1) bw2 L o S) hw cW_m
    refine lv_ei (y := nI 1) rfl ?_
    refine lv_iload hx hb d_L_law_412 (lv_at hl 1 rfl) ?_
    refine lv_icmp_eq (tgt := 419) hx hb d_L_law_414 (by decide) (fun c_414 => ?_) (fun c_414 => ?_)
    · skip
      refine lv_iload hx hb d_L_law_419 (lv_at hl 1 rfl) ?_
      refine lv_if_ne (tgt := 436) hx hb d_L_law_421 (by decide) (fun c_421 => ?_) (fun c_421 => ?_)
      · skip
        refine lv_goto (tgt := 1168) hx hb d_L_law_436 (by decide) ?_
        exact W.widen (by omega) (by omega) (hNext ad n I K bw LA (va_up J 0 1) bw2 L o S (LR_thr hL) _ _ ls hw hS (lv_sub hl [2, 3, 4, 5, 6] rfl))
      · skip
        first | exact absurd c_421 (by decide) | exact absurd (by decide) c_421
    · skip
      exact absurd rfl c_414
  · skip
    subst hv
    exact absurd trivial hbs
  · skip
    subst hv
    obtain ⟨had, hwn⟩ := hG
    rw [hwn, had] at hw
    refine lv_istore (lv' := [(5, .int (nI 0)), (0, .ref (b)), (1, .ref (ad (0))), (2, .ref (ad (64))), (3, .ref (ad (69))), (4, .int (nI (1 + 6 * i)))]) hx hb d_L_law_376 hl (by decide) rfl (fun ls hl => ?_)
    refine lv_aload_n hx hb d_L_law_378 rfl (lv_at hl 3 rfl) ?_
    refine lv_aload_n hx hb d_L_law_379 rfl (lv_at hl 1 rfl) ?_
    refine lv_iload hx hb d_L_law_380 (lv_at hl 5 rfl) ?_
    refine lv_iconst (v := nI 1) hx hb d_L_law_382 (by decide) ?_
    refine lv_iadd hx hb d_L_law_383 ?_
    refine lv_ei (y := nI (1 + 6 * i + 1)) (nI_add _ _) ?_
    refine va_sld hx hb hX hbl hbA hS (vp_in_nI (by omega) (by omega)) d_L_law_384 ?_
    refine lv_ei (y := xs (1 + 6 * i + 1)) (by rw [nI_clamp (by omega)]) ?_
    refine lv_aload_n hx hb d_L_law_385 rfl (lv_at hl 1 rfl) ?_
    refine lv_iload hx hb d_L_law_386 (lv_at hl 5 rfl) ?_
    refine lv_iconst (v := nI 2) hx hb d_L_law_388 (by decide) ?_
    refine lv_iadd hx hb d_L_law_389 ?_
    refine lv_ei (y := nI (1 + 6 * i + 2)) (nI_add _ _) ?_
    refine va_sld hx hb hX hbl hbA hS (vp_in_nI (by omega) (by omega)) d_L_law_390 ?_
    refine lv_ei (y := xs (1 + 6 * i + 2)) (by rw [nI_clamp (by omega)]) ?_
    refine lv_aload_n hx hb d_L_law_391 rfl (lv_at hl 1 rfl) ?_
    refine lv_iload hx hb d_L_law_392 (lv_at hl 5 rfl) ?_
    refine lv_iconst (v := nI 3) hx hb d_L_law_394 (by decide) ?_
    refine lv_iadd hx hb d_L_law_395 ?_
    refine lv_ei (y := nI (1 + 6 * i + 3)) (nI_add _ _) ?_
    refine va_sld hx hb hX hbl hbA hS (vp_in_nI (by omega) (by omega)) d_L_law_396 ?_
    refine lv_ei (y := xs (1 + 6 * i + 3)) (by rw [nI_clamp (by omega)]) ?_
    refine lv_aload_n hx hb d_L_law_397 rfl (lv_at hl 1 rfl) ?_
    refine lv_iload hx hb d_L_law_398 (lv_at hl 5 rfl) ?_
    refine lv_iconst (v := nI 4) hx hb d_L_law_400 (by decide) ?_
    refine lv_iadd hx hb d_L_law_401 ?_
    refine lv_ei (y := nI (1 + 6 * i + 4)) (nI_add _ _) ?_
    refine va_sld hx hb hX hbl hbA hS (vp_in_nI (by omega) (by omega)) d_L_law_402 ?_
    refine lv_ei (y := xs (1 + 6 * i + 4)) (by rw [nI_clamp (by omega)]) ?_
    have hw := nw_W.as (wn' := mW ad tC n J bw2 L (obX ad tC n I (va_up K 0 (nI 0)) bw LA (bE tC (vp_updL o 0 (((((xs (1 + 6 * i + 3)) * (xs (1 + 6 * i + 4))) / (nI 1000))).toInt64)))) (arX tC n aE0) (upR (upR (upR S 0 0 (flR (S 0 0) (-1) 6)) 2 ((xs (1 + 6 * i + 1)).toNatClampNeg) (upd ((upR S 0 0 (flR (S 0 0) (-1) 6)) 2 ((xs (1 + 6 * i + 1)).toNatClampNeg)) ((xs (1 + 6 * i + 2)).toNatClampNeg) (xs (1 + 6 * i + 3)))) 3 ((xs (1 + 6 * i + 1)).toNatClampNeg) (upd ((upR (upR S 0 0 (flR (S 0 0) (-1) 6)) 2 ((xs (1 + 6 * i + 1)).toNatClampNeg) (upd ((upR S 0 0 (flR (S 0 0) (-1) 6)) 2 ((xs (1 + 6 * i + 1)).toNatClampNeg)) ((xs (1 + 6 * i + 2)).toNatClampNeg) (xs (1 + 6 * i + 3)))) 3 ((xs (1 + 6 * i + 1)).toNatClampNeg)) ((xs (1 + 6 * i + 2)).toNatClampNeg) (((xs (1 + 6 * i + 3)) * (xs (1 + 6 * i + 4))) / (nI 1000))))) hw cW_m.symm
    refine nw_call (nw_goV (n := 4) (As := [.int (xs (1 + 6 * i + 1)), .int (xs (1 + 6 * i + 2)), .int (xs (1 + 6 * i + 3)), .int (xs (1 + 6 * i + 4))]) (rest := []) hSx hA hKs hw hS (c_M_size l D tC A ad n J bw2 L (obX ad tC n I (va_up K 0 (nI 0)) bw LA (bE tC (vp_updL o 0 (((((xs (1 + 6 * i + 3)) * (xs (1 + 6 * i + 4))) / (nI 1000))).toInt64)))) (arX tC n aE0) (upR (upR (upR S 0 0 (flR (S 0 0) (-1) 6)) 2 ((xs (1 + 6 * i + 1)).toNatClampNeg) (upd ((upR S 0 0 (flR (S 0 0) (-1) 6)) 2 ((xs (1 + 6 * i + 1)).toNatClampNeg)) ((xs (1 + 6 * i + 2)).toNatClampNeg) (xs (1 + 6 * i + 3)))) 3 ((xs (1 + 6 * i + 1)).toNatClampNeg) (upd ((upR (upR S 0 0 (flR (S 0 0) (-1) 6)) 2 ((xs (1 + 6 * i + 1)).toNatClampNeg) (upd ((upR S 0 0 (flR (S 0 0) (-1) 6)) 2 ((xs (1 + 6 * i + 1)).toNatClampNeg)) ((xs (1 + 6 * i + 2)).toNatClampNeg) (xs (1 + 6 * i + 3)))) 3 ((xs (1 + 6 * i + 1)).toNatClampNeg)) ((xs (1 + 6 * i + 2)).toNatClampNeg) (((xs (1 + 6 * i + 3)) * (xs (1 + 6 * i + 4))) / (nI 1000)))) hN (xs (1 + 6 * i + 1)) (xs (1 + 6 * i + 2)) (xs (1 + 6 * i + 3)) (xs (1 + 6 * i + 4)) ) kw_786 kw_783 kw_784 kw_785 kw_8 rfl rfl (by decide +kernel) ⟨Nat.le_of_ble_eq_true rfl, Nat.le_of_ble_eq_true rfl⟩ (nw_recv hK hw (mW_64) rfl) rfl hl.1 (Nat.le_of_ble_eq_true rfl) d_L_law_403 ⟨by show _ ≤ 669896; omega, by show _ ≤ 7086383; omega⟩) hS (fun rv wn' ad9 H locs hpost hw hS => ?_)
    obtain ⟨had9, hmo⟩ := hpost
    rw [had9] at hw
    rcases hmo with ⟨hq1, _⟩ | ⟨hq1, hq4, _⟩ | ⟨hq1, hq4, hGm⟩
    · exact absurd hq1 hnba
    · exact absurd hq4 hnbs
    obtain ⟨hv9, hw9⟩ := hGm
    subst hv9
    rw [hw9] at hw
    have hw := nw_W.as (wn' := cW ad tC n I (va_up K 0 (nI 0)) bw LA n (va_up (va_up J 0 (nI 0)) 3 (nI 0)) bw2 L (vp_updL o 0 (((((xs (1 + 6 * i + 3)) * (xs (1 + 6 * i + 4))) / (nI 1000))).toInt64)) (upR (upR (upR (upR (upR S 0 0 (flR (S 0 0) (-1) 6)) 2 ((xs (1 + 6 * i + 1)).toNatClampNeg) (upd ((upR S 0 0 (flR (S 0 0) (-1) 6)) 2 ((xs (1 + 6 * i + 1)).toNatClampNeg)) ((xs (1 + 6 * i + 2)).toNatClampNeg) (xs (1 + 6 * i + 3)))) 3 ((xs (1 + 6 * i + 1)).toNatClampNeg) (upd ((upR (upR S 0 0 (flR (S 0 0) (-1) 6)) 2 ((xs (1 + 6 * i + 1)).toNatClampNeg) (upd ((upR S 0 0 (flR (S 0 0) (-1) 6)) 2 ((xs (1 + 6 * i + 1)).toNatClampNeg)) ((xs (1 + 6 * i + 2)).toNatClampNeg) (xs (1 + 6 * i + 3)))) 3 ((xs (1 + 6 * i + 1)).toNatClampNeg)) ((xs (1 + 6 * i + 2)).toNatClampNeg) (((xs (1 + 6 * i + 3)) * (xs (1 + 6 * i + 4))) / (nI 1000)))) 5 3 (upd ((upR (upR (upR S 0 0 (flR (S 0 0) (-1) 6)) 2 ((xs (1 + 6 * i + 1)).toNatClampNeg) (upd ((upR S 0 0 (flR (S 0 0) (-1) 6)) 2 ((xs (1 + 6 * i + 1)).toNatClampNeg)) ((xs (1 + 6 * i + 2)).toNatClampNeg) (xs (1 + 6 * i + 3)))) 3 ((xs (1 + 6 * i + 1)).toNatClampNeg) (upd ((upR (upR S 0 0 (flR (S 0 0) (-1) 6)) 2 ((xs (1 + 6 * i + 1)).toNatClampNeg) (upd ((upR S 0 0 (flR (S 0 0) (-1) 6)) 2 ((xs (1 + 6 * i + 1)).toNatClampNeg)) ((xs (1 + 6 * i + 2)).toNatClampNeg) (xs (1 + 6 * i + 3)))) 3 ((xs (1 + 6 * i + 1)).toNatClampNeg)) ((xs (1 + 6 * i + 2)).toNatClampNeg) (((xs (1 + 6 * i + 3)) * (xs (1 + 6 * i + 4))) / (nI 1000)))) 5 3) (8 * ((xs (1 + 6 * i + 1)).toNatClampNeg) + ((xs (1 + 6 * i + 2)).toNatClampNeg)) (xs (1 + 6 * i + 3)))) 5 4 (upd ((upR (upR (upR (upR S 0 0 (flR (S 0 0) (-1) 6)) 2 ((xs (1 + 6 * i + 1)).toNatClampNeg) (upd ((upR S 0 0 (flR (S 0 0) (-1) 6)) 2 ((xs (1 + 6 * i + 1)).toNatClampNeg)) ((xs (1 + 6 * i + 2)).toNatClampNeg) (xs (1 + 6 * i + 3)))) 3 ((xs (1 + 6 * i + 1)).toNatClampNeg) (upd ((upR (upR S 0 0 (flR (S 0 0) (-1) 6)) 2 ((xs (1 + 6 * i + 1)).toNatClampNeg) (upd ((upR S 0 0 (flR (S 0 0) (-1) 6)) 2 ((xs (1 + 6 * i + 1)).toNatClampNeg)) ((xs (1 + 6 * i + 2)).toNatClampNeg) (xs (1 + 6 * i + 3)))) 3 ((xs (1 + 6 * i + 1)).toNatClampNeg)) ((xs (1 + 6 * i + 2)).toNatClampNeg) (((xs (1 + 6 * i + 3)) * (xs (1 + 6 * i + 4))) / (nI 1000)))) 5 3 (upd ((upR (upR (upR S 0 0 (flR (S 0 0) (-1) 6)) 2 ((xs (1 + 6 * i + 1)).toNatClampNeg) (upd ((upR S 0 0 (flR (S 0 0) (-1) 6)) 2 ((xs (1 + 6 * i + 1)).toNatClampNeg)) ((xs (1 + 6 * i + 2)).toNatClampNeg) (xs (1 + 6 * i + 3)))) 3 ((xs (1 + 6 * i + 1)).toNatClampNeg) (upd ((upR (upR S 0 0 (flR (S 0 0) (-1) 6)) 2 ((xs (1 + 6 * i + 1)).toNatClampNeg) (upd ((upR S 0 0 (flR (S 0 0) (-1) 6)) 2 ((xs (1 + 6 * i + 1)).toNatClampNeg)) ((xs (1 + 6 * i + 2)).toNatClampNeg) (xs (1 + 6 * i + 3)))) 3 ((xs (1 + 6 * i + 1)).toNatClampNeg)) ((xs (1 + 6 * i + 2)).toNatClampNeg) (((xs (1 + 6 * i + 3)) * (xs (1 + 6 * i + 4))) / (nI 1000)))) 5 3) (8 * ((xs (1 + 6 * i + 1)).toNatClampNeg) + ((xs (1 + 6 * i + 2)).toNatClampNeg)) (xs (1 + 6 * i + 3)))) 5 4) (8 * ((xs (1 + 6 * i + 1)).toNatClampNeg) + ((xs (1 + 6 * i + 2)).toNatClampNeg)) (xs (1 + 6 * i + 4))))) hw cW_m
    refine lv_istore (lv' := [(6, .int ((kM (upR (upR (upR (upR (upR S 0 0 (flR (S 0 0) (-1) 6)) 2 ((xs (1 + 6 * i + 1)).toNatClampNeg) (upd ((upR S 0 0 (flR (S 0 0) (-1) 6)) 2 ((xs (1 + 6 * i + 1)).toNatClampNeg)) ((xs (1 + 6 * i + 2)).toNatClampNeg) (xs (1 + 6 * i + 3)))) 3 ((xs (1 + 6 * i + 1)).toNatClampNeg) (upd ((upR (upR S 0 0 (flR (S 0 0) (-1) 6)) 2 ((xs (1 + 6 * i + 1)).toNatClampNeg) (upd ((upR S 0 0 (flR (S 0 0) (-1) 6)) 2 ((xs (1 + 6 * i + 1)).toNatClampNeg)) ((xs (1 + 6 * i + 2)).toNatClampNeg) (xs (1 + 6 * i + 3)))) 3 ((xs (1 + 6 * i + 1)).toNatClampNeg)) ((xs (1 + 6 * i + 2)).toNatClampNeg) (((xs (1 + 6 * i + 3)) * (xs (1 + 6 * i + 4))) / (nI 1000)))) 5 3 (upd ((upR (upR (upR S 0 0 (flR (S 0 0) (-1) 6)) 2 ((xs (1 + 6 * i + 1)).toNatClampNeg) (upd ((upR S 0 0 (flR (S 0 0) (-1) 6)) 2 ((xs (1 + 6 * i + 1)).toNatClampNeg)) ((xs (1 + 6 * i + 2)).toNatClampNeg) (xs (1 + 6 * i + 3)))) 3 ((xs (1 + 6 * i + 1)).toNatClampNeg) (upd ((upR (upR S 0 0 (flR (S 0 0) (-1) 6)) 2 ((xs (1 + 6 * i + 1)).toNatClampNeg) (upd ((upR S 0 0 (flR (S 0 0) (-1) 6)) 2 ((xs (1 + 6 * i + 1)).toNatClampNeg)) ((xs (1 + 6 * i + 2)).toNatClampNeg) (xs (1 + 6 * i + 3)))) 3 ((xs (1 + 6 * i + 1)).toNatClampNeg)) ((xs (1 + 6 * i + 2)).toNatClampNeg) (((xs (1 + 6 * i + 3)) * (xs (1 + 6 * i + 4))) / (nI 1000)))) 5 3) (8 * ((xs (1 + 6 * i + 1)).toNatClampNeg) + ((xs (1 + 6 * i + 2)).toNatClampNeg)) (xs (1 + 6 * i + 3)))) 5 4 (upd ((upR (upR (upR (upR S 0 0 (flR (S 0 0) (-1) 6)) 2 ((xs (1 + 6 * i + 1)).toNatClampNeg) (upd ((upR S 0 0 (flR (S 0 0) (-1) 6)) 2 ((xs (1 + 6 * i + 1)).toNatClampNeg)) ((xs (1 + 6 * i + 2)).toNatClampNeg) (xs (1 + 6 * i + 3)))) 3 ((xs (1 + 6 * i + 1)).toNatClampNeg) (upd ((upR (upR S 0 0 (flR (S 0 0) (-1) 6)) 2 ((xs (1 + 6 * i + 1)).toNatClampNeg) (upd ((upR S 0 0 (flR (S 0 0) (-1) 6)) 2 ((xs (1 + 6 * i + 1)).toNatClampNeg)) ((xs (1 + 6 * i + 2)).toNatClampNeg) (xs (1 + 6 * i + 3)))) 3 ((xs (1 + 6 * i + 1)).toNatClampNeg)) ((xs (1 + 6 * i + 2)).toNatClampNeg) (((xs (1 + 6 * i + 3)) * (xs (1 + 6 * i + 4))) / (nI 1000)))) 5 3 (upd ((upR (upR (upR S 0 0 (flR (S 0 0) (-1) 6)) 2 ((xs (1 + 6 * i + 1)).toNatClampNeg) (upd ((upR S 0 0 (flR (S 0 0) (-1) 6)) 2 ((xs (1 + 6 * i + 1)).toNatClampNeg)) ((xs (1 + 6 * i + 2)).toNatClampNeg) (xs (1 + 6 * i + 3)))) 3 ((xs (1 + 6 * i + 1)).toNatClampNeg) (upd ((upR (upR S 0 0 (flR (S 0 0) (-1) 6)) 2 ((xs (1 + 6 * i + 1)).toNatClampNeg) (upd ((upR S 0 0 (flR (S 0 0) (-1) 6)) 2 ((xs (1 + 6 * i + 1)).toNatClampNeg)) ((xs (1 + 6 * i + 2)).toNatClampNeg) (xs (1 + 6 * i + 3)))) 3 ((xs (1 + 6 * i + 1)).toNatClampNeg)) ((xs (1 + 6 * i + 2)).toNatClampNeg) (((xs (1 + 6 * i + 3)) * (xs (1 + 6 * i + 4))) / (nI 1000)))) 5 3) (8 * ((xs (1 + 6 * i + 1)).toNatClampNeg) + ((xs (1 + 6 * i + 2)).toNatClampNeg)) (xs (1 + 6 * i + 3)))) 5 4) (8 * ((xs (1 + 6 * i + 1)).toNatClampNeg) + ((xs (1 + 6 * i + 2)).toNatClampNeg)) (xs (1 + 6 * i + 4)))) ((xs (1 + 6 * i + 1)).toNatClampNeg) ((xs (1 + 6 * i + 2)).toNatClampNeg)).toInt32)), (5, .int (nI 0)), (0, .ref (b)), (1, .ref (ad (0))), (2, .ref (ad (64))), (3, .ref (ad (69))), (4, .int (nI (1 + 6 * i)))]) hx hb d_L_law_406 hl (by decide) rfl (fun ls hl => ?_)
    refine lv_aload_n hx hb d_L_law_408 rfl (lv_at hl 4 rfl) ?_
    have hw := nw_W.as (wn' := mW ad tC n (va_up (va_up J 0 (nI 0)) 3 (nI 0)) bw2 L (obX ad tC n I (va_up K 0 (nI 0)) bw LA (bE tC (vp_updL o 0 (((((xs (1 + 6 * i + 3)) * (xs (1 + 6 * i + 4))) / (nI 1000))).toInt64)))) (arX tC n aE0) (upR (upR (upR (upR (upR S 0 0 (flR (S 0 0) (-1) 6)) 2 ((xs (1 + 6 * i + 1)).toNatClampNeg) (upd ((upR S 0 0 (flR (S 0 0) (-1) 6)) 2 ((xs (1 + 6 * i + 1)).toNatClampNeg)) ((xs (1 + 6 * i + 2)).toNatClampNeg) (xs (1 + 6 * i + 3)))) 3 ((xs (1 + 6 * i + 1)).toNatClampNeg) (upd ((upR (upR S 0 0 (flR (S 0 0) (-1) 6)) 2 ((xs (1 + 6 * i + 1)).toNatClampNeg) (upd ((upR S 0 0 (flR (S 0 0) (-1) 6)) 2 ((xs (1 + 6 * i + 1)).toNatClampNeg)) ((xs (1 + 6 * i + 2)).toNatClampNeg) (xs (1 + 6 * i + 3)))) 3 ((xs (1 + 6 * i + 1)).toNatClampNeg)) ((xs (1 + 6 * i + 2)).toNatClampNeg) (((xs (1 + 6 * i + 3)) * (xs (1 + 6 * i + 4))) / (nI 1000)))) 5 3 (upd ((upR (upR (upR S 0 0 (flR (S 0 0) (-1) 6)) 2 ((xs (1 + 6 * i + 1)).toNatClampNeg) (upd ((upR S 0 0 (flR (S 0 0) (-1) 6)) 2 ((xs (1 + 6 * i + 1)).toNatClampNeg)) ((xs (1 + 6 * i + 2)).toNatClampNeg) (xs (1 + 6 * i + 3)))) 3 ((xs (1 + 6 * i + 1)).toNatClampNeg) (upd ((upR (upR S 0 0 (flR (S 0 0) (-1) 6)) 2 ((xs (1 + 6 * i + 1)).toNatClampNeg) (upd ((upR S 0 0 (flR (S 0 0) (-1) 6)) 2 ((xs (1 + 6 * i + 1)).toNatClampNeg)) ((xs (1 + 6 * i + 2)).toNatClampNeg) (xs (1 + 6 * i + 3)))) 3 ((xs (1 + 6 * i + 1)).toNatClampNeg)) ((xs (1 + 6 * i + 2)).toNatClampNeg) (((xs (1 + 6 * i + 3)) * (xs (1 + 6 * i + 4))) / (nI 1000)))) 5 3) (8 * ((xs (1 + 6 * i + 1)).toNatClampNeg) + ((xs (1 + 6 * i + 2)).toNatClampNeg)) (xs (1 + 6 * i + 3)))) 5 4 (upd ((upR (upR (upR (upR S 0 0 (flR (S 0 0) (-1) 6)) 2 ((xs (1 + 6 * i + 1)).toNatClampNeg) (upd ((upR S 0 0 (flR (S 0 0) (-1) 6)) 2 ((xs (1 + 6 * i + 1)).toNatClampNeg)) ((xs (1 + 6 * i + 2)).toNatClampNeg) (xs (1 + 6 * i + 3)))) 3 ((xs (1 + 6 * i + 1)).toNatClampNeg) (upd ((upR (upR S 0 0 (flR (S 0 0) (-1) 6)) 2 ((xs (1 + 6 * i + 1)).toNatClampNeg) (upd ((upR S 0 0 (flR (S 0 0) (-1) 6)) 2 ((xs (1 + 6 * i + 1)).toNatClampNeg)) ((xs (1 + 6 * i + 2)).toNatClampNeg) (xs (1 + 6 * i + 3)))) 3 ((xs (1 + 6 * i + 1)).toNatClampNeg)) ((xs (1 + 6 * i + 2)).toNatClampNeg) (((xs (1 + 6 * i + 3)) * (xs (1 + 6 * i + 4))) / (nI 1000)))) 5 3 (upd ((upR (upR (upR S 0 0 (flR (S 0 0) (-1) 6)) 2 ((xs (1 + 6 * i + 1)).toNatClampNeg) (upd ((upR S 0 0 (flR (S 0 0) (-1) 6)) 2 ((xs (1 + 6 * i + 1)).toNatClampNeg)) ((xs (1 + 6 * i + 2)).toNatClampNeg) (xs (1 + 6 * i + 3)))) 3 ((xs (1 + 6 * i + 1)).toNatClampNeg) (upd ((upR (upR S 0 0 (flR (S 0 0) (-1) 6)) 2 ((xs (1 + 6 * i + 1)).toNatClampNeg) (upd ((upR S 0 0 (flR (S 0 0) (-1) 6)) 2 ((xs (1 + 6 * i + 1)).toNatClampNeg)) ((xs (1 + 6 * i + 2)).toNatClampNeg) (xs (1 + 6 * i + 3)))) 3 ((xs (1 + 6 * i + 1)).toNatClampNeg)) ((xs (1 + 6 * i + 2)).toNatClampNeg) (((xs (1 + 6 * i + 3)) * (xs (1 + 6 * i + 4))) / (nI 1000)))) 5 3) (8 * ((xs (1 + 6 * i + 1)).toNatClampNeg) + ((xs (1 + 6 * i + 2)).toNatClampNeg)) (xs (1 + 6 * i + 3)))) 5 4) (8 * ((xs (1 + 6 * i + 1)).toNatClampNeg) + ((xs (1 + 6 * i + 2)).toNatClampNeg)) (xs (1 + 6 * i + 4))))) hw cW_m.symm
    refine nw_call (nw_goV (n := 0) (As := []) (rest := []) hSx hA hKs hw hS (c_M_thrown l D tC A ad n (va_up (va_up J 0 (nI 0)) 3 (nI 0)) bw2 L (obX ad tC n I (va_up K 0 (nI 0)) bw LA (bE tC (vp_updL o 0 (((((xs (1 + 6 * i + 3)) * (xs (1 + 6 * i + 4))) / (nI 1000))).toInt64)))) (arX tC n aE0) (upR (upR (upR (upR (upR S 0 0 (flR (S 0 0) (-1) 6)) 2 ((xs (1 + 6 * i + 1)).toNatClampNeg) (upd ((upR S 0 0 (flR (S 0 0) (-1) 6)) 2 ((xs (1 + 6 * i + 1)).toNatClampNeg)) ((xs (1 + 6 * i + 2)).toNatClampNeg) (xs (1 + 6 * i + 3)))) 3 ((xs (1 + 6 * i + 1)).toNatClampNeg) (upd ((upR (upR S 0 0 (flR (S 0 0) (-1) 6)) 2 ((xs (1 + 6 * i + 1)).toNatClampNeg) (upd ((upR S 0 0 (flR (S 0 0) (-1) 6)) 2 ((xs (1 + 6 * i + 1)).toNatClampNeg)) ((xs (1 + 6 * i + 2)).toNatClampNeg) (xs (1 + 6 * i + 3)))) 3 ((xs (1 + 6 * i + 1)).toNatClampNeg)) ((xs (1 + 6 * i + 2)).toNatClampNeg) (((xs (1 + 6 * i + 3)) * (xs (1 + 6 * i + 4))) / (nI 1000)))) 5 3 (upd ((upR (upR (upR S 0 0 (flR (S 0 0) (-1) 6)) 2 ((xs (1 + 6 * i + 1)).toNatClampNeg) (upd ((upR S 0 0 (flR (S 0 0) (-1) 6)) 2 ((xs (1 + 6 * i + 1)).toNatClampNeg)) ((xs (1 + 6 * i + 2)).toNatClampNeg) (xs (1 + 6 * i + 3)))) 3 ((xs (1 + 6 * i + 1)).toNatClampNeg) (upd ((upR (upR S 0 0 (flR (S 0 0) (-1) 6)) 2 ((xs (1 + 6 * i + 1)).toNatClampNeg) (upd ((upR S 0 0 (flR (S 0 0) (-1) 6)) 2 ((xs (1 + 6 * i + 1)).toNatClampNeg)) ((xs (1 + 6 * i + 2)).toNatClampNeg) (xs (1 + 6 * i + 3)))) 3 ((xs (1 + 6 * i + 1)).toNatClampNeg)) ((xs (1 + 6 * i + 2)).toNatClampNeg) (((xs (1 + 6 * i + 3)) * (xs (1 + 6 * i + 4))) / (nI 1000)))) 5 3) (8 * ((xs (1 + 6 * i + 1)).toNatClampNeg) + ((xs (1 + 6 * i + 2)).toNatClampNeg)) (xs (1 + 6 * i + 3)))) 5 4 (upd ((upR (upR (upR (upR S 0 0 (flR (S 0 0) (-1) 6)) 2 ((xs (1 + 6 * i + 1)).toNatClampNeg) (upd ((upR S 0 0 (flR (S 0 0) (-1) 6)) 2 ((xs (1 + 6 * i + 1)).toNatClampNeg)) ((xs (1 + 6 * i + 2)).toNatClampNeg) (xs (1 + 6 * i + 3)))) 3 ((xs (1 + 6 * i + 1)).toNatClampNeg) (upd ((upR (upR S 0 0 (flR (S 0 0) (-1) 6)) 2 ((xs (1 + 6 * i + 1)).toNatClampNeg) (upd ((upR S 0 0 (flR (S 0 0) (-1) 6)) 2 ((xs (1 + 6 * i + 1)).toNatClampNeg)) ((xs (1 + 6 * i + 2)).toNatClampNeg) (xs (1 + 6 * i + 3)))) 3 ((xs (1 + 6 * i + 1)).toNatClampNeg)) ((xs (1 + 6 * i + 2)).toNatClampNeg) (((xs (1 + 6 * i + 3)) * (xs (1 + 6 * i + 4))) / (nI 1000)))) 5 3 (upd ((upR (upR (upR S 0 0 (flR (S 0 0) (-1) 6)) 2 ((xs (1 + 6 * i + 1)).toNatClampNeg) (upd ((upR S 0 0 (flR (S 0 0) (-1) 6)) 2 ((xs (1 + 6 * i + 1)).toNatClampNeg)) ((xs (1 + 6 * i + 2)).toNatClampNeg) (xs (1 + 6 * i + 3)))) 3 ((xs (1 + 6 * i + 1)).toNatClampNeg) (upd ((upR (upR S 0 0 (flR (S 0 0) (-1) 6)) 2 ((xs (1 + 6 * i + 1)).toNatClampNeg) (upd ((upR S 0 0 (flR (S 0 0) (-1) 6)) 2 ((xs (1 + 6 * i + 1)).toNatClampNeg)) ((xs (1 + 6 * i + 2)).toNatClampNeg) (xs (1 + 6 * i + 3)))) 3 ((xs (1 + 6 * i + 1)).toNatClampNeg)) ((xs (1 + 6 * i + 2)).toNatClampNeg) (((xs (1 + 6 * i + 3)) * (xs (1 + 6 * i + 4))) / (nI 1000)))) 5 3) (8 * ((xs (1 + 6 * i + 1)).toNatClampNeg) + ((xs (1 + 6 * i + 2)).toNatClampNeg)) (xs (1 + 6 * i + 3)))) 5 4) (8 * ((xs (1 + 6 * i + 1)).toNatClampNeg) + ((xs (1 + 6 * i + 2)).toNatClampNeg)) (xs (1 + 6 * i + 4)))) hN  ) kw_762 kw_759 kw_760 kw_761 kw_8 rfl rfl (by decide +kernel) ⟨Nat.le_of_ble_eq_true rfl, Nat.le_of_ble_eq_true rfl⟩ (nw_recv hK hw (mW_64) rfl) rfl hl.1 (Nat.le_of_ble_eq_true rfl) d_L_law_409 ⟨by show _ ≤ 669896; omega, by show _ ≤ 7086383; omega⟩) hS (fun rv wn' ad9 H locs hpost hw hS => ?_)
    obtain ⟨hv9, hwn9, had9⟩ := hpost
    subst hv9
    rw [hwn9, had9] at hw
    have hw := nw_W.as (wn' := cW ad tC n I (va_up K 0 (nI 0)) bw LA n (va_up (va_up J 0 (nI 0)) 3 (nI 0)) bw2 L (vp_updL o 0 (((((xs (1 + 6 * i + 3)) * (xs (1 + 6 * i + 4))) / (nI 1000))).toInt64)) (upR (upR (upR (upR (upR S 0 0 (flR (S 0 0) (-1) 6)) 2 ((xs (1 + 6 * i + 1)).toNatClampNeg) (upd ((upR S 0 0 (flR (S 0 0) (-1) 6)) 2 ((xs (1 + 6 * i + 1)).toNatClampNeg)) ((xs (1 + 6 * i + 2)).toNatClampNeg) (xs (1 + 6 * i + 3)))) 3 ((xs (1 + 6 * i + 1)).toNatClampNeg) (upd ((upR (upR S 0 0 (flR (S 0 0) (-1) 6)) 2 ((xs (1 + 6 * i + 1)).toNatClampNeg) (upd ((upR S 0 0 (flR (S 0 0) (-1) 6)) 2 ((xs (1 + 6 * i + 1)).toNatClampNeg)) ((xs (1 + 6 * i + 2)).toNatClampNeg) (xs (1 + 6 * i + 3)))) 3 ((xs (1 + 6 * i + 1)).toNatClampNeg)) ((xs (1 + 6 * i + 2)).toNatClampNeg) (((xs (1 + 6 * i + 3)) * (xs (1 + 6 * i + 4))) / (nI 1000)))) 5 3 (upd ((upR (upR (upR S 0 0 (flR (S 0 0) (-1) 6)) 2 ((xs (1 + 6 * i + 1)).toNatClampNeg) (upd ((upR S 0 0 (flR (S 0 0) (-1) 6)) 2 ((xs (1 + 6 * i + 1)).toNatClampNeg)) ((xs (1 + 6 * i + 2)).toNatClampNeg) (xs (1 + 6 * i + 3)))) 3 ((xs (1 + 6 * i + 1)).toNatClampNeg) (upd ((upR (upR S 0 0 (flR (S 0 0) (-1) 6)) 2 ((xs (1 + 6 * i + 1)).toNatClampNeg) (upd ((upR S 0 0 (flR (S 0 0) (-1) 6)) 2 ((xs (1 + 6 * i + 1)).toNatClampNeg)) ((xs (1 + 6 * i + 2)).toNatClampNeg) (xs (1 + 6 * i + 3)))) 3 ((xs (1 + 6 * i + 1)).toNatClampNeg)) ((xs (1 + 6 * i + 2)).toNatClampNeg) (((xs (1 + 6 * i + 3)) * (xs (1 + 6 * i + 4))) / (nI 1000)))) 5 3) (8 * ((xs (1 + 6 * i + 1)).toNatClampNeg) + ((xs (1 + 6 * i + 2)).toNatClampNeg)) (xs (1 + 6 * i + 3)))) 5 4 (upd ((upR (upR (upR (upR S 0 0 (flR (S 0 0) (-1) 6)) 2 ((xs (1 + 6 * i + 1)).toNatClampNeg) (upd ((upR S 0 0 (flR (S 0 0) (-1) 6)) 2 ((xs (1 + 6 * i + 1)).toNatClampNeg)) ((xs (1 + 6 * i + 2)).toNatClampNeg) (xs (1 + 6 * i + 3)))) 3 ((xs (1 + 6 * i + 1)).toNatClampNeg) (upd ((upR (upR S 0 0 (flR (S 0 0) (-1) 6)) 2 ((xs (1 + 6 * i + 1)).toNatClampNeg) (upd ((upR S 0 0 (flR (S 0 0) (-1) 6)) 2 ((xs (1 + 6 * i + 1)).toNatClampNeg)) ((xs (1 + 6 * i + 2)).toNatClampNeg) (xs (1 + 6 * i + 3)))) 3 ((xs (1 + 6 * i + 1)).toNatClampNeg)) ((xs (1 + 6 * i + 2)).toNatClampNeg) (((xs (1 + 6 * i + 3)) * (xs (1 + 6 * i + 4))) / (nI 1000)))) 5 3 (upd ((upR (upR (upR S 0 0 (flR (S 0 0) (-1) 6)) 2 ((xs (1 + 6 * i + 1)).toNatClampNeg) (upd ((upR S 0 0 (flR (S 0 0) (-1) 6)) 2 ((xs (1 + 6 * i + 1)).toNatClampNeg)) ((xs (1 + 6 * i + 2)).toNatClampNeg) (xs (1 + 6 * i + 3)))) 3 ((xs (1 + 6 * i + 1)).toNatClampNeg) (upd ((upR (upR S 0 0 (flR (S 0 0) (-1) 6)) 2 ((xs (1 + 6 * i + 1)).toNatClampNeg) (upd ((upR S 0 0 (flR (S 0 0) (-1) 6)) 2 ((xs (1 + 6 * i + 1)).toNatClampNeg)) ((xs (1 + 6 * i + 2)).toNatClampNeg) (xs (1 + 6 * i + 3)))) 3 ((xs (1 + 6 * i + 1)).toNatClampNeg)) ((xs (1 + 6 * i + 2)).toNatClampNeg) (((xs (1 + 6 * i + 3)) * (xs (1 + 6 * i + 4))) / (nI 1000)))) 5 3) (8 * ((xs (1 + 6 * i + 1)).toNatClampNeg) + ((xs (1 + 6 * i + 2)).toNatClampNeg)) (xs (1 + 6 * i + 3)))) 5 4) (8 * ((xs (1 + 6 * i + 1)).toNatClampNeg) + ((xs (1 + 6 * i + 2)).toNatClampNeg)) (xs (1 + 6 * i + 4))))) hw cW_m
    refine lv_ei (y := nI 0) rfl ?_
    refine lv_iload hx hb d_L_law_412 (lv_at hl 1 rfl) ?_
    refine lv_icmp_eq (tgt := 419) hx hb d_L_law_414 (by decide) (fun c_414 => ?_) (fun c_414 => ?_)
    · skip
      refine lv_iload hx hb d_L_law_419 (lv_at hl 1 rfl) ?_
      refine lv_if_ne (tgt := 436) hx hb d_L_law_421 (by decide) (fun c_421 => ?_) (fun c_421 => ?_)
      · skip
        first | exact absurd c_421 (by decide) | exact absurd (by decide) c_421
      · skip
        refine lv_aload_n hx hb d_L_law_424 rfl (lv_at hl 5 rfl) ?_
        refine lv_iconst (v := nI 0) hx hb d_L_law_425 (by decide) ?_
        refine nw_lald hx hb hK hw (69) 1 (cW_69) rfl (0) (rfl) (by omega) (by omega) d_L_law_426 ?_
        refine lv_iload hx hb d_L_law_427 (lv_at hl 0 rfl) ?_
        refine lv_i2l (v := (((kM (upR (upR (upR (upR (upR S 0 0 (flR (S 0 0) (-1) 6)) 2 ((xs (1 + 6 * i + 1)).toNatClampNeg) (upd ((upR S 0 0 (flR (S 0 0) (-1) 6)) 2 ((xs (1 + 6 * i + 1)).toNatClampNeg)) ((xs (1 + 6 * i + 2)).toNatClampNeg) (xs (1 + 6 * i + 3)))) 3 ((xs (1 + 6 * i + 1)).toNatClampNeg) (upd ((upR (upR S 0 0 (flR (S 0 0) (-1) 6)) 2 ((xs (1 + 6 * i + 1)).toNatClampNeg) (upd ((upR S 0 0 (flR (S 0 0) (-1) 6)) 2 ((xs (1 + 6 * i + 1)).toNatClampNeg)) ((xs (1 + 6 * i + 2)).toNatClampNeg) (xs (1 + 6 * i + 3)))) 3 ((xs (1 + 6 * i + 1)).toNatClampNeg)) ((xs (1 + 6 * i + 2)).toNatClampNeg) (((xs (1 + 6 * i + 3)) * (xs (1 + 6 * i + 4))) / (nI 1000)))) 5 3 (upd ((upR (upR (upR S 0 0 (flR (S 0 0) (-1) 6)) 2 ((xs (1 + 6 * i + 1)).toNatClampNeg) (upd ((upR S 0 0 (flR (S 0 0) (-1) 6)) 2 ((xs (1 + 6 * i + 1)).toNatClampNeg)) ((xs (1 + 6 * i + 2)).toNatClampNeg) (xs (1 + 6 * i + 3)))) 3 ((xs (1 + 6 * i + 1)).toNatClampNeg) (upd ((upR (upR S 0 0 (flR (S 0 0) (-1) 6)) 2 ((xs (1 + 6 * i + 1)).toNatClampNeg) (upd ((upR S 0 0 (flR (S 0 0) (-1) 6)) 2 ((xs (1 + 6 * i + 1)).toNatClampNeg)) ((xs (1 + 6 * i + 2)).toNatClampNeg) (xs (1 + 6 * i + 3)))) 3 ((xs (1 + 6 * i + 1)).toNatClampNeg)) ((xs (1 + 6 * i + 2)).toNatClampNeg) (((xs (1 + 6 * i + 3)) * (xs (1 + 6 * i + 4))) / (nI 1000)))) 5 3) (8 * ((xs (1 + 6 * i + 1)).toNatClampNeg) + ((xs (1 + 6 * i + 2)).toNatClampNeg)) (xs (1 + 6 * i + 3)))) 5 4 (upd ((upR (upR (upR (upR S 0 0 (flR (S 0 0) (-1) 6)) 2 ((xs (1 + 6 * i + 1)).toNatClampNeg) (upd ((upR S 0 0 (flR (S 0 0) (-1) 6)) 2 ((xs (1 + 6 * i + 1)).toNatClampNeg)) ((xs (1 + 6 * i + 2)).toNatClampNeg) (xs (1 + 6 * i + 3)))) 3 ((xs (1 + 6 * i + 1)).toNatClampNeg) (upd ((upR (upR S 0 0 (flR (S 0 0) (-1) 6)) 2 ((xs (1 + 6 * i + 1)).toNatClampNeg) (upd ((upR S 0 0 (flR (S 0 0) (-1) 6)) 2 ((xs (1 + 6 * i + 1)).toNatClampNeg)) ((xs (1 + 6 * i + 2)).toNatClampNeg) (xs (1 + 6 * i + 3)))) 3 ((xs (1 + 6 * i + 1)).toNatClampNeg)) ((xs (1 + 6 * i + 2)).toNatClampNeg) (((xs (1 + 6 * i + 3)) * (xs (1 + 6 * i + 4))) / (nI 1000)))) 5 3 (upd ((upR (upR (upR S 0 0 (flR (S 0 0) (-1) 6)) 2 ((xs (1 + 6 * i + 1)).toNatClampNeg) (upd ((upR S 0 0 (flR (S 0 0) (-1) 6)) 2 ((xs (1 + 6 * i + 1)).toNatClampNeg)) ((xs (1 + 6 * i + 2)).toNatClampNeg) (xs (1 + 6 * i + 3)))) 3 ((xs (1 + 6 * i + 1)).toNatClampNeg) (upd ((upR (upR S 0 0 (flR (S 0 0) (-1) 6)) 2 ((xs (1 + 6 * i + 1)).toNatClampNeg) (upd ((upR S 0 0 (flR (S 0 0) (-1) 6)) 2 ((xs (1 + 6 * i + 1)).toNatClampNeg)) ((xs (1 + 6 * i + 2)).toNatClampNeg) (xs (1 + 6 * i + 3)))) 3 ((xs (1 + 6 * i + 1)).toNatClampNeg)) ((xs (1 + 6 * i + 2)).toNatClampNeg) (((xs (1 + 6 * i + 3)) * (xs (1 + 6 * i + 4))) / (nI 1000)))) 5 3) (8 * ((xs (1 + 6 * i + 1)).toNatClampNeg) + ((xs (1 + 6 * i + 2)).toNatClampNeg)) (xs (1 + 6 * i + 3)))) 5 4) (8 * ((xs (1 + 6 * i + 1)).toNatClampNeg) + ((xs (1 + 6 * i + 2)).toNatClampNeg)) (xs (1 + 6 * i + 4)))) ((xs (1 + 6 * i + 1)).toNatClampNeg) ((xs (1 + 6 * i + 2)).toNatClampNeg)).toInt32).toInt64)) hx hb d_L_law_429 rfl ?_
        refine lv_el (y := ((vp_updL o 0 (((((xs (1 + 6 * i + 3)) * (xs (1 + 6 * i + 4))) / (nI 1000))).toInt64)) (0))) (congrArg Int32.toInt64 (LR_size hL (Classical.not_not.mp hnba).1 (Classical.not_not.mp hnba).2.1 (Classical.not_not.mp hnba).2.2.1 (Classical.not_not.mp hnba).2.2.2 rfl rfl).1.symm) ?_
        refine W.lcmp hx hb d_L_law_430 ?_
        refine lv_ei (y := nI 0) ((lg_cmp_eq _ _).mpr rfl) ?_
        refine lv_if_eq (tgt := 436) hx hb d_L_law_431 (by decide) (fun c_431 => ?_) (fun c_431 => ?_)
        · skip
          refine lv_goto (tgt := 1168) hx hb d_L_law_436 (by decide) ?_
          exact W.widen (by omega) (by omega) (hNext ad n I (va_up K 0 (nI 0)) bw LA (va_up (va_up J 0 (nI 0)) 3 (nI 0)) bw2 L (vp_updL o 0 (((((xs (1 + 6 * i + 3)) * (xs (1 + 6 * i + 4))) / (nI 1000))).toInt64)) (upR (upR (upR (upR (upR S 0 0 (flR (S 0 0) (-1) 6)) 2 ((xs (1 + 6 * i + 1)).toNatClampNeg) (upd ((upR S 0 0 (flR (S 0 0) (-1) 6)) 2 ((xs (1 + 6 * i + 1)).toNatClampNeg)) ((xs (1 + 6 * i + 2)).toNatClampNeg) (xs (1 + 6 * i + 3)))) 3 ((xs (1 + 6 * i + 1)).toNatClampNeg) (upd ((upR (upR S 0 0 (flR (S 0 0) (-1) 6)) 2 ((xs (1 + 6 * i + 1)).toNatClampNeg) (upd ((upR S 0 0 (flR (S 0 0) (-1) 6)) 2 ((xs (1 + 6 * i + 1)).toNatClampNeg)) ((xs (1 + 6 * i + 2)).toNatClampNeg) (xs (1 + 6 * i + 3)))) 3 ((xs (1 + 6 * i + 1)).toNatClampNeg)) ((xs (1 + 6 * i + 2)).toNatClampNeg) (((xs (1 + 6 * i + 3)) * (xs (1 + 6 * i + 4))) / (nI 1000)))) 5 3 (upd ((upR (upR (upR S 0 0 (flR (S 0 0) (-1) 6)) 2 ((xs (1 + 6 * i + 1)).toNatClampNeg) (upd ((upR S 0 0 (flR (S 0 0) (-1) 6)) 2 ((xs (1 + 6 * i + 1)).toNatClampNeg)) ((xs (1 + 6 * i + 2)).toNatClampNeg) (xs (1 + 6 * i + 3)))) 3 ((xs (1 + 6 * i + 1)).toNatClampNeg) (upd ((upR (upR S 0 0 (flR (S 0 0) (-1) 6)) 2 ((xs (1 + 6 * i + 1)).toNatClampNeg) (upd ((upR S 0 0 (flR (S 0 0) (-1) 6)) 2 ((xs (1 + 6 * i + 1)).toNatClampNeg)) ((xs (1 + 6 * i + 2)).toNatClampNeg) (xs (1 + 6 * i + 3)))) 3 ((xs (1 + 6 * i + 1)).toNatClampNeg)) ((xs (1 + 6 * i + 2)).toNatClampNeg) (((xs (1 + 6 * i + 3)) * (xs (1 + 6 * i + 4))) / (nI 1000)))) 5 3) (8 * ((xs (1 + 6 * i + 1)).toNatClampNeg) + ((xs (1 + 6 * i + 2)).toNatClampNeg)) (xs (1 + 6 * i + 3)))) 5 4 (upd ((upR (upR (upR (upR S 0 0 (flR (S 0 0) (-1) 6)) 2 ((xs (1 + 6 * i + 1)).toNatClampNeg) (upd ((upR S 0 0 (flR (S 0 0) (-1) 6)) 2 ((xs (1 + 6 * i + 1)).toNatClampNeg)) ((xs (1 + 6 * i + 2)).toNatClampNeg) (xs (1 + 6 * i + 3)))) 3 ((xs (1 + 6 * i + 1)).toNatClampNeg) (upd ((upR (upR S 0 0 (flR (S 0 0) (-1) 6)) 2 ((xs (1 + 6 * i + 1)).toNatClampNeg) (upd ((upR S 0 0 (flR (S 0 0) (-1) 6)) 2 ((xs (1 + 6 * i + 1)).toNatClampNeg)) ((xs (1 + 6 * i + 2)).toNatClampNeg) (xs (1 + 6 * i + 3)))) 3 ((xs (1 + 6 * i + 1)).toNatClampNeg)) ((xs (1 + 6 * i + 2)).toNatClampNeg) (((xs (1 + 6 * i + 3)) * (xs (1 + 6 * i + 4))) / (nI 1000)))) 5 3 (upd ((upR (upR (upR S 0 0 (flR (S 0 0) (-1) 6)) 2 ((xs (1 + 6 * i + 1)).toNatClampNeg) (upd ((upR S 0 0 (flR (S 0 0) (-1) 6)) 2 ((xs (1 + 6 * i + 1)).toNatClampNeg)) ((xs (1 + 6 * i + 2)).toNatClampNeg) (xs (1 + 6 * i + 3)))) 3 ((xs (1 + 6 * i + 1)).toNatClampNeg) (upd ((upR (upR S 0 0 (flR (S 0 0) (-1) 6)) 2 ((xs (1 + 6 * i + 1)).toNatClampNeg) (upd ((upR S 0 0 (flR (S 0 0) (-1) 6)) 2 ((xs (1 + 6 * i + 1)).toNatClampNeg)) ((xs (1 + 6 * i + 2)).toNatClampNeg) (xs (1 + 6 * i + 3)))) 3 ((xs (1 + 6 * i + 1)).toNatClampNeg)) ((xs (1 + 6 * i + 2)).toNatClampNeg) (((xs (1 + 6 * i + 3)) * (xs (1 + 6 * i + 4))) / (nI 1000)))) 5 3) (8 * ((xs (1 + 6 * i + 1)).toNatClampNeg) + ((xs (1 + 6 * i + 2)).toNatClampNeg)) (xs (1 + 6 * i + 3)))) 5 4) (8 * ((xs (1 + 6 * i + 1)).toNatClampNeg) + ((xs (1 + 6 * i + 2)).toNatClampNeg)) (xs (1 + 6 * i + 4)))) ((LR_size hL (Classical.not_not.mp hnba).1 (Classical.not_not.mp hnba).2.1 (Classical.not_not.mp hnba).2.2.1 (Classical.not_not.mp hnba).2.2.2 rfl rfl).2) _ _ ls hw hS (lv_sub hl [2, 3, 4, 5, 6] rfl))
        · skip
          first | exact absurd c_431 (by decide) | exact absurd (by decide) c_431
    · skip
      exact absurd rfl c_414

set_option maxHeartbeats 4000000 in
set_option maxRecDepth 100000 in
/-- case 6: plant -/
theorem law_6 {p : Program} {l : Launch} {e : Env} {s : State} {m : MethodId} {args : Array Value} {below : List Frame} {meth : Method} {cd : Code} {Q : State → Prop} {D : va_G} {tC : Nat → ClassId} {A : Nat → Prop} {b N : Nat} {xs : Nat → Int32} (hSx : CallFix p m cd b_L_law 8 s args nw_T "HarvestPlansLaw") (hA : ∀ q, s.heap.size ≤ q → A q) (hAs : ∀ q, A q → s.heap.size ≤ q) (hKs : nw_K D hpC (hpT tC) s) (hF : nx_F s) (hfl : l.stackTraces = false) (hX : va_X b N xs s s.heap) (hbl : b < s.heap.size) (hbA : ¬ A b) (hN3 : N ≤ 3073) {cc cs i : Nat} (hcc : cc + 12 ≤ 669896) (hcs : cs + 120 ≤ 7086383) (hi : 1 + 6 * i + 6 ≤ N) (hNext : ∀ (ad : Nat → Nat) (n : Nat → Nat) (I : Nat → Nat → Int32) (K : Nat → Int32) (bw : Int64) (LA : Nat → Int64) (J : Nat → Int32) (bw2 : Int64) (L : Nat → Nat → Int64) (o : Nat → Int64) (S : Nat → Nat → Nat → Int32), LR n I K J S → ∀ (H : Heap) (locs : List Loc) (ls : Array Slot), nw_W D hpC A (cW ad tC n I K bw LA n J bw2 L o S) ad H → va_S A s.heap H locs → lv_has ls 8 [(0, .ref (b)), (1, .ref (ad (0))), (2, .ref (ad (64))), (3, .ref (ad (69))), (4, .int (nI (1 + 6 * i)))] → W p l e room_1 s m args below meth cd H locs (cc + 12) (cs + 120) Q (F0 m 1168 ls [])) (ad : Nat → Nat) (n : Nat → Nat) (I : Nat → Nat → Int32) (K : Nat → Int32) (bw : Int64) (LA : Nat → Int64) (J : Nat → Int32) (bw2 : Int64) (L : Nat → Nat → Int64) (o : Nat → Int64) (S : Nat → Nat → Nat → Int32) (hL : LR n I K J S) (H : Heap) (locs : List Loc) (ls : Array Slot) (hw : nw_W D hpC A (cW ad tC n I K bw LA n J bw2 L o S) ad H) (hS : va_S A s.heap H locs) (hl : lv_has ls 8 [(0, .ref (b)), (1, .ref (ad (0))), (2, .ref (ad (64))), (3, .ref (ad (69))), (4, .int (nI (1 + 6 * i)))]) : W p l e room_1 s m args below meth cd H locs cc cs Q (F0 m 598 ls []) := by
  obtain ⟨hx, hb, hml, hown, hts⟩ := id hSx
  have hK := hKs.1
  have hB : nx_B s s := ⟨State.WarmedH.refl s, Nat.le_refl _, fun _ _ => rfl⟩
  obtain ⟨hm, ow, sq, hLx⟩ := id hL
  have hN : hpN n := hLx.1.1
  obtain ⟨hn0, hn0', hn1, hn2, hn3, hn4⟩ := id hN
  have hJK : J 3 = K 0 := hLx.2.2.1.1
  have hH : ∀ c, c < n 2 → I 2 c = nI (hm c) ∧ hm c < n 1 := fun c hc => ⟨hLx.2.1.1 c hc, (hLx.1.2.2.2.1 c hc).2.1⟩
  have hHm : ∀ c, c < n 2 → S 5 2 c = nI (hm c) ∧ hm c < n 1 := fun c hc => ⟨(hLx.1.2.2.2.1 c hc).1, (hLx.1.2.2.2.1 c hc).2.1⟩
  have hO : ∀ o, o < n 4 → I 4 o = nI (ow o) ∧ ow o < n 0 := fun o ho => ⟨(hLx.1.2.2.2.2.2.2.1 o ho).2.1, (hLx.1.2.2.2.2.2.2.1 o ho).2.2.1⟩
  have hSq : ∀ k, k < n 4 → S 0 1 k = nI (sq k) ∧ sq k < n 4 := fun k hk => ⟨hLx.2.1.2.1 k hk, hLx.1.2.2.2.2.2.2.2.1 k hk⟩
  have hSo : ∀ q, q < n 4 → ∃ j, j < n 4 ∧ sq j = q := hLx.1.2.2.2.2.2.2.2.2.1
  have hPl := ok_pl hLx
  obtain ⟨hz1, hz4, hz51, hz56⟩ := hLx.2.1.2.2.2
  refine lv_aload_n hx hb d_L_law_598 rfl (lv_at hl 1 rfl) ?_
  refine lv_aload_n hx hb d_L_law_599 rfl (lv_at hl 0 rfl) ?_
  refine lv_iload hx hb d_L_law_600 (lv_at hl 4 rfl) ?_
  refine lv_iconst (v := nI 1) hx hb d_L_law_602 (by decide) ?_
  refine lv_iadd hx hb d_L_law_603 ?_
  refine lv_ei (y := nI (1 + 6 * i + 1)) (nI_add _ _) ?_
  refine va_sld hx hb hX hbl hbA hS (vp_in_nI (by omega) (by omega)) d_L_law_604 ?_
  refine lv_ei (y := xs (1 + 6 * i + 1)) (by rw [nI_clamp (by omega)]) ?_
  refine lv_aload_n hx hb d_L_law_605 rfl (lv_at hl 0 rfl) ?_
  refine lv_iload hx hb d_L_law_606 (lv_at hl 4 rfl) ?_
  refine lv_iconst (v := nI 2) hx hb d_L_law_608 (by decide) ?_
  refine lv_iadd hx hb d_L_law_609 ?_
  refine lv_ei (y := nI (1 + 6 * i + 2)) (nI_add _ _) ?_
  refine va_sld hx hb hX hbl hbA hS (vp_in_nI (by omega) (by omega)) d_L_law_610 ?_
  refine lv_ei (y := xs (1 + 6 * i + 2)) (by rw [nI_clamp (by omega)]) ?_
  refine lv_aload_n hx hb d_L_law_611 rfl (lv_at hl 3 rfl) ?_
  refine nx_callC (nx_goW (n := 4) (As := [.ref (ad (0)), .int (xs (1 + 6 * i + 1)), .int (xs (1 + 6 * i + 2)), .ref (ad (69))]) (rest := []) hSx hA hKs hF hB hAs hw hS (w_plant l D tC A ad n I K bw LA n J bw2 L o S hN s hF hfl hAs (xs (1 + 6 * i + 1)) (xs (1 + 6 * i + 2)) ) kt_475 kw_473 kw_474 kw_0 rfl rfl (by decide +kernel) ⟨Nat.le_of_ble_eq_true rfl, Nat.le_of_ble_eq_true rfl⟩ rfl hl.1 (Nat.le_of_ble_eq_true rfl) d_L_law_612 ⟨by show _ ≤ 669896; omega, by show _ ≤ 7086383; omega⟩) hS (fun X wn' ad' H locs x cell hpost hw hS hcell hst hcls T' hT X0 => (lw_po_x hpost).elim) (fun rv wn' ad' H locs hpost hw hS => ?_)
  rcases lw_po_i hpost with ⟨hv, hba, hwn, had⟩ | ⟨hv, hnba, hbs, hwn, had⟩ | ⟨hv, hnba, hnbs, hG⟩
  · skip
    subst hv
    rw [hwn, had] at hw
    refine lv_istore (lv' := [(5, .int (nI 1)), (0, .ref (b)), (1, .ref (ad (0))), (2, .ref (ad (64))), (3, .ref (ad (69))), (4, .int (nI (1 + 6 * i)))]) hx hb d_L_law_615 hl (by decide) rfl (fun ls hl => ?_)
    refine lv_aload_n hx hb d_L_law_617 rfl (lv_at hl 3 rfl) ?_
    refine lv_aload_n hx hb d_L_law_618 rfl (lv_at hl 1 rfl) ?_
    refine lv_iload hx hb d_L_law_619 (lv_at hl 5 rfl) ?_
    refine lv_iconst (v := nI 1) hx hb d_L_law_621 (by decide) ?_
    refine lv_iadd hx hb d_L_law_622 ?_
    refine lv_ei (y := nI (1 + 6 * i + 1)) (nI_add _ _) ?_
    refine va_sld hx hb hX hbl hbA hS (vp_in_nI (by omega) (by omega)) d_L_law_623 ?_
    refine lv_ei (y := xs (1 + 6 * i + 1)) (by rw [nI_clamp (by omega)]) ?_
    refine lv_aload_n hx hb d_L_law_624 rfl (lv_at hl 1 rfl) ?_
    refine lv_iload hx hb d_L_law_625 (lv_at hl 5 rfl) ?_
    refine lv_iconst (v := nI 2) hx hb d_L_law_627 (by decide) ?_
    refine lv_iadd hx hb d_L_law_628 ?_
    refine lv_ei (y := nI (1 + 6 * i + 2)) (nI_add _ _) ?_
    refine va_sld hx hb hX hbl hbA hS (vp_in_nI (by omega) (by omega)) d_L_law_629 ?_
    refine lv_ei (y := xs (1 + 6 * i + 2)) (by rw [nI_clamp (by omega)]) ?_
    have hw := nw_W.as (wn' := mW ad tC n J bw2 L (obX ad tC n I K bw LA (bE tC o)) (arX tC n aE0) S) hw cW_m.symm
    refine nw_call (nw_goV (n := 2) (As := [.int (xs (1 + 6 * i + 1)), .int (xs (1 + 6 * i + 2))]) (rest := []) hSx hA hKs hw hS (c_M_plant l D tC A ad n J bw2 L (obX ad tC n I K bw LA (bE tC o)) (arX tC n aE0) S hN (xs (1 + 6 * i + 1)) (xs (1 + 6 * i + 2)) ) kw_805 kw_802 kw_803 kw_804 kw_8 rfl rfl (by decide +kernel) ⟨Nat.le_of_ble_eq_true rfl, Nat.le_of_ble_eq_true rfl⟩ (nw_recv hK hw (mW_64) rfl) rfl hl.1 (Nat.le_of_ble_eq_true rfl) d_L_law_630 ⟨by show _ ≤ 669896; omega, by show _ ≤ 7086383; omega⟩) hS (fun rv wn' ad9 H locs hpost hw hS => ?_)
    obtain ⟨had9, hmo⟩ := hpost
    rw [had9] at hw
    rcases hmo with ⟨hq1, hq2, hq3⟩ | ⟨hq1, _⟩ | ⟨hq1, _⟩
    rotate_left
    · exact absurd hba hq1
    · exact absurd hba hq1
    subst hq2
    rw [hq3] at hw
    have hw := nw_W.as (wn' := cW ad tC n I K bw LA n (va_up J 0 1) bw2 L o S) hw cW_m
    refine lv_istore (lv' := [(6, .int (nI 0)), (5, .int (nI 1)), (0, .ref (b)), (1, .ref (ad (0))), (2, .ref (ad (64))), (3, .ref (ad (69))), (4, .int (nI (1 + 6 * i)))]) hx hb d_L_law_633 hl (by decide) rfl (fun ls hl => ?_)
    refine lv_aload_n hx hb d_L_law_635 rfl (lv_at hl 4 rfl) ?_
    have hw := nw_W.as (wn' := mW ad tC n (va_up J 0 1) bw2 L (obX ad tC n I K bw LA (bE tC o)) (arX tC n aE0) S) hw cW_m.symm
    refine nw_call (nw_goV (n := 0) (As := []) (rest := []) hSx hA hKs hw hS (c_M_thrown l D tC A ad n (va_up J 0 1) bw2 L (obX ad tC n I K bw LA (bE tC o)) (arX tC n aE0) S hN  ) kw_762 kw_759 kw_760 kw_761 kw_8 rfl rfl (by decide +kernel) ⟨Nat.le_of_ble_eq_true rfl, Nat.le_of_ble_eq_true rfl⟩ (nw_recv hK hw (mW_64) rfl) rfl hl.1 (Nat.le_of_ble_eq_true rfl) d_L_law_636 ⟨by show _ ≤ 669896; omega, by show _ ≤ 7086383; omega⟩) hS (fun rv wn' ad9 H locs hpost hw hS => ?_)
    obtain ⟨hv9, hwn9, had9⟩ := hpost
    subst hv9
    rw [hwn9, had9] at hw
    have hw := nw_W.as (wn' := cW ad tC n I K bw LA n (va_up J 0 1) bw2 L o S) hw cW_m
    refine lv_ei (y := nI 1) rfl ?_
    refine lv_iload hx hb d_L_law_639 (lv_at hl 1 rfl) ?_
    refine lv_icmp_eq (tgt := 646) hx hb d_L_law_641 (by decide) (fun c_641 => ?_) (fun c_641 => ?_)
    · skip
      refine lv_iload hx hb d_L_law_646 (lv_at hl 1 rfl) ?_
      refine lv_if_ne (tgt := 663) hx hb d_L_law_648 (by decide) (fun c_648 => ?_) (fun c_648 => ?_)
      · skip
        refine lv_goto (tgt := 1168) hx hb d_L_law_663 (by decide) ?_
        exact W.widen (by omega) (by omega) (hNext ad n I K bw LA (va_up J 0 1) bw2 L o S (LR_thr hL) _ _ ls hw hS (lv_sub hl [2, 3, 4, 5, 6] rfl))
      · skip
        first | exact absurd c_648 (by decide) | exact absurd (by decide) c_648
    · skip
      exact absurd rfl c_641
  · skip
    subst hv
    exact absurd trivial hbs
  · skip
    subst hv
    obtain ⟨had, hwn⟩ := hG
    rw [hwn, had] at hw
    refine lv_istore (lv' := [(5, .int (nI 0)), (0, .ref (b)), (1, .ref (ad (0))), (2, .ref (ad (64))), (3, .ref (ad (69))), (4, .int (nI (1 + 6 * i)))]) hx hb d_L_law_615 hl (by decide) rfl (fun ls hl => ?_)
    refine lv_aload_n hx hb d_L_law_617 rfl (lv_at hl 3 rfl) ?_
    refine lv_aload_n hx hb d_L_law_618 rfl (lv_at hl 1 rfl) ?_
    refine lv_iload hx hb d_L_law_619 (lv_at hl 5 rfl) ?_
    refine lv_iconst (v := nI 1) hx hb d_L_law_621 (by decide) ?_
    refine lv_iadd hx hb d_L_law_622 ?_
    refine lv_ei (y := nI (1 + 6 * i + 1)) (nI_add _ _) ?_
    refine va_sld hx hb hX hbl hbA hS (vp_in_nI (by omega) (by omega)) d_L_law_623 ?_
    refine lv_ei (y := xs (1 + 6 * i + 1)) (by rw [nI_clamp (by omega)]) ?_
    refine lv_aload_n hx hb d_L_law_624 rfl (lv_at hl 1 rfl) ?_
    refine lv_iload hx hb d_L_law_625 (lv_at hl 5 rfl) ?_
    refine lv_iconst (v := nI 2) hx hb d_L_law_627 (by decide) ?_
    refine lv_iadd hx hb d_L_law_628 ?_
    refine lv_ei (y := nI (1 + 6 * i + 2)) (nI_add _ _) ?_
    refine va_sld hx hb hX hbl hbA hS (vp_in_nI (by omega) (by omega)) d_L_law_629 ?_
    refine lv_ei (y := xs (1 + 6 * i + 2)) (by rw [nI_clamp (by omega)]) ?_
    have hw := nw_W.as (wn' := mW ad tC n J bw2 L (obX ad tC n I (va_up K 0 (nI 0)) bw LA (bE tC (vp_updL o 0 (((upR S 0 0 (flR (S 0 0) (-1) 6)) 0 2 ((xs (1 + 6 * i + 1)).toNatClampNeg)).toInt64)))) (arX tC n aE0) (upR (upR S 0 0 (flR (S 0 0) (-1) 6)) 0 2 (upd ((upR S 0 0 (flR (S 0 0) (-1) 6)) 0 2) ((xs (1 + 6 * i + 1)).toNatClampNeg) (xs (1 + 6 * i + 2))))) hw cW_m.symm
    refine nw_call (nw_goV (n := 2) (As := [.int (xs (1 + 6 * i + 1)), .int (xs (1 + 6 * i + 2))]) (rest := []) hSx hA hKs hw hS (c_M_plant l D tC A ad n J bw2 L (obX ad tC n I (va_up K 0 (nI 0)) bw LA (bE tC (vp_updL o 0 (((upR S 0 0 (flR (S 0 0) (-1) 6)) 0 2 ((xs (1 + 6 * i + 1)).toNatClampNeg)).toInt64)))) (arX tC n aE0) (upR (upR S 0 0 (flR (S 0 0) (-1) 6)) 0 2 (upd ((upR S 0 0 (flR (S 0 0) (-1) 6)) 0 2) ((xs (1 + 6 * i + 1)).toNatClampNeg) (xs (1 + 6 * i + 2)))) hN (xs (1 + 6 * i + 1)) (xs (1 + 6 * i + 2)) ) kw_805 kw_802 kw_803 kw_804 kw_8 rfl rfl (by decide +kernel) ⟨Nat.le_of_ble_eq_true rfl, Nat.le_of_ble_eq_true rfl⟩ (nw_recv hK hw (mW_64) rfl) rfl hl.1 (Nat.le_of_ble_eq_true rfl) d_L_law_630 ⟨by show _ ≤ 669896; omega, by show _ ≤ 7086383; omega⟩) hS (fun rv wn' ad9 H locs hpost hw hS => ?_)
    obtain ⟨had9, hmo⟩ := hpost
    rw [had9] at hw
    rcases hmo with ⟨hq1, _⟩ | ⟨hq1, hq4, _⟩ | ⟨hq1, hq4, hGm⟩
    · exact absurd hq1 hnba
    · exact absurd hq4 hnbs
    obtain ⟨hv9, hw9⟩ := hGm
    subst hv9
    rw [hw9] at hw
    have hw := nw_W.as (wn' := cW ad tC n I (va_up K 0 (nI 0)) bw LA n (va_up (va_up J 0 (nI 0)) 3 (nI 0)) bw2 L (vp_updL o 0 (((upR S 0 0 (flR (S 0 0) (-1) 6)) 0 2 ((xs (1 + 6 * i + 1)).toNatClampNeg)).toInt64)) (upR (upR (upR S 0 0 (flR (S 0 0) (-1) 6)) 0 2 (upd ((upR S 0 0 (flR (S 0 0) (-1) 6)) 0 2) ((xs (1 + 6 * i + 1)).toNatClampNeg) (xs (1 + 6 * i + 2)))) 5 7 (upd ((upR (upR S 0 0 (flR (S 0 0) (-1) 6)) 0 2 (upd ((upR S 0 0 (flR (S 0 0) (-1) 6)) 0 2) ((xs (1 + 6 * i + 1)).toNatClampNeg) (xs (1 + 6 * i + 2)))) 5 7) ((xs (1 + 6 * i + 1)).toNatClampNeg) (xs (1 + 6 * i + 2))))) hw cW_m
    refine lv_istore (lv' := [(6, .int ((upR (upR S 0 0 (flR (S 0 0) (-1) 6)) 0 2 (upd ((upR S 0 0 (flR (S 0 0) (-1) 6)) 0 2) ((xs (1 + 6 * i + 1)).toNatClampNeg) (xs (1 + 6 * i + 2)))) 5 7 ((xs (1 + 6 * i + 1)).toNatClampNeg))), (5, .int (nI 0)), (0, .ref (b)), (1, .ref (ad (0))), (2, .ref (ad (64))), (3, .ref (ad (69))), (4, .int (nI (1 + 6 * i)))]) hx hb d_L_law_633 hl (by decide) rfl (fun ls hl => ?_)
    refine lv_aload_n hx hb d_L_law_635 rfl (lv_at hl 4 rfl) ?_
    have hw := nw_W.as (wn' := mW ad tC n (va_up (va_up J 0 (nI 0)) 3 (nI 0)) bw2 L (obX ad tC n I (va_up K 0 (nI 0)) bw LA (bE tC (vp_updL o 0 (((upR S 0 0 (flR (S 0 0) (-1) 6)) 0 2 ((xs (1 + 6 * i + 1)).toNatClampNeg)).toInt64)))) (arX tC n aE0) (upR (upR (upR S 0 0 (flR (S 0 0) (-1) 6)) 0 2 (upd ((upR S 0 0 (flR (S 0 0) (-1) 6)) 0 2) ((xs (1 + 6 * i + 1)).toNatClampNeg) (xs (1 + 6 * i + 2)))) 5 7 (upd ((upR (upR S 0 0 (flR (S 0 0) (-1) 6)) 0 2 (upd ((upR S 0 0 (flR (S 0 0) (-1) 6)) 0 2) ((xs (1 + 6 * i + 1)).toNatClampNeg) (xs (1 + 6 * i + 2)))) 5 7) ((xs (1 + 6 * i + 1)).toNatClampNeg) (xs (1 + 6 * i + 2))))) hw cW_m.symm
    refine nw_call (nw_goV (n := 0) (As := []) (rest := []) hSx hA hKs hw hS (c_M_thrown l D tC A ad n (va_up (va_up J 0 (nI 0)) 3 (nI 0)) bw2 L (obX ad tC n I (va_up K 0 (nI 0)) bw LA (bE tC (vp_updL o 0 (((upR S 0 0 (flR (S 0 0) (-1) 6)) 0 2 ((xs (1 + 6 * i + 1)).toNatClampNeg)).toInt64)))) (arX tC n aE0) (upR (upR (upR S 0 0 (flR (S 0 0) (-1) 6)) 0 2 (upd ((upR S 0 0 (flR (S 0 0) (-1) 6)) 0 2) ((xs (1 + 6 * i + 1)).toNatClampNeg) (xs (1 + 6 * i + 2)))) 5 7 (upd ((upR (upR S 0 0 (flR (S 0 0) (-1) 6)) 0 2 (upd ((upR S 0 0 (flR (S 0 0) (-1) 6)) 0 2) ((xs (1 + 6 * i + 1)).toNatClampNeg) (xs (1 + 6 * i + 2)))) 5 7) ((xs (1 + 6 * i + 1)).toNatClampNeg) (xs (1 + 6 * i + 2)))) hN  ) kw_762 kw_759 kw_760 kw_761 kw_8 rfl rfl (by decide +kernel) ⟨Nat.le_of_ble_eq_true rfl, Nat.le_of_ble_eq_true rfl⟩ (nw_recv hK hw (mW_64) rfl) rfl hl.1 (Nat.le_of_ble_eq_true rfl) d_L_law_636 ⟨by show _ ≤ 669896; omega, by show _ ≤ 7086383; omega⟩) hS (fun rv wn' ad9 H locs hpost hw hS => ?_)
    obtain ⟨hv9, hwn9, had9⟩ := hpost
    subst hv9
    rw [hwn9, had9] at hw
    have hw := nw_W.as (wn' := cW ad tC n I (va_up K 0 (nI 0)) bw LA n (va_up (va_up J 0 (nI 0)) 3 (nI 0)) bw2 L (vp_updL o 0 (((upR S 0 0 (flR (S 0 0) (-1) 6)) 0 2 ((xs (1 + 6 * i + 1)).toNatClampNeg)).toInt64)) (upR (upR (upR S 0 0 (flR (S 0 0) (-1) 6)) 0 2 (upd ((upR S 0 0 (flR (S 0 0) (-1) 6)) 0 2) ((xs (1 + 6 * i + 1)).toNatClampNeg) (xs (1 + 6 * i + 2)))) 5 7 (upd ((upR (upR S 0 0 (flR (S 0 0) (-1) 6)) 0 2 (upd ((upR S 0 0 (flR (S 0 0) (-1) 6)) 0 2) ((xs (1 + 6 * i + 1)).toNatClampNeg) (xs (1 + 6 * i + 2)))) 5 7) ((xs (1 + 6 * i + 1)).toNatClampNeg) (xs (1 + 6 * i + 2))))) hw cW_m
    refine lv_ei (y := nI 0) rfl ?_
    refine lv_iload hx hb d_L_law_639 (lv_at hl 1 rfl) ?_
    refine lv_icmp_eq (tgt := 646) hx hb d_L_law_641 (by decide) (fun c_641 => ?_) (fun c_641 => ?_)
    · skip
      refine lv_iload hx hb d_L_law_646 (lv_at hl 1 rfl) ?_
      refine lv_if_ne (tgt := 663) hx hb d_L_law_648 (by decide) (fun c_648 => ?_) (fun c_648 => ?_)
      · skip
        first | exact absurd c_648 (by decide) | exact absurd (by decide) c_648
      · skip
        refine lv_aload_n hx hb d_L_law_651 rfl (lv_at hl 5 rfl) ?_
        refine lv_iconst (v := nI 0) hx hb d_L_law_652 (by decide) ?_
        refine nw_lald hx hb hK hw (69) 1 (cW_69) rfl (0) (rfl) (by omega) (by omega) d_L_law_653 ?_
        refine lv_iload hx hb d_L_law_654 (lv_at hl 0 rfl) ?_
        refine lv_i2l (v := (((upR (upR S 0 0 (flR (S 0 0) (-1) 6)) 0 2 (upd ((upR S 0 0 (flR (S 0 0) (-1) 6)) 0 2) ((xs (1 + 6 * i + 1)).toNatClampNeg) (xs (1 + 6 * i + 2)))) 5 7 ((xs (1 + 6 * i + 1)).toNatClampNeg)).toInt64)) hx hb d_L_law_656 rfl ?_
        refine lv_el (y := ((vp_updL o 0 (((upR S 0 0 (flR (S 0 0) (-1) 6)) 0 2 ((xs (1 + 6 * i + 1)).toNatClampNeg)).toInt64)) (0))) (congrArg Int32.toInt64 (LR_plant hL (Classical.not_not.mp hnba).1 (Classical.not_not.mp hnba).2).1.symm) ?_
        refine W.lcmp hx hb d_L_law_657 ?_
        refine lv_ei (y := nI 0) ((lg_cmp_eq _ _).mpr rfl) ?_
        refine lv_if_eq (tgt := 663) hx hb d_L_law_658 (by decide) (fun c_658 => ?_) (fun c_658 => ?_)
        · skip
          refine lv_goto (tgt := 1168) hx hb d_L_law_663 (by decide) ?_
          exact W.widen (by omega) (by omega) (hNext ad n I (va_up K 0 (nI 0)) bw LA (va_up (va_up J 0 (nI 0)) 3 (nI 0)) bw2 L (vp_updL o 0 (((upR S 0 0 (flR (S 0 0) (-1) 6)) 0 2 ((xs (1 + 6 * i + 1)).toNatClampNeg)).toInt64)) (upR (upR (upR S 0 0 (flR (S 0 0) (-1) 6)) 0 2 (upd ((upR S 0 0 (flR (S 0 0) (-1) 6)) 0 2) ((xs (1 + 6 * i + 1)).toNatClampNeg) (xs (1 + 6 * i + 2)))) 5 7 (upd ((upR (upR S 0 0 (flR (S 0 0) (-1) 6)) 0 2 (upd ((upR S 0 0 (flR (S 0 0) (-1) 6)) 0 2) ((xs (1 + 6 * i + 1)).toNatClampNeg) (xs (1 + 6 * i + 2)))) 5 7) ((xs (1 + 6 * i + 1)).toNatClampNeg) (xs (1 + 6 * i + 2)))) ((LR_plant hL (Classical.not_not.mp hnba).1 (Classical.not_not.mp hnba).2).2) _ _ ls hw hS (lv_sub hl [2, 3, 4, 5, 6] rfl))
        · skip
          first | exact absurd c_658 (by decide) | exact absurd (by decide) c_658
    · skip
      exact absurd rfl c_641
