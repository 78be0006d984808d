set_option maxHeartbeats 4000000 in
set_option maxRecDepth 100000 in
/-- case 14: check -/
theorem law_14 {p : Program} {l : Launch} {e : Env} {s : State} {m : MethodId} {args : Array Value} {below : List Frame} {meth : Method} {cd : Code} {Q : State → Prop} {D : va_G} {tC : Nat → ClassId} {A : Nat → Prop} {b N : Nat} {xs : Nat → Int32} (hSx : CallFix p m cd b_L_law 8 s args nw_T "HarvestPlansLaw") (hA : ∀ q, s.heap.size ≤ q → A q) (hAs : ∀ q, A q → s.heap.size ≤ q) (hKs : nw_K D hpC (hpT tC) s) (hF : nx_F s) (hfl : l.stackTraces = false) (hX : va_X b N xs s s.heap) (hbl : b < s.heap.size) (hbA : ¬ A b) (hN3 : N ≤ 3073) {cc cs i : Nat} (hcc : cc + 12 ≤ 669896) (hcs : cs + 120 ≤ 7086383) (hi : 1 + 6 * i + 6 ≤ N) (hNext : ∀ (ad : Nat → Nat) (n : Nat → Nat) (I : Nat → Nat → Int32) (K : Nat → Int32) (bw : Int64) (LA : Nat → Int64) (J : Nat → Int32) (bw2 : Int64) (L : Nat → Nat → Int64) (o : Nat → Int64) (S : Nat → Nat → Nat → Int32), LR n I K J S → ∀ (H : Heap) (locs : List Loc) (ls : Array Slot), nw_W D hpC A (cW ad tC n I K bw LA n J bw2 L o S) ad H → va_S A s.heap H locs → lv_has ls 8 [(0, .ref (b)), (1, .ref (ad (0))), (2, .ref (ad (64))), (3, .ref (ad (69))), (4, .int (nI (1 + 6 * i)))] → W p l e room_1 s m args below meth cd H locs (cc + 12) (cs + 120) Q (F0 m 1168 ls [])) (ad : Nat → Nat) (n : Nat → Nat) (I : Nat → Nat → Int32) (K : Nat → Int32) (bw : Int64) (LA : Nat → Int64) (J : Nat → Int32) (bw2 : Int64) (L : Nat → Nat → Int64) (o : Nat → Int64) (S : Nat → Nat → Nat → Int32) (hL : LR n I K J S) (H : Heap) (locs : List Loc) (ls : Array Slot) (hw : nw_W D hpC A (cW ad tC n I K bw LA n J bw2 L o S) ad H) (hS : va_S A s.heap H locs) (hl : lv_has ls 8 [(0, .ref (b)), (1, .ref (ad (0))), (2, .ref (ad (64))), (3, .ref (ad (69))), (4, .int (nI (1 + 6 * i)))]) : W p l e room_1 s m args below meth cd H locs cc cs Q (F0 m 1025 ls []) := by
  obtain ⟨hx, hb, hml, hown, hts⟩ := id hSx
  have hK := hKs.1
  have hB : nx_B s s := ⟨State.WarmedH.refl s, Nat.le_refl _, fun _ _ => rfl⟩
  obtain ⟨hm, ow, sq, hLx⟩ := id hL
  have hN : hpN n := hLx.1.1
  obtain ⟨hn0, hn0', hn1, hn2, hn3, hn4⟩ := id hN
  have hJK : J 3 = K 0 := hLx.2.2.1.1
  have hH : ∀ c, c < n 2 → I 2 c = nI (hm c) ∧ hm c < n 1 := fun c hc => ⟨hLx.2.1.1 c hc, (hLx.1.2.2.2.1 c hc).2.1⟩
  have hHm : ∀ c, c < n 2 → S 5 2 c = nI (hm c) ∧ hm c < n 1 := fun c hc => ⟨(hLx.1.2.2.2.1 c hc).1, (hLx.1.2.2.2.1 c hc).2.1⟩
  have hO : ∀ o, o < n 4 → I 4 o = nI (ow o) ∧ ow o < n 0 := fun o ho => ⟨(hLx.1.2.2.2.2.2.2.1 o ho).2.1, (hLx.1.2.2.2.2.2.2.1 o ho).2.2.1⟩
  have hSq : ∀ k, k < n 4 → S 0 1 k = nI (sq k) ∧ sq k < n 4 := fun k hk => ⟨hLx.2.1.2.1 k hk, hLx.1.2.2.2.2.2.2.2.1 k hk⟩
  have hSo : ∀ q, q < n 4 → ∃ j, j < n 4 ∧ sq j = q := hLx.1.2.2.2.2.2.2.2.2.1
  have hPl := ok_pl hLx
  obtain ⟨hz1, hz4, hz51, hz56⟩ := hLx.2.1.2.2.2
  refine lv_aload_n hx hb d_L_law_1025 rfl (lv_at hl 1 rfl) ?_
  refine lv_aload_n hx hb d_L_law_1026 rfl (lv_at hl 3 rfl) ?_
  refine nx_callC (nx_goW (n := 2) (As := [.ref (ad (0)), .ref (ad (69))]) (rest := []) hSx hA hKs hF hB hAs hw hS (w_check l D tC A ad n I K bw LA n J bw2 L o S hN s hF hfl hAs  hm hH) kt_624 kw_622 kw_623 kw_0 rfl rfl (by decide +kernel) ⟨Nat.le_of_ble_eq_true rfl, Nat.le_of_ble_eq_true rfl⟩ rfl hl.1 (Nat.le_of_ble_eq_true rfl) d_L_law_1027 ⟨by show _ ≤ 669896; omega, by show _ ≤ 7086383; omega⟩) hS (fun X wn' ad' H locs x cell hpost hw hS hcell hst hcls T' hT X0 => (lw_po_x hpost).elim) (fun rv wn' ad' H locs hpost hw hS => ?_)
  rcases lw_po_i hpost with ⟨hv, hba, hwn, had⟩ | ⟨hv, hnba, hbs, hwn, had⟩ | ⟨hv, hnba, hnbs, hG⟩
  · skip
    subst hv
    exact absurd trivial hba
  · skip
    subst hv
    rw [hwn, had] at hw
    refine lv_ei (y := nI 1) rfl ?_
    refine lv_istore (lv' := [(5, .int (nI 1)), (0, .ref (b)), (1, .ref (ad (0))), (2, .ref (ad (64))), (3, .ref (ad (69))), (4, .int (nI (1 + 6 * i)))]) hx hb d_L_law_1030 hl (by decide) rfl (fun ls hl => ?_)
    refine lv_aload_n hx hb d_L_law_1032 rfl (lv_at hl 3 rfl) ?_
    have hw := nw_W.as (wn' := mW ad tC n J bw2 L (obX ad tC n I K bw LA (bE tC o)) (arX tC n aE0) S) hw cW_m.symm
    refine nw_call (nw_goV (n := 0) (As := []) (rest := []) hSx hA hKs hw hS (c_M_check l D tC A ad n J bw2 L (obX ad tC n I K bw LA (bE tC o)) (arX tC n aE0) S hN  hm hHm) kw_900 kw_897 kw_898 kw_899 kw_8 rfl rfl (by decide +kernel) ⟨Nat.le_of_ble_eq_true rfl, Nat.le_of_ble_eq_true rfl⟩ (nw_recv hK hw (mW_64) rfl) rfl hl.1 (Nat.le_of_ble_eq_true rfl) d_L_law_1033 ⟨by show _ ≤ 669896; omega, by show _ ≤ 7086383; omega⟩) hS (fun rv wn' ad9 H locs hpost hw hS => ?_)
    obtain ⟨had9, hmo⟩ := hpost
    rw [had9] at hw
    rcases hmo with ⟨hq1, _⟩ | ⟨hq1, hq4, hq2, hq3⟩ | ⟨hq1, hq4, _⟩
    · exact absurd hq1 hnba
    rotate_left
    · exact absurd (fun h => hbs (fun h9 => h (hJK.trans h9))) hq4
    subst hq2
    rw [hq3] at hw
    have hw := nw_W.as (wn' := cW ad tC n I K bw LA n (va_up J 0 1) bw2 L o S) hw cW_m
    refine lv_istore (lv' := [(6, .int (nI 0)), (5, .int (nI 1)), (0, .ref (b)), (1, .ref (ad (0))), (2, .ref (ad (64))), (3, .ref (ad (69))), (4, .int (nI (1 + 6 * i)))]) hx hb d_L_law_1036 hl (by decide) rfl (fun ls hl => ?_)
    refine lv_aload_n hx hb d_L_law_1038 rfl (lv_at hl 4 rfl) ?_
    have hw := nw_W.as (wn' := mW ad tC n (va_up J 0 1) bw2 L (obX ad tC n I K bw LA (bE tC o)) (arX tC n aE0) S) hw cW_m.symm
    refine nw_call (nw_goV (n := 0) (As := []) (rest := []) hSx hA hKs hw hS (c_M_thrown l D tC A ad n (va_up J 0 1) bw2 L (obX ad tC n I K bw LA (bE tC o)) (arX tC n aE0) S hN  ) kw_762 kw_759 kw_760 kw_761 kw_8 rfl rfl (by decide +kernel) ⟨Nat.le_of_ble_eq_true rfl, Nat.le_of_ble_eq_true rfl⟩ (nw_recv hK hw (mW_64) rfl) rfl hl.1 (Nat.le_of_ble_eq_true rfl) d_L_law_1039 ⟨by show _ ≤ 669896; omega, by show _ ≤ 7086383; omega⟩) hS (fun rv wn' ad9 H locs hpost hw hS => ?_)
    obtain ⟨hv9, hwn9, had9⟩ := hpost
    subst hv9
    rw [hwn9, had9] at hw
    have hw := nw_W.as (wn' := cW ad tC n I K bw LA n (va_up J 0 1) bw2 L o S) hw cW_m
    refine lv_ei (y := nI 1) rfl ?_
    refine lv_iload hx hb d_L_law_1042 (lv_at hl 1 rfl) ?_
    refine lv_icmp_eq (tgt := 1049) hx hb d_L_law_1044 (by decide) (fun c_1044 => ?_) (fun c_1044 => ?_)
    · skip
      refine lv_iload hx hb d_L_law_1049 (lv_at hl 1 rfl) ?_
      refine lv_if_ne (tgt := 1066) hx hb d_L_law_1051 (by decide) (fun c_1051 => ?_) (fun c_1051 => ?_)
      · skip
        refine lv_goto (tgt := 1168) hx hb d_L_law_1066 (by decide) ?_
        exact W.widen (by omega) (by omega) (hNext ad n I K bw LA (va_up J 0 1) bw2 L o S (LR_thr hL) _ _ ls hw hS (lv_sub hl [2, 3, 4, 5, 6] rfl))
      · skip
        first | exact absurd c_1051 (by decide) | exact absurd (by decide) c_1051
    · skip
      exact absurd rfl c_1044
  · skip
    subst hv
    obtain ⟨had, S1, hsc, hwn⟩ := hG
    rw [hwn, had] at hw
    have hS52 : S1 5 2 = S 5 2 := hsc 5 2 (by omega)
    have hHm1 : ∀ c, c < n 2 → S1 5 2 c = nI (hm c) ∧ hm c < n 1 := fun c hc => by rw [hS52]; exact hHm c hc
    refine lv_istore (lv' := [(5, .int (nI 0)), (0, .ref (b)), (1, .ref (ad (0))), (2, .ref (ad (64))), (3, .ref (ad (69))), (4, .int (nI (1 + 6 * i)))]) hx hb d_L_law_1030 hl (by decide) rfl (fun ls hl => ?_)
    refine lv_aload_n hx hb d_L_law_1032 rfl (lv_at hl 3 rfl) ?_
    have hw := nw_W.as (wn' := mW ad tC n J bw2 L (obX ad tC n I K bw LA (bE tC (vp_updL o 0 ((ckV (fun w => lbI (pPlant n S (S 0 0) w) (pBoats n I S (S 0 0) w) (pClosed n hm S (S 0 0) w) (pHeld n I hm S (S 0 0) w)) (n 0)).toInt64)))) (arX tC n aE0) S1) hw cW_m.symm
    refine nw_call (nw_goV (n := 0) (As := []) (rest := []) hSx hA hKs hw hS (c_M_check l D tC A ad n J bw2 L (obX ad tC n I K bw LA (bE tC (vp_updL o 0 ((ckV (fun w => lbI (pPlant n S (S 0 0) w) (pBoats n I S (S 0 0) w) (pClosed n hm S (S 0 0) w) (pHeld n I hm S (S 0 0) w)) (n 0)).toInt64)))) (arX tC n aE0) S1 hN  hm hHm1) kw_900 kw_897 kw_898 kw_899 kw_8 rfl rfl (by decide +kernel) ⟨Nat.le_of_ble_eq_true rfl, Nat.le_of_ble_eq_true rfl⟩ (nw_recv hK hw (mW_64) rfl) rfl hl.1 (Nat.le_of_ble_eq_true rfl) d_L_law_1033 ⟨by show _ ≤ 669896; omega, by show _ ≤ 7086383; omega⟩) hS (fun rv wn' ad9 H locs hpost hw hS => ?_)
    obtain ⟨had9, hmo⟩ := hpost
    rw [had9] at hw
    rcases hmo with ⟨hq1, _⟩ | ⟨hq1, hq4, _⟩ | ⟨hq1, hq4, hGm⟩
    · exact absurd hq1 hnba
    · exact absurd hq4 (fun h => hnbs (fun h9 => h (fun h8 => h9 (hJK.symm.trans h8))))
    obtain ⟨hv9, L9, S9, hsm, hw9⟩ := hGm
    subst hv9
    rw [hw9] at hw
    have hw := nw_W.as (wn' := cW ad tC n I K bw LA n (va_up J 0 (nI 0)) bw2 L9 (vp_updL o 0 ((ckV (fun w => lbI (pPlant n S (S 0 0) w) (pBoats n I S (S 0 0) w) (pClosed n hm S (S 0 0) w) (pHeld n I hm S (S 0 0) w)) (n 0)).toInt64)) S9) hw cW_m
    refine lv_istore (lv' := [(6, .int (ckV (fun w => lbI (qPlant (upR S1 5 14 (cpR (S1 5 13) (S1 5 14) (n 2))) w (n 2)) (qBoats n (upR S1 5 14 (cpR (S1 5 13) (S1 5 14) (n 2))) w (n 2)) (qOpen (upR S1 5 14 (cpR (S1 5 13) (S1 5 14) (n 2))) hm w (n 2)) (true = true → qHeld n (upR S1 5 14 (cpR (S1 5 13) (S1 5 14) (n 2))) w)) (n 0))), (5, .int (nI 0)), (0, .ref (b)), (1, .ref (ad (0))), (2, .ref (ad (64))), (3, .ref (ad (69))), (4, .int (nI (1 + 6 * i)))]) hx hb d_L_law_1036 hl (by decide) rfl (fun ls hl => ?_)
    refine lv_aload_n hx hb d_L_law_1038 rfl (lv_at hl 4 rfl) ?_
    have hw := nw_W.as (wn' := mW ad tC n (va_up J 0 (nI 0)) bw2 L9 (obX ad tC n I K bw LA (bE tC (vp_updL o 0 ((ckV (fun w => lbI (pPlant n S (S 0 0) w) (pBoats n I S (S 0 0) w) (pClosed n hm S (S 0 0) w) (pHeld n I hm S (S 0 0) w)) (n 0)).toInt64)))) (arX tC n aE0) S9) hw cW_m.symm
    refine nw_call (nw_goV (n := 0) (As := []) (rest := []) hSx hA hKs hw hS (c_M_thrown l D tC A ad n (va_up J 0 (nI 0)) bw2 L9 (obX ad tC n I K bw LA (bE tC (vp_updL o 0 ((ckV (fun w => lbI (pPlant n S (S 0 0) w) (pBoats n I S (S 0 0) w) (pClosed n hm S (S 0 0) w) (pHeld n I hm S (S 0 0) w)) (n 0)).toInt64)))) (arX tC n aE0) S9 hN  ) kw_762 kw_759 kw_760 kw_761 kw_8 rfl rfl (by decide +kernel) ⟨Nat.le_of_ble_eq_true rfl, Nat.le_of_ble_eq_true rfl⟩ (nw_recv hK hw (mW_64) rfl) rfl hl.1 (Nat.le_of_ble_eq_true rfl) d_L_law_1039 ⟨by show _ ≤ 669896; omega, by show _ ≤ 7086383; omega⟩) hS (fun rv wn' ad9 H locs hpost hw hS => ?_)
    obtain ⟨hv9, hwn9, had9⟩ := hpost
    subst hv9
    rw [hwn9, had9] at hw
    have hw := nw_W.as (wn' := cW ad tC n I K bw LA n (va_up J 0 (nI 0)) bw2 L9 (vp_updL o 0 ((ckV (fun w => lbI (pPlant n S (S 0 0) w) (pBoats n I S (S 0 0) w) (pClosed n hm S (S 0 0) w) (pHeld n I hm S (S 0 0) w)) (n 0)).toInt64)) S9) hw cW_m
    refine lv_ei (y := nI 0) rfl ?_
    refine lv_iload hx hb d_L_law_1042 (lv_at hl 1 rfl) ?_
    refine lv_icmp_eq (tgt := 1049) hx hb d_L_law_1044 (by decide) (fun c_1044 => ?_) (fun c_1044 => ?_)
    · skip
      refine lv_iload hx hb d_L_law_1049 (lv_at hl 1 rfl) ?_
      refine lv_if_ne (tgt := 1066) hx hb d_L_law_1051 (by decide) (fun c_1051 => ?_) (fun c_1051 => ?_)
      · skip
        first | exact absurd c_1051 (by decide) | exact absurd (by decide) c_1051
      · skip
        refine lv_aload_n hx hb d_L_law_1054 rfl (lv_at hl 5 rfl) ?_
        refine lv_iconst (v := nI 0) hx hb d_L_law_1055 (by decide) ?_
        refine nw_lald hx hb hK hw (69) 1 (cW_69) rfl (0) (rfl) (by omega) (by omega) d_L_law_1056 ?_
        refine lv_iload hx hb d_L_law_1057 (lv_at hl 0 rfl) ?_
        refine lv_i2l (v := ((ckV (fun w => lbI (qPlant (upR S1 5 14 (cpR (S1 5 13) (S1 5 14) (n 2))) w (n 2)) (qBoats n (upR S1 5 14 (cpR (S1 5 13) (S1 5 14) (n 2))) w (n 2)) (qOpen (upR S1 5 14 (cpR (S1 5 13) (S1 5 14) (n 2))) hm w (n 2)) (true = true → qHeld n (upR S1 5 14 (cpR (S1 5 13) (S1 5 14) (n 2))) w)) (n 0)).toInt64)) hx hb d_L_law_1059 rfl ?_
        refine lv_el (y := ((vp_updL o 0 ((ckV (fun w => lbI (pPlant n S (S 0 0) w) (pBoats n I S (S 0 0) w) (pClosed n hm S (S 0 0) w) (pHeld n I hm S (S 0 0) w)) (n 0)).toInt64)) (0))) (congrArg Int32.toInt64 (eq_check hLx (Classical.not_not.mp hnbs) (cR_scr hsc) rfl).symm) ?_
        refine W.lcmp hx hb d_L_law_1060 ?_
        refine lv_ei (y := nI 0) ((lg_cmp_eq _ _).mpr rfl) ?_
        refine lv_if_eq (tgt := 1066) hx hb d_L_law_1061 (by decide) (fun c_1061 => ?_) (fun c_1061 => ?_)
        · skip
          refine lv_goto (tgt := 1168) hx hb d_L_law_1066 (by decide) ?_
          exact W.widen (by omega) (by omega) (hNext ad n I K bw LA (va_up J 0 (nI 0)) bw2 L9 (vp_updL o 0 ((ckV (fun w => lbI (pPlant n S (S 0 0) w) (pBoats n I S (S 0 0) w) (pClosed n hm S (S 0 0) w) (pHeld n I hm S (S 0 0) w)) (n 0)).toInt64)) S9 (LR_thr (LR_cR (cR_tr (cR_scr hsc) (cR_tr (cR_up (Or.inr (Or.inl ⟨rfl, Nat.le_refl _⟩))) (cR_scm hsm))) hL)) _ _ ls hw hS (lv_sub hl [2, 3, 4, 5, 6] rfl))
        · skip
          first | exact absurd c_1061 (by decide) | exact absurd (by decide) c_1061
    · skip
      exact absurd rfl c_1044

set_option maxHeartbeats 4000000 in
set_option maxRecDepth 100000 in
/-- case 15: worth -/
theorem law_15 {p : Program} {l : Launch} {e : Env} {s : State} {m : MethodId} {args : Array Value} {below : List Frame} {meth : Method} {cd : Code} {Q : State → Prop} {D : va_G} {tC : Nat → ClassId} {A : Nat → Prop} {b N : Nat} {xs : Nat → Int32} (hSx : CallFix p m cd b_L_law 8 s args nw_T "HarvestPlansLaw") (hA : ∀ q, s.heap.size ≤ q → A q) (hAs : ∀ q, A q → s.heap.size ≤ q) (hKs : nw_K D hpC (hpT tC) s) (hF : nx_F s) (hfl : l.stackTraces = false) (hX : va_X b N xs s s.heap) (hbl : b < s.heap.size) (hbA : ¬ A b) (hN3 : N ≤ 3073) {cc cs i : Nat} (hcc : cc + 12 ≤ 669896) (hcs : cs + 120 ≤ 7086383) (hi : 1 + 6 * i + 6 ≤ N) (hNext : ∀ (ad : Nat → Nat) (n : Nat → Nat) (I : Nat → Nat → Int32) (K : Nat → Int32) (bw : Int64) (LA : Nat → Int64) (J : Nat → Int32) (bw2 : Int64) (L : Nat → Nat → Int64) (o : Nat → Int64) (S : Nat → Nat → Nat → Int32), LR n I K J S → ∀ (H : Heap) (locs : List Loc) (ls : Array Slot), nw_W D hpC A (cW ad tC n I K bw LA n J bw2 L o S) ad H → va_S A s.heap H locs → lv_has ls 8 [(0, .ref (b)), (1, .ref (ad (0))), (2, .ref (ad (64))), (3, .ref (ad (69))), (4, .int (nI (1 + 6 * i)))] → W p l e room_1 s m args below meth cd H locs (cc + 12) (cs + 120) Q (F0 m 1168 ls [])) (ad : Nat → Nat) (n : Nat → Nat) (I : Nat → Nat → Int32) (K : Nat → Int32) (bw : Int64) (LA : Nat → Int64) (J : Nat → Int32) (bw2 : Int64) (L : Nat → Nat → Int64) (o : Nat → Int64) (S : Nat → Nat → Nat → Int32) (hL : LR n I K J S) (H : Heap) (locs : List Loc) (ls : Array Slot) (hw : nw_W D hpC A (cW ad tC n I K bw LA n J bw2 L o S) ad H) (hS : va_S A s.heap H locs) (hl : lv_has ls 8 [(0, .ref (b)), (1, .ref (ad (0))), (2, .ref (ad (64))), (3, .ref (ad (69))), (4, .int (nI (1 + 6 * i)))]) : W p l e room_1 s m args below meth cd H locs cc cs Q (F0 m 1069 ls []) := by
  obtain ⟨hx, hb, hml, hown, hts⟩ := id hSx
  have hK := hKs.1
  have hB : nx_B s s := ⟨State.WarmedH.refl s, Nat.le_refl _, fun _ _ => rfl⟩
  obtain ⟨hm, ow, sq, hLx⟩ := id hL
  have hN : hpN n := hLx.1.1
  obtain ⟨hn0, hn0', hn1, hn2, hn3, hn4⟩ := id hN
  have hJK : J 3 = K 0 := hLx.2.2.1.1
  have hH : ∀ c, c < n 2 → I 2 c = nI (hm c) ∧ hm c < n 1 := fun c hc => ⟨hLx.2.1.1 c hc, (hLx.1.2.2.2.1 c hc).2.1⟩
  have hHm : ∀ c, c < n 2 → S 5 2 c = nI (hm c) ∧ hm c < n 1 := fun c hc => ⟨(hLx.1.2.2.2.1 c hc).1, (hLx.1.2.2.2.1 c hc).2.1⟩
  have hO : ∀ o, o < n 4 → I 4 o = nI (ow o) ∧ ow o < n 0 := fun o ho => ⟨(hLx.1.2.2.2.2.2.2.1 o ho).2.1, (hLx.1.2.2.2.2.2.2.1 o ho).2.2.1⟩
  have hSq : ∀ k, k < n 4 → S 0 1 k = nI (sq k) ∧ sq k < n 4 := fun k hk => ⟨hLx.2.1.2.1 k hk, hLx.1.2.2.2.2.2.2.2.1 k hk⟩
  have hSo : ∀ q, q < n 4 → ∃ j, j < n 4 ∧ sq j = q := hLx.1.2.2.2.2.2.2.2.2.1
  have hPl := ok_pl hLx
  obtain ⟨hz1, hz4, hz51, hz56⟩ := hLx.2.1.2.2.2
  refine lv_aload_n hx hb d_L_law_1069 rfl (lv_at hl 1 rfl) ?_
  refine lv_aload_n hx hb d_L_law_1070 rfl (lv_at hl 3 rfl) ?_
  refine nx_callC (nx_goW (n := 2) (As := [.ref (ad (0)), .ref (ad (69))]) (rest := []) hSx hA hKs hF hB hAs hw hS (w_worth l D tC A ad n I K bw LA n J bw2 L o S hN s hF hfl hAs  ow hO hPl sq hSq hSo) kt_640 kw_638 kw_639 kw_0 rfl rfl (by decide +kernel) ⟨Nat.le_of_ble_eq_true rfl, Nat.le_of_ble_eq_true rfl⟩ rfl hl.1 (Nat.le_of_ble_eq_true rfl) d_L_law_1071 ⟨by show _ ≤ 669896; omega, by show _ ≤ 7086383; omega⟩) hS (fun X wn' ad' H locs x cell hpost hw hS hcell hst hcls T' hT X0 => (lw_po_x hpost).elim) (fun rv wn' ad' H locs hpost hw hS => ?_)
  rcases lw_po_i hpost with ⟨hv, hba, hwn, had⟩ | ⟨hv, hnba, hbs, hwn, had⟩ | ⟨hv, hnba, hnbs, hG⟩
  · skip
    subst hv
    exact absurd trivial hba
  · skip
    subst hv
    rw [hwn, had] at hw
    refine lv_ei (y := nI 1) rfl ?_
    refine lv_istore (lv' := [(5, .int (nI 1)), (0, .ref (b)), (1, .ref (ad (0))), (2, .ref (ad (64))), (3, .ref (ad (69))), (4, .int (nI (1 + 6 * i)))]) hx hb d_L_law_1074 hl (by decide) rfl (fun ls hl => ?_)
    refine lv_aload_n hx hb d_L_law_1076 rfl (lv_at hl 3 rfl) ?_
    have hw := nw_W.as (wn' := mW ad tC n J bw2 L (obX ad tC n I K bw LA (bE tC o)) (arX tC n aE0) S) hw cW_m.symm
    refine nw_call (nw_goV (n := 0) (As := []) (rest := []) hSx hA hKs hw hS (c_M_worth l D tC A ad n J bw2 L (obX ad tC n I K bw LA (bE tC o)) (arX tC n aE0) S hN  ) kw_908 kw_905 kw_906 kw_907 kw_8 rfl rfl (by decide +kernel) ⟨Nat.le_of_ble_eq_true rfl, Nat.le_of_ble_eq_true rfl⟩ (nw_recv hK hw (mW_64) rfl) rfl hl.1 (Nat.le_of_ble_eq_true rfl) d_L_law_1077 ⟨by show _ ≤ 669896; omega, by show _ ≤ 7086383; omega⟩) hS (fun rv wn' ad9 H locs hpost hw hS => ?_)
    obtain ⟨had9, hmo⟩ := hpost
    rw [had9] at hw
    rcases hmo with ⟨hq1, _⟩ | ⟨hq1, hq4, hq2, hq3⟩ | ⟨hq1, hq4, _⟩
    · exact absurd hq1 hnba
    rotate_left
    · exact absurd (fun h => hbs (fun h9 => h (hJK.trans h9))) hq4
    subst hq2
    rw [hq3] at hw
    have hw := nw_W.as (wn' := cW ad tC n I K bw LA n (va_up J 0 1) bw2 L o S) hw cW_m
    refine lv_lstore (lv' := [(6, .long (0)), (5, .int (nI 1)), (0, .ref (b)), (1, .ref (ad (0))), (2, .ref (ad (64))), (3, .ref (ad (69))), (4, .int (nI (1 + 6 * i)))]) hx hb d_L_law_1080 hl (by decide) rfl (fun ls hl => ?_)
    refine lv_aload_n hx hb d_L_law_1082 rfl (lv_at hl 4 rfl) ?_
    have hw := nw_W.as (wn' := mW ad tC n (va_up J 0 1) bw2 L (obX ad tC n I K bw LA (bE tC o)) (arX tC n aE0) S) hw cW_m.symm
    refine nw_call (nw_goV (n := 0) (As := []) (rest := []) hSx hA hKs hw hS (c_M_thrown l D tC A ad n (va_up J 0 1) bw2 L (obX ad tC n I K bw LA (bE tC o)) (arX tC n aE0) S hN  ) kw_762 kw_759 kw_760 kw_761 kw_8 rfl rfl (by decide +kernel) ⟨Nat.le_of_ble_eq_true rfl, Nat.le_of_ble_eq_true rfl⟩ (nw_recv hK hw (mW_64) rfl) rfl hl.1 (Nat.le_of_ble_eq_true rfl) d_L_law_1083 ⟨by show _ ≤ 669896; omega, by show _ ≤ 7086383; omega⟩) hS (fun rv wn' ad9 H locs hpost hw hS => ?_)
    obtain ⟨hv9, hwn9, had9⟩ := hpost
    subst hv9
    rw [hwn9, had9] at hw
    have hw := nw_W.as (wn' := cW ad tC n I K bw LA n (va_up J 0 1) bw2 L o S) hw cW_m
    refine lv_ei (y := nI 1) rfl ?_
    refine lv_iload hx hb d_L_law_1086 (lv_at hl 1 rfl) ?_
    refine lv_icmp_eq (tgt := 1093) hx hb d_L_law_1088 (by decide) (fun c_1088 => ?_) (fun c_1088 => ?_)
    · skip
      refine lv_iload hx hb d_L_law_1093 (lv_at hl 1 rfl) ?_
      refine lv_if_ne (tgt := 1109) hx hb d_L_law_1095 (by decide) (fun c_1095 => ?_) (fun c_1095 => ?_)
      · skip
        refine lv_goto (tgt := 1168) hx hb d_L_law_1109 (by decide) ?_
        exact W.widen (by omega) (by omega) (hNext ad n I K bw LA (va_up J 0 1) bw2 L o S (LR_thr hL) _ _ ls hw hS (lv_sub hl [2, 3, 4, 5, 6] rfl))
      · skip
        first | exact absurd c_1095 (by decide) | exact absurd (by decide) c_1095
    · skip
      exact absurd rfl c_1088
  · skip
    subst hv
    obtain ⟨had, S1, hsc, hwn⟩ := hG
    rw [hwn, had] at hw
    have hS52 : S1 5 2 = S 5 2 := hsc 5 2 (by omega)
    have hHm1 : ∀ c, c < n 2 → S1 5 2 c = nI (hm c) ∧ hm c < n 1 := fun c hc => by rw [hS52]; exact hHm c hc
    refine lv_istore (lv' := [(5, .int (nI 0)), (0, .ref (b)), (1, .ref (ad (0))), (2, .ref (ad (64))), (3, .ref (ad (69))), (4, .int (nI (1 + 6 * i)))]) hx hb d_L_law_1074 hl (by decide) rfl (fun ls hl => ?_)
    refine lv_aload_n hx hb d_L_law_1076 rfl (lv_at hl 3 rfl) ?_
    have hw := nw_W.as (wn' := mW ad tC n J bw2 L (obX ad tC n I K bw LA (bE tC (vp_updL o 0 (wrL n I ow sq S (S 0 0))))) (arX tC n aE0) S1) hw cW_m.symm
    refine nw_call (nw_goV (n := 0) (As := []) (rest := []) hSx hA hKs hw hS (c_M_worth l D tC A ad n J bw2 L (obX ad tC n I K bw LA (bE tC (vp_updL o 0 (wrL n I ow sq S (S 0 0))))) (arX tC n aE0) S1 hN  ) kw_908 kw_905 kw_906 kw_907 kw_8 rfl rfl (by decide +kernel) ⟨Nat.le_of_ble_eq_true rfl, Nat.le_of_ble_eq_true rfl⟩ (nw_recv hK hw (mW_64) rfl) rfl hl.1 (Nat.le_of_ble_eq_true rfl) d_L_law_1077 ⟨by show _ ≤ 669896; omega, by show _ ≤ 7086383; omega⟩) hS (fun rv wn' ad9 H locs hpost hw hS => ?_)
    obtain ⟨had9, hmo⟩ := hpost
    rw [had9] at hw
    rcases hmo with ⟨hq1, _⟩ | ⟨hq1, hq4, _⟩ | ⟨hq1, hq4, hGm⟩
    · exact absurd hq1 hnba
    · exact absurd hq4 (fun h => hnbs (fun h9 => h (fun h8 => h9 (hJK.symm.trans h8))))
    obtain ⟨hv9, L9, S9, hsm, hw9⟩ := hGm
    subst hv9
    rw [hw9] at hw
    have hw := nw_W.as (wn' := cW ad tC n I K bw LA n (va_up J 0 (nI 0)) bw2 L9 (vp_updL o 0 (wrL n I ow sq S (S 0 0))) S9) hw cW_m
    refine lv_lstore (lv' := [(6, .long (vlL n (upR S1 5 14 (cpR (S1 5 13) (S1 5 14) (n 2))) (va_up J 0 (nI 0)))), (5, .int (nI 0)), (0, .ref (b)), (1, .ref (ad (0))), (2, .ref (ad (64))), (3, .ref (ad (69))), (4, .int (nI (1 + 6 * i)))]) hx hb d_L_law_1080 hl (by decide) rfl (fun ls hl => ?_)
    refine lv_aload_n hx hb d_L_law_1082 rfl (lv_at hl 4 rfl) ?_
    have hw := nw_W.as (wn' := mW ad tC n (va_up J 0 (nI 0)) bw2 L9 (obX ad tC n I K bw LA (bE tC (vp_updL o 0 (wrL n I ow sq S (S 0 0))))) (arX tC n aE0) S9) hw cW_m.symm
    refine nw_call (nw_goV (n := 0) (As := []) (rest := []) hSx hA hKs hw hS (c_M_thrown l D tC A ad n (va_up J 0 (nI 0)) bw2 L9 (obX ad tC n I K bw LA (bE tC (vp_updL o 0 (wrL n I ow sq S (S 0 0))))) (arX tC n aE0) S9 hN  ) kw_762 kw_759 kw_760 kw_761 kw_8 rfl rfl (by decide +kernel) ⟨Nat.le_of_ble_eq_true rfl, Nat.le_of_ble_eq_true rfl⟩ (nw_recv hK hw (mW_64) rfl) rfl hl.1 (Nat.le_of_ble_eq_true rfl) d_L_law_1083 ⟨by show _ ≤ 669896; omega, by show _ ≤ 7086383; omega⟩) hS (fun rv wn' ad9 H locs hpost hw hS => ?_)
    obtain ⟨hv9, hwn9, had9⟩ := hpost
    subst hv9
    rw [hwn9, had9] at hw
    have hw := nw_W.as (wn' := cW ad tC n I K bw LA n (va_up J 0 (nI 0)) bw2 L9 (vp_updL o 0 (wrL n I ow sq S (S 0 0))) S9) hw cW_m
    refine lv_ei (y := nI 0) rfl ?_
    refine lv_iload hx hb d_L_law_1086 (lv_at hl 1 rfl) ?_
    refine lv_icmp_eq (tgt := 1093) hx hb d_L_law_1088 (by decide) (fun c_1088 => ?_) (fun c_1088 => ?_)
    · skip
      refine lv_iload hx hb d_L_law_1093 (lv_at hl 1 rfl) ?_
      refine lv_if_ne (tgt := 1109) hx hb d_L_law_1095 (by decide) (fun c_1095 => ?_) (fun c_1095 => ?_)
      · skip
        first | exact absurd c_1095 (by decide) | exact absurd (by decide) c_1095
      · skip
        refine lv_aload_n hx hb d_L_law_1098 rfl (lv_at hl 5 rfl) ?_
        refine lv_iconst (v := nI 0) hx hb d_L_law_1099 (by decide) ?_
        refine nw_lald hx hb hK hw (69) 1 (cW_69) rfl (0) (rfl) (by omega) (by omega) d_L_law_1100 ?_
        refine lv_lload hx hb d_L_law_1101 (lv_at hl 0 rfl) ?_
        refine lv_el (y := ((vp_updL o 0 (wrL n I ow sq S (S 0 0))) (0))) ((eq_worths hLx (Classical.not_not.mp hnbs) (cR_scr hsc) rfl).symm) ?_
        refine W.lcmp hx hb d_L_law_1103 ?_
        refine lv_ei (y := nI 0) ((lg_cmp_eq _ _).mpr rfl) ?_
        refine lv_if_eq (tgt := 1109) hx hb d_L_law_1104 (by decide) (fun c_1104 => ?_) (fun c_1104 => ?_)
        · skip
          refine lv_goto (tgt := 1168) hx hb d_L_law_1109 (by decide) ?_
          exact W.widen (by omega) (by omega) (hNext ad n I K bw LA (va_up J 0 (nI 0)) bw2 L9 (vp_updL o 0 (wrL n I ow sq S (S 0 0))) S9 (LR_thr (LR_cR (cR_tr (cR_scr hsc) (cR_tr (cR_up (Or.inr (Or.inl ⟨rfl, Nat.le_refl _⟩))) (cR_scm hsm))) hL)) _ _ ls hw hS (lv_sub hl [2, 3, 4, 5, 6] rfl))
        · skip
          first | exact absurd c_1104 (by decide) | exact absurd (by decide) c_1104
    · skip
      exact absurd rfl c_1088

set_option maxHeartbeats 4000000 in
set_option maxRecDepth 100000 in
/-- case 16: sold -/
theorem law_16 {p : Program} {l : Launch} {e : Env} {s : State} {m : MethodId} {args : Array Value} {below : List Frame} {meth : Method} {cd : Code} {Q : State → Prop} {D : va_G} {tC : Nat → ClassId} {A : Nat → Prop} {b N : Nat} {xs : Nat → Int32} (hSx : CallFix p m cd b_L_law 8 s args nw_T "HarvestPlansLaw") (hA : ∀ q, s.heap.size ≤ q → A q) (hAs : ∀ q, A q → s.heap.size ≤ q) (hKs : nw_K D hpC (hpT tC) s) (hF : nx_F s) (hfl : l.stackTraces = false) (hX : va_X b N xs s s.heap) (hbl : b < s.heap.size) (hbA : ¬ A b) (hN3 : N ≤ 3073) {cc cs i : Nat} (hcc : cc + 12 ≤ 669896) (hcs : cs + 120 ≤ 7086383) (hi : 1 + 6 * i + 6 ≤ N) (hNext : ∀ (ad : Nat → Nat) (n : Nat → Nat) (I : Nat → Nat → Int32) (K : Nat → Int32) (bw : Int64) (LA : Nat → Int64) (J : Nat → Int32) (bw2 : Int64) (L : Nat → Nat → Int64) (o : Nat → Int64) (S : Nat → Nat → Nat → Int32), LR n I K J S → ∀ (H : Heap) (locs : List Loc) (ls : Array Slot), nw_W D hpC A (cW ad tC n I K bw LA n J bw2 L o S) ad H → va_S A s.heap H locs → lv_has ls 8 [(0, .ref (b)), (1, .ref (ad (0))), (2, .ref (ad (64))), (3, .ref (ad (69))), (4, .int (nI (1 + 6 * i)))] → W p l e room_1 s m args below meth cd H locs (cc + 12) (cs + 120) Q (F0 m 1168 ls [])) (ad : Nat → Nat) (n : Nat → Nat) (I : Nat → Nat → Int32) (K : Nat → Int32) (bw : Int64) (LA : Nat → Int64) (J : Nat → Int32) (bw2 : Int64) (L : Nat → Nat → Int64) (o : Nat → Int64) (S : Nat → Nat → Nat → Int32) (hL : LR n I K J S) (H : Heap) (locs : List Loc) (ls : Array Slot) (hw : nw_W D hpC A (cW ad tC n I K bw LA n J bw2 L o S) ad H) (hS : va_S A s.heap H locs) (hl : lv_has ls 8 [(0, .ref (b)), (1, .ref (ad (0))), (2, .ref (ad (64))), (3, .ref (ad (69))), (4, .int (nI (1 + 6 * i)))]) : W p l e room_1 s m args below meth cd H locs cc cs Q (F0 m 1112 ls []) := by
  obtain ⟨hx, hb, hml, hown, hts⟩ := id hSx
  have hK := hKs.1
  have hB : nx_B s s := ⟨State.WarmedH.refl s, Nat.le_refl _, fun _ _ => rfl⟩
  obtain ⟨hm, ow, sq, hLx⟩ := id hL
  have hN : hpN n := hLx.1.1
  obtain ⟨hn0, hn0', hn1, hn2, hn3, hn4⟩ := id hN
  have hJK : J 3 = K 0 := hLx.2.2.1.1
  have hH : ∀ c, c < n 2 → I 2 c = nI (hm c) ∧ hm c < n 1 := fun c hc => ⟨hLx.2.1.1 c hc, (hLx.1.2.2.2.1 c hc).2.1⟩
  have hHm : ∀ c, c < n 2 → S 5 2 c = nI (hm c) ∧ hm c < n 1 := fun c hc => ⟨(hLx.1.2.2.2.1 c hc).1, (hLx.1.2.2.2.1 c hc).2.1⟩
  have hO : ∀ o, o < n 4 → I 4 o = nI (ow o) ∧ ow o < n 0 := fun o ho => ⟨(hLx.1.2.2.2.2.2.2.1 o ho).2.1, (hLx.1.2.2.2.2.2.2.1 o ho).2.2.1⟩
  have hSq : ∀ k, k < n 4 → S 0 1 k = nI (sq k) ∧ sq k < n 4 := fun k hk => ⟨hLx.2.1.2.1 k hk, hLx.1.2.2.2.2.2.2.2.1 k hk⟩
  have hSo : ∀ q, q < n 4 → ∃ j, j < n 4 ∧ sq j = q := hLx.1.2.2.2.2.2.2.2.2.1
  have hPl := ok_pl hLx
  obtain ⟨hz1, hz4, hz51, hz56⟩ := hLx.2.1.2.2.2
  refine lv_aload_n hx hb d_L_law_1112 rfl (lv_at hl 1 rfl) ?_
  refine lv_aload_n hx hb d_L_law_1113 rfl (lv_at hl 0 rfl) ?_
  refine lv_iload hx hb d_L_law_1114 (lv_at hl 4 rfl) ?_
  refine lv_iconst (v := nI 1) hx hb d_L_law_1116 (by decide) ?_
  refine lv_iadd hx hb d_L_law_1117 ?_
  refine lv_ei (y := nI (1 + 6 * i + 1)) (nI_add _ _) ?_
  refine va_sld hx hb hX hbl hbA hS (vp_in_nI (by omega) (by omega)) d_L_law_1118 ?_
  refine lv_ei (y := xs (1 + 6 * i + 1)) (by rw [nI_clamp (by omega)]) ?_
  refine lv_aload_n hx hb d_L_law_1119 rfl (lv_at hl 3 rfl) ?_
  refine nx_callC (nx_goW (n := 3) (As := [.ref (ad (0)), .int (xs (1 + 6 * i + 1)), .ref (ad (69))]) (rest := []) hSx hA hKs hF hB hAs hw hS (w_sold l D tC A ad n I K bw LA n J bw2 L o S hN s hF hfl hAs (xs (1 + 6 * i + 1)) ow hO hPl sq hSq hSo) kt_648 kw_646 kw_647 kw_0 rfl rfl (by decide +kernel) ⟨Nat.le_of_ble_eq_true rfl, Nat.le_of_ble_eq_true rfl⟩ rfl hl.1 (Nat.le_of_ble_eq_true rfl) d_L_law_1120 ⟨by show _ ≤ 669896; omega, by show _ ≤ 7086383; omega⟩) hS (fun X wn' ad' H locs x cell hpost hw hS hcell hst hcls T' hT X0 => (lw_po_x hpost).elim) (fun rv wn' ad' H locs hpost hw hS => ?_)
  rcases lw_po_i hpost with ⟨hv, hba, hwn, had⟩ | ⟨hv, hnba, hbs, hwn, had⟩ | ⟨hv, hnba, hnbs, hG⟩
  · skip
    subst hv
    rw [hwn, had] at hw
    refine lv_istore (lv' := [(5, .int (nI 1)), (0, .ref (b)), (1, .ref (ad (0))), (2, .ref (ad (64))), (3, .ref (ad (69))), (4, .int (nI (1 + 6 * i)))]) hx hb d_L_law_1123 hl (by decide) rfl (fun ls hl => ?_)
    refine lv_aload_n hx hb d_L_law_1125 rfl (lv_at hl 3 rfl) ?_
    refine lv_aload_n hx hb d_L_law_1126 rfl (lv_at hl 1 rfl) ?_
    refine lv_iload hx hb d_L_law_1127 (lv_at hl 5 rfl) ?_
    refine lv_iconst (v := nI 1) hx hb d_L_law_1129 (by decide) ?_
    refine lv_iadd hx hb d_L_law_1130 ?_
    refine lv_ei (y := nI (1 + 6 * i + 1)) (nI_add _ _) ?_
    refine va_sld hx hb hX hbl hbA hS (vp_in_nI (by omega) (by omega)) d_L_law_1131 ?_
    refine lv_ei (y := xs (1 + 6 * i + 1)) (by rw [nI_clamp (by omega)]) ?_
    have hw := nw_W.as (wn' := mW ad tC n J bw2 L (obX ad tC n I K bw LA (bE tC o)) (arX tC n aE0) S) hw cW_m.symm
    refine nw_call (nw_goV (n := 1) (As := [.int (xs (1 + 6 * i + 1))]) (rest := []) hSx hA hKs hw hS (c_M_sold l D tC A ad n J bw2 L (obX ad tC n I K bw LA (bE tC o)) (arX tC n aE0) S hN (xs (1 + 6 * i + 1)) ) kw_912 kw_909 kw_910 kw_911 kw_8 rfl rfl (by decide +kernel) ⟨Nat.le_of_ble_eq_true rfl, Nat.le_of_ble_eq_true rfl⟩ (nw_recv hK hw (mW_64) rfl) rfl hl.1 (Nat.le_of_ble_eq_true rfl) d_L_law_1132 ⟨by show _ ≤ 669896; omega, by show _ ≤ 7086383; omega⟩) hS (fun rv wn' ad9 H locs hpost hw hS => ?_)
    obtain ⟨had9, hmo⟩ := hpost
    rw [had9] at hw
    rcases hmo with ⟨hq1, hq2, hq3⟩ | ⟨hq1, _⟩ | ⟨hq1, _⟩
    rotate_left
    · exact absurd hba hq1
    · exact absurd hba hq1
    subst hq2
    rw [hq3] at hw
    have hw := nw_W.as (wn' := cW ad tC n I K bw LA n (va_up J 0 1) bw2 L o S) hw cW_m
    refine lv_istore (lv' := [(6, .int (nI 0)), (5, .int (nI 1)), (0, .ref (b)), (1, .ref (ad (0))), (2, .ref (ad (64))), (3, .ref (ad (69))), (4, .int (nI (1 + 6 * i)))]) hx hb d_L_law_1135 hl (by decide) rfl (fun ls hl => ?_)
    refine lv_aload_n hx hb d_L_law_1137 rfl (lv_at hl 4 rfl) ?_
    have hw := nw_W.as (wn' := mW ad tC n (va_up J 0 1) bw2 L (obX ad tC n I K bw LA (bE tC o)) (arX tC n aE0) S) hw cW_m.symm
    refine nw_call (nw_goV (n := 0) (As := []) (rest := []) hSx hA hKs hw hS (c_M_thrown l D tC A ad n (va_up J 0 1) bw2 L (obX ad tC n I K bw LA (bE tC o)) (arX tC n aE0) S hN  ) kw_762 kw_759 kw_760 kw_761 kw_8 rfl rfl (by decide +kernel) ⟨Nat.le_of_ble_eq_true rfl, Nat.le_of_ble_eq_true rfl⟩ (nw_recv hK hw (mW_64) rfl) rfl hl.1 (Nat.le_of_ble_eq_true rfl) d_L_law_1138 ⟨by show _ ≤ 669896; omega, by show _ ≤ 7086383; omega⟩) hS (fun rv wn' ad9 H locs hpost hw hS => ?_)
    obtain ⟨hv9, hwn9, had9⟩ := hpost
    subst hv9
    rw [hwn9, had9] at hw
    have hw := nw_W.as (wn' := cW ad tC n I K bw LA n (va_up J 0 1) bw2 L o S) hw cW_m
    refine lv_ei (y := nI 1) rfl ?_
    refine lv_iload hx hb d_L_law_1141 (lv_at hl 1 rfl) ?_
    refine lv_icmp_eq (tgt := 1148) hx hb d_L_law_1143 (by decide) (fun c_1143 => ?_) (fun c_1143 => ?_)
    · skip
      refine lv_iload hx hb d_L_law_1148 (lv_at hl 1 rfl) ?_
      refine lv_if_ne (tgt := 1165) hx hb d_L_law_1150 (by decide) (fun c_1150 => ?_) (fun c_1150 => ?_)
      · skip
        refine lv_goto (tgt := 1168) hx hb d_L_law_1165 (by decide) ?_
        exact W.widen (by omega) (by omega) (hNext ad n I K bw LA (va_up J 0 1) bw2 L o S (LR_thr hL) _ _ ls hw hS (lv_sub hl [2, 3, 4, 5, 6] rfl))
      · skip
        first | exact absurd c_1150 (by decide) | exact absurd (by decide) c_1150
    · skip
      exact absurd rfl c_1143
  · skip
    subst hv
    rw [hwn, had] at hw
    refine lv_ei (y := nI 2) rfl ?_
    refine lv_istore (lv' := [(5, .int (nI 2)), (0, .ref (b)), (1, .ref (ad (0))), (2, .ref (ad (64))), (3, .ref (ad (69))), (4, .int (nI (1 + 6 * i)))]) hx hb d_L_law_1123 hl (by decide) rfl (fun ls hl => ?_)
    refine lv_aload_n hx hb d_L_law_1125 rfl (lv_at hl 3 rfl) ?_
    refine lv_aload_n hx hb d_L_law_1126 rfl (lv_at hl 1 rfl) ?_
    refine lv_iload hx hb d_L_law_1127 (lv_at hl 5 rfl) ?_
    refine lv_iconst (v := nI 1) hx hb d_L_law_1129 (by decide) ?_
    refine lv_iadd hx hb d_L_law_1130 ?_
    refine lv_ei (y := nI (1 + 6 * i + 1)) (nI_add _ _) ?_
    refine va_sld hx hb hX hbl hbA hS (vp_in_nI (by omega) (by omega)) d_L_law_1131 ?_
    refine lv_ei (y := xs (1 + 6 * i + 1)) (by rw [nI_clamp (by omega)]) ?_
    have hw := nw_W.as (wn' := mW ad tC n J bw2 L (obX ad tC n I K bw LA (bE tC o)) (arX tC n aE0) S) hw cW_m.symm
    refine nw_call (nw_goV (n := 1) (As := [.int (xs (1 + 6 * i + 1))]) (rest := []) hSx hA hKs hw hS (c_M_sold l D tC A ad n J bw2 L (obX ad tC n I K bw LA (bE tC o)) (arX tC n aE0) S hN (xs (1 + 6 * i + 1)) ) kw_912 kw_909 kw_910 kw_911 kw_8 rfl rfl (by decide +kernel) ⟨Nat.le_of_ble_eq_true rfl, Nat.le_of_ble_eq_true rfl⟩ (nw_recv hK hw (mW_64) rfl) rfl hl.1 (Nat.le_of_ble_eq_true rfl) d_L_law_1132 ⟨by show _ ≤ 669896; omega, by show _ ≤ 7086383; omega⟩) hS (fun rv wn' ad9 H locs hpost hw hS => ?_)
    obtain ⟨had9, hmo⟩ := hpost
    rw [had9] at hw
    rcases hmo with ⟨hq1, _⟩ | ⟨hq1, hq4, hq2, hq3⟩ | ⟨hq1, hq4, _⟩
    · exact absurd hq1 hnba
    rotate_left
    · exact absurd (fun h => hbs (fun h9 => h (hJK.trans h9))) hq4
    subst hq2
    rw [hq3] at hw
    have hw := nw_W.as (wn' := cW ad tC n I K bw LA n (va_up J 0 2) bw2 L o S) hw cW_m
    refine lv_istore (lv' := [(6, .int (nI 0)), (5, .int (nI 2)), (0, .ref (b)), (1, .ref (ad (0))), (2, .ref (ad (64))), (3, .ref (ad (69))), (4, .int (nI (1 + 6 * i)))]) hx hb d_L_law_1135 hl (by decide) rfl (fun ls hl => ?_)
    refine lv_aload_n hx hb d_L_law_1137 rfl (lv_at hl 4 rfl) ?_
    have hw := nw_W.as (wn' := mW ad tC n (va_up J 0 2) bw2 L (obX ad tC n I K bw LA (bE tC o)) (arX tC n aE0) S) hw cW_m.symm
    refine nw_call (nw_goV (n := 0) (As := []) (rest := []) hSx hA hKs hw hS (c_M_thrown l D tC A ad n (va_up J 0 2) bw2 L (obX ad tC n I K bw LA (bE tC o)) (arX tC n aE0) S hN  ) kw_762 kw_759 kw_760 kw_761 kw_8 rfl rfl (by decide +kernel) ⟨Nat.le_of_ble_eq_true rfl, Nat.le_of_ble_eq_true rfl⟩ (nw_recv hK hw (mW_64) rfl) rfl hl.1 (Nat.le_of_ble_eq_true rfl) d_L_law_1138 ⟨by show _ ≤ 669896; omega, by show _ ≤ 7086383; omega⟩) hS (fun rv wn' ad9 H locs hpost hw hS => ?_)
    obtain ⟨hv9, hwn9, had9⟩ := hpost
    subst hv9
    rw [hwn9, had9] at hw
    have hw := nw_W.as (wn' := cW ad tC n I K bw LA n (va_up J 0 2) bw2 L o S) hw cW_m
    refine lv_ei (y := nI 2) rfl ?_
    refine lv_iload hx hb d_L_law_1141 (lv_at hl 1 rfl) ?_
    refine lv_icmp_eq (tgt := 1148) hx hb d_L_law_1143 (by decide) (fun c_1143 => ?_) (fun c_1143 => ?_)
    · skip
      refine lv_iload hx hb d_L_law_1148 (lv_at hl 1 rfl) ?_
      refine lv_if_ne (tgt := 1165) hx hb d_L_law_1150 (by decide) (fun c_1150 => ?_) (fun c_1150 => ?_)
      · skip
        refine lv_goto (tgt := 1168) hx hb d_L_law_1165 (by decide) ?_
        exact W.widen (by omega) (by omega) (hNext ad n I K bw LA (va_up J 0 2) bw2 L o S (LR_thr hL) _ _ ls hw hS (lv_sub hl [2, 3, 4, 5, 6] rfl))
      · skip
        exact absurd c_1150 (by decide)
    · skip
      exact absurd rfl c_1143
  · skip
    subst hv
    obtain ⟨had, S1, hsc, hwn⟩ := hG
    rw [hwn, had] at hw
    have hS52 : S1 5 2 = S 5 2 := hsc 5 2 (by omega)
    have hHm1 : ∀ c, c < n 2 → S1 5 2 c = nI (hm c) ∧ hm c < n 1 := fun c hc => by rw [hS52]; exact hHm c hc
    refine lv_istore (lv' := [(5, .int (nI 0)), (0, .ref (b)), (1, .ref (ad (0))), (2, .ref (ad (64))), (3, .ref (ad (69))), (4, .int (nI (1 + 6 * i)))]) hx hb d_L_law_1123 hl (by decide) rfl (fun ls hl => ?_)
    refine lv_aload_n hx hb d_L_law_1125 rfl (lv_at hl 3 rfl) ?_
    refine lv_aload_n hx hb d_L_law_1126 rfl (lv_at hl 1 rfl) ?_
    refine lv_iload hx hb d_L_law_1127 (lv_at hl 5 rfl) ?_
    refine lv_iconst (v := nI 1) hx hb d_L_law_1129 (by decide) ?_
    refine lv_iadd hx hb d_L_law_1130 ?_
    refine lv_ei (y := nI (1 + 6 * i + 1)) (nI_add _ _) ?_
    refine va_sld hx hb hX hbl hbA hS (vp_in_nI (by omega) (by omega)) d_L_law_1131 ?_
    refine lv_ei (y := xs (1 + 6 * i + 1)) (by rw [nI_clamp (by omega)]) ?_
    have hw := nw_W.as (wn' := mW ad tC n J bw2 L (obX ad tC n I K bw LA (bE tC (vp_updL o 0 (((saF n I ow sq S (S 0 0)).2.1 ((xs (1 + 6 * i + 1)).toNatClampNeg)).toInt64)))) (arX tC n aE0) S1) hw cW_m.symm
    refine nw_call (nw_goV (n := 1) (As := [.int (xs (1 + 6 * i + 1))]) (rest := []) hSx hA hKs hw hS (c_M_sold l D tC A ad n J bw2 L (obX ad tC n I K bw LA (bE tC (vp_updL o 0 (((saF n I ow sq S (S 0 0)).2.1 ((xs (1 + 6 * i + 1)).toNatClampNeg)).toInt64)))) (arX tC n aE0) S1 hN (xs (1 + 6 * i + 1)) ) kw_912 kw_909 kw_910 kw_911 kw_8 rfl rfl (by decide +kernel) ⟨Nat.le_of_ble_eq_true rfl, Nat.le_of_ble_eq_true rfl⟩ (nw_recv hK hw (mW_64) rfl) rfl hl.1 (Nat.le_of_ble_eq_true rfl) d_L_law_1132 ⟨by show _ ≤ 669896; omega, by show _ ≤ 7086383; omega⟩) hS (fun rv wn' ad9 H locs hpost hw hS => ?_)
    obtain ⟨had9, hmo⟩ := hpost
    rw [had9] at hw
    rcases hmo with ⟨hq1, _⟩ | ⟨hq1, hq4, _⟩ | ⟨hq1, hq4, hGm⟩
    · exact absurd hq1 hnba
    · exact absurd hq4 (fun h => hnbs (fun h9 => h (fun h8 => h9 (hJK.symm.trans h8))))
    obtain ⟨hv9, L9, S9, hsm, hw9⟩ := hGm
    subst hv9
    rw [hw9] at hw
    have hw := nw_W.as (wn' := cW ad tC n I K bw LA n (va_up J 0 (nI 0)) bw2 L9 (vp_updL o 0 (((saF n I ow sq S (S 0 0)).2.1 ((xs (1 + 6 * i + 1)).toNatClampNeg)).toInt64)) S9) hw cW_m
    refine lv_istore (lv' := [(6, .int (((wkF n (upR S1 5 14 (cpR (S1 5 13) (S1 5 14) (n 2))) (va_up J 0 (nI 0))).2.2.1 ((xs (1 + 6 * i + 1)).toNatClampNeg)).toInt32)), (5, .int (nI 0)), (0, .ref (b)), (1, .ref (ad (0))), (2, .ref (ad (64))), (3, .ref (ad (69))), (4, .int (nI (1 + 6 * i)))]) hx hb d_L_law_1135 hl (by decide) rfl (fun ls hl => ?_)
    refine lv_aload_n hx hb d_L_law_1137 rfl (lv_at hl 4 rfl) ?_
    have hw := nw_W.as (wn' := mW ad tC n (va_up J 0 (nI 0)) bw2 L9 (obX ad tC n I K bw LA (bE tC (vp_updL o 0 (((saF n I ow sq S (S 0 0)).2.1 ((xs (1 + 6 * i + 1)).toNatClampNeg)).toInt64)))) (arX tC n aE0) S9) hw cW_m.symm
    refine nw_call (nw_goV (n := 0) (As := []) (rest := []) hSx hA hKs hw hS (c_M_thrown l D tC A ad n (va_up J 0 (nI 0)) bw2 L9 (obX ad tC n I K bw LA (bE tC (vp_updL o 0 (((saF n I ow sq S (S 0 0)).2.1 ((xs (1 + 6 * i + 1)).toNatClampNeg)).toInt64)))) (arX tC n aE0) S9 hN  ) kw_762 kw_759 kw_760 kw_761 kw_8 rfl rfl (by decide +kernel) ⟨Nat.le_of_ble_eq_true rfl, Nat.le_of_ble_eq_true rfl⟩ (nw_recv hK hw (mW_64) rfl) rfl hl.1 (Nat.le_of_ble_eq_true rfl) d_L_law_1138 ⟨by show _ ≤ 669896; omega, by show _ ≤ 7086383; omega⟩) hS (fun rv wn' ad9 H locs hpost hw hS => ?_)
    obtain ⟨hv9, hwn9, had9⟩ := hpost
    subst hv9
    rw [hwn9, had9] at hw
    have hw := nw_W.as (wn' := cW ad tC n I K bw LA n (va_up J 0 (nI 0)) bw2 L9 (vp_updL o 0 (((saF n I ow sq S (S 0 0)).2.1 ((xs (1 + 6 * i + 1)).toNatClampNeg)).toInt64)) S9) hw cW_m
    refine lv_ei (y := nI 0) rfl ?_
    refine lv_iload hx hb d_L_law_1141 (lv_at hl 1 rfl) ?_
    refine lv_icmp_eq (tgt := 1148) hx hb d_L_law_1143 (by decide) (fun c_1143 => ?_) (fun c_1143 => ?_)
    · skip
      refine lv_iload hx hb d_L_law_1148 (lv_at hl 1 rfl) ?_
      refine lv_if_ne (tgt := 1165) hx hb d_L_law_1150 (by decide) (fun c_1150 => ?_) (fun c_1150 => ?_)
      · skip
        first | exact absurd c_1150 (by decide) | exact absurd (by decide) c_1150
      · skip
        refine lv_aload_n hx hb d_L_law_1153 rfl (lv_at hl 5 rfl) ?_
        refine lv_iconst (v := nI 0) hx hb d_L_law_1154 (by decide) ?_
        refine nw_lald hx hb hK hw (69) 1 (cW_69) rfl (0) (rfl) (by omega) (by omega) d_L_law_1155 ?_
        refine lv_iload hx hb d_L_law_1156 (lv_at hl 0 rfl) ?_
        refine lv_i2l (v := ((((wkF n (upR S1 5 14 (cpR (S1 5 13) (S1 5 14) (n 2))) (va_up J 0 (nI 0))).2.2.1 ((xs (1 + 6 * i + 1)).toNatClampNeg)).toInt32).toInt64)) hx hb d_L_law_1158 rfl ?_
        refine lv_el (y := ((vp_updL o 0 (((saF n I ow sq S (S 0 0)).2.1 ((xs (1 + 6 * i + 1)).toNatClampNeg)).toInt64)) (0))) (congrArg Int32.toInt64 (eq_solds hLx (Classical.not_not.mp hnbs) (cR_scr hsc) rfl (Classical.not_not.mp hnba)).symm) ?_
        refine W.lcmp hx hb d_L_law_1159 ?_
        refine lv_ei (y := nI 0) ((lg_cmp_eq _ _).mpr rfl) ?_
        refine lv_if_eq (tgt := 1165) hx hb d_L_law_1160 (by decide) (fun c_1160 => ?_) (fun c_1160 => ?_)
        · skip
          refine lv_goto (tgt := 1168) hx hb d_L_law_1165 (by decide) ?_
          exact W.widen (by omega) (by omega) (hNext ad n I K bw LA (va_up J 0 (nI 0)) bw2 L9 (vp_updL o 0 (((saF n I ow sq S (S 0 0)).2.1 ((xs (1 + 6 * i + 1)).toNatClampNeg)).toInt64)) S9 (LR_thr (LR_cR (cR_tr (cR_scr hsc) (cR_tr (cR_up (Or.inr (Or.inl ⟨rfl, Nat.le_refl _⟩))) (cR_scm hsm))) hL)) _ _ ls hw hS (lv_sub hl [2, 3, 4, 5, 6] rfl))
        · skip
          first | exact absurd c_1160 (by decide) | exact absurd (by decide) c_1160
    · skip
      exact absurd rfl c_1143
