set_option maxHeartbeats 4000000 in
set_option maxRecDepth 100000 in
/-- case 8: prices -/
theorem law_8 {p : Program} {l : Launch} {e : Env} {s : State} {m : MethodId} {args : Array Value} {below : List Frame} {meth : Method} {cd : Code} {Q : State → Prop} {D : va_G} {tC : Nat → ClassId} {A : Nat → Prop} {b N : Nat} {xs : Nat → Int32} (hSx : CallFix p m cd b_L_law 8 s args nw_T "HarvestPlansLaw") (hA : ∀ q, s.heap.size ≤ q → A q) (hAs : ∀ q, A q → s.heap.size ≤ q) (hKs : nw_K D hpC (hpT tC) s) (hF : nx_F s) (hfl : l.stackTraces = false) (hX : va_X b N xs s s.heap) (hbl : b < s.heap.size) (hbA : ¬ A b) (hN3 : N ≤ 3073) {cc cs i : Nat} (hcc : cc + 12 ≤ 669896) (hcs : cs + 120 ≤ 7086383) (hi : 1 + 6 * i + 6 ≤ N) (hNext : ∀ (ad : Nat → Nat) (n : Nat → Nat) (I : Nat → Nat → Int32) (K : Nat → Int32) (bw : Int64) (LA : Nat → Int64) (J : Nat → Int32) (bw2 : Int64) (L : Nat → Nat → Int64) (o : Nat → Int64) (S : Nat → Nat → Nat → Int32), LR n I K J S → ∀ (H : Heap) (locs : List Loc) (ls : Array Slot), nw_W D hpC A (cW ad tC n I K bw LA n J bw2 L o S) ad H → va_S A s.heap H locs → lv_has ls 8 [(0, .ref (b)), (1, .ref (ad (0))), (2, .ref (ad (64))), (3, .ref (ad (69))), (4, .int (nI (1 + 6 * i)))] → W p l e room_1 s m args below meth cd H locs (cc + 12) (cs + 120) Q (F0 m 1168 ls [])) (ad : Nat → Nat) (n : Nat → Nat) (I : Nat → Nat → Int32) (K : Nat → Int32) (bw : Int64) (LA : Nat → Int64) (J : Nat → Int32) (bw2 : Int64) (L : Nat → Nat → Int64) (o : Nat → Int64) (S : Nat → Nat → Nat → Int32) (hL : LR n I K J S) (H : Heap) (locs : List Loc) (ls : Array Slot) (hw : nw_W D hpC A (cW ad tC n I K bw LA n J bw2 L o S) ad H) (hS : va_S A s.heap H locs) (hl : lv_has ls 8 [(0, .ref (b)), (1, .ref (ad (0))), (2, .ref (ad (64))), (3, .ref (ad (69))), (4, .int (nI (1 + 6 * i)))]) : W p l e room_1 s m args below meth cd H locs cc cs Q (F0 m 770 ls []) := by
  obtain ⟨hx, hb, hml, hown, hts⟩ := id hSx
  have hK := hKs.1
  have hB : nx_B s s := ⟨State.WarmedH.refl s, Nat.le_refl _, fun _ _ => rfl⟩
  obtain ⟨hm, ow, sq, hLx⟩ := id hL
  have hN : hpN n := hLx.1.1
  obtain ⟨hn0, hn0', hn1, hn2, hn3, hn4⟩ := id hN
  have hJK : J 3 = K 0 := hLx.2.2.1.1
  have hH : ∀ c, c < n 2 → I 2 c = nI (hm c) ∧ hm c < n 1 := fun c hc => ⟨hLx.2.1.1 c hc, (hLx.1.2.2.2.1 c hc).2.1⟩
  have hHm : ∀ c, c < n 2 → S 5 2 c = nI (hm c) ∧ hm c < n 1 := fun c hc => ⟨(hLx.1.2.2.2.1 c hc).1, (hLx.1.2.2.2.1 c hc).2.1⟩
  have hO : ∀ o, o < n 4 → I 4 o = nI (ow o) ∧ ow o < n 0 := fun o ho => ⟨(hLx.1.2.2.2.2.2.2.1 o ho).2.1, (hLx.1.2.2.2.2.2.2.1 o ho).2.2.1⟩
  have hSq : ∀ k, k < n 4 → S 0 1 k = nI (sq k) ∧ sq k < n 4 := fun k hk => ⟨hLx.2.1.2.1 k hk, hLx.1.2.2.2.2.2.2.2.1 k hk⟩
  have hSo : ∀ q, q < n 4 → ∃ j, j < n 4 ∧ sq j = q := hLx.1.2.2.2.2.2.2.2.2.1
  have hPl := ok_pl hLx
  obtain ⟨hz1, hz4, hz51, hz56⟩ := hLx.2.1.2.2.2
  refine lv_aload_n hx hb d_L_law_770 rfl (lv_at hl 1 rfl) ?_
  refine lv_aload_n hx hb d_L_law_771 rfl (lv_at hl 0 rfl) ?_
  refine lv_iload hx hb d_L_law_772 (lv_at hl 4 rfl) ?_
  refine lv_iconst (v := nI 1) hx hb d_L_law_774 (by decide) ?_
  refine lv_iadd hx hb d_L_law_775 ?_
  refine lv_ei (y := nI (1 + 6 * i + 1)) (nI_add _ _) ?_
  refine va_sld hx hb hX hbl hbA hS (vp_in_nI (by omega) (by omega)) d_L_law_776 ?_
  refine lv_ei (y := xs (1 + 6 * i + 1)) (by rw [nI_clamp (by omega)]) ?_
  refine lv_aload_n hx hb d_L_law_777 rfl (lv_at hl 0 rfl) ?_
  refine lv_iload hx hb d_L_law_778 (lv_at hl 4 rfl) ?_
  refine lv_iconst (v := nI 2) hx hb d_L_law_780 (by decide) ?_
  refine lv_iadd hx hb d_L_law_781 ?_
  refine lv_ei (y := nI (1 + 6 * i + 2)) (nI_add _ _) ?_
  refine va_sld hx hb hX hbl hbA hS (vp_in_nI (by omega) (by omega)) d_L_law_782 ?_
  refine lv_ei (y := xs (1 + 6 * i + 2)) (by rw [nI_clamp (by omega)]) ?_
  refine nx_callC (nx_goW (n := 3) (As := [.ref (ad (0)), .int (xs (1 + 6 * i + 1)), .int (xs (1 + 6 * i + 2))]) (rest := []) hSx hA hKs hF hB hAs hw hS (w_prices l D tC A ad n I K bw LA n J bw2 L o S hN s hF hfl hAs (xs (1 + 6 * i + 1)) (xs (1 + 6 * i + 2)) ) kt_517 kw_515 kw_516 kw_0 rfl rfl (by decide +kernel) ⟨Nat.le_of_ble_eq_true rfl, Nat.le_of_ble_eq_true rfl⟩ rfl hl.1 (Nat.le_of_ble_eq_true rfl) d_L_law_783 ⟨by show _ ≤ 669896; omega, by show _ ≤ 7086383; omega⟩) hS (fun X wn' ad' H locs x cell hpost hw hS hcell hst hcls T' hT X0 => (lw_po_x hpost).elim) (fun rv wn' ad' H locs hpost hw hS => ?_)
  rcases lw_po_i hpost with ⟨hv, hba, hwn, had⟩ | ⟨hv, hnba, hbs, hwn, had⟩ | ⟨hv, hnba, hnbs, hG⟩
  · skip
    subst hv
    rw [hwn, had] at hw
    refine lv_istore (lv' := [(5, .int (nI 1)), (0, .ref (b)), (1, .ref (ad (0))), (2, .ref (ad (64))), (3, .ref (ad (69))), (4, .int (nI (1 + 6 * i)))]) hx hb d_L_law_786 hl (by decide) rfl (fun ls hl => ?_)
    refine lv_aload_n hx hb d_L_law_788 rfl (lv_at hl 3 rfl) ?_
    refine lv_aload_n hx hb d_L_law_789 rfl (lv_at hl 1 rfl) ?_
    refine lv_iload hx hb d_L_law_790 (lv_at hl 5 rfl) ?_
    refine lv_iconst (v := nI 1) hx hb d_L_law_792 (by decide) ?_
    refine lv_iadd hx hb d_L_law_793 ?_
    refine lv_ei (y := nI (1 + 6 * i + 1)) (nI_add _ _) ?_
    refine va_sld hx hb hX hbl hbA hS (vp_in_nI (by omega) (by omega)) d_L_law_794 ?_
    refine lv_ei (y := xs (1 + 6 * i + 1)) (by rw [nI_clamp (by omega)]) ?_
    refine lv_aload_n hx hb d_L_law_795 rfl (lv_at hl 1 rfl) ?_
    refine lv_iload hx hb d_L_law_796 (lv_at hl 5 rfl) ?_
    refine lv_iconst (v := nI 2) hx hb d_L_law_798 (by decide) ?_
    refine lv_iadd hx hb d_L_law_799 ?_
    refine lv_ei (y := nI (1 + 6 * i + 2)) (nI_add _ _) ?_
    refine va_sld hx hb hX hbl hbA hS (vp_in_nI (by omega) (by omega)) d_L_law_800 ?_
    refine lv_ei (y := xs (1 + 6 * i + 2)) (by rw [nI_clamp (by omega)]) ?_
    have hw := nw_W.as (wn' := mW ad tC n J bw2 L (obX ad tC n I K bw LA (bE tC o)) (arX tC n aE0) S) hw cW_m.symm
    refine nw_call (nw_goV (n := 2) (As := [.int (xs (1 + 6 * i + 1)), .int (xs (1 + 6 * i + 2))]) (rest := []) hSx hA hKs hw hS (c_M_prices l D tC A ad n J bw2 L (obX ad tC n I K bw LA (bE tC o)) (arX tC n aE0) S hN (xs (1 + 6 * i + 1)) (xs (1 + 6 * i + 2)) ) kw_814 kw_811 kw_812 kw_813 kw_8 rfl rfl (by decide +kernel) ⟨Nat.le_of_ble_eq_true rfl, Nat.le_of_ble_eq_true rfl⟩ (nw_recv hK hw (mW_64) rfl) rfl hl.1 (Nat.le_of_ble_eq_true rfl) d_L_law_801 ⟨by show _ ≤ 669896; omega, by show _ ≤ 7086383; omega⟩) hS (fun rv wn' ad9 H locs hpost hw hS => ?_)
    obtain ⟨had9, hmo⟩ := hpost
    rw [had9] at hw
    rcases hmo with ⟨hq1, hq2, hq3⟩ | ⟨hq1, _⟩ | ⟨hq1, _⟩
    rotate_left
    · exact absurd hba hq1
    · exact absurd hba hq1
    subst hq2
    rw [hq3] at hw
    have hw := nw_W.as (wn' := cW ad tC n I K bw LA n (va_up J 0 1) bw2 L o S) hw cW_m
    refine lv_aload_n hx hb d_L_law_804 rfl (lv_at hl 3 rfl) ?_
    have hw := nw_W.as (wn' := mW ad tC n (va_up J 0 1) bw2 L (obX ad tC n I K bw LA (bE tC o)) (arX tC n aE0) S) hw cW_m.symm
    refine nw_call (nw_goV (n := 0) (As := []) (rest := []) hSx hA hKs hw hS (c_M_thrown l D tC A ad n (va_up J 0 1) bw2 L (obX ad tC n I K bw LA (bE tC o)) (arX tC n aE0) S hN  ) kw_762 kw_759 kw_760 kw_761 kw_8 rfl rfl (by decide +kernel) ⟨Nat.le_of_ble_eq_true rfl, Nat.le_of_ble_eq_true rfl⟩ (nw_recv hK hw (mW_64) rfl) rfl hl.1 (Nat.le_of_ble_eq_true rfl) d_L_law_805 ⟨by show _ ≤ 669896; omega, by show _ ≤ 7086383; omega⟩) hS (fun rv wn' ad9 H locs hpost hw hS => ?_)
    obtain ⟨hv9, hwn9, had9⟩ := hpost
    subst hv9
    rw [hwn9, had9] at hw
    have hw := nw_W.as (wn' := cW ad tC n I K bw LA n (va_up J 0 1) bw2 L o S) hw cW_m
    refine lv_ei (y := nI 1) rfl ?_
    refine lv_iload hx hb d_L_law_808 (lv_at hl 0 rfl) ?_
    refine lv_icmp_eq (tgt := 815) hx hb d_L_law_810 (by decide) (fun c_810 => ?_) (fun c_810 => ?_)
    · skip
      refine lv_goto (tgt := 1168) hx hb d_L_law_815 (by decide) ?_
      exact W.widen (by omega) (by omega) (hNext ad n I K bw LA (va_up J 0 1) bw2 L o S (LR_thr hL) _ _ ls hw hS (lv_sub hl [1, 2, 3, 4, 5] rfl))
    · skip
      exact absurd rfl c_810
  · skip
    subst hv
    exact absurd trivial hbs
  · skip
    subst hv
    obtain ⟨had, hwn⟩ := hG
    rw [hwn, had] at hw
    refine lv_istore (lv' := [(5, .int (nI 0)), (0, .ref (b)), (1, .ref (ad (0))), (2, .ref (ad (64))), (3, .ref (ad (69))), (4, .int (nI (1 + 6 * i)))]) hx hb d_L_law_786 hl (by decide) rfl (fun ls hl => ?_)
    refine lv_aload_n hx hb d_L_law_788 rfl (lv_at hl 3 rfl) ?_
    refine lv_aload_n hx hb d_L_law_789 rfl (lv_at hl 1 rfl) ?_
    refine lv_iload hx hb d_L_law_790 (lv_at hl 5 rfl) ?_
    refine lv_iconst (v := nI 1) hx hb d_L_law_792 (by decide) ?_
    refine lv_iadd hx hb d_L_law_793 ?_
    refine lv_ei (y := nI (1 + 6 * i + 1)) (nI_add _ _) ?_
    refine va_sld hx hb hX hbl hbA hS (vp_in_nI (by omega) (by omega)) d_L_law_794 ?_
    refine lv_ei (y := xs (1 + 6 * i + 1)) (by rw [nI_clamp (by omega)]) ?_
    refine lv_aload_n hx hb d_L_law_795 rfl (lv_at hl 1 rfl) ?_
    refine lv_iload hx hb d_L_law_796 (lv_at hl 5 rfl) ?_
    refine lv_iconst (v := nI 2) hx hb d_L_law_798 (by decide) ?_
    refine lv_iadd hx hb d_L_law_799 ?_
    refine lv_ei (y := nI (1 + 6 * i + 2)) (nI_add _ _) ?_
    refine va_sld hx hb hX hbl hbA hS (vp_in_nI (by omega) (by omega)) d_L_law_800 ?_
    refine lv_ei (y := xs (1 + 6 * i + 2)) (by rw [nI_clamp (by omega)]) ?_
    have hw := nw_W.as (wn' := mW ad tC n J bw2 L (obX ad tC n (up2 (up2 I 0 1 (xs (1 + 6 * i + 1))) 0 2 (xs (1 + 6 * i + 2))) (va_up K 0 (nI 0)) bw LA (bE tC o)) (arX tC n aE0) (upR S 0 0 (flR (S 0 0) (-1) 6))) hw cW_m.symm
    refine nw_call (nw_goV (n := 2) (As := [.int (xs (1 + 6 * i + 1)), .int (xs (1 + 6 * i + 2))]) (rest := []) hSx hA hKs hw hS (c_M_prices l D tC A ad n J bw2 L (obX ad tC n (up2 (up2 I 0 1 (xs (1 + 6 * i + 1))) 0 2 (xs (1 + 6 * i + 2))) (va_up K 0 (nI 0)) bw LA (bE tC o)) (arX tC n aE0) (upR S 0 0 (flR (S 0 0) (-1) 6)) hN (xs (1 + 6 * i + 1)) (xs (1 + 6 * i + 2)) ) kw_814 kw_811 kw_812 kw_813 kw_8 rfl rfl (by decide +kernel) ⟨Nat.le_of_ble_eq_true rfl, Nat.le_of_ble_eq_true rfl⟩ (nw_recv hK hw (mW_64) rfl) rfl hl.1 (Nat.le_of_ble_eq_true rfl) d_L_law_801 ⟨by show _ ≤ 669896; omega, by show _ ≤ 7086383; omega⟩) hS (fun rv wn' ad9 H locs hpost hw hS => ?_)
    obtain ⟨had9, hmo⟩ := hpost
    rw [had9] at hw
    rcases hmo with ⟨hq1, _⟩ | ⟨hq1, hq4, _⟩ | ⟨hq1, hq4, hGm⟩
    · exact absurd hq1 hnba
    · exact absurd hq4 hnbs
    obtain ⟨hv9, hw9⟩ := hGm
    subst hv9
    rw [hw9] at hw
    have hw := nw_W.as (wn' := cW ad tC n (up2 (up2 I 0 1 (xs (1 + 6 * i + 1))) 0 2 (xs (1 + 6 * i + 2))) (va_up K 0 (nI 0)) bw LA n (va_up (va_up (va_up (va_up J 0 (nI 0)) 3 (nI 0)) 1 (xs (1 + 6 * i + 1))) 2 (xs (1 + 6 * i + 2))) bw2 L o (upR S 0 0 (flR (S 0 0) (-1) 6))) hw cW_m
    refine lv_aload_n hx hb d_L_law_804 rfl (lv_at hl 3 rfl) ?_
    have hw := nw_W.as (wn' := mW ad tC n (va_up (va_up (va_up (va_up J 0 (nI 0)) 3 (nI 0)) 1 (xs (1 + 6 * i + 1))) 2 (xs (1 + 6 * i + 2))) bw2 L (obX ad tC n (up2 (up2 I 0 1 (xs (1 + 6 * i + 1))) 0 2 (xs (1 + 6 * i + 2))) (va_up K 0 (nI 0)) bw LA (bE tC o)) (arX tC n aE0) (upR S 0 0 (flR (S 0 0) (-1) 6))) hw cW_m.symm
    refine nw_call (nw_goV (n := 0) (As := []) (rest := []) hSx hA hKs hw hS (c_M_thrown l D tC A ad n (va_up (va_up (va_up (va_up J 0 (nI 0)) 3 (nI 0)) 1 (xs (1 + 6 * i + 1))) 2 (xs (1 + 6 * i + 2))) bw2 L (obX ad tC n (up2 (up2 I 0 1 (xs (1 + 6 * i + 1))) 0 2 (xs (1 + 6 * i + 2))) (va_up K 0 (nI 0)) bw LA (bE tC o)) (arX tC n aE0) (upR S 0 0 (flR (S 0 0) (-1) 6)) hN  ) kw_762 kw_759 kw_760 kw_761 kw_8 rfl rfl (by decide +kernel) ⟨Nat.le_of_ble_eq_true rfl, Nat.le_of_ble_eq_true rfl⟩ (nw_recv hK hw (mW_64) rfl) rfl hl.1 (Nat.le_of_ble_eq_true rfl) d_L_law_805 ⟨by show _ ≤ 669896; omega, by show _ ≤ 7086383; omega⟩) hS (fun rv wn' ad9 H locs hpost hw hS => ?_)
    obtain ⟨hv9, hwn9, had9⟩ := hpost
    subst hv9
    rw [hwn9, had9] at hw
    have hw := nw_W.as (wn' := cW ad tC n (up2 (up2 I 0 1 (xs (1 + 6 * i + 1))) 0 2 (xs (1 + 6 * i + 2))) (va_up K 0 (nI 0)) bw LA n (va_up (va_up (va_up (va_up J 0 (nI 0)) 3 (nI 0)) 1 (xs (1 + 6 * i + 1))) 2 (xs (1 + 6 * i + 2))) bw2 L o (upR S 0 0 (flR (S 0 0) (-1) 6))) hw cW_m
    refine lv_ei (y := nI 0) rfl ?_
    refine lv_iload hx hb d_L_law_808 (lv_at hl 0 rfl) ?_
    refine lv_icmp_eq (tgt := 815) hx hb d_L_law_810 (by decide) (fun c_810 => ?_) (fun c_810 => ?_)
    · skip
      refine lv_goto (tgt := 1168) hx hb d_L_law_815 (by decide) ?_
      exact W.widen (by omega) (by omega) (hNext ad n (up2 (up2 I 0 1 (xs (1 + 6 * i + 1))) 0 2 (xs (1 + 6 * i + 2))) (va_up K 0 (nI 0)) bw LA (va_up (va_up (va_up (va_up J 0 (nI 0)) 3 (nI 0)) 1 (xs (1 + 6 * i + 1))) 2 (xs (1 + 6 * i + 2))) bw2 L o (upR S 0 0 (flR (S 0 0) (-1) 6)) (LR_prices hL (Classical.not_not.mp hnba)) _ _ ls hw hS (lv_sub hl [1, 2, 3, 4, 5] rfl))
    · skip
      exact absurd rfl c_810

set_option maxHeartbeats 4000000 in
set_option maxRecDepth 100000 in
/-- case 12: move -/
theorem law_12 {p : Program} {l : Launch} {e : Env} {s : State} {m : MethodId} {args : Array Value} {below : List Frame} {meth : Method} {cd : Code} {Q : State → Prop} {D : va_G} {tC : Nat → ClassId} {A : Nat → Prop} {b N : Nat} {xs : Nat → Int32} (hSx : CallFix p m cd b_L_law 8 s args nw_T "HarvestPlansLaw") (hA : ∀ q, s.heap.size ≤ q → A q) (hAs : ∀ q, A q → s.heap.size ≤ q) (hKs : nw_K D hpC (hpT tC) s) (hF : nx_F s) (hfl : l.stackTraces = false) (hX : va_X b N xs s s.heap) (hbl : b < s.heap.size) (hbA : ¬ A b) (hN3 : N ≤ 3073) {cc cs i : Nat} (hcc : cc + 12 ≤ 669896) (hcs : cs + 120 ≤ 7086383) (hi : 1 + 6 * i + 6 ≤ N) (hNext : ∀ (ad : Nat → Nat) (n : Nat → Nat) (I : Nat → Nat → Int32) (K : Nat → Int32) (bw : Int64) (LA : Nat → Int64) (J : Nat → Int32) (bw2 : Int64) (L : Nat → Nat → Int64) (o : Nat → Int64) (S : Nat → Nat → Nat → Int32), LR n I K J S → ∀ (H : Heap) (locs : List Loc) (ls : Array Slot), nw_W D hpC A (cW ad tC n I K bw LA n J bw2 L o S) ad H → va_S A s.heap H locs → lv_has ls 8 [(0, .ref (b)), (1, .ref (ad (0))), (2, .ref (ad (64))), (3, .ref (ad (69))), (4, .int (nI (1 + 6 * i)))] → W p l e room_1 s m args below meth cd H locs (cc + 12) (cs + 120) Q (F0 m 1168 ls [])) (ad : Nat → Nat) (n : Nat → Nat) (I : Nat → Nat → Int32) (K : Nat → Int32) (bw : Int64) (LA : Nat → Int64) (J : Nat → Int32) (bw2 : Int64) (L : Nat → Nat → Int64) (o : Nat → Int64) (S : Nat → Nat → Nat → Int32) (hL : LR n I K J S) (H : Heap) (locs : List Loc) (ls : Array Slot) (hw : nw_W D hpC A (cW ad tC n I K bw LA n J bw2 L o S) ad H) (hS : va_S A s.heap H locs) (hl : lv_has ls 8 [(0, .ref (b)), (1, .ref (ad (0))), (2, .ref (ad (64))), (3, .ref (ad (69))), (4, .int (nI (1 + 6 * i)))]) : W p l e room_1 s m args below meth cd H locs cc cs Q (F0 m 901 ls []) := by
  obtain ⟨hx, hb, hml, hown, hts⟩ := id hSx
  have hK := hKs.1
  have hB : nx_B s s := ⟨State.WarmedH.refl s, Nat.le_refl _, fun _ _ => rfl⟩
  obtain ⟨hm, ow, sq, hLx⟩ := id hL
  have hN : hpN n := hLx.1.1
  obtain ⟨hn0, hn0', hn1, hn2, hn3, hn4⟩ := id hN
  have hJK : J 3 = K 0 := hLx.2.2.1.1
  have hH : ∀ c, c < n 2 → I 2 c = nI (hm c) ∧ hm c < n 1 := fun c hc => ⟨hLx.2.1.1 c hc, (hLx.1.2.2.2.1 c hc).2.1⟩
  have hHm : ∀ c, c < n 2 → S 5 2 c = nI (hm c) ∧ hm c < n 1 := fun c hc => ⟨(hLx.1.2.2.2.1 c hc).1, (hLx.1.2.2.2.1 c hc).2.1⟩
  have hO : ∀ o, o < n 4 → I 4 o = nI (ow o) ∧ ow o < n 0 := fun o ho => ⟨(hLx.1.2.2.2.2.2.2.1 o ho).2.1, (hLx.1.2.2.2.2.2.2.1 o ho).2.2.1⟩
  have hSq : ∀ k, k < n 4 → S 0 1 k = nI (sq k) ∧ sq k < n 4 := fun k hk => ⟨hLx.2.1.2.1 k hk, hLx.1.2.2.2.2.2.2.2.1 k hk⟩
  have hSo : ∀ q, q < n 4 → ∃ j, j < n 4 ∧ sq j = q := hLx.1.2.2.2.2.2.2.2.2.1
  have hPl := ok_pl hLx
  obtain ⟨hz1, hz4, hz51, hz56⟩ := hLx.2.1.2.2.2
  refine lv_aload_n hx hb d_L_law_901 rfl (lv_at hl 1 rfl) ?_
  refine lv_aload_n hx hb d_L_law_902 rfl (lv_at hl 0 rfl) ?_
  refine lv_iload hx hb d_L_law_903 (lv_at hl 4 rfl) ?_
  refine lv_iconst (v := nI 1) hx hb d_L_law_905 (by decide) ?_
  refine lv_iadd hx hb d_L_law_906 ?_
  refine lv_ei (y := nI (1 + 6 * i + 1)) (nI_add _ _) ?_
  refine va_sld hx hb hX hbl hbA hS (vp_in_nI (by omega) (by omega)) d_L_law_907 ?_
  refine lv_ei (y := xs (1 + 6 * i + 1)) (by rw [nI_clamp (by omega)]) ?_
  refine lv_aload_n hx hb d_L_law_908 rfl (lv_at hl 0 rfl) ?_
  refine lv_iload hx hb d_L_law_909 (lv_at hl 4 rfl) ?_
  refine lv_iconst (v := nI 2) hx hb d_L_law_911 (by decide) ?_
  refine lv_iadd hx hb d_L_law_912 ?_
  refine lv_ei (y := nI (1 + 6 * i + 2)) (nI_add _ _) ?_
  refine va_sld hx hb hX hbl hbA hS (vp_in_nI (by omega) (by omega)) d_L_law_913 ?_
  refine lv_ei (y := xs (1 + 6 * i + 2)) (by rw [nI_clamp (by omega)]) ?_
  refine lv_aload_n hx hb d_L_law_914 rfl (lv_at hl 3 rfl) ?_
  refine nx_callC (nx_goW (n := 4) (As := [.ref (ad (0)), .int (xs (1 + 6 * i + 1)), .int (xs (1 + 6 * i + 2)), .ref (ad (69))]) (rest := []) hSx hA hKs hF hB hAs hw hS (w_move l D tC A ad n I K bw LA n J bw2 L o S hN s hF hfl hAs (xs (1 + 6 * i + 1)) (xs (1 + 6 * i + 2)) ) kt_610 kw_608 kw_609 kw_0 rfl rfl (by decide +kernel) ⟨Nat.le_of_ble_eq_true rfl, Nat.le_of_ble_eq_true rfl⟩ rfl hl.1 (Nat.le_of_ble_eq_true rfl) d_L_law_915 ⟨by show _ ≤ 669896; omega, by show _ ≤ 7086383; omega⟩) hS (fun X wn' ad' H locs x cell hpost hw hS hcell hst hcls T' hT X0 => (lw_po_x hpost).elim) (fun rv wn' ad' H locs hpost hw hS => ?_)
  rcases lw_po_i hpost with ⟨hv, hba, hwn, had⟩ | ⟨hv, hnba, hbs, hwn, had⟩ | ⟨hv, hnba, hnbs, hG⟩
  · skip
    subst hv
    rw [hwn, had] at hw
    refine lv_istore (lv' := [(5, .int (nI 1)), (0, .ref (b)), (1, .ref (ad (0))), (2, .ref (ad (64))), (3, .ref (ad (69))), (4, .int (nI (1 + 6 * i)))]) hx hb d_L_law_918 hl (by decide) rfl (fun ls hl => ?_)
    refine lv_aload_n hx hb d_L_law_920 rfl (lv_at hl 3 rfl) ?_
    refine lv_aload_n hx hb d_L_law_921 rfl (lv_at hl 1 rfl) ?_
    refine lv_iload hx hb d_L_law_922 (lv_at hl 5 rfl) ?_
    refine lv_iconst (v := nI 1) hx hb d_L_law_924 (by decide) ?_
    refine lv_iadd hx hb d_L_law_925 ?_
    refine lv_ei (y := nI (1 + 6 * i + 1)) (nI_add _ _) ?_
    refine va_sld hx hb hX hbl hbA hS (vp_in_nI (by omega) (by omega)) d_L_law_926 ?_
    refine lv_ei (y := xs (1 + 6 * i + 1)) (by rw [nI_clamp (by omega)]) ?_
    refine lv_aload_n hx hb d_L_law_927 rfl (lv_at hl 1 rfl) ?_
    refine lv_iload hx hb d_L_law_928 (lv_at hl 5 rfl) ?_
    refine lv_iconst (v := nI 2) hx hb d_L_law_930 (by decide) ?_
    refine lv_iadd hx hb d_L_law_931 ?_
    refine lv_ei (y := nI (1 + 6 * i + 2)) (nI_add _ _) ?_
    refine va_sld hx hb hX hbl hbA hS (vp_in_nI (by omega) (by omega)) d_L_law_932 ?_
    refine lv_ei (y := xs (1 + 6 * i + 2)) (by rw [nI_clamp (by omega)]) ?_
    have hw := nw_W.as (wn' := mW ad tC n J bw2 L (obX ad tC n I K bw LA (bE tC o)) (arX tC n aE0) S) hw cW_m.symm
    refine nw_call (nw_goV (n := 2) (As := [.int (xs (1 + 6 * i + 1)), .int (xs (1 + 6 * i + 2))]) (rest := []) hSx hA hKs hw hS (c_M_move l D tC A ad n J bw2 L (obX ad tC n I K bw LA (bE tC o)) (arX tC n aE0) S hN (xs (1 + 6 * i + 1)) (xs (1 + 6 * i + 2)) ) kw_891 kw_888 kw_889 kw_890 kw_8 rfl rfl (by decide +kernel) ⟨Nat.le_of_ble_eq_true rfl, Nat.le_of_ble_eq_true rfl⟩ (nw_recv hK hw (mW_64) rfl) rfl hl.1 (Nat.le_of_ble_eq_true rfl) d_L_law_933 ⟨by show _ ≤ 669896; omega, by show _ ≤ 7086383; omega⟩) hS (fun rv wn' ad9 H locs hpost hw hS => ?_)
    obtain ⟨had9, hmo⟩ := hpost
    rw [had9] at hw
    rcases hmo with ⟨hq1, hq2, hq3⟩ | ⟨hq1, _⟩ | ⟨hq1, _⟩
    rotate_left
    · exact absurd hba hq1
    · exact absurd hba hq1
    subst hq2
    rw [hq3] at hw
    have hw := nw_W.as (wn' := cW ad tC n I K bw LA n (va_up J 0 1) bw2 L o S) hw cW_m
    refine lv_istore (lv' := [(6, .int (nI 0)), (5, .int (nI 1)), (0, .ref (b)), (1, .ref (ad (0))), (2, .ref (ad (64))), (3, .ref (ad (69))), (4, .int (nI (1 + 6 * i)))]) hx hb d_L_law_936 hl (by decide) rfl (fun ls hl => ?_)
    refine lv_aload_n hx hb d_L_law_938 rfl (lv_at hl 4 rfl) ?_
    have hw := nw_W.as (wn' := mW ad tC n (va_up J 0 1) bw2 L (obX ad tC n I K bw LA (bE tC o)) (arX tC n aE0) S) hw cW_m.symm
    refine nw_call (nw_goV (n := 0) (As := []) (rest := []) hSx hA hKs hw hS (c_M_thrown l D tC A ad n (va_up J 0 1) bw2 L (obX ad tC n I K bw LA (bE tC o)) (arX tC n aE0) S hN  ) kw_762 kw_759 kw_760 kw_761 kw_8 rfl rfl (by decide +kernel) ⟨Nat.le_of_ble_eq_true rfl, Nat.le_of_ble_eq_true rfl⟩ (nw_recv hK hw (mW_64) rfl) rfl hl.1 (Nat.le_of_ble_eq_true rfl) d_L_law_939 ⟨by show _ ≤ 669896; omega, by show _ ≤ 7086383; omega⟩) hS (fun rv wn' ad9 H locs hpost hw hS => ?_)
    obtain ⟨hv9, hwn9, had9⟩ := hpost
    subst hv9
    rw [hwn9, had9] at hw
    have hw := nw_W.as (wn' := cW ad tC n I K bw LA n (va_up J 0 1) bw2 L o S) hw cW_m
    refine lv_ei (y := nI 1) rfl ?_
    refine lv_iload hx hb d_L_law_942 (lv_at hl 1 rfl) ?_
    refine lv_icmp_eq (tgt := 949) hx hb d_L_law_944 (by decide) (fun c_944 => ?_) (fun c_944 => ?_)
    · skip
      refine lv_iload hx hb d_L_law_949 (lv_at hl 1 rfl) ?_
      refine lv_if_ne (tgt := 966) hx hb d_L_law_951 (by decide) (fun c_951 => ?_) (fun c_951 => ?_)
      · skip
        refine lv_goto (tgt := 1168) hx hb d_L_law_966 (by decide) ?_
        exact W.widen (by omega) (by omega) (hNext ad n I K bw LA (va_up J 0 1) bw2 L o S (LR_thr hL) _ _ ls hw hS (lv_sub hl [2, 3, 4, 5, 6] rfl))
      · skip
        first | exact absurd c_951 (by decide) | exact absurd (by decide) c_951
    · skip
      exact absurd rfl c_944
  · skip
    subst hv
    exact absurd trivial hbs
  · skip
    subst hv
    obtain ⟨had, hwn⟩ := hG
    rw [hwn, had] at hw
    refine lv_istore (lv' := [(5, .int (nI 0)), (0, .ref (b)), (1, .ref (ad (0))), (2, .ref (ad (64))), (3, .ref (ad (69))), (4, .int (nI (1 + 6 * i)))]) hx hb d_L_law_918 hl (by decide) rfl (fun ls hl => ?_)
    refine lv_aload_n hx hb d_L_law_920 rfl (lv_at hl 3 rfl) ?_
    refine lv_aload_n hx hb d_L_law_921 rfl (lv_at hl 1 rfl) ?_
    refine lv_iload hx hb d_L_law_922 (lv_at hl 5 rfl) ?_
    refine lv_iconst (v := nI 1) hx hb d_L_law_924 (by decide) ?_
    refine lv_iadd hx hb d_L_law_925 ?_
    refine lv_ei (y := nI (1 + 6 * i + 1)) (nI_add _ _) ?_
    refine va_sld hx hb hX hbl hbA hS (vp_in_nI (by omega) (by omega)) d_L_law_926 ?_
    refine lv_ei (y := xs (1 + 6 * i + 1)) (by rw [nI_clamp (by omega)]) ?_
    refine lv_aload_n hx hb d_L_law_927 rfl (lv_at hl 1 rfl) ?_
    refine lv_iload hx hb d_L_law_928 (lv_at hl 5 rfl) ?_
    refine lv_iconst (v := nI 2) hx hb d_L_law_930 (by decide) ?_
    refine lv_iadd hx hb d_L_law_931 ?_
    refine lv_ei (y := nI (1 + 6 * i + 2)) (nI_add _ _) ?_
    refine va_sld hx hb hX hbl hbA hS (vp_in_nI (by omega) (by omega)) d_L_law_932 ?_
    refine lv_ei (y := xs (1 + 6 * i + 2)) (by rw [nI_clamp (by omega)]) ?_
    have hw := nw_W.as (wn' := mW ad tC n J bw2 L (obX ad tC n I (va_up K 0 (nI 1)) bw LA (bE tC (vp_updL o 0 ((S 0 0 ((xs (1 + 6 * i + 1)).toNatClampNeg)).toInt64)))) (arX tC n aE0) (upR S 0 0 (upd (S 0 0) ((xs (1 + 6 * i + 1)).toNatClampNeg) (xs (1 + 6 * i + 2))))) hw cW_m.symm
    refine nw_call (nw_goV (n := 2) (As := [.int (xs (1 + 6 * i + 1)), .int (xs (1 + 6 * i + 2))]) (rest := []) hSx hA hKs hw hS (c_M_move l D tC A ad n J bw2 L (obX ad tC n I (va_up K 0 (nI 1)) bw LA (bE tC (vp_updL o 0 ((S 0 0 ((xs (1 + 6 * i + 1)).toNatClampNeg)).toInt64)))) (arX tC n aE0) (upR S 0 0 (upd (S 0 0) ((xs (1 + 6 * i + 1)).toNatClampNeg) (xs (1 + 6 * i + 2)))) hN (xs (1 + 6 * i + 1)) (xs (1 + 6 * i + 2)) ) kw_891 kw_888 kw_889 kw_890 kw_8 rfl rfl (by decide +kernel) ⟨Nat.le_of_ble_eq_true rfl, Nat.le_of_ble_eq_true rfl⟩ (nw_recv hK hw (mW_64) rfl) rfl hl.1 (Nat.le_of_ble_eq_true rfl) d_L_law_933 ⟨by show _ ≤ 669896; omega, by show _ ≤ 7086383; omega⟩) hS (fun rv wn' ad9 H locs hpost hw hS => ?_)
    obtain ⟨had9, hmo⟩ := hpost
    rw [had9] at hw
    rcases hmo with ⟨hq1, _⟩ | ⟨hq1, hq4, _⟩ | ⟨hq1, hq4, hGm⟩
    · exact absurd hq1 hnba
    · exact absurd hq4 hnbs
    obtain ⟨hv9, hw9⟩ := hGm
    subst hv9
    rw [hw9] at hw
    have hw := nw_W.as (wn' := cW ad tC n I (va_up K 0 (nI 1)) bw LA n (va_up (va_up J 0 (nI 0)) 3 (nI 1)) bw2 L (vp_updL o 0 ((S 0 0 ((xs (1 + 6 * i + 1)).toNatClampNeg)).toInt64)) (upR (upR S 0 0 (upd (S 0 0) ((xs (1 + 6 * i + 1)).toNatClampNeg) (xs (1 + 6 * i + 2)))) 5 13 (upd (mvP n J (upR S 0 0 (upd (S 0 0) ((xs (1 + 6 * i + 1)).toNatClampNeg) (xs (1 + 6 * i + 2))))) ((xs (1 + 6 * i + 1)).toNatClampNeg) (if (xs (1 + 6 * i + 2)) = -1 then nI (n 0) else (xs (1 + 6 * i + 2)))))) hw cW_m
    refine lv_istore (lv' := [(6, .int ((if (mvP n J (upR S 0 0 (upd (S 0 0) ((xs (1 + 6 * i + 1)).toNatClampNeg) (xs (1 + 6 * i + 2))))) ((xs (1 + 6 * i + 1)).toNatClampNeg) = nI (n 0) then -1 else (mvP n J (upR S 0 0 (upd (S 0 0) ((xs (1 + 6 * i + 1)).toNatClampNeg) (xs (1 + 6 * i + 2))))) ((xs (1 + 6 * i + 1)).toNatClampNeg)))), (5, .int (nI 0)), (0, .ref (b)), (1, .ref (ad (0))), (2, .ref (ad (64))), (3, .ref (ad (69))), (4, .int (nI (1 + 6 * i)))]) hx hb d_L_law_936 hl (by decide) rfl (fun ls hl => ?_)
    refine lv_aload_n hx hb d_L_law_938 rfl (lv_at hl 4 rfl) ?_
    have hw := nw_W.as (wn' := mW ad tC n (va_up (va_up J 0 (nI 0)) 3 (nI 1)) bw2 L (obX ad tC n I (va_up K 0 (nI 1)) bw LA (bE tC (vp_updL o 0 ((S 0 0 ((xs (1 + 6 * i + 1)).toNatClampNeg)).toInt64)))) (arX tC n aE0) (upR (upR S 0 0 (upd (S 0 0) ((xs (1 + 6 * i + 1)).toNatClampNeg) (xs (1 + 6 * i + 2)))) 5 13 (upd (mvP n J (upR S 0 0 (upd (S 0 0) ((xs (1 + 6 * i + 1)).toNatClampNeg) (xs (1 + 6 * i + 2))))) ((xs (1 + 6 * i + 1)).toNatClampNeg) (if (xs (1 + 6 * i + 2)) = -1 then nI (n 0) else (xs (1 + 6 * i + 2)))))) hw cW_m.symm
    refine nw_call (nw_goV (n := 0) (As := []) (rest := []) hSx hA hKs hw hS (c_M_thrown l D tC A ad n (va_up (va_up J 0 (nI 0)) 3 (nI 1)) bw2 L (obX ad tC n I (va_up K 0 (nI 1)) bw LA (bE tC (vp_updL o 0 ((S 0 0 ((xs (1 + 6 * i + 1)).toNatClampNeg)).toInt64)))) (arX tC n aE0) (upR (upR S 0 0 (upd (S 0 0) ((xs (1 + 6 * i + 1)).toNatClampNeg) (xs (1 + 6 * i + 2)))) 5 13 (upd (mvP n J (upR S 0 0 (upd (S 0 0) ((xs (1 + 6 * i + 1)).toNatClampNeg) (xs (1 + 6 * i + 2))))) ((xs (1 + 6 * i + 1)).toNatClampNeg) (if (xs (1 + 6 * i + 2)) = -1 then nI (n 0) else (xs (1 + 6 * i + 2))))) hN  ) kw_762 kw_759 kw_760 kw_761 kw_8 rfl rfl (by decide +kernel) ⟨Nat.le_of_ble_eq_true rfl, Nat.le_of_ble_eq_true rfl⟩ (nw_recv hK hw (mW_64) rfl) rfl hl.1 (Nat.le_of_ble_eq_true rfl) d_L_law_939 ⟨by show _ ≤ 669896; omega, by show _ ≤ 7086383; omega⟩) hS (fun rv wn' ad9 H locs hpost hw hS => ?_)
    obtain ⟨hv9, hwn9, had9⟩ := hpost
    subst hv9
    rw [hwn9, had9] at hw
    have hw := nw_W.as (wn' := cW ad tC n I (va_up K 0 (nI 1)) bw LA n (va_up (va_up J 0 (nI 0)) 3 (nI 1)) bw2 L (vp_updL o 0 ((S 0 0 ((xs (1 + 6 * i + 1)).toNatClampNeg)).toInt64)) (upR (upR S 0 0 (upd (S 0 0) ((xs (1 + 6 * i + 1)).toNatClampNeg) (xs (1 + 6 * i + 2)))) 5 13 (upd (mvP n J (upR S 0 0 (upd (S 0 0) ((xs (1 + 6 * i + 1)).toNatClampNeg) (xs (1 + 6 * i + 2))))) ((xs (1 + 6 * i + 1)).toNatClampNeg) (if (xs (1 + 6 * i + 2)) = -1 then nI (n 0) else (xs (1 + 6 * i + 2)))))) hw cW_m
    refine lv_ei (y := nI 0) rfl ?_
    refine lv_iload hx hb d_L_law_942 (lv_at hl 1 rfl) ?_
    refine lv_icmp_eq (tgt := 949) hx hb d_L_law_944 (by decide) (fun c_944 => ?_) (fun c_944 => ?_)
    · skip
      refine lv_iload hx hb d_L_law_949 (lv_at hl 1 rfl) ?_
      refine lv_if_ne (tgt := 966) hx hb d_L_law_951 (by decide) (fun c_951 => ?_) (fun c_951 => ?_)
      · skip
        first | exact absurd c_951 (by decide) | exact absurd (by decide) c_951
      · skip
        refine lv_aload_n hx hb d_L_law_954 rfl (lv_at hl 5 rfl) ?_
        refine lv_iconst (v := nI 0) hx hb d_L_law_955 (by decide) ?_
        refine nw_lald hx hb hK hw (69) 1 (cW_69) rfl (0) (rfl) (by omega) (by omega) d_L_law_956 ?_
        refine lv_iload hx hb d_L_law_957 (lv_at hl 0 rfl) ?_
        refine lv_i2l (v := (((if (mvP n J (upR S 0 0 (upd (S 0 0) ((xs (1 + 6 * i + 1)).toNatClampNeg) (xs (1 + 6 * i + 2))))) ((xs (1 + 6 * i + 1)).toNatClampNeg) = nI (n 0) then -1 else (mvP n J (upR S 0 0 (upd (S 0 0) ((xs (1 + 6 * i + 1)).toNatClampNeg) (xs (1 + 6 * i + 2))))) ((xs (1 + 6 * i + 1)).toNatClampNeg))).toInt64)) hx hb d_L_law_959 rfl ?_
        refine lv_el (y := ((vp_updL o 0 ((S 0 0 ((xs (1 + 6 * i + 1)).toNatClampNeg)).toInt64)) (0))) (congrArg Int32.toInt64 (LR_move hLx (Classical.not_not.mp hnba).1 (Classical.not_not.mp hnba).2 rfl rfl).1.symm) ?_
        refine W.lcmp hx hb d_L_law_960 ?_
        refine lv_ei (y := nI 0) ((lg_cmp_eq _ _).mpr rfl) ?_
        refine lv_if_eq (tgt := 966) hx hb d_L_law_961 (by decide) (fun c_961 => ?_) (fun c_961 => ?_)
        · skip
          refine lv_goto (tgt := 1168) hx hb d_L_law_966 (by decide) ?_
          exact W.widen (by omega) (by omega) (hNext ad n I (va_up K 0 (nI 1)) bw LA (va_up (va_up J 0 (nI 0)) 3 (nI 1)) bw2 L (vp_updL o 0 ((S 0 0 ((xs (1 + 6 * i + 1)).toNatClampNeg)).toInt64)) (upR (upR S 0 0 (upd (S 0 0) ((xs (1 + 6 * i + 1)).toNatClampNeg) (xs (1 + 6 * i + 2)))) 5 13 (upd (mvP n J (upR S 0 0 (upd (S 0 0) ((xs (1 + 6 * i + 1)).toNatClampNeg) (xs (1 + 6 * i + 2))))) ((xs (1 + 6 * i + 1)).toNatClampNeg) (if (xs (1 + 6 * i + 2)) = -1 then nI (n 0) else (xs (1 + 6 * i + 2))))) ((LR_move hLx (Classical.not_not.mp hnba).1 (Classical.not_not.mp hnba).2 rfl rfl).2) _ _ ls hw hS (lv_sub hl [2, 3, 4, 5, 6] rfl))
        · skip
          first | exact absurd c_961 (by decide) | exact absurd (by decide) c_961
    · skip
      exact absurd rfl c_944

set_option maxHeartbeats 4000000 in
set_option maxRecDepth 100000 in
/-- case 13: taken -/
theorem law_13 {p : Program} {l : Launch} {e : Env} {s : State} {m : MethodId} {args : Array Value} {below : List Frame} {meth : Method} {cd : Code} {Q : State → Prop} {D : va_G} {tC : Nat → ClassId} {A : Nat → Prop} {b N : Nat} {xs : Nat → Int32} (hSx : CallFix p m cd b_L_law 8 s args nw_T "HarvestPlansLaw") (hA : ∀ q, s.heap.size ≤ q → A q) (hAs : ∀ q, A q → s.heap.size ≤ q) (hKs : nw_K D hpC (hpT tC) s) (hF : nx_F s) (hfl : l.stackTraces = false) (hX : va_X b N xs s s.heap) (hbl : b < s.heap.size) (hbA : ¬ A b) (hN3 : N ≤ 3073) {cc cs i : Nat} (hcc : cc + 12 ≤ 669896) (hcs : cs + 120 ≤ 7086383) (hi : 1 + 6 * i + 6 ≤ N) (hNext : ∀ (ad : Nat → Nat) (n : Nat → Nat) (I : Nat → Nat → Int32) (K : Nat → Int32) (bw : Int64) (LA : Nat → Int64) (J : Nat → Int32) (bw2 : Int64) (L : Nat → Nat → Int64) (o : Nat → Int64) (S : Nat → Nat → Nat → Int32), LR n I K J S → ∀ (H : Heap) (locs : List Loc) (ls : Array Slot), nw_W D hpC A (cW ad tC n I K bw LA n J bw2 L o S) ad H → va_S A s.heap H locs → lv_has ls 8 [(0, .ref (b)), (1, .ref (ad (0))), (2, .ref (ad (64))), (3, .ref (ad (69))), (4, .int (nI (1 + 6 * i)))] → W p l e room_1 s m args below meth cd H locs (cc + 12) (cs + 120) Q (F0 m 1168 ls [])) (ad : Nat → Nat) (n : Nat → Nat) (I : Nat → Nat → Int32) (K : Nat → Int32) (bw : Int64) (LA : Nat → Int64) (J : Nat → Int32) (bw2 : Int64) (L : Nat → Nat → Int64) (o : Nat → Int64) (S : Nat → Nat → Nat → Int32) (hL : LR n I K J S) (H : Heap) (locs : List Loc) (ls : Array Slot) (hw : nw_W D hpC A (cW ad tC n I K bw LA n J bw2 L o S) ad H) (hS : va_S A s.heap H locs) (hl : lv_has ls 8 [(0, .ref (b)), (1, .ref (ad (0))), (2, .ref (ad (64))), (3, .ref (ad (69))), (4, .int (nI (1 + 6 * i)))]) : W p l e room_1 s m args below meth cd H locs cc cs Q (F0 m 969 ls []) := by
  obtain ⟨hx, hb, hml, hown, hts⟩ := id hSx
  have hK := hKs.1
  have hB : nx_B s s := ⟨State.WarmedH.refl s, Nat.le_refl _, fun _ _ => rfl⟩
  obtain ⟨hm, ow, sq, hLx⟩ := id hL
  have hN : hpN n := hLx.1.1
  obtain ⟨hn0, hn0', hn1, hn2, hn3, hn4⟩ := id hN
  have hJK : J 3 = K 0 := hLx.2.2.1.1
  have hH : ∀ c, c < n 2 → I 2 c = nI (hm c) ∧ hm c < n 1 := fun c hc => ⟨hLx.2.1.1 c hc, (hLx.1.2.2.2.1 c hc).2.1⟩
  have hHm : ∀ c, c < n 2 → S 5 2 c = nI (hm c) ∧ hm c < n 1 := fun c hc => ⟨(hLx.1.2.2.2.1 c hc).1, (hLx.1.2.2.2.1 c hc).2.1⟩
  have hO : ∀ o, o < n 4 → I 4 o = nI (ow o) ∧ ow o < n 0 := fun o ho => ⟨(hLx.1.2.2.2.2.2.2.1 o ho).2.1, (hLx.1.2.2.2.2.2.2.1 o ho).2.2.1⟩
  have hSq : ∀ k, k < n 4 → S 0 1 k = nI (sq k) ∧ sq k < n 4 := fun k hk => ⟨hLx.2.1.2.1 k hk, hLx.1.2.2.2.2.2.2.2.1 k hk⟩
  have hSo : ∀ q, q < n 4 → ∃ j, j < n 4 ∧ sq j = q := hLx.1.2.2.2.2.2.2.2.2.1
  have hPl := ok_pl hLx
  obtain ⟨hz1, hz4, hz51, hz56⟩ := hLx.2.1.2.2.2
  refine lv_aload_n hx hb d_L_law_969 rfl (lv_at hl 1 rfl) ?_
  refine lv_aload_n hx hb d_L_law_970 rfl (lv_at hl 0 rfl) ?_
  refine lv_iload hx hb d_L_law_971 (lv_at hl 4 rfl) ?_
  refine lv_iconst (v := nI 1) hx hb d_L_law_973 (by decide) ?_
  refine lv_iadd hx hb d_L_law_974 ?_
  refine lv_ei (y := nI (1 + 6 * i + 1)) (nI_add _ _) ?_
  refine va_sld hx hb hX hbl hbA hS (vp_in_nI (by omega) (by omega)) d_L_law_975 ?_
  refine lv_ei (y := xs (1 + 6 * i + 1)) (by rw [nI_clamp (by omega)]) ?_
  refine lv_aload_n hx hb d_L_law_976 rfl (lv_at hl 3 rfl) ?_
  refine nx_callC (nx_goW (n := 3) (As := [.ref (ad (0)), .int (xs (1 + 6 * i + 1)), .ref (ad (69))]) (rest := []) hSx hA hKs hF hB hAs hw hS (w_taken l D tC A ad n I K bw LA n J bw2 L o S hN s hF hfl hAs (xs (1 + 6 * i + 1)) ) kt_617 kw_615 kw_616 kw_0 rfl rfl (by decide +kernel) ⟨Nat.le_of_ble_eq_true rfl, Nat.le_of_ble_eq_true rfl⟩ rfl hl.1 (Nat.le_of_ble_eq_true rfl) d_L_law_977 ⟨by show _ ≤ 669896; omega, by show _ ≤ 7086383; omega⟩) hS (fun X wn' ad' H locs x cell hpost hw hS hcell hst hcls T' hT X0 => (lw_po_x hpost).elim) (fun rv wn' ad' H locs hpost hw hS => ?_)
  rcases lw_po_i hpost with ⟨hv, hba, hwn, had⟩ | ⟨hv, hnba, hbs, hwn, had⟩ | ⟨hv, hnba, hnbs, hG⟩
  · skip
    subst hv
    rw [hwn, had] at hw
    refine lv_istore (lv' := [(5, .int (nI 1)), (0, .ref (b)), (1, .ref (ad (0))), (2, .ref (ad (64))), (3, .ref (ad (69))), (4, .int (nI (1 + 6 * i)))]) hx hb d_L_law_980 hl (by decide) rfl (fun ls hl => ?_)
    refine lv_aload_n hx hb d_L_law_982 rfl (lv_at hl 3 rfl) ?_
    refine lv_aload_n hx hb d_L_law_983 rfl (lv_at hl 1 rfl) ?_
    refine lv_iload hx hb d_L_law_984 (lv_at hl 5 rfl) ?_
    refine lv_iconst (v := nI 1) hx hb d_L_law_986 (by decide) ?_
    refine lv_iadd hx hb d_L_law_987 ?_
    refine lv_ei (y := nI (1 + 6 * i + 1)) (nI_add _ _) ?_
    refine va_sld hx hb hX hbl hbA hS (vp_in_nI (by omega) (by omega)) d_L_law_988 ?_
    refine lv_ei (y := xs (1 + 6 * i + 1)) (by rw [nI_clamp (by omega)]) ?_
    have hw := nw_W.as (wn' := mW ad tC n J bw2 L (obX ad tC n I K bw LA (bE tC o)) (arX tC n aE0) S) hw cW_m.symm
    refine nw_call (nw_goV (n := 1) (As := [.int (xs (1 + 6 * i + 1))]) (rest := []) hSx hA hKs hw hS (c_M_taken l D tC A ad n J bw2 L (obX ad tC n I K bw LA (bE tC o)) (arX tC n aE0) S hN (xs (1 + 6 * i + 1)) ) kw_896 kw_893 kw_894 kw_895 kw_8 rfl rfl (by decide +kernel) ⟨Nat.le_of_ble_eq_true rfl, Nat.le_of_ble_eq_true rfl⟩ (nw_recv hK hw (mW_64) rfl) rfl hl.1 (Nat.le_of_ble_eq_true rfl) d_L_law_989 ⟨by show _ ≤ 669896; omega, by show _ ≤ 7086383; omega⟩) hS (fun rv wn' ad9 H locs hpost hw hS => ?_)
    obtain ⟨had9, hmo⟩ := hpost
    rw [had9] at hw
    rcases hmo with ⟨hq1, hq2, hq3⟩ | ⟨hq1, _⟩ | ⟨hq1, _⟩
    rotate_left
    · exact absurd hba hq1
    · exact absurd hba hq1
    subst hq2
    rw [hq3] at hw
    have hw := nw_W.as (wn' := cW ad tC n I K bw LA n (va_up J 0 1) bw2 L o S) hw cW_m
    refine lv_istore (lv' := [(6, .int (nI 0)), (5, .int (nI 1)), (0, .ref (b)), (1, .ref (ad (0))), (2, .ref (ad (64))), (3, .ref (ad (69))), (4, .int (nI (1 + 6 * i)))]) hx hb d_L_law_992 hl (by decide) rfl (fun ls hl => ?_)
    refine lv_aload_n hx hb d_L_law_994 rfl (lv_at hl 4 rfl) ?_
    have hw := nw_W.as (wn' := mW ad tC n (va_up J 0 1) bw2 L (obX ad tC n I K bw LA (bE tC o)) (arX tC n aE0) S) hw cW_m.symm
    refine nw_call (nw_goV (n := 0) (As := []) (rest := []) hSx hA hKs hw hS (c_M_thrown l D tC A ad n (va_up J 0 1) bw2 L (obX ad tC n I K bw LA (bE tC o)) (arX tC n aE0) S hN  ) kw_762 kw_759 kw_760 kw_761 kw_8 rfl rfl (by decide +kernel) ⟨Nat.le_of_ble_eq_true rfl, Nat.le_of_ble_eq_true rfl⟩ (nw_recv hK hw (mW_64) rfl) rfl hl.1 (Nat.le_of_ble_eq_true rfl) d_L_law_995 ⟨by show _ ≤ 669896; omega, by show _ ≤ 7086383; omega⟩) hS (fun rv wn' ad9 H locs hpost hw hS => ?_)
    obtain ⟨hv9, hwn9, had9⟩ := hpost
    subst hv9
    rw [hwn9, had9] at hw
    have hw := nw_W.as (wn' := cW ad tC n I K bw LA n (va_up J 0 1) bw2 L o S) hw cW_m
    refine lv_ei (y := nI 1) rfl ?_
    refine lv_iload hx hb d_L_law_998 (lv_at hl 1 rfl) ?_
    refine lv_icmp_eq (tgt := 1005) hx hb d_L_law_1000 (by decide) (fun c_1000 => ?_) (fun c_1000 => ?_)
    · skip
      refine lv_iload hx hb d_L_law_1005 (lv_at hl 1 rfl) ?_
      refine lv_if_ne (tgt := 1022) hx hb d_L_law_1007 (by decide) (fun c_1007 => ?_) (fun c_1007 => ?_)
      · skip
        refine lv_goto (tgt := 1168) hx hb d_L_law_1022 (by decide) ?_
        exact W.widen (by omega) (by omega) (hNext ad n I K bw LA (va_up J 0 1) bw2 L o S (LR_thr hL) _ _ ls hw hS (lv_sub hl [2, 3, 4, 5, 6] rfl))
      · skip
        first | exact absurd c_1007 (by decide) | exact absurd (by decide) c_1007
    · skip
      exact absurd rfl c_1000
  · skip
    subst hv
    exact absurd trivial hbs
  · skip
    subst hv
    obtain ⟨had, hwn⟩ := hG
    rw [hwn, had] at hw
    refine lv_istore (lv' := [(5, .int (nI 0)), (0, .ref (b)), (1, .ref (ad (0))), (2, .ref (ad (64))), (3, .ref (ad (69))), (4, .int (nI (1 + 6 * i)))]) hx hb d_L_law_980 hl (by decide) rfl (fun ls hl => ?_)
    refine lv_aload_n hx hb d_L_law_982 rfl (lv_at hl 3 rfl) ?_
    refine lv_aload_n hx hb d_L_law_983 rfl (lv_at hl 1 rfl) ?_
    refine lv_iload hx hb d_L_law_984 (lv_at hl 5 rfl) ?_
    refine lv_iconst (v := nI 1) hx hb d_L_law_986 (by decide) ?_
    refine lv_iadd hx hb d_L_law_987 ?_
    refine lv_ei (y := nI (1 + 6 * i + 1)) (nI_add _ _) ?_
    refine va_sld hx hb hX hbl hbA hS (vp_in_nI (by omega) (by omega)) d_L_law_988 ?_
    refine lv_ei (y := xs (1 + 6 * i + 1)) (by rw [nI_clamp (by omega)]) ?_
    have hw := nw_W.as (wn' := mW ad tC n J bw2 L (obX ad tC n I K bw LA (bE tC (vp_updL o 0 ((S 0 0 ((xs (1 + 6 * i + 1)).toNatClampNeg)).toInt64)))) (arX tC n aE0) S) hw cW_m.symm
    refine nw_call (nw_goV (n := 1) (As := [.int (xs (1 + 6 * i + 1))]) (rest := []) hSx hA hKs hw hS (c_M_taken l D tC A ad n J bw2 L (obX ad tC n I K bw LA (bE tC (vp_updL o 0 ((S 0 0 ((xs (1 + 6 * i + 1)).toNatClampNeg)).toInt64)))) (arX tC n aE0) S hN (xs (1 + 6 * i + 1)) ) kw_896 kw_893 kw_894 kw_895 kw_8 rfl rfl (by decide +kernel) ⟨Nat.le_of_ble_eq_true rfl, Nat.le_of_ble_eq_true rfl⟩ (nw_recv hK hw (mW_64) rfl) rfl hl.1 (Nat.le_of_ble_eq_true rfl) d_L_law_989 ⟨by show _ ≤ 669896; omega, by show _ ≤ 7086383; omega⟩) hS (fun rv wn' ad9 H locs hpost hw hS => ?_)
    obtain ⟨had9, hmo⟩ := hpost
    rw [had9] at hw
    rcases hmo with ⟨hq1, _⟩ | ⟨hq1, hq4, _⟩ | ⟨hq1, hq4, hGm⟩
    · exact absurd hq1 hnba
    · exact absurd hq4 hnbs
    obtain ⟨hv9, hw9⟩ := hGm
    subst hv9
    rw [hw9] at hw
    have hw := nw_W.as (wn' := cW ad tC n I K bw LA n (va_up J 0 (nI 0)) bw2 L (vp_updL o 0 ((S 0 0 ((xs (1 + 6 * i + 1)).toNatClampNeg)).toInt64)) S) hw cW_m
    refine lv_istore (lv' := [(6, .int ((if J 3 = 0 ∨ S 5 13 ((xs (1 + 6 * i + 1)).toNatClampNeg) = nI (n 0) then -1 else S 5 13 ((xs (1 + 6 * i + 1)).toNatClampNeg)))), (5, .int (nI 0)), (0, .ref (b)), (1, .ref (ad (0))), (2, .ref (ad (64))), (3, .ref (ad (69))), (4, .int (nI (1 + 6 * i)))]) hx hb d_L_law_992 hl (by decide) rfl (fun ls hl => ?_)
    refine lv_aload_n hx hb d_L_law_994 rfl (lv_at hl 4 rfl) ?_
    have hw := nw_W.as (wn' := mW ad tC n (va_up J 0 (nI 0)) bw2 L (obX ad tC n I K bw LA (bE tC (vp_updL o 0 ((S 0 0 ((xs (1 + 6 * i + 1)).toNatClampNeg)).toInt64)))) (arX tC n aE0) S) hw cW_m.symm
    refine nw_call (nw_goV (n := 0) (As := []) (rest := []) hSx hA hKs hw hS (c_M_thrown l D tC A ad n (va_up J 0 (nI 0)) bw2 L (obX ad tC n I K bw LA (bE tC (vp_updL o 0 ((S 0 0 ((xs (1 + 6 * i + 1)).toNatClampNeg)).toInt64)))) (arX tC n aE0) S hN  ) kw_762 kw_759 kw_760 kw_761 kw_8 rfl rfl (by decide +kernel) ⟨Nat.le_of_ble_eq_true rfl, Nat.le_of_ble_eq_true rfl⟩ (nw_recv hK hw (mW_64) rfl) rfl hl.1 (Nat.le_of_ble_eq_true rfl) d_L_law_995 ⟨by show _ ≤ 669896; omega, by show _ ≤ 7086383; omega⟩) hS (fun rv wn' ad9 H locs hpost hw hS => ?_)
    obtain ⟨hv9, hwn9, had9⟩ := hpost
    subst hv9
    rw [hwn9, had9] at hw
    have hw := nw_W.as (wn' := cW ad tC n I K bw LA n (va_up J 0 (nI 0)) bw2 L (vp_updL o 0 ((S 0 0 ((xs (1 + 6 * i + 1)).toNatClampNeg)).toInt64)) S) hw cW_m
    refine lv_ei (y := nI 0) rfl ?_
    refine lv_iload hx hb d_L_law_998 (lv_at hl 1 rfl) ?_
    refine lv_icmp_eq (tgt := 1005) hx hb d_L_law_1000 (by decide) (fun c_1000 => ?_) (fun c_1000 => ?_)
    · skip
      refine lv_iload hx hb d_L_law_1005 (lv_at hl 1 rfl) ?_
      refine lv_if_ne (tgt := 1022) hx hb d_L_law_1007 (by decide) (fun c_1007 => ?_) (fun c_1007 => ?_)
      · skip
        first | exact absurd c_1007 (by decide) | exact absurd (by decide) c_1007
      · skip
        refine lv_aload_n hx hb d_L_law_1010 rfl (lv_at hl 5 rfl) ?_
        refine lv_iconst (v := nI 0) hx hb d_L_law_1011 (by decide) ?_
        refine nw_lald hx hb hK hw (69) 1 (cW_69) rfl (0) (rfl) (by omega) (by omega) d_L_law_1012 ?_
        refine lv_iload hx hb d_L_law_1013 (lv_at hl 0 rfl) ?_
        refine lv_i2l (v := (((if J 3 = 0 ∨ S 5 13 ((xs (1 + 6 * i + 1)).toNatClampNeg) = nI (n 0) then -1 else S 5 13 ((xs (1 + 6 * i + 1)).toNatClampNeg))).toInt64)) hx hb d_L_law_1015 rfl ?_
        refine lv_el (y := ((vp_updL o 0 ((S 0 0 ((xs (1 + 6 * i + 1)).toNatClampNeg)).toInt64)) (0))) (congrArg Int32.toInt64 (eq_taken hLx (Classical.not_not.mp hnba)).symm) ?_
        refine W.lcmp hx hb d_L_law_1016 ?_
        refine lv_ei (y := nI 0) ((lg_cmp_eq _ _).mpr rfl) ?_
        refine lv_if_eq (tgt := 1022) hx hb d_L_law_1017 (by decide) (fun c_1017 => ?_) (fun c_1017 => ?_)
        · skip
          refine lv_goto (tgt := 1168) hx hb d_L_law_1022 (by decide) ?_
          exact W.widen (by omega) (by omega) (hNext ad n I K bw LA (va_up J 0 (nI 0)) bw2 L (vp_updL o 0 ((S 0 0 ((xs (1 + 6 * i + 1)).toNatClampNeg)).toInt64)) S (LR_thr hL) _ _ ls hw hS (lv_sub hl [2, 3, 4, 5, 6] rfl))
        · skip
          first | exact absurd c_1017 (by decide) | exact absurd (by decide) c_1017
    · skip
      exact absurd rfl c_1000
