set_option maxHeartbeats 4000000 in
set_option maxRecDepth 100000 in
/-- case 7: order -/
theorem law_7 {p : Program} {l : Launch} {e : Env} {s : State} {m : MethodId} {args : Array Value} {below : List Frame} {meth : Method} {cd : Code} {Q : State → Prop} {D : va_G} {tC : Nat → ClassId} {A : Nat → Prop} {b N : Nat} {xs : Nat → Int32} (hSx : CallFix p m cd b_L_law 8 s args nw_T "HarvestPlansLaw") (hA : ∀ q, s.heap.size ≤ q → A q) (hAs : ∀ q, A q → s.heap.size ≤ q) (hKs : nw_K D hpC (hpT tC) s) (hF : nx_F s) (hfl : l.stackTraces = false) (hX : va_X b N xs s s.heap) (hbl : b < s.heap.size) (hbA : ¬ A b) (hN3 : N ≤ 3073) {cc cs i : Nat} (hcc : cc + 12 ≤ 669896) (hcs : cs + 120 ≤ 7086383) (hi : 1 + 6 * i + 6 ≤ N) (hNext : ∀ (ad : Nat → Nat) (n : Nat → Nat) (I : Nat → Nat → Int32) (K : Nat → Int32) (bw : Int64) (LA : Nat → Int64) (J : Nat → Int32) (bw2 : Int64) (L : Nat → Nat → Int64) (o : Nat → Int64) (S : Nat → Nat → Nat → Int32), LR n I K J S → ∀ (H : Heap) (locs : List Loc) (ls : Array Slot), nw_W D hpC A (cW ad tC n I K bw LA n J bw2 L o S) ad H → va_S A s.heap H locs → lv_has ls 8 [(0, .ref (b)), (1, .ref (ad (0))), (2, .ref (ad (64))), (3, .ref (ad (69))), (4, .int (nI (1 + 6 * i)))] → W p l e room_1 s m args below meth cd H locs (cc + 12) (cs + 120) Q (F0 m 1168 ls [])) (ad : Nat → Nat) (n : Nat → Nat) (I : Nat → Nat → Int32) (K : Nat → Int32) (bw : Int64) (LA : Nat → Int64) (J : Nat → Int32) (bw2 : Int64) (L : Nat → Nat → Int64) (o : Nat → Int64) (S : Nat → Nat → Nat → Int32) (hL : LR n I K J S) (H : Heap) (locs : List Loc) (ls : Array Slot) (hw : nw_W D hpC A (cW ad tC n I K bw LA n J bw2 L o S) ad H) (hS : va_S A s.heap H locs) (hl : lv_has ls 8 [(0, .ref (b)), (1, .ref (ad (0))), (2, .ref (ad (64))), (3, .ref (ad (69))), (4, .int (nI (1 + 6 * i)))]) : W p l e room_1 s m args below meth cd H locs cc cs Q (F0 m 666 ls []) := by
  obtain ⟨hx, hb, hml, hown, hts⟩ := id hSx
  have hK := hKs.1
  have hB : nx_B s s := ⟨State.WarmedH.refl s, Nat.le_refl _, fun _ _ => rfl⟩
  obtain ⟨hm, ow, sq, hLx⟩ := id hL
  have hN : hpN n := hLx.1.1
  obtain ⟨hn0, hn0', hn1, hn2, hn3, hn4⟩ := id hN
  have hJK : J 3 = K 0 := hLx.2.2.1.1
  have hH : ∀ c, c < n 2 → I 2 c = nI (hm c) ∧ hm c < n 1 := fun c hc => ⟨hLx.2.1.1 c hc, (hLx.1.2.2.2.1 c hc).2.1⟩
  have hHm : ∀ c, c < n 2 → S 5 2 c = nI (hm c) ∧ hm c < n 1 := fun c hc => ⟨(hLx.1.2.2.2.1 c hc).1, (hLx.1.2.2.2.1 c hc).2.1⟩
  have hO : ∀ o, o < n 4 → I 4 o = nI (ow o) ∧ ow o < n 0 := fun o ho => ⟨(hLx.1.2.2.2.2.2.2.1 o ho).2.1, (hLx.1.2.2.2.2.2.2.1 o ho).2.2.1⟩
  have hSq : ∀ k, k < n 4 → S 0 1 k = nI (sq k) ∧ sq k < n 4 := fun k hk => ⟨hLx.2.1.2.1 k hk, hLx.1.2.2.2.2.2.2.2.1 k hk⟩
  have hSo : ∀ q, q < n 4 → ∃ j, j < n 4 ∧ sq j = q := hLx.1.2.2.2.2.2.2.2.2.1
  have hPl := ok_pl hLx
  obtain ⟨hz1, hz4, hz51, hz56⟩ := hLx.2.1.2.2.2
  refine lv_aload_n hx hb d_L_law_666 rfl (lv_at hl 1 rfl) ?_
  refine lv_aload_n hx hb d_L_law_667 rfl (lv_at hl 0 rfl) ?_
  refine lv_iload hx hb d_L_law_668 (lv_at hl 4 rfl) ?_
  refine lv_iconst (v := nI 1) hx hb d_L_law_670 (by decide) ?_
  refine lv_iadd hx hb d_L_law_671 ?_
  refine lv_ei (y := nI (1 + 6 * i + 1)) (nI_add _ _) ?_
  refine va_sld hx hb hX hbl hbA hS (vp_in_nI (by omega) (by omega)) d_L_law_672 ?_
  refine lv_ei (y := xs (1 + 6 * i + 1)) (by rw [nI_clamp (by omega)]) ?_
  refine lv_aload_n hx hb d_L_law_673 rfl (lv_at hl 0 rfl) ?_
  refine lv_iload hx hb d_L_law_674 (lv_at hl 4 rfl) ?_
  refine lv_iconst (v := nI 2) hx hb d_L_law_676 (by decide) ?_
  refine lv_iadd hx hb d_L_law_677 ?_
  refine lv_ei (y := nI (1 + 6 * i + 2)) (nI_add _ _) ?_
  refine va_sld hx hb hX hbl hbA hS (vp_in_nI (by omega) (by omega)) d_L_law_678 ?_
  refine lv_ei (y := xs (1 + 6 * i + 2)) (by rw [nI_clamp (by omega)]) ?_
  refine lv_aload_n hx hb d_L_law_679 rfl (lv_at hl 0 rfl) ?_
  refine lv_iload hx hb d_L_law_680 (lv_at hl 4 rfl) ?_
  refine lv_iconst (v := nI 3) hx hb d_L_law_682 (by decide) ?_
  refine lv_iadd hx hb d_L_law_683 ?_
  refine lv_ei (y := nI (1 + 6 * i + 3)) (nI_add _ _) ?_
  refine va_sld hx hb hX hbl hbA hS (vp_in_nI (by omega) (by omega)) d_L_law_684 ?_
  refine lv_ei (y := xs (1 + 6 * i + 3)) (by rw [nI_clamp (by omega)]) ?_
  refine lv_aload_n hx hb d_L_law_685 rfl (lv_at hl 0 rfl) ?_
  refine lv_iload hx hb d_L_law_686 (lv_at hl 4 rfl) ?_
  refine lv_iconst (v := nI 4) hx hb d_L_law_688 (by decide) ?_
  refine lv_iadd hx hb d_L_law_689 ?_
  refine lv_ei (y := nI (1 + 6 * i + 4)) (nI_add _ _) ?_
  refine va_sld hx hb hX hbl hbA hS (vp_in_nI (by omega) (by omega)) d_L_law_690 ?_
  refine lv_ei (y := xs (1 + 6 * i + 4)) (by rw [nI_clamp (by omega)]) ?_
  refine lv_aload_n hx hb d_L_law_691 rfl (lv_at hl 0 rfl) ?_
  refine lv_iload hx hb d_L_law_692 (lv_at hl 4 rfl) ?_
  refine lv_iconst (v := nI 5) hx hb d_L_law_694 (by decide) ?_
  refine lv_iadd hx hb d_L_law_695 ?_
  refine lv_ei (y := nI (1 + 6 * i + 5)) (nI_add _ _) ?_
  refine va_sld hx hb hX hbl hbA hS (vp_in_nI (by omega) (by omega)) d_L_law_696 ?_
  refine lv_ei (y := xs (1 + 6 * i + 5)) (by rw [nI_clamp (by omega)]) ?_
  refine lv_aload_n hx hb d_L_law_697 rfl (lv_at hl 3 rfl) ?_
  refine nx_callC (nx_goW (n := 7) (As := [.ref (ad (0)), .int (xs (1 + 6 * i + 1)), .int (xs (1 + 6 * i + 2)), .int (xs (1 + 6 * i + 3)), .int (xs (1 + 6 * i + 4)), .int (xs (1 + 6 * i + 5)), .ref (ad (69))]) (rest := []) hSx hA hKs hF hB hAs hw hS (w_order l D tC A ad n I K bw LA n J bw2 L o S hN s hF hfl hAs (xs (1 + 6 * i + 1)) (xs (1 + 6 * i + 2)) (xs (1 + 6 * i + 3)) (xs (1 + 6 * i + 4)) (xs (1 + 6 * i + 5)) sq hSq) kt_482 kw_480 kw_481 kw_0 rfl rfl (by decide +kernel) ⟨Nat.le_of_ble_eq_true rfl, Nat.le_of_ble_eq_true rfl⟩ rfl hl.1 (Nat.le_of_ble_eq_true rfl) d_L_law_698 ⟨by show _ ≤ 669896; omega, by show _ ≤ 7086383; omega⟩) hS (fun X wn' ad' H locs x cell hpost hw hS hcell hst hcls T' hT X0 => (lw_po_x hpost).elim) (fun rv wn' ad' H locs hpost hw hS => ?_)
  rcases lw_po_i hpost with ⟨hv, hba, hwn, had⟩ | ⟨hv, hnba, hbs, hwn, had⟩ | ⟨hv, hnba, hnbs, hG⟩
  · skip
    subst hv
    rw [hwn, had] at hw
    refine lv_istore (lv' := [(5, .int (nI 1)), (0, .ref (b)), (1, .ref (ad (0))), (2, .ref (ad (64))), (3, .ref (ad (69))), (4, .int (nI (1 + 6 * i)))]) hx hb d_L_law_701 hl (by decide) rfl (fun ls hl => ?_)
    refine lv_aload_n hx hb d_L_law_703 rfl (lv_at hl 3 rfl) ?_
    refine lv_aload_n hx hb d_L_law_704 rfl (lv_at hl 1 rfl) ?_
    refine lv_iload hx hb d_L_law_705 (lv_at hl 5 rfl) ?_
    refine lv_iconst (v := nI 1) hx hb d_L_law_707 (by decide) ?_
    refine lv_iadd hx hb d_L_law_708 ?_
    refine lv_ei (y := nI (1 + 6 * i + 1)) (nI_add _ _) ?_
    refine va_sld hx hb hX hbl hbA hS (vp_in_nI (by omega) (by omega)) d_L_law_709 ?_
    refine lv_ei (y := xs (1 + 6 * i + 1)) (by rw [nI_clamp (by omega)]) ?_
    refine lv_aload_n hx hb d_L_law_710 rfl (lv_at hl 1 rfl) ?_
    refine lv_iload hx hb d_L_law_711 (lv_at hl 5 rfl) ?_
    refine lv_iconst (v := nI 2) hx hb d_L_law_713 (by decide) ?_
    refine lv_iadd hx hb d_L_law_714 ?_
    refine lv_ei (y := nI (1 + 6 * i + 2)) (nI_add _ _) ?_
    refine va_sld hx hb hX hbl hbA hS (vp_in_nI (by omega) (by omega)) d_L_law_715 ?_
    refine lv_ei (y := xs (1 + 6 * i + 2)) (by rw [nI_clamp (by omega)]) ?_
    refine lv_aload_n hx hb d_L_law_716 rfl (lv_at hl 1 rfl) ?_
    refine lv_iload hx hb d_L_law_717 (lv_at hl 5 rfl) ?_
    refine lv_iconst (v := nI 3) hx hb d_L_law_719 (by decide) ?_
    refine lv_iadd hx hb d_L_law_720 ?_
    refine lv_ei (y := nI (1 + 6 * i + 3)) (nI_add _ _) ?_
    refine va_sld hx hb hX hbl hbA hS (vp_in_nI (by omega) (by omega)) d_L_law_721 ?_
    refine lv_ei (y := xs (1 + 6 * i + 3)) (by rw [nI_clamp (by omega)]) ?_
    refine lv_aload_n hx hb d_L_law_722 rfl (lv_at hl 1 rfl) ?_
    refine lv_iload hx hb d_L_law_723 (lv_at hl 5 rfl) ?_
    refine lv_iconst (v := nI 4) hx hb d_L_law_725 (by decide) ?_
    refine lv_iadd hx hb d_L_law_726 ?_
    refine lv_ei (y := nI (1 + 6 * i + 4)) (nI_add _ _) ?_
    refine va_sld hx hb hX hbl hbA hS (vp_in_nI (by omega) (by omega)) d_L_law_727 ?_
    refine lv_ei (y := xs (1 + 6 * i + 4)) (by rw [nI_clamp (by omega)]) ?_
    refine lv_aload_n hx hb d_L_law_728 rfl (lv_at hl 1 rfl) ?_
    refine lv_iload hx hb d_L_law_729 (lv_at hl 5 rfl) ?_
    refine lv_iconst (v := nI 5) hx hb d_L_law_731 (by decide) ?_
    refine lv_iadd hx hb d_L_law_732 ?_
    refine lv_ei (y := nI (1 + 6 * i + 5)) (nI_add _ _) ?_
    refine va_sld hx hb hX hbl hbA hS (vp_in_nI (by omega) (by omega)) d_L_law_733 ?_
    refine lv_ei (y := xs (1 + 6 * i + 5)) (by rw [nI_clamp (by omega)]) ?_
    have hw := nw_W.as (wn' := mW ad tC n J bw2 L (obX ad tC n I K bw LA (bE tC o)) (arX tC n aE0) S) hw cW_m.symm
    refine nw_call (nw_goV (n := 5) (As := [.int (xs (1 + 6 * i + 1)), .int (xs (1 + 6 * i + 2)), .int (xs (1 + 6 * i + 3)), .int (xs (1 + 6 * i + 4)), .int (xs (1 + 6 * i + 5))]) (rest := []) hSx hA hKs hw hS (c_M_order l D tC A ad n J bw2 L (obX ad tC n I K bw LA (bE tC o)) (arX tC n aE0) S hN (xs (1 + 6 * i + 1)) (xs (1 + 6 * i + 2)) (xs (1 + 6 * i + 3)) (xs (1 + 6 * i + 4)) (xs (1 + 6 * i + 5)) ) kw_809 kw_806 kw_807 kw_808 kw_8 rfl rfl (by decide +kernel) ⟨Nat.le_of_ble_eq_true rfl, Nat.le_of_ble_eq_true rfl⟩ (nw_recv hK hw (mW_64) rfl) rfl hl.1 (Nat.le_of_ble_eq_true rfl) d_L_law_734 ⟨by show _ ≤ 669896; omega, by show _ ≤ 7086383; omega⟩) hS (fun rv wn' ad9 H locs hpost hw hS => ?_)
    obtain ⟨had9, hmo⟩ := hpost
    rw [had9] at hw
    rcases hmo with ⟨hq1, hq2, hq3⟩ | ⟨hq1, _⟩ | ⟨hq1, _⟩
    rotate_left
    · exact absurd hba hq1
    · exact absurd hba hq1
    subst hq2
    rw [hq3] at hw
    have hw := nw_W.as (wn' := cW ad tC n I K bw LA n (va_up J 0 1) bw2 L o S) hw cW_m
    refine lv_istore (lv' := [(6, .int (nI 0)), (5, .int (nI 1)), (0, .ref (b)), (1, .ref (ad (0))), (2, .ref (ad (64))), (3, .ref (ad (69))), (4, .int (nI (1 + 6 * i)))]) hx hb d_L_law_737 hl (by decide) rfl (fun ls hl => ?_)
    refine lv_aload_n hx hb d_L_law_739 rfl (lv_at hl 4 rfl) ?_
    have hw := nw_W.as (wn' := mW ad tC n (va_up J 0 1) bw2 L (obX ad tC n I K bw LA (bE tC o)) (arX tC n aE0) S) hw cW_m.symm
    refine nw_call (nw_goV (n := 0) (As := []) (rest := []) hSx hA hKs hw hS (c_M_thrown l D tC A ad n (va_up J 0 1) bw2 L (obX ad tC n I K bw LA (bE tC o)) (arX tC n aE0) S hN  ) kw_762 kw_759 kw_760 kw_761 kw_8 rfl rfl (by decide +kernel) ⟨Nat.le_of_ble_eq_true rfl, Nat.le_of_ble_eq_true rfl⟩ (nw_recv hK hw (mW_64) rfl) rfl hl.1 (Nat.le_of_ble_eq_true rfl) d_L_law_740 ⟨by show _ ≤ 669896; omega, by show _ ≤ 7086383; omega⟩) hS (fun rv wn' ad9 H locs hpost hw hS => ?_)
    obtain ⟨hv9, hwn9, had9⟩ := hpost
    subst hv9
    rw [hwn9, had9] at hw
    have hw := nw_W.as (wn' := cW ad tC n I K bw LA n (va_up J 0 1) bw2 L o S) hw cW_m
    refine lv_ei (y := nI 1) rfl ?_
    refine lv_iload hx hb d_L_law_743 (lv_at hl 1 rfl) ?_
    refine lv_icmp_eq (tgt := 750) hx hb d_L_law_745 (by decide) (fun c_745 => ?_) (fun c_745 => ?_)
    · skip
      refine lv_iload hx hb d_L_law_750 (lv_at hl 1 rfl) ?_
      refine lv_if_ne (tgt := 767) hx hb d_L_law_752 (by decide) (fun c_752 => ?_) (fun c_752 => ?_)
      · skip
        refine lv_goto (tgt := 1168) hx hb d_L_law_767 (by decide) ?_
        exact W.widen (by omega) (by omega) (hNext ad n I K bw LA (va_up J 0 1) bw2 L o S (LR_thr hL) _ _ ls hw hS (lv_sub hl [2, 3, 4, 5, 6] rfl))
      · skip
        first | exact absurd c_752 (by decide) | exact absurd (by decide) c_752
    · skip
      exact absurd rfl c_745
  · skip
    subst hv
    rw [hwn, had] at hw
    refine lv_ei (y := nI 2) rfl ?_
    refine lv_istore (lv' := [(5, .int (nI 2)), (0, .ref (b)), (1, .ref (ad (0))), (2, .ref (ad (64))), (3, .ref (ad (69))), (4, .int (nI (1 + 6 * i)))]) hx hb d_L_law_701 hl (by decide) rfl (fun ls hl => ?_)
    refine lv_aload_n hx hb d_L_law_703 rfl (lv_at hl 3 rfl) ?_
    refine lv_aload_n hx hb d_L_law_704 rfl (lv_at hl 1 rfl) ?_
    refine lv_iload hx hb d_L_law_705 (lv_at hl 5 rfl) ?_
    refine lv_iconst (v := nI 1) hx hb d_L_law_707 (by decide) ?_
    refine lv_iadd hx hb d_L_law_708 ?_
    refine lv_ei (y := nI (1 + 6 * i + 1)) (nI_add _ _) ?_
    refine va_sld hx hb hX hbl hbA hS (vp_in_nI (by omega) (by omega)) d_L_law_709 ?_
    refine lv_ei (y := xs (1 + 6 * i + 1)) (by rw [nI_clamp (by omega)]) ?_
    refine lv_aload_n hx hb d_L_law_710 rfl (lv_at hl 1 rfl) ?_
    refine lv_iload hx hb d_L_law_711 (lv_at hl 5 rfl) ?_
    refine lv_iconst (v := nI 2) hx hb d_L_law_713 (by decide) ?_
    refine lv_iadd hx hb d_L_law_714 ?_
    refine lv_ei (y := nI (1 + 6 * i + 2)) (nI_add _ _) ?_
    refine va_sld hx hb hX hbl hbA hS (vp_in_nI (by omega) (by omega)) d_L_law_715 ?_
    refine lv_ei (y := xs (1 + 6 * i + 2)) (by rw [nI_clamp (by omega)]) ?_
    refine lv_aload_n hx hb d_L_law_716 rfl (lv_at hl 1 rfl) ?_
    refine lv_iload hx hb d_L_law_717 (lv_at hl 5 rfl) ?_
    refine lv_iconst (v := nI 3) hx hb d_L_law_719 (by decide) ?_
    refine lv_iadd hx hb d_L_law_720 ?_
    refine lv_ei (y := nI (1 + 6 * i + 3)) (nI_add _ _) ?_
    refine va_sld hx hb hX hbl hbA hS (vp_in_nI (by omega) (by omega)) d_L_law_721 ?_
    refine lv_ei (y := xs (1 + 6 * i + 3)) (by rw [nI_clamp (by omega)]) ?_
    refine lv_aload_n hx hb d_L_law_722 rfl (lv_at hl 1 rfl) ?_
    refine lv_iload hx hb d_L_law_723 (lv_at hl 5 rfl) ?_
    refine lv_iconst (v := nI 4) hx hb d_L_law_725 (by decide) ?_
    refine lv_iadd hx hb d_L_law_726 ?_
    refine lv_ei (y := nI (1 + 6 * i + 4)) (nI_add _ _) ?_
    refine va_sld hx hb hX hbl hbA hS (vp_in_nI (by omega) (by omega)) d_L_law_727 ?_
    refine lv_ei (y := xs (1 + 6 * i + 4)) (by rw [nI_clamp (by omega)]) ?_
    refine lv_aload_n hx hb d_L_law_728 rfl (lv_at hl 1 rfl) ?_
    refine lv_iload hx hb d_L_law_729 (lv_at hl 5 rfl) ?_
    refine lv_iconst (v := nI 5) hx hb d_L_law_731 (by decide) ?_
    refine lv_iadd hx hb d_L_law_732 ?_
    refine lv_ei (y := nI (1 + 6 * i + 5)) (nI_add _ _) ?_
    refine va_sld hx hb hX hbl hbA hS (vp_in_nI (by omega) (by omega)) d_L_law_733 ?_
    refine lv_ei (y := xs (1 + 6 * i + 5)) (by rw [nI_clamp (by omega)]) ?_
    have hw := nw_W.as (wn' := mW ad tC n J bw2 L (obX ad tC n I K bw LA (bE tC o)) (arX tC n aE0) S) hw cW_m.symm
    refine nw_call (nw_goV (n := 5) (As := [.int (xs (1 + 6 * i + 1)), .int (xs (1 + 6 * i + 2)), .int (xs (1 + 6 * i + 3)), .int (xs (1 + 6 * i + 4)), .int (xs (1 + 6 * i + 5))]) (rest := []) hSx hA hKs hw hS (c_M_order l D tC A ad n J bw2 L (obX ad tC n I K bw LA (bE tC o)) (arX tC n aE0) S hN (xs (1 + 6 * i + 1)) (xs (1 + 6 * i + 2)) (xs (1 + 6 * i + 3)) (xs (1 + 6 * i + 4)) (xs (1 + 6 * i + 5)) ) kw_809 kw_806 kw_807 kw_808 kw_8 rfl rfl (by decide +kernel) ⟨Nat.le_of_ble_eq_true rfl, Nat.le_of_ble_eq_true rfl⟩ (nw_recv hK hw (mW_64) rfl) rfl hl.1 (Nat.le_of_ble_eq_true rfl) d_L_law_734 ⟨by show _ ≤ 669896; omega, by show _ ≤ 7086383; omega⟩) hS (fun rv wn' ad9 H locs hpost hw hS => ?_)
    obtain ⟨had9, hmo⟩ := hpost
    rw [had9] at hw
    rcases hmo with ⟨hq1, _⟩ | ⟨hq1, hq4, hq2, hq3⟩ | ⟨hq1, hq4, _⟩
    · exact absurd hq1 hnba
    rotate_left
    · exact absurd hbs hq4
    subst hq2
    rw [hq3] at hw
    have hw := nw_W.as (wn' := cW ad tC n I K bw LA n (va_up J 0 2) bw2 L o S) hw cW_m
    refine lv_istore (lv' := [(6, .int (nI 0)), (5, .int (nI 2)), (0, .ref (b)), (1, .ref (ad (0))), (2, .ref (ad (64))), (3, .ref (ad (69))), (4, .int (nI (1 + 6 * i)))]) hx hb d_L_law_737 hl (by decide) rfl (fun ls hl => ?_)
    refine lv_aload_n hx hb d_L_law_739 rfl (lv_at hl 4 rfl) ?_
    have hw := nw_W.as (wn' := mW ad tC n (va_up J 0 2) bw2 L (obX ad tC n I K bw LA (bE tC o)) (arX tC n aE0) S) hw cW_m.symm
    refine nw_call (nw_goV (n := 0) (As := []) (rest := []) hSx hA hKs hw hS (c_M_thrown l D tC A ad n (va_up J 0 2) bw2 L (obX ad tC n I K bw LA (bE tC o)) (arX tC n aE0) S hN  ) kw_762 kw_759 kw_760 kw_761 kw_8 rfl rfl (by decide +kernel) ⟨Nat.le_of_ble_eq_true rfl, Nat.le_of_ble_eq_true rfl⟩ (nw_recv hK hw (mW_64) rfl) rfl hl.1 (Nat.le_of_ble_eq_true rfl) d_L_law_740 ⟨by show _ ≤ 669896; omega, by show _ ≤ 7086383; omega⟩) hS (fun rv wn' ad9 H locs hpost hw hS => ?_)
    obtain ⟨hv9, hwn9, had9⟩ := hpost
    subst hv9
    rw [hwn9, had9] at hw
    have hw := nw_W.as (wn' := cW ad tC n I K bw LA n (va_up J 0 2) bw2 L o S) hw cW_m
    refine lv_ei (y := nI 2) rfl ?_
    refine lv_iload hx hb d_L_law_743 (lv_at hl 1 rfl) ?_
    refine lv_icmp_eq (tgt := 750) hx hb d_L_law_745 (by decide) (fun c_745 => ?_) (fun c_745 => ?_)
    · skip
      refine lv_iload hx hb d_L_law_750 (lv_at hl 1 rfl) ?_
      refine lv_if_ne (tgt := 767) hx hb d_L_law_752 (by decide) (fun c_752 => ?_) (fun c_752 => ?_)
      · skip
        refine lv_goto (tgt := 1168) hx hb d_L_law_767 (by decide) ?_
        exact W.widen (by omega) (by omega) (hNext ad n I K bw LA (va_up J 0 2) bw2 L o S (LR_thr hL) _ _ ls hw hS (lv_sub hl [2, 3, 4, 5, 6] rfl))
      · skip
        exact absurd c_752 (by decide)
    · skip
      exact absurd rfl c_745
  · skip
    subst hv
    obtain ⟨hag, d, hd, g1, g2, hwn⟩ := hG
    rw [hwn] at hw
    obtain ⟨ha0, ha64, ha69⟩ := hag
    rw [← ha0, ← ha64, ← ha69] at hl
    refine lv_istore (lv' := [(5, .int (nI 0)), (0, .ref (b)), (1, .ref (ad' (0))), (2, .ref (ad' (64))), (3, .ref (ad' (69))), (4, .int (nI (1 + 6 * i)))]) hx hb d_L_law_701 hl (by decide) rfl (fun ls hl => ?_)
    refine lv_aload_n hx hb d_L_law_703 rfl (lv_at hl 3 rfl) ?_
    refine lv_aload_n hx hb d_L_law_704 rfl (lv_at hl 1 rfl) ?_
    refine lv_iload hx hb d_L_law_705 (lv_at hl 5 rfl) ?_
    refine lv_iconst (v := nI 1) hx hb d_L_law_707 (by decide) ?_
    refine lv_iadd hx hb d_L_law_708 ?_
    refine lv_ei (y := nI (1 + 6 * i + 1)) (nI_add _ _) ?_
    refine va_sld hx hb hX hbl hbA hS (vp_in_nI (by omega) (by omega)) d_L_law_709 ?_
    refine lv_ei (y := xs (1 + 6 * i + 1)) (by rw [nI_clamp (by omega)]) ?_
    refine lv_aload_n hx hb d_L_law_710 rfl (lv_at hl 1 rfl) ?_
    refine lv_iload hx hb d_L_law_711 (lv_at hl 5 rfl) ?_
    refine lv_iconst (v := nI 2) hx hb d_L_law_713 (by decide) ?_
    refine lv_iadd hx hb d_L_law_714 ?_
    refine lv_ei (y := nI (1 + 6 * i + 2)) (nI_add _ _) ?_
    refine va_sld hx hb hX hbl hbA hS (vp_in_nI (by omega) (by omega)) d_L_law_715 ?_
    refine lv_ei (y := xs (1 + 6 * i + 2)) (by rw [nI_clamp (by omega)]) ?_
    refine lv_aload_n hx hb d_L_law_716 rfl (lv_at hl 1 rfl) ?_
    refine lv_iload hx hb d_L_law_717 (lv_at hl 5 rfl) ?_
    refine lv_iconst (v := nI 3) hx hb d_L_law_719 (by decide) ?_
    refine lv_iadd hx hb d_L_law_720 ?_
    refine lv_ei (y := nI (1 + 6 * i + 3)) (nI_add _ _) ?_
    refine va_sld hx hb hX hbl hbA hS (vp_in_nI (by omega) (by omega)) d_L_law_721 ?_
    refine lv_ei (y := xs (1 + 6 * i + 3)) (by rw [nI_clamp (by omega)]) ?_
    refine lv_aload_n hx hb d_L_law_722 rfl (lv_at hl 1 rfl) ?_
    refine lv_iload hx hb d_L_law_723 (lv_at hl 5 rfl) ?_
    refine lv_iconst (v := nI 4) hx hb d_L_law_725 (by decide) ?_
    refine lv_iadd hx hb d_L_law_726 ?_
    refine lv_ei (y := nI (1 + 6 * i + 4)) (nI_add _ _) ?_
    refine va_sld hx hb hX hbl hbA hS (vp_in_nI (by omega) (by omega)) d_L_law_727 ?_
    refine lv_ei (y := xs (1 + 6 * i + 4)) (by rw [nI_clamp (by omega)]) ?_
    refine lv_aload_n hx hb d_L_law_728 rfl (lv_at hl 1 rfl) ?_
    refine lv_iload hx hb d_L_law_729 (lv_at hl 5 rfl) ?_
    refine lv_iconst (v := nI 5) hx hb d_L_law_731 (by decide) ?_
    refine lv_iadd hx hb d_L_law_732 ?_
    refine lv_ei (y := nI (1 + 6 * i + 5)) (nI_add _ _) ?_
    refine va_sld hx hb hX hbl hbA hS (vp_in_nI (by omega) (by omega)) d_L_law_733 ?_
    refine lv_ei (y := xs (1 + 6 * i + 5)) (by rw [nI_clamp (by omega)]) ?_
    have hw := nw_W.as (wn' := mW ad' tC n J bw2 L (obX ad' tC (va_up n 4 (n 4 + 1)) (adI I 4 8 (n 4) (v4 (xs (1 + 6 * i + 1)) (xs (1 + 6 * i + 2)) (xs (1 + 6 * i + 3)) (xs (1 + 6 * i + 4)) (xs (1 + 6 * i + 5)))) (va_up K 0 (nI 0)) bw LA (bE tC (vp_updL o 0 ((nI (n 4)).toInt64)))) (arX tC (va_up n 4 (n 4 + 1)) aE0) (upR (upR S 0 0 (flR (S 0 0) (-1) 6)) 0 1 (inF ((upR S 0 0 (flR (S 0 0) (-1) 6)) 0 1) (n 4) d))) hw cW_m.symm
    refine nw_call (nw_goV (n := 5) (As := [.int (xs (1 + 6 * i + 1)), .int (xs (1 + 6 * i + 2)), .int (xs (1 + 6 * i + 3)), .int (xs (1 + 6 * i + 4)), .int (xs (1 + 6 * i + 5))]) (rest := []) hSx hA hKs hw hS (c_M_order l D tC A ad' n J bw2 L (obX ad' tC (va_up n 4 (n 4 + 1)) (adI I 4 8 (n 4) (v4 (xs (1 + 6 * i + 1)) (xs (1 + 6 * i + 2)) (xs (1 + 6 * i + 3)) (xs (1 + 6 * i + 4)) (xs (1 + 6 * i + 5)))) (va_up K 0 (nI 0)) bw LA (bE tC (vp_updL o 0 ((nI (n 4)).toInt64)))) (arX tC (va_up n 4 (n 4 + 1)) aE0) (upR (upR S 0 0 (flR (S 0 0) (-1) 6)) 0 1 (inF ((upR S 0 0 (flR (S 0 0) (-1) 6)) 0 1) (n 4) d)) hN (xs (1 + 6 * i + 1)) (xs (1 + 6 * i + 2)) (xs (1 + 6 * i + 3)) (xs (1 + 6 * i + 4)) (xs (1 + 6 * i + 5)) ) kw_809 kw_806 kw_807 kw_808 kw_8 rfl rfl (by decide +kernel) ⟨Nat.le_of_ble_eq_true rfl, Nat.le_of_ble_eq_true rfl⟩ (nw_recv hK hw (mW_64) rfl) rfl hl.1 (Nat.le_of_ble_eq_true rfl) d_L_law_734 ⟨by show _ ≤ 669896; omega, by show _ ≤ 7086383; omega⟩) hS (fun rv wn' ad9 H locs hpost hw hS => ?_)
    obtain ⟨had9, hmo⟩ := hpost
    rw [had9] at hw
    rcases hmo with ⟨hq1, _⟩ | ⟨hq1, hq4, _⟩ | ⟨hq1, hq4, hGm⟩
    · exact absurd hq1 hnba
    · exact absurd hq4 hnbs
    obtain ⟨hv9, hw9⟩ := hGm
    subst hv9
    rw [hw9] at hw
    have hw := nw_W.as (wn' := cW ad' tC (va_up n 4 (n 4 + 1)) (adI I 4 8 (n 4) (v4 (xs (1 + 6 * i + 1)) (xs (1 + 6 * i + 2)) (xs (1 + 6 * i + 3)) (xs (1 + 6 * i + 4)) (xs (1 + 6 * i + 5)))) (va_up K 0 (nI 0)) bw LA (va_up n 4 (n 4 + 1)) (va_up (va_up J 0 (nI 0)) 3 (nI 0)) bw2 L (vp_updL o 0 ((nI (n 4)).toInt64)) (upR (upR (upR (upR (upR (upR (upR S 0 0 (flR (S 0 0) (-1) 6)) 0 1 (inF ((upR S 0 0 (flR (S 0 0) (-1) 6)) 0 1) (n 4) d)) 5 8 (upd ((upR (upR S 0 0 (flR (S 0 0) (-1) 6)) 0 1 (inF ((upR S 0 0 (flR (S 0 0) (-1) 6)) 0 1) (n 4) d)) 5 8) (n 4) (xs (1 + 6 * i + 1)))) 5 9 (upd ((upR (upR (upR S 0 0 (flR (S 0 0) (-1) 6)) 0 1 (inF ((upR S 0 0 (flR (S 0 0) (-1) 6)) 0 1) (n 4) d)) 5 8 (upd ((upR (upR S 0 0 (flR (S 0 0) (-1) 6)) 0 1 (inF ((upR S 0 0 (flR (S 0 0) (-1) 6)) 0 1) (n 4) d)) 5 8) (n 4) (xs (1 + 6 * i + 1)))) 5 9) (n 4) (xs (1 + 6 * i + 2)))) 5 10 (upd ((upR (upR (upR (upR S 0 0 (flR (S 0 0) (-1) 6)) 0 1 (inF ((upR S 0 0 (flR (S 0 0) (-1) 6)) 0 1) (n 4) d)) 5 8 (upd ((upR (upR S 0 0 (flR (S 0 0) (-1) 6)) 0 1 (inF ((upR S 0 0 (flR (S 0 0) (-1) 6)) 0 1) (n 4) d)) 5 8) (n 4) (xs (1 + 6 * i + 1)))) 5 9 (upd ((upR (upR (upR S 0 0 (flR (S 0 0) (-1) 6)) 0 1 (inF ((upR S 0 0 (flR (S 0 0) (-1) 6)) 0 1) (n 4) d)) 5 8 (upd ((upR (upR S 0 0 (flR (S 0 0) (-1) 6)) 0 1 (inF ((upR S 0 0 (flR (S 0 0) (-1) 6)) 0 1) (n 4) d)) 5 8) (n 4) (xs (1 + 6 * i + 1)))) 5 9) (n 4) (xs (1 + 6 * i + 2)))) 5 10) (n 4) (xs (1 + 6 * i + 3)))) 5 11 (upd ((upR (upR (upR (upR (upR S 0 0 (flR (S 0 0) (-1) 6)) 0 1 (inF ((upR S 0 0 (flR (S 0 0) (-1) 6)) 0 1) (n 4) d)) 5 8 (upd ((upR (upR S 0 0 (flR (S 0 0) (-1) 6)) 0 1 (inF ((upR S 0 0 (flR (S 0 0) (-1) 6)) 0 1) (n 4) d)) 5 8) (n 4) (xs (1 + 6 * i + 1)))) 5 9 (upd ((upR (upR (upR S 0 0 (flR (S 0 0) (-1) 6)) 0 1 (inF ((upR S 0 0 (flR (S 0 0) (-1) 6)) 0 1) (n 4) d)) 5 8 (upd ((upR (upR S 0 0 (flR (S 0 0) (-1) 6)) 0 1 (inF ((upR S 0 0 (flR (S 0 0) (-1) 6)) 0 1) (n 4) d)) 5 8) (n 4) (xs (1 + 6 * i + 1)))) 5 9) (n 4) (xs (1 + 6 * i + 2)))) 5 10 (upd ((upR (upR (upR (upR S 0 0 (flR (S 0 0) (-1) 6)) 0 1 (inF ((upR S 0 0 (flR (S 0 0) (-1) 6)) 0 1) (n 4) d)) 5 8 (upd ((upR (upR S 0 0 (flR (S 0 0) (-1) 6)) 0 1 (inF ((upR S 0 0 (flR (S 0 0) (-1) 6)) 0 1) (n 4) d)) 5 8) (n 4) (xs (1 + 6 * i + 1)))) 5 9 (upd ((upR (upR (upR S 0 0 (flR (S 0 0) (-1) 6)) 0 1 (inF ((upR S 0 0 (flR (S 0 0) (-1) 6)) 0 1) (n 4) d)) 5 8 (upd ((upR (upR S 0 0 (flR (S 0 0) (-1) 6)) 0 1 (inF ((upR S 0 0 (flR (S 0 0) (-1) 6)) 0 1) (n 4) d)) 5 8) (n 4) (xs (1 + 6 * i + 1)))) 5 9) (n 4) (xs (1 + 6 * i + 2)))) 5 10) (n 4) (xs (1 + 6 * i + 3)))) 5 11) (n 4) (xs (1 + 6 * i + 4)))) 5 12 (upd ((upR (upR (upR (upR (upR (upR S 0 0 (flR (S 0 0) (-1) 6)) 0 1 (inF ((upR S 0 0 (flR (S 0 0) (-1) 6)) 0 1) (n 4) d)) 5 8 (upd ((upR (upR S 0 0 (flR (S 0 0) (-1) 6)) 0 1 (inF ((upR S 0 0 (flR (S 0 0) (-1) 6)) 0 1) (n 4) d)) 5 8) (n 4) (xs (1 + 6 * i + 1)))) 5 9 (upd ((upR (upR (upR S 0 0 (flR (S 0 0) (-1) 6)) 0 1 (inF ((upR S 0 0 (flR (S 0 0) (-1) 6)) 0 1) (n 4) d)) 5 8 (upd ((upR (upR S 0 0 (flR (S 0 0) (-1) 6)) 0 1 (inF ((upR S 0 0 (flR (S 0 0) (-1) 6)) 0 1) (n 4) d)) 5 8) (n 4) (xs (1 + 6 * i + 1)))) 5 9) (n 4) (xs (1 + 6 * i + 2)))) 5 10 (upd ((upR (upR (upR (upR S 0 0 (flR (S 0 0) (-1) 6)) 0 1 (inF ((upR S 0 0 (flR (S 0 0) (-1) 6)) 0 1) (n 4) d)) 5 8 (upd ((upR (upR S 0 0 (flR (S 0 0) (-1) 6)) 0 1 (inF ((upR S 0 0 (flR (S 0 0) (-1) 6)) 0 1) (n 4) d)) 5 8) (n 4) (xs (1 + 6 * i + 1)))) 5 9 (upd ((upR (upR (upR S 0 0 (flR (S 0 0) (-1) 6)) 0 1 (inF ((upR S 0 0 (flR (S 0 0) (-1) 6)) 0 1) (n 4) d)) 5 8 (upd ((upR (upR S 0 0 (flR (S 0 0) (-1) 6)) 0 1 (inF ((upR S 0 0 (flR (S 0 0) (-1) 6)) 0 1) (n 4) d)) 5 8) (n 4) (xs (1 + 6 * i + 1)))) 5 9) (n 4) (xs (1 + 6 * i + 2)))) 5 10) (n 4) (xs (1 + 6 * i + 3)))) 5 11 (upd ((upR (upR (upR (upR (upR S 0 0 (flR (S 0 0) (-1) 6)) 0 1 (inF ((upR S 0 0 (flR (S 0 0) (-1) 6)) 0 1) (n 4) d)) 5 8 (upd ((upR (upR S 0 0 (flR (S 0 0) (-1) 6)) 0 1 (inF ((upR S 0 0 (flR (S 0 0) (-1) 6)) 0 1) (n 4) d)) 5 8) (n 4) (xs (1 + 6 * i + 1)))) 5 9 (upd ((upR (upR (upR S 0 0 (flR (S 0 0) (-1) 6)) 0 1 (inF ((upR S 0 0 (flR (S 0 0) (-1) 6)) 0 1) (n 4) d)) 5 8 (upd ((upR (upR S 0 0 (flR (S 0 0) (-1) 6)) 0 1 (inF ((upR S 0 0 (flR (S 0 0) (-1) 6)) 0 1) (n 4) d)) 5 8) (n 4) (xs (1 + 6 * i + 1)))) 5 9) (n 4) (xs (1 + 6 * i + 2)))) 5 10 (upd ((upR (upR (upR (upR S 0 0 (flR (S 0 0) (-1) 6)) 0 1 (inF ((upR S 0 0 (flR (S 0 0) (-1) 6)) 0 1) (n 4) d)) 5 8 (upd ((upR (upR S 0 0 (flR (S 0 0) (-1) 6)) 0 1 (inF ((upR S 0 0 (flR (S 0 0) (-1) 6)) 0 1) (n 4) d)) 5 8) (n 4) (xs (1 + 6 * i + 1)))) 5 9 (upd ((upR (upR (upR S 0 0 (flR (S 0 0) (-1) 6)) 0 1 (inF ((upR S 0 0 (flR (S 0 0) (-1) 6)) 0 1) (n 4) d)) 5 8 (upd ((upR (upR S 0 0 (flR (S 0 0) (-1) 6)) 0 1 (inF ((upR S 0 0 (flR (S 0 0) (-1) 6)) 0 1) (n 4) d)) 5 8) (n 4) (xs (1 + 6 * i + 1)))) 5 9) (n 4) (xs (1 + 6 * i + 2)))) 5 10) (n 4) (xs (1 + 6 * i + 3)))) 5 11) (n 4) (xs (1 + 6 * i + 4)))) 5 12) (n 4) (xs (1 + 6 * i + 5))))) hw cW_m
    have hLR9 := LR_order hLx (Classical.not_not.mp hnba).1 (Classical.not_not.mp hnba).2.1 (Classical.not_not.mp hnba).2.2.1 (Classical.not_not.mp hnba).2.2.2.1 (Classical.not_not.mp hnba).2.2.2.2 ((nI_ltI (by omega) (by omega)).mp (Classical.not_not.mp hnbs)) hd g1 g2 rfl rfl
    have hN2 : hpN (va_up n 4 (n 4 + 1)) := LR_N hLR9
    refine lv_istore (lv' := [(6, .int (nI (n 4))), (5, .int (nI 0)), (0, .ref (b)), (1, .ref (ad' (0))), (2, .ref (ad' (64))), (3, .ref (ad' (69))), (4, .int (nI (1 + 6 * i)))]) hx hb d_L_law_737 hl (by decide) rfl (fun ls hl => ?_)
    refine lv_aload_n hx hb d_L_law_739 rfl (lv_at hl 4 rfl) ?_
    have hw := nw_W.as (wn' := mW ad' tC (va_up n 4 (n 4 + 1)) (va_up (va_up J 0 (nI 0)) 3 (nI 0)) bw2 L (obX ad' tC (va_up n 4 (n 4 + 1)) (adI I 4 8 (n 4) (v4 (xs (1 + 6 * i + 1)) (xs (1 + 6 * i + 2)) (xs (1 + 6 * i + 3)) (xs (1 + 6 * i + 4)) (xs (1 + 6 * i + 5)))) (va_up K 0 (nI 0)) bw LA (bE tC (vp_updL o 0 ((nI (n 4)).toInt64)))) (arX tC (va_up n 4 (n 4 + 1)) aE0) (upR (upR (upR (upR (upR (upR (upR S 0 0 (flR (S 0 0) (-1) 6)) 0 1 (inF ((upR S 0 0 (flR (S 0 0) (-1) 6)) 0 1) (n 4) d)) 5 8 (upd ((upR (upR S 0 0 (flR (S 0 0) (-1) 6)) 0 1 (inF ((upR S 0 0 (flR (S 0 0) (-1) 6)) 0 1) (n 4) d)) 5 8) (n 4) (xs (1 + 6 * i + 1)))) 5 9 (upd ((upR (upR (upR S 0 0 (flR (S 0 0) (-1) 6)) 0 1 (inF ((upR S 0 0 (flR (S 0 0) (-1) 6)) 0 1) (n 4) d)) 5 8 (upd ((upR (upR S 0 0 (flR (S 0 0) (-1) 6)) 0 1 (inF ((upR S 0 0 (flR (S 0 0) (-1) 6)) 0 1) (n 4) d)) 5 8) (n 4) (xs (1 + 6 * i + 1)))) 5 9) (n 4) (xs (1 + 6 * i + 2)))) 5 10 (upd ((upR (upR (upR (upR S 0 0 (flR (S 0 0) (-1) 6)) 0 1 (inF ((upR S 0 0 (flR (S 0 0) (-1) 6)) 0 1) (n 4) d)) 5 8 (upd ((upR (upR S 0 0 (flR (S 0 0) (-1) 6)) 0 1 (inF ((upR S 0 0 (flR (S 0 0) (-1) 6)) 0 1) (n 4) d)) 5 8) (n 4) (xs (1 + 6 * i + 1)))) 5 9 (upd ((upR (upR (upR S 0 0 (flR (S 0 0) (-1) 6)) 0 1 (inF ((upR S 0 0 (flR (S 0 0) (-1) 6)) 0 1) (n 4) d)) 5 8 (upd ((upR (upR S 0 0 (flR (S 0 0) (-1) 6)) 0 1 (inF ((upR S 0 0 (flR (S 0 0) (-1) 6)) 0 1) (n 4) d)) 5 8) (n 4) (xs (1 + 6 * i + 1)))) 5 9) (n 4) (xs (1 + 6 * i + 2)))) 5 10) (n 4) (xs (1 + 6 * i + 3)))) 5 11 (upd ((upR (upR (upR (upR (upR S 0 0 (flR (S 0 0) (-1) 6)) 0 1 (inF ((upR S 0 0 (flR (S 0 0) (-1) 6)) 0 1) (n 4) d)) 5 8 (upd ((upR (upR S 0 0 (flR (S 0 0) (-1) 6)) 0 1 (inF ((upR S 0 0 (flR (S 0 0) (-1) 6)) 0 1) (n 4) d)) 5 8) (n 4) (xs (1 + 6 * i + 1)))) 5 9 (upd ((upR (upR (upR S 0 0 (flR (S 0 0) (-1) 6)) 0 1 (inF ((upR S 0 0 (flR (S 0 0) (-1) 6)) 0 1) (n 4) d)) 5 8 (upd ((upR (upR S 0 0 (flR (S 0 0) (-1) 6)) 0 1 (inF ((upR S 0 0 (flR (S 0 0) (-1) 6)) 0 1) (n 4) d)) 5 8) (n 4) (xs (1 + 6 * i + 1)))) 5 9) (n 4) (xs (1 + 6 * i + 2)))) 5 10 (upd ((upR (upR (upR (upR S 0 0 (flR (S 0 0) (-1) 6)) 0 1 (inF ((upR S 0 0 (flR (S 0 0) (-1) 6)) 0 1) (n 4) d)) 5 8 (upd ((upR (upR S 0 0 (flR (S 0 0) (-1) 6)) 0 1 (inF ((upR S 0 0 (flR (S 0 0) (-1) 6)) 0 1) (n 4) d)) 5 8) (n 4) (xs (1 + 6 * i + 1)))) 5 9 (upd ((upR (upR (upR S 0 0 (flR (S 0 0) (-1) 6)) 0 1 (inF ((upR S 0 0 (flR (S 0 0) (-1) 6)) 0 1) (n 4) d)) 5 8 (upd ((upR (upR S 0 0 (flR (S 0 0) (-1) 6)) 0 1 (inF ((upR S 0 0 (flR (S 0 0) (-1) 6)) 0 1) (n 4) d)) 5 8) (n 4) (xs (1 + 6 * i + 1)))) 5 9) (n 4) (xs (1 + 6 * i + 2)))) 5 10) (n 4) (xs (1 + 6 * i + 3)))) 5 11) (n 4) (xs (1 + 6 * i + 4)))) 5 12 (upd ((upR (upR (upR (upR (upR (upR S 0 0 (flR (S 0 0) (-1) 6)) 0 1 (inF ((upR S 0 0 (flR (S 0 0) (-1) 6)) 0 1) (n 4) d)) 5 8 (upd ((upR (upR S 0 0 (flR (S 0 0) (-1) 6)) 0 1 (inF ((upR S 0 0 (flR (S 0 0) (-1) 6)) 0 1) (n 4) d)) 5 8) (n 4) (xs (1 + 6 * i + 1)))) 5 9 (upd ((upR (upR (upR S 0 0 (flR (S 0 0) (-1) 6)) 0 1 (inF ((upR S 0 0 (flR (S 0 0) (-1) 6)) 0 1) (n 4) d)) 5 8 (upd ((upR (upR S 0 0 (flR (S 0 0) (-1) 6)) 0 1 (inF ((upR S 0 0 (flR (S 0 0) (-1) 6)) 0 1) (n 4) d)) 5 8) (n 4) (xs (1 + 6 * i + 1)))) 5 9) (n 4) (xs (1 + 6 * i + 2)))) 5 10 (upd ((upR (upR (upR (upR S 0 0 (flR (S 0 0) (-1) 6)) 0 1 (inF ((upR S 0 0 (flR (S 0 0) (-1) 6)) 0 1) (n 4) d)) 5 8 (upd ((upR (upR S 0 0 (flR (S 0 0) (-1) 6)) 0 1 (inF ((upR S 0 0 (flR (S 0 0) (-1) 6)) 0 1) (n 4) d)) 5 8) (n 4) (xs (1 + 6 * i + 1)))) 5 9 (upd ((upR (upR (upR S 0 0 (flR (S 0 0) (-1) 6)) 0 1 (inF ((upR S 0 0 (flR (S 0 0) (-1) 6)) 0 1) (n 4) d)) 5 8 (upd ((upR (upR S 0 0 (flR (S 0 0) (-1) 6)) 0 1 (inF ((upR S 0 0 (flR (S 0 0) (-1) 6)) 0 1) (n 4) d)) 5 8) (n 4) (xs (1 + 6 * i + 1)))) 5 9) (n 4) (xs (1 + 6 * i + 2)))) 5 10) (n 4) (xs (1 + 6 * i + 3)))) 5 11 (upd ((upR (upR (upR (upR (upR S 0 0 (flR (S 0 0) (-1) 6)) 0 1 (inF ((upR S 0 0 (flR (S 0 0) (-1) 6)) 0 1) (n 4) d)) 5 8 (upd ((upR (upR S 0 0 (flR (S 0 0) (-1) 6)) 0 1 (inF ((upR S 0 0 (flR (S 0 0) (-1) 6)) 0 1) (n 4) d)) 5 8) (n 4) (xs (1 + 6 * i + 1)))) 5 9 (upd ((upR (upR (upR S 0 0 (flR (S 0 0) (-1) 6)) 0 1 (inF ((upR S 0 0 (flR (S 0 0) (-1) 6)) 0 1) (n 4) d)) 5 8 (upd ((upR (upR S 0 0 (flR (S 0 0) (-1) 6)) 0 1 (inF ((upR S 0 0 (flR (S 0 0) (-1) 6)) 0 1) (n 4) d)) 5 8) (n 4) (xs (1 + 6 * i + 1)))) 5 9) (n 4) (xs (1 + 6 * i + 2)))) 5 10 (upd ((upR (upR (upR (upR S 0 0 (flR (S 0 0) (-1) 6)) 0 1 (inF ((upR S 0 0 (flR (S 0 0) (-1) 6)) 0 1) (n 4) d)) 5 8 (upd ((upR (upR S 0 0 (flR (S 0 0) (-1) 6)) 0 1 (inF ((upR S 0 0 (flR (S 0 0) (-1) 6)) 0 1) (n 4) d)) 5 8) (n 4) (xs (1 + 6 * i + 1)))) 5 9 (upd ((upR (upR (upR S 0 0 (flR (S 0 0) (-1) 6)) 0 1 (inF ((upR S 0 0 (flR (S 0 0) (-1) 6)) 0 1) (n 4) d)) 5 8 (upd ((upR (upR S 0 0 (flR (S 0 0) (-1) 6)) 0 1 (inF ((upR S 0 0 (flR (S 0 0) (-1) 6)) 0 1) (n 4) d)) 5 8) (n 4) (xs (1 + 6 * i + 1)))) 5 9) (n 4) (xs (1 + 6 * i + 2)))) 5 10) (n 4) (xs (1 + 6 * i + 3)))) 5 11) (n 4) (xs (1 + 6 * i + 4)))) 5 12) (n 4) (xs (1 + 6 * i + 5))))) hw cW_m.symm
    refine nw_call (nw_goV (n := 0) (As := []) (rest := []) hSx hA hKs hw hS (c_M_thrown l D tC A ad' (va_up n 4 (n 4 + 1)) (va_up (va_up J 0 (nI 0)) 3 (nI 0)) bw2 L (obX ad' tC (va_up n 4 (n 4 + 1)) (adI I 4 8 (n 4) (v4 (xs (1 + 6 * i + 1)) (xs (1 + 6 * i + 2)) (xs (1 + 6 * i + 3)) (xs (1 + 6 * i + 4)) (xs (1 + 6 * i + 5)))) (va_up K 0 (nI 0)) bw LA (bE tC (vp_updL o 0 ((nI (n 4)).toInt64)))) (arX tC (va_up n 4 (n 4 + 1)) aE0) (upR (upR (upR (upR (upR (upR (upR S 0 0 (flR (S 0 0) (-1) 6)) 0 1 (inF ((upR S 0 0 (flR (S 0 0) (-1) 6)) 0 1) (n 4) d)) 5 8 (upd ((upR (upR S 0 0 (flR (S 0 0) (-1) 6)) 0 1 (inF ((upR S 0 0 (flR (S 0 0) (-1) 6)) 0 1) (n 4) d)) 5 8) (n 4) (xs (1 + 6 * i + 1)))) 5 9 (upd ((upR (upR (upR S 0 0 (flR (S 0 0) (-1) 6)) 0 1 (inF ((upR S 0 0 (flR (S 0 0) (-1) 6)) 0 1) (n 4) d)) 5 8 (upd ((upR (upR S 0 0 (flR (S 0 0) (-1) 6)) 0 1 (inF ((upR S 0 0 (flR (S 0 0) (-1) 6)) 0 1) (n 4) d)) 5 8) (n 4) (xs (1 + 6 * i + 1)))) 5 9) (n 4) (xs (1 + 6 * i + 2)))) 5 10 (upd ((upR (upR (upR (upR S 0 0 (flR (S 0 0) (-1) 6)) 0 1 (inF ((upR S 0 0 (flR (S 0 0) (-1) 6)) 0 1) (n 4) d)) 5 8 (upd ((upR (upR S 0 0 (flR (S 0 0) (-1) 6)) 0 1 (inF ((upR S 0 0 (flR (S 0 0) (-1) 6)) 0 1) (n 4) d)) 5 8) (n 4) (xs (1 + 6 * i + 1)))) 5 9 (upd ((upR (upR (upR S 0 0 (flR (S 0 0) (-1) 6)) 0 1 (inF ((upR S 0 0 (flR (S 0 0) (-1) 6)) 0 1) (n 4) d)) 5 8 (upd ((upR (upR S 0 0 (flR (S 0 0) (-1) 6)) 0 1 (inF ((upR S 0 0 (flR (S 0 0) (-1) 6)) 0 1) (n 4) d)) 5 8) (n 4) (xs (1 + 6 * i + 1)))) 5 9) (n 4) (xs (1 + 6 * i + 2)))) 5 10) (n 4) (xs (1 + 6 * i + 3)))) 5 11 (upd ((upR (upR (upR (upR (upR S 0 0 (flR (S 0 0) (-1) 6)) 0 1 (inF ((upR S 0 0 (flR (S 0 0) (-1) 6)) 0 1) (n 4) d)) 5 8 (upd ((upR (upR S 0 0 (flR (S 0 0) (-1) 6)) 0 1 (inF ((upR S 0 0 (flR (S 0 0) (-1) 6)) 0 1) (n 4) d)) 5 8) (n 4) (xs (1 + 6 * i + 1)))) 5 9 (upd ((upR (upR (upR S 0 0 (flR (S 0 0) (-1) 6)) 0 1 (inF ((upR S 0 0 (flR (S 0 0) (-1) 6)) 0 1) (n 4) d)) 5 8 (upd ((upR (upR S 0 0 (flR (S 0 0) (-1) 6)) 0 1 (inF ((upR S 0 0 (flR (S 0 0) (-1) 6)) 0 1) (n 4) d)) 5 8) (n 4) (xs (1 + 6 * i + 1)))) 5 9) (n 4) (xs (1 + 6 * i + 2)))) 5 10 (upd ((upR (upR (upR (upR S 0 0 (flR (S 0 0) (-1) 6)) 0 1 (inF ((upR S 0 0 (flR (S 0 0) (-1) 6)) 0 1) (n 4) d)) 5 8 (upd ((upR (upR S 0 0 (flR (S 0 0) (-1) 6)) 0 1 (inF ((upR S 0 0 (flR (S 0 0) (-1) 6)) 0 1) (n 4) d)) 5 8) (n 4) (xs (1 + 6 * i + 1)))) 5 9 (upd ((upR (upR (upR S 0 0 (flR (S 0 0) (-1) 6)) 0 1 (inF ((upR S 0 0 (flR (S 0 0) (-1) 6)) 0 1) (n 4) d)) 5 8 (upd ((upR (upR S 0 0 (flR (S 0 0) (-1) 6)) 0 1 (inF ((upR S 0 0 (flR (S 0 0) (-1) 6)) 0 1) (n 4) d)) 5 8) (n 4) (xs (1 + 6 * i + 1)))) 5 9) (n 4) (xs (1 + 6 * i + 2)))) 5 10) (n 4) (xs (1 + 6 * i + 3)))) 5 11) (n 4) (xs (1 + 6 * i + 4)))) 5 12 (upd ((upR (upR (upR (upR (upR (upR S 0 0 (flR (S 0 0) (-1) 6)) 0 1 (inF ((upR S 0 0 (flR (S 0 0) (-1) 6)) 0 1) (n 4) d)) 5 8 (upd ((upR (upR S 0 0 (flR (S 0 0) (-1) 6)) 0 1 (inF ((upR S 0 0 (flR (S 0 0) (-1) 6)) 0 1) (n 4) d)) 5 8) (n 4) (xs (1 + 6 * i + 1)))) 5 9 (upd ((upR (upR (upR S 0 0 (flR (S 0 0) (-1) 6)) 0 1 (inF ((upR S 0 0 (flR (S 0 0) (-1) 6)) 0 1) (n 4) d)) 5 8 (upd ((upR (upR S 0 0 (flR (S 0 0) (-1) 6)) 0 1 (inF ((upR S 0 0 (flR (S 0 0) (-1) 6)) 0 1) (n 4) d)) 5 8) (n 4) (xs (1 + 6 * i + 1)))) 5 9) (n 4) (xs (1 + 6 * i + 2)))) 5 10 (upd ((upR (upR (upR (upR S 0 0 (flR (S 0 0) (-1) 6)) 0 1 (inF ((upR S 0 0 (flR (S 0 0) (-1) 6)) 0 1) (n 4) d)) 5 8 (upd ((upR (upR S 0 0 (flR (S 0 0) (-1) 6)) 0 1 (inF ((upR S 0 0 (flR (S 0 0) (-1) 6)) 0 1) (n 4) d)) 5 8) (n 4) (xs (1 + 6 * i + 1)))) 5 9 (upd ((upR (upR (upR S 0 0 (flR (S 0 0) (-1) 6)) 0 1 (inF ((upR S 0 0 (flR (S 0 0) (-1) 6)) 0 1) (n 4) d)) 5 8 (upd ((upR (upR S 0 0 (flR (S 0 0) (-1) 6)) 0 1 (inF ((upR S 0 0 (flR (S 0 0) (-1) 6)) 0 1) (n 4) d)) 5 8) (n 4) (xs (1 + 6 * i + 1)))) 5 9) (n 4) (xs (1 + 6 * i + 2)))) 5 10) (n 4) (xs (1 + 6 * i + 3)))) 5 11 (upd ((upR (upR (upR (upR (upR S 0 0 (flR (S 0 0) (-1) 6)) 0 1 (inF ((upR S 0 0 (flR (S 0 0) (-1) 6)) 0 1) (n 4) d)) 5 8 (upd ((upR (upR S 0 0 (flR (S 0 0) (-1) 6)) 0 1 (inF ((upR S 0 0 (flR (S 0 0) (-1) 6)) 0 1) (n 4) d)) 5 8) (n 4) (xs (1 + 6 * i + 1)))) 5 9 (upd ((upR (upR (upR S 0 0 (flR (S 0 0) (-1) 6)) 0 1 (inF ((upR S 0 0 (flR (S 0 0) (-1) 6)) 0 1) (n 4) d)) 5 8 (upd ((upR (upR S 0 0 (flR (S 0 0) (-1) 6)) 0 1 (inF ((upR S 0 0 (flR (S 0 0) (-1) 6)) 0 1) (n 4) d)) 5 8) (n 4) (xs (1 + 6 * i + 1)))) 5 9) (n 4) (xs (1 + 6 * i + 2)))) 5 10 (upd ((upR (upR (upR (upR S 0 0 (flR (S 0 0) (-1) 6)) 0 1 (inF ((upR S 0 0 (flR (S 0 0) (-1) 6)) 0 1) (n 4) d)) 5 8 (upd ((upR (upR S 0 0 (flR (S 0 0) (-1) 6)) 0 1 (inF ((upR S 0 0 (flR (S 0 0) (-1) 6)) 0 1) (n 4) d)) 5 8) (n 4) (xs (1 + 6 * i + 1)))) 5 9 (upd ((upR (upR (upR S 0 0 (flR (S 0 0) (-1) 6)) 0 1 (inF ((upR S 0 0 (flR (S 0 0) (-1) 6)) 0 1) (n 4) d)) 5 8 (upd ((upR (upR S 0 0 (flR (S 0 0) (-1) 6)) 0 1 (inF ((upR S 0 0 (flR (S 0 0) (-1) 6)) 0 1) (n 4) d)) 5 8) (n 4) (xs (1 + 6 * i + 1)))) 5 9) (n 4) (xs (1 + 6 * i + 2)))) 5 10) (n 4) (xs (1 + 6 * i + 3)))) 5 11) (n 4) (xs (1 + 6 * i + 4)))) 5 12) (n 4) (xs (1 + 6 * i + 5)))) hN2  ) kw_762 kw_759 kw_760 kw_761 kw_8 rfl rfl (by decide +kernel) ⟨Nat.le_of_ble_eq_true rfl, Nat.le_of_ble_eq_true rfl⟩ (nw_recv hK hw (mW_64) rfl) rfl hl.1 (Nat.le_of_ble_eq_true rfl) d_L_law_740 ⟨by show _ ≤ 669896; omega, by show _ ≤ 7086383; omega⟩) hS (fun rv wn' ad9 H locs hpost hw hS => ?_)
    obtain ⟨hv9, hwn9, had9⟩ := hpost
    subst hv9
    rw [hwn9, had9] at hw
    have hw := nw_W.as (wn' := cW ad' tC (va_up n 4 (n 4 + 1)) (adI I 4 8 (n 4) (v4 (xs (1 + 6 * i + 1)) (xs (1 + 6 * i + 2)) (xs (1 + 6 * i + 3)) (xs (1 + 6 * i + 4)) (xs (1 + 6 * i + 5)))) (va_up K 0 (nI 0)) bw LA (va_up n 4 (n 4 + 1)) (va_up (va_up J 0 (nI 0)) 3 (nI 0)) bw2 L (vp_updL o 0 ((nI (n 4)).toInt64)) (upR (upR (upR (upR (upR (upR (upR S 0 0 (flR (S 0 0) (-1) 6)) 0 1 (inF ((upR S 0 0 (flR (S 0 0) (-1) 6)) 0 1) (n 4) d)) 5 8 (upd ((upR (upR S 0 0 (flR (S 0 0) (-1) 6)) 0 1 (inF ((upR S 0 0 (flR (S 0 0) (-1) 6)) 0 1) (n 4) d)) 5 8) (n 4) (xs (1 + 6 * i + 1)))) 5 9 (upd ((upR (upR (upR S 0 0 (flR (S 0 0) (-1) 6)) 0 1 (inF ((upR S 0 0 (flR (S 0 0) (-1) 6)) 0 1) (n 4) d)) 5 8 (upd ((upR (upR S 0 0 (flR (S 0 0) (-1) 6)) 0 1 (inF ((upR S 0 0 (flR (S 0 0) (-1) 6)) 0 1) (n 4) d)) 5 8) (n 4) (xs (1 + 6 * i + 1)))) 5 9) (n 4) (xs (1 + 6 * i + 2)))) 5 10 (upd ((upR (upR (upR (upR S 0 0 (flR (S 0 0) (-1) 6)) 0 1 (inF ((upR S 0 0 (flR (S 0 0) (-1) 6)) 0 1) (n 4) d)) 5 8 (upd ((upR (upR S 0 0 (flR (S 0 0) (-1) 6)) 0 1 (inF ((upR S 0 0 (flR (S 0 0) (-1) 6)) 0 1) (n 4) d)) 5 8) (n 4) (xs (1 + 6 * i + 1)))) 5 9 (upd ((upR (upR (upR S 0 0 (flR (S 0 0) (-1) 6)) 0 1 (inF ((upR S 0 0 (flR (S 0 0) (-1) 6)) 0 1) (n 4) d)) 5 8 (upd ((upR (upR S 0 0 (flR (S 0 0) (-1) 6)) 0 1 (inF ((upR S 0 0 (flR (S 0 0) (-1) 6)) 0 1) (n 4) d)) 5 8) (n 4) (xs (1 + 6 * i + 1)))) 5 9) (n 4) (xs (1 + 6 * i + 2)))) 5 10) (n 4) (xs (1 + 6 * i + 3)))) 5 11 (upd ((upR (upR (upR (upR (upR S 0 0 (flR (S 0 0) (-1) 6)) 0 1 (inF ((upR S 0 0 (flR (S 0 0) (-1) 6)) 0 1) (n 4) d)) 5 8 (upd ((upR (upR S 0 0 (flR (S 0 0) (-1) 6)) 0 1 (inF ((upR S 0 0 (flR (S 0 0) (-1) 6)) 0 1) (n 4) d)) 5 8) (n 4) (xs (1 + 6 * i + 1)))) 5 9 (upd ((upR (upR (upR S 0 0 (flR (S 0 0) (-1) 6)) 0 1 (inF ((upR S 0 0 (flR (S 0 0) (-1) 6)) 0 1) (n 4) d)) 5 8 (upd ((upR (upR S 0 0 (flR (S 0 0) (-1) 6)) 0 1 (inF ((upR S 0 0 (flR (S 0 0) (-1) 6)) 0 1) (n 4) d)) 5 8) (n 4) (xs (1 + 6 * i + 1)))) 5 9) (n 4) (xs (1 + 6 * i + 2)))) 5 10 (upd ((upR (upR (upR (upR S 0 0 (flR (S 0 0) (-1) 6)) 0 1 (inF ((upR S 0 0 (flR (S 0 0) (-1) 6)) 0 1) (n 4) d)) 5 8 (upd ((upR (upR S 0 0 (flR (S 0 0) (-1) 6)) 0 1 (inF ((upR S 0 0 (flR (S 0 0) (-1) 6)) 0 1) (n 4) d)) 5 8) (n 4) (xs (1 + 6 * i + 1)))) 5 9 (upd ((upR (upR (upR S 0 0 (flR (S 0 0) (-1) 6)) 0 1 (inF ((upR S 0 0 (flR (S 0 0) (-1) 6)) 0 1) (n 4) d)) 5 8 (upd ((upR (upR S 0 0 (flR (S 0 0) (-1) 6)) 0 1 (inF ((upR S 0 0 (flR (S 0 0) (-1) 6)) 0 1) (n 4) d)) 5 8) (n 4) (xs (1 + 6 * i + 1)))) 5 9) (n 4) (xs (1 + 6 * i + 2)))) 5 10) (n 4) (xs (1 + 6 * i + 3)))) 5 11) (n 4) (xs (1 + 6 * i + 4)))) 5 12 (upd ((upR (upR (upR (upR (upR (upR S 0 0 (flR (S 0 0) (-1) 6)) 0 1 (inF ((upR S 0 0 (flR (S 0 0) (-1) 6)) 0 1) (n 4) d)) 5 8 (upd ((upR (upR S 0 0 (flR (S 0 0) (-1) 6)) 0 1 (inF ((upR S 0 0 (flR (S 0 0) (-1) 6)) 0 1) (n 4) d)) 5 8) (n 4) (xs (1 + 6 * i + 1)))) 5 9 (upd ((upR (upR (upR S 0 0 (flR (S 0 0) (-1) 6)) 0 1 (inF ((upR S 0 0 (flR (S 0 0) (-1) 6)) 0 1) (n 4) d)) 5 8 (upd ((upR (upR S 0 0 (flR (S 0 0) (-1) 6)) 0 1 (inF ((upR S 0 0 (flR (S 0 0) (-1) 6)) 0 1) (n 4) d)) 5 8) (n 4) (xs (1 + 6 * i + 1)))) 5 9) (n 4) (xs (1 + 6 * i + 2)))) 5 10 (upd ((upR (upR (upR (upR S 0 0 (flR (S 0 0) (-1) 6)) 0 1 (inF ((upR S 0 0 (flR (S 0 0) (-1) 6)) 0 1) (n 4) d)) 5 8 (upd ((upR (upR S 0 0 (flR (S 0 0) (-1) 6)) 0 1 (inF ((upR S 0 0 (flR (S 0 0) (-1) 6)) 0 1) (n 4) d)) 5 8) (n 4) (xs (1 + 6 * i + 1)))) 5 9 (upd ((upR (upR (upR S 0 0 (flR (S 0 0) (-1) 6)) 0 1 (inF ((upR S 0 0 (flR (S 0 0) (-1) 6)) 0 1) (n 4) d)) 5 8 (upd ((upR (upR S 0 0 (flR (S 0 0) (-1) 6)) 0 1 (inF ((upR S 0 0 (flR (S 0 0) (-1) 6)) 0 1) (n 4) d)) 5 8) (n 4) (xs (1 + 6 * i + 1)))) 5 9) (n 4) (xs (1 + 6 * i + 2)))) 5 10) (n 4) (xs (1 + 6 * i + 3)))) 5 11 (upd ((upR (upR (upR (upR (upR S 0 0 (flR (S 0 0) (-1) 6)) 0 1 (inF ((upR S 0 0 (flR (S 0 0) (-1) 6)) 0 1) (n 4) d)) 5 8 (upd ((upR (upR S 0 0 (flR (S 0 0) (-1) 6)) 0 1 (inF ((upR S 0 0 (flR (S 0 0) (-1) 6)) 0 1) (n 4) d)) 5 8) (n 4) (xs (1 + 6 * i + 1)))) 5 9 (upd ((upR (upR (upR S 0 0 (flR (S 0 0) (-1) 6)) 0 1 (inF ((upR S 0 0 (flR (S 0 0) (-1) 6)) 0 1) (n 4) d)) 5 8 (upd ((upR (upR S 0 0 (flR (S 0 0) (-1) 6)) 0 1 (inF ((upR S 0 0 (flR (S 0 0) (-1) 6)) 0 1) (n 4) d)) 5 8) (n 4) (xs (1 + 6 * i + 1)))) 5 9) (n 4) (xs (1 + 6 * i + 2)))) 5 10 (upd ((upR (upR (upR (upR S 0 0 (flR (S 0 0) (-1) 6)) 0 1 (inF ((upR S 0 0 (flR (S 0 0) (-1) 6)) 0 1) (n 4) d)) 5 8 (upd ((upR (upR S 0 0 (flR (S 0 0) (-1) 6)) 0 1 (inF ((upR S 0 0 (flR (S 0 0) (-1) 6)) 0 1) (n 4) d)) 5 8) (n 4) (xs (1 + 6 * i + 1)))) 5 9 (upd ((upR (upR (upR S 0 0 (flR (S 0 0) (-1) 6)) 0 1 (inF ((upR S 0 0 (flR (S 0 0) (-1) 6)) 0 1) (n 4) d)) 5 8 (upd ((upR (upR S 0 0 (flR (S 0 0) (-1) 6)) 0 1 (inF ((upR S 0 0 (flR (S 0 0) (-1) 6)) 0 1) (n 4) d)) 5 8) (n 4) (xs (1 + 6 * i + 1)))) 5 9) (n 4) (xs (1 + 6 * i + 2)))) 5 10) (n 4) (xs (1 + 6 * i + 3)))) 5 11) (n 4) (xs (1 + 6 * i + 4)))) 5 12) (n 4) (xs (1 + 6 * i + 5))))) hw cW_m
    refine lv_ei (y := nI 0) rfl ?_
    refine lv_iload hx hb d_L_law_743 (lv_at hl 1 rfl) ?_
    refine lv_icmp_eq (tgt := 750) hx hb d_L_law_745 (by decide) (fun c_745 => ?_) (fun c_745 => ?_)
    · skip
      refine lv_iload hx hb d_L_law_750 (lv_at hl 1 rfl) ?_
      refine lv_if_ne (tgt := 767) hx hb d_L_law_752 (by decide) (fun c_752 => ?_) (fun c_752 => ?_)
      · skip
        first | exact absurd c_752 (by decide) | exact absurd (by decide) c_752
      · skip
        refine lv_aload_n hx hb d_L_law_755 rfl (lv_at hl 5 rfl) ?_
        refine lv_iconst (v := nI 0) hx hb d_L_law_756 (by decide) ?_
        refine nw_lald hx hb hK hw (69) 1 (cW_69) rfl (0) (rfl) (by omega) (by omega) d_L_law_757 ?_
        refine lv_iload hx hb d_L_law_758 (lv_at hl 0 rfl) ?_
        refine lv_i2l (v := ((nI (n 4)).toInt64)) hx hb d_L_law_760 rfl ?_
        refine lv_el (y := ((vp_updL o 0 ((nI (n 4)).toInt64)) (0))) (rfl) ?_
        refine W.lcmp hx hb d_L_law_761 ?_
        refine lv_ei (y := nI 0) ((lg_cmp_eq _ _).mpr rfl) ?_
        refine lv_if_eq (tgt := 767) hx hb d_L_law_762 (by decide) (fun c_762 => ?_) (fun c_762 => ?_)
        · skip
          refine lv_goto (tgt := 1168) hx hb d_L_law_767 (by decide) ?_
          exact W.widen (by omega) (by omega) (hNext ad' (va_up n 4 (n 4 + 1)) (adI I 4 8 (n 4) (v4 (xs (1 + 6 * i + 1)) (xs (1 + 6 * i + 2)) (xs (1 + 6 * i + 3)) (xs (1 + 6 * i + 4)) (xs (1 + 6 * i + 5)))) (va_up K 0 (nI 0)) bw LA (va_up (va_up J 0 (nI 0)) 3 (nI 0)) bw2 L (vp_updL o 0 ((nI (n 4)).toInt64)) (upR (upR (upR (upR (upR (upR (upR S 0 0 (flR (S 0 0) (-1) 6)) 0 1 (inF ((upR S 0 0 (flR (S 0 0) (-1) 6)) 0 1) (n 4) d)) 5 8 (upd ((upR (upR S 0 0 (flR (S 0 0) (-1) 6)) 0 1 (inF ((upR S 0 0 (flR (S 0 0) (-1) 6)) 0 1) (n 4) d)) 5 8) (n 4) (xs (1 + 6 * i + 1)))) 5 9 (upd ((upR (upR (upR S 0 0 (flR (S 0 0) (-1) 6)) 0 1 (inF ((upR S 0 0 (flR (S 0 0) (-1) 6)) 0 1) (n 4) d)) 5 8 (upd ((upR (upR S 0 0 (flR (S 0 0) (-1) 6)) 0 1 (inF ((upR S 0 0 (flR (S 0 0) (-1) 6)) 0 1) (n 4) d)) 5 8) (n 4) (xs (1 + 6 * i + 1)))) 5 9) (n 4) (xs (1 + 6 * i + 2)))) 5 10 (upd ((upR (upR (upR (upR S 0 0 (flR (S 0 0) (-1) 6)) 0 1 (inF ((upR S 0 0 (flR (S 0 0) (-1) 6)) 0 1) (n 4) d)) 5 8 (upd ((upR (upR S 0 0 (flR (S 0 0) (-1) 6)) 0 1 (inF ((upR S 0 0 (flR (S 0 0) (-1) 6)) 0 1) (n 4) d)) 5 8) (n 4) (xs (1 + 6 * i + 1)))) 5 9 (upd ((upR (upR (upR S 0 0 (flR (S 0 0) (-1) 6)) 0 1 (inF ((upR S 0 0 (flR (S 0 0) (-1) 6)) 0 1) (n 4) d)) 5 8 (upd ((upR (upR S 0 0 (flR (S 0 0) (-1) 6)) 0 1 (inF ((upR S 0 0 (flR (S 0 0) (-1) 6)) 0 1) (n 4) d)) 5 8) (n 4) (xs (1 + 6 * i + 1)))) 5 9) (n 4) (xs (1 + 6 * i + 2)))) 5 10) (n 4) (xs (1 + 6 * i + 3)))) 5 11 (upd ((upR (upR (upR (upR (upR S 0 0 (flR (S 0 0) (-1) 6)) 0 1 (inF ((upR S 0 0 (flR (S 0 0) (-1) 6)) 0 1) (n 4) d)) 5 8 (upd ((upR (upR S 0 0 (flR (S 0 0) (-1) 6)) 0 1 (inF ((upR S 0 0 (flR (S 0 0) (-1) 6)) 0 1) (n 4) d)) 5 8) (n 4) (xs (1 + 6 * i + 1)))) 5 9 (upd ((upR (upR (upR S 0 0 (flR (S 0 0) (-1) 6)) 0 1 (inF ((upR S 0 0 (flR (S 0 0) (-1) 6)) 0 1) (n 4) d)) 5 8 (upd ((upR (upR S 0 0 (flR (S 0 0) (-1) 6)) 0 1 (inF ((upR S 0 0 (flR (S 0 0) (-1) 6)) 0 1) (n 4) d)) 5 8) (n 4) (xs (1 + 6 * i + 1)))) 5 9) (n 4) (xs (1 + 6 * i + 2)))) 5 10 (upd ((upR (upR (upR (upR S 0 0 (flR (S 0 0) (-1) 6)) 0 1 (inF ((upR S 0 0 (flR (S 0 0) (-1) 6)) 0 1) (n 4) d)) 5 8 (upd ((upR (upR S 0 0 (flR (S 0 0) (-1) 6)) 0 1 (inF ((upR S 0 0 (flR (S 0 0) (-1) 6)) 0 1) (n 4) d)) 5 8) (n 4) (xs (1 + 6 * i + 1)))) 5 9 (upd ((upR (upR (upR S 0 0 (flR (S 0 0) (-1) 6)) 0 1 (inF ((upR S 0 0 (flR (S 0 0) (-1) 6)) 0 1) (n 4) d)) 5 8 (upd ((upR (upR S 0 0 (flR (S 0 0) (-1) 6)) 0 1 (inF ((upR S 0 0 (flR (S 0 0) (-1) 6)) 0 1) (n 4) d)) 5 8) (n 4) (xs (1 + 6 * i + 1)))) 5 9) (n 4) (xs (1 + 6 * i + 2)))) 5 10) (n 4) (xs (1 + 6 * i + 3)))) 5 11) (n 4) (xs (1 + 6 * i + 4)))) 5 12 (upd ((upR (upR (upR (upR (upR (upR S 0 0 (flR (S 0 0) (-1) 6)) 0 1 (inF ((upR S 0 0 (flR (S 0 0) (-1) 6)) 0 1) (n 4) d)) 5 8 (upd ((upR (upR S 0 0 (flR (S 0 0) (-1) 6)) 0 1 (inF ((upR S 0 0 (flR (S 0 0) (-1) 6)) 0 1) (n 4) d)) 5 8) (n 4) (xs (1 + 6 * i + 1)))) 5 9 (upd ((upR (upR (upR S 0 0 (flR (S 0 0) (-1) 6)) 0 1 (inF ((upR S 0 0 (flR (S 0 0) (-1) 6)) 0 1) (n 4) d)) 5 8 (upd ((upR (upR S 0 0 (flR (S 0 0) (-1) 6)) 0 1 (inF ((upR S 0 0 (flR (S 0 0) (-1) 6)) 0 1) (n 4) d)) 5 8) (n 4) (xs (1 + 6 * i + 1)))) 5 9) (n 4) (xs (1 + 6 * i + 2)))) 5 10 (upd ((upR (upR (upR (upR S 0 0 (flR (S 0 0) (-1) 6)) 0 1 (inF ((upR S 0 0 (flR (S 0 0) (-1) 6)) 0 1) (n 4) d)) 5 8 (upd ((upR (upR S 0 0 (flR (S 0 0) (-1) 6)) 0 1 (inF ((upR S 0 0 (flR (S 0 0) (-1) 6)) 0 1) (n 4) d)) 5 8) (n 4) (xs (1 + 6 * i + 1)))) 5 9 (upd ((upR (upR (upR S 0 0 (flR (S 0 0) (-1) 6)) 0 1 (inF ((upR S 0 0 (flR (S 0 0) (-1) 6)) 0 1) (n 4) d)) 5 8 (upd ((upR (upR S 0 0 (flR (S 0 0) (-1) 6)) 0 1 (inF ((upR S 0 0 (flR (S 0 0) (-1) 6)) 0 1) (n 4) d)) 5 8) (n 4) (xs (1 + 6 * i + 1)))) 5 9) (n 4) (xs (1 + 6 * i + 2)))) 5 10) (n 4) (xs (1 + 6 * i + 3)))) 5 11 (upd ((upR (upR (upR (upR (upR S 0 0 (flR (S 0 0) (-1) 6)) 0 1 (inF ((upR S 0 0 (flR (S 0 0) (-1) 6)) 0 1) (n 4) d)) 5 8 (upd ((upR (upR S 0 0 (flR (S 0 0) (-1) 6)) 0 1 (inF ((upR S 0 0 (flR (S 0 0) (-1) 6)) 0 1) (n 4) d)) 5 8) (n 4) (xs (1 + 6 * i + 1)))) 5 9 (upd ((upR (upR (upR S 0 0 (flR (S 0 0) (-1) 6)) 0 1 (inF ((upR S 0 0 (flR (S 0 0) (-1) 6)) 0 1) (n 4) d)) 5 8 (upd ((upR (upR S 0 0 (flR (S 0 0) (-1) 6)) 0 1 (inF ((upR S 0 0 (flR (S 0 0) (-1) 6)) 0 1) (n 4) d)) 5 8) (n 4) (xs (1 + 6 * i + 1)))) 5 9) (n 4) (xs (1 + 6 * i + 2)))) 5 10 (upd ((upR (upR (upR (upR S 0 0 (flR (S 0 0) (-1) 6)) 0 1 (inF ((upR S 0 0 (flR (S 0 0) (-1) 6)) 0 1) (n 4) d)) 5 8 (upd ((upR (upR S 0 0 (flR (S 0 0) (-1) 6)) 0 1 (inF ((upR S 0 0 (flR (S 0 0) (-1) 6)) 0 1) (n 4) d)) 5 8) (n 4) (xs (1 + 6 * i + 1)))) 5 9 (upd ((upR (upR (upR S 0 0 (flR (S 0 0) (-1) 6)) 0 1 (inF ((upR S 0 0 (flR (S 0 0) (-1) 6)) 0 1) (n 4) d)) 5 8 (upd ((upR (upR S 0 0 (flR (S 0 0) (-1) 6)) 0 1 (inF ((upR S 0 0 (flR (S 0 0) (-1) 6)) 0 1) (n 4) d)) 5 8) (n 4) (xs (1 + 6 * i + 1)))) 5 9) (n 4) (xs (1 + 6 * i + 2)))) 5 10) (n 4) (xs (1 + 6 * i + 3)))) 5 11) (n 4) (xs (1 + 6 * i + 4)))) 5 12) (n 4) (xs (1 + 6 * i + 5)))) (hLR9) _ _ ls hw hS (lv_sub hl [2, 3, 4, 5, 6] rfl))
        · skip
          first | exact absurd c_762 (by decide) | exact absurd (by decide) c_762
    · skip
      exact absurd rfl c_745
