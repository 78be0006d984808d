set_option maxHeartbeats 4000000 in
set_option maxRecDepth 100000 in
/-- case 9: run -/
theorem law_9 {p : Program} {l : Launch} {e : Env} {s : State} {m : MethodId} {args : Array Value} {below : List Frame} {meth : Method} {cd : Code} {Q : State → Prop} {D : va_G} {tC : Nat → ClassId} {A : Nat → Prop} {b N : Nat} {xs : Nat → Int32} (hSx : CallFix p m cd b_L_law 8 s args nw_T "HarvestPlansLaw") (hA : ∀ q, s.heap.size ≤ q → A q) (hAs : ∀ q, A q → s.heap.size ≤ q) (hKs : nw_K D hpC (hpT tC) s) (hF : nx_F s) (hfl : l.stackTraces = false) (hX : va_X b N xs s s.heap) (hbl : b < s.heap.size) (hbA : ¬ A b) (hN3 : N ≤ 3073) {cc cs i : Nat} (hcc : cc + 12 ≤ 669896) (hcs : cs + 120 ≤ 7086383) (hi : 1 + 6 * i + 6 ≤ N) (hNext : ∀ (ad : Nat → Nat) (n : Nat → Nat) (I : Nat → Nat → Int32) (K : Nat → Int32) (bw : Int64) (LA : Nat → Int64) (J : Nat → Int32) (bw2 : Int64) (L : Nat → Nat → Int64) (o : Nat → Int64) (S : Nat → Nat → Nat → Int32), LR n I K J S → ∀ (H : Heap) (locs : List Loc) (ls : Array Slot), nw_W D hpC A (cW ad tC n I K bw LA n J bw2 L o S) ad H → va_S A s.heap H locs → lv_has ls 8 [(0, .ref (b)), (1, .ref (ad (0))), (2, .ref (ad (64))), (3, .ref (ad (69))), (4, .int (nI (1 + 6 * i)))] → W p l e room_1 s m args below meth cd H locs (cc + 12) (cs + 120) Q (F0 m 1168 ls [])) (ad : Nat → Nat) (n : Nat → Nat) (I : Nat → Nat → Int32) (K : Nat → Int32) (bw : Int64) (LA : Nat → Int64) (J : Nat → Int32) (bw2 : Int64) (L : Nat → Nat → Int64) (o : Nat → Int64) (S : Nat → Nat → Nat → Int32) (hL : LR n I K J S) (H : Heap) (locs : List Loc) (ls : Array Slot) (hw : nw_W D hpC A (cW ad tC n I K bw LA n J bw2 L o S) ad H) (hS : va_S A s.heap H locs) (hl : lv_has ls 8 [(0, .ref (b)), (1, .ref (ad (0))), (2, .ref (ad (64))), (3, .ref (ad (69))), (4, .int (nI (1 + 6 * i)))]) : W p l e room_1 s m args below meth cd H locs cc cs Q (F0 m 818 ls []) := by
  obtain ⟨hx, hb, hml, hown, hts⟩ := id hSx
  have hK := hKs.1
  have hB : nx_B s s := ⟨State.WarmedH.refl s, Nat.le_refl _, fun _ _ => rfl⟩
  obtain ⟨hm, ow, sq, hLx⟩ := id hL
  have hN : hpN n := hLx.1.1
  obtain ⟨hn0, hn0', hn1, hn2, hn3, hn4⟩ := id hN
  have hJK : J 3 = K 0 := hLx.2.2.1.1
  have hH : ∀ c, c < n 2 → I 2 c = nI (hm c) ∧ hm c < n 1 := fun c hc => ⟨hLx.2.1.1 c hc, (hLx.1.2.2.2.1 c hc).2.1⟩
  have hHm : ∀ c, c < n 2 → S 5 2 c = nI (hm c) ∧ hm c < n 1 := fun c hc => ⟨(hLx.1.2.2.2.1 c hc).1, (hLx.1.2.2.2.1 c hc).2.1⟩
  have hO : ∀ o, o < n 4 → I 4 o = nI (ow o) ∧ ow o < n 0 := fun o ho => ⟨(hLx.1.2.2.2.2.2.2.1 o ho).2.1, (hLx.1.2.2.2.2.2.2.1 o ho).2.2.1⟩
  have hSq : ∀ k, k < n 4 → S 0 1 k = nI (sq k) ∧ sq k < n 4 := fun k hk => ⟨hLx.2.1.2.1 k hk, hLx.1.2.2.2.2.2.2.2.1 k hk⟩
  have hSo : ∀ q, q < n 4 → ∃ j, j < n 4 ∧ sq j = q := hLx.1.2.2.2.2.2.2.2.2.1
  have hPl := ok_pl hLx
  obtain ⟨hz1, hz4, hz51, hz56⟩ := hLx.2.1.2.2.2
  refine lv_aload_n hx hb d_L_law_818 rfl (lv_at hl 1 rfl) ?_
  refine lv_aload_n hx hb d_L_law_819 rfl (lv_at hl 0 rfl) ?_
  refine lv_iload hx hb d_L_law_820 (lv_at hl 4 rfl) ?_
  refine lv_iconst (v := nI 1) hx hb d_L_law_822 (by decide) ?_
  refine lv_iadd hx hb d_L_law_823 ?_
  refine lv_ei (y := nI (1 + 6 * i + 1)) (nI_add _ _) ?_
  refine va_sld hx hb hX hbl hbA hS (vp_in_nI (by omega) (by omega)) d_L_law_824 ?_
  refine lv_ei (y := xs (1 + 6 * i + 1)) (by rw [nI_clamp (by omega)]) ?_
  refine lv_aload_n hx hb d_L_law_825 rfl (lv_at hl 3 rfl) ?_
  refine nx_callC (nx_goW (n := 3) (As := [.ref (ad (0)), .int (xs (1 + 6 * i + 1)), .ref (ad (69))]) (rest := []) hSx hA hKs hF hB hAs hw hS (w_run l D tC A ad n I K bw LA n J bw2 L o S hN s hF hfl hAs (xs (1 + 6 * i + 1)) hm hH ow hO sq hSq hSo) kt_524 kw_522 kw_523 kw_0 rfl rfl (by decide +kernel) ⟨Nat.le_of_ble_eq_true rfl, Nat.le_of_ble_eq_true rfl⟩ rfl hl.1 (Nat.le_of_ble_eq_true rfl) d_L_law_826 ⟨by show _ ≤ 669896; omega, by show _ ≤ 7086383; omega⟩) hS (fun X wn' ad' H locs x cell hpost hw hS hcell hst hcls T' hT X0 => (lw_po_x hpost).elim) (fun rv wn' ad' H locs hpost hw hS => ?_)
  rcases lw_po_i hpost with ⟨hv, hba, hwn, had⟩ | ⟨hv, hnba, hbs, hwn, had⟩ | ⟨hv, hnba, hnbs, hG⟩
  · skip
    subst hv
    rw [hwn, had] at hw
    refine lv_istore (lv' := [(5, .int (nI 1)), (0, .ref (b)), (1, .ref (ad (0))), (2, .ref (ad (64))), (3, .ref (ad (69))), (4, .int (nI (1 + 6 * i)))]) hx hb d_L_law_829 hl (by decide) rfl (fun ls hl => ?_)
    refine lv_aload_n hx hb d_L_law_831 rfl (lv_at hl 3 rfl) ?_
    refine lv_aload_n hx hb d_L_law_832 rfl (lv_at hl 1 rfl) ?_
    refine lv_iload hx hb d_L_law_833 (lv_at hl 5 rfl) ?_
    refine lv_iconst (v := nI 1) hx hb d_L_law_835 (by decide) ?_
    refine lv_iadd hx hb d_L_law_836 ?_
    refine lv_ei (y := nI (1 + 6 * i + 1)) (nI_add _ _) ?_
    refine va_sld hx hb hX hbl hbA hS (vp_in_nI (by omega) (by omega)) d_L_law_837 ?_
    refine lv_ei (y := xs (1 + 6 * i + 1)) (by rw [nI_clamp (by omega)]) ?_
    have hw := nw_W.as (wn' := mW ad tC n J bw2 L (obX ad tC n I K bw LA (bE tC o)) (arX tC n aE0) S) hw cW_m.symm
    refine nw_call (nw_goV (n := 1) (As := [.int (xs (1 + 6 * i + 1))]) (rest := []) hSx hA hKs hw hS (c_M_run l D tC A ad n J bw2 L (obX ad tC n I K bw LA (bE tC o)) (arX tC n aE0) S hN (xs (1 + 6 * i + 1)) hm hHm) kw_818 kw_815 kw_816 kw_817 kw_8 rfl rfl (by decide +kernel) ⟨Nat.le_of_ble_eq_true rfl, Nat.le_of_ble_eq_true rfl⟩ (nw_recv hK hw (mW_64) rfl) rfl hl.1 (Nat.le_of_ble_eq_true rfl) d_L_law_838 ⟨by show _ ≤ 669896; omega, by show _ ≤ 7086383; omega⟩) hS (fun rv wn' ad9 H locs hpost hw hS => ?_)
    obtain ⟨had9, hmo⟩ := hpost
    rw [had9] at hw
    rcases hmo with ⟨hq1, hq2, hq3⟩ | ⟨hq1, _⟩ | ⟨hq1, _⟩
    rotate_left
    · exact absurd hba hq1
    · exact absurd hba hq1
    subst hq2
    rw [hq3] at hw
    have hw := nw_W.as (wn' := cW ad tC n I K bw LA n (va_up J 0 1) bw2 L o S) hw cW_m
    refine lv_istore (lv' := [(6, .int (nI 0)), (5, .int (nI 1)), (0, .ref (b)), (1, .ref (ad (0))), (2, .ref (ad (64))), (3, .ref (ad (69))), (4, .int (nI (1 + 6 * i)))]) hx hb d_L_law_841 hl (by decide) rfl (fun ls hl => ?_)
    refine lv_aload_n hx hb d_L_law_843 rfl (lv_at hl 4 rfl) ?_
    have hw := nw_W.as (wn' := mW ad tC n (va_up J 0 1) bw2 L (obX ad tC n I K bw LA (bE tC o)) (arX tC n aE0) S) hw cW_m.symm
    refine nw_call (nw_goV (n := 0) (As := []) (rest := []) hSx hA hKs hw hS (c_M_thrown l D tC A ad n (va_up J 0 1) bw2 L (obX ad tC n I K bw LA (bE tC o)) (arX tC n aE0) S hN  ) kw_762 kw_759 kw_760 kw_761 kw_8 rfl rfl (by decide +kernel) ⟨Nat.le_of_ble_eq_true rfl, Nat.le_of_ble_eq_true rfl⟩ (nw_recv hK hw (mW_64) rfl) rfl hl.1 (Nat.le_of_ble_eq_true rfl) d_L_law_844 ⟨by show _ ≤ 669896; omega, by show _ ≤ 7086383; omega⟩) hS (fun rv wn' ad9 H locs hpost hw hS => ?_)
    obtain ⟨hv9, hwn9, had9⟩ := hpost
    subst hv9
    rw [hwn9, had9] at hw
    have hw := nw_W.as (wn' := cW ad tC n I K bw LA n (va_up J 0 1) bw2 L o S) hw cW_m
    refine lv_ei (y := nI 1) rfl ?_
    refine lv_iload hx hb d_L_law_847 (lv_at hl 1 rfl) ?_
    refine lv_icmp_eq (tgt := 854) hx hb d_L_law_849 (by decide) (fun c_849 => ?_) (fun c_849 => ?_)
    · skip
      refine lv_iload hx hb d_L_law_854 (lv_at hl 1 rfl) ?_
      refine lv_if_ne (tgt := 871) hx hb d_L_law_856 (by decide) (fun c_856 => ?_) (fun c_856 => ?_)
      · skip
        refine lv_goto (tgt := 1168) hx hb d_L_law_871 (by decide) ?_
        exact W.widen (by omega) (by omega) (hNext ad n I K bw LA (va_up J 0 1) bw2 L o S (LR_thr hL) _ _ ls hw hS (lv_sub hl [2, 3, 4, 5, 6] rfl))
      · skip
        first | exact absurd c_856 (by decide) | exact absurd (by decide) c_856
    · skip
      exact absurd rfl c_849
  · skip
    subst hv
    exact absurd trivial hbs
  · skip
    subst hv
    obtain ⟨had, rv9, K9, L9, S9, hwn, hR9⟩ := hG
    rw [hwn, had] at hw
    have hR8 : ∃ pl : Nat → Int32, scr (upR (upR (upR (upR S 0 0 (flR (S 0 0) (-1) 6)) 0 9 (stX n I hm ow sq (upR S 0 0 (flR (S 0 0) (-1) 6)) (((xs (1 + 6 * i + 1)).toNatClampNeg))).2.2.2.1) 0 10 (stX n I hm ow sq (upR S 0 0 (flR (S 0 0) (-1) 6)) (((xs (1 + 6 * i + 1)).toNatClampNeg))).2.2.2.2) 0 0 pl) S9 ∧ (((stX n I hm ow sq (upR S 0 0 (flR (S 0 0) (-1) 6)) (((xs (1 + 6 * i + 1)).toNatClampNeg))).2.2.1 = -1 ∧ pl = (upR S 0 0 (flR (S 0 0) (-1) 6)) 0 0) ∨ (¬ (stX n I hm ow sq (upR S 0 0 (flR (S 0 0) (-1) 6)) (((xs (1 + 6 * i + 1)).toNatClampNeg))).2.2.1 = -1 ∧ pl = va_cpy (stX n I hm ow sq (upR S 0 0 (flR (S 0 0) (-1) 6)) (((xs (1 + 6 * i + 1)).toNatClampNeg))).2.2.2.2 ((upR S 0 0 (flR (S 0 0) (-1) 6)) 0 0) 0 0 6)) ∧ K9 2 = nI (stX n I hm ow sq (upR S 0 0 (flR (S 0 0) (-1) 6)) (((xs (1 + 6 * i + 1)).toNatClampNeg))).1 ∧ (K9 0 = if (stX n I hm ow sq (upR S 0 0 (flR (S 0 0) (-1) 6)) (((xs (1 + 6 * i + 1)).toNatClampNeg))).2.2.1 = -1 then 0 else 1) ∧ (((stX n I hm ow sq (upR S 0 0 (flR (S 0 0) (-1) 6)) (((xs (1 + 6 * i + 1)).toNatClampNeg))).2.2.1 = -1 → rv9 = if (stX n I hm ow sq (upR S 0 0 (flR (S 0 0) (-1) 6)) (((xs (1 + 6 * i + 1)).toNatClampNeg))).2.1 = true then nI 3 else nI 2) ∧ (¬ (stX n I hm ow sq (upR S 0 0 (flR (S 0 0) (-1) 6)) (((xs (1 + 6 * i + 1)).toNatClampNeg))).2.2.1 = -1 → rv9 = if (stX n I hm ow sq (upR S 0 0 (flR (S 0 0) (-1) 6)) (((xs (1 + 6 * i + 1)).toNatClampNeg))).2.1 = true then nI 1 else nI 0)) := by
      rcases hR9 with ⟨a, b9, d, e⟩ | ⟨a, b9, d, e⟩
      · exact ⟨(upR S 0 0 (flR (S 0 0) (-1) 6)) 0 0, by rw [upR_same2 (show (upR S 0 0 (flR (S 0 0) (-1) 6)) 0 0 = upR (upR (upR S 0 0 (flR (S 0 0) (-1) 6)) 0 9 (stX n I hm ow sq (upR S 0 0 (flR (S 0 0) (-1) 6)) (((xs (1 + 6 * i + 1)).toNatClampNeg))).2.2.2.1) 0 10 (stX n I hm ow sq (upR S 0 0 (flR (S 0 0) (-1) 6)) (((xs (1 + 6 * i + 1)).toNatClampNeg))).2.2.2.2 0 0 from rfl)]; exact e, Or.inl ⟨a, rfl⟩, by rw [d]; rfl, by rw [if_pos a, d]; rfl, fun _ => b9, fun h => absurd a h⟩
      · exact ⟨_, e, Or.inr ⟨a, rfl⟩, by rw [d]; rfl, by rw [if_neg a, d]; rfl, fun h => absurd h a, fun _ => b9⟩
    obtain ⟨pl, hr1, hr2, hr3, hr4, hr5, hr6⟩ := hR8
    have hS52 : S9 5 2 = S 5 2 := (hr1 5 2 (by omega)).trans rfl
    have hHm1 : ∀ c, c < n 2 → S9 5 2 c = nI (hm c) ∧ hm c < n 1 := fun c hc => by rw [hS52]; exact hHm c hc
    refine lv_istore (lv' := [(5, .int (nI 0)), (0, .ref (b)), (1, .ref (ad (0))), (2, .ref (ad (64))), (3, .ref (ad (69))), (4, .int (nI (1 + 6 * i)))]) hx hb d_L_law_829 hl (by decide) rfl (fun ls hl => ?_)
    refine lv_aload_n hx hb d_L_law_831 rfl (lv_at hl 3 rfl) ?_
    refine lv_aload_n hx hb d_L_law_832 rfl (lv_at hl 1 rfl) ?_
    refine lv_iload hx hb d_L_law_833 (lv_at hl 5 rfl) ?_
    refine lv_iconst (v := nI 1) hx hb d_L_law_835 (by decide) ?_
    refine lv_iadd hx hb d_L_law_836 ?_
    refine lv_ei (y := nI (1 + 6 * i + 1)) (nI_add _ _) ?_
    refine va_sld hx hb hX hbl hbA hS (vp_in_nI (by omega) (by omega)) d_L_law_837 ?_
    refine lv_ei (y := xs (1 + 6 * i + 1)) (by rw [nI_clamp (by omega)]) ?_
    have hw := nw_W.as (wn' := mW ad tC n J bw2 L (obX ad tC n I K9 ((stX n I hm ow sq (upR S 0 0 (flR (S 0 0) (-1) 6)) (((xs (1 + 6 * i + 1)).toNatClampNeg))).2.2.1) L9 (bE tC (vp_updL o 0 rv9.toInt64))) (arX tC n aE0) S9) hw cW_m.symm
    refine nw_call (nw_goV (n := 1) (As := [.int (xs (1 + 6 * i + 1))]) (rest := []) hSx hA hKs hw hS (c_M_run l D tC A ad n J bw2 L (obX ad tC n I K9 ((stX n I hm ow sq (upR S 0 0 (flR (S 0 0) (-1) 6)) (((xs (1 + 6 * i + 1)).toNatClampNeg))).2.2.1) L9 (bE tC (vp_updL o 0 rv9.toInt64))) (arX tC n aE0) S9 hN (xs (1 + 6 * i + 1)) hm hHm1) kw_818 kw_815 kw_816 kw_817 kw_8 rfl rfl (by decide +kernel) ⟨Nat.le_of_ble_eq_true rfl, Nat.le_of_ble_eq_true rfl⟩ (nw_recv hK hw (mW_64) rfl) rfl hl.1 (Nat.le_of_ble_eq_true rfl) d_L_law_838 ⟨by show _ ≤ 669896; omega, by show _ ≤ 7086383; omega⟩) hS (fun rv wn' ad9 H locs hpost hw hS => ?_)
    obtain ⟨had9, hmo⟩ := hpost
    rw [had9] at hw
    rcases hmo with ⟨hq1, _⟩ | ⟨hq1, hq4, _⟩ | ⟨hq1, hq4, hGm⟩
    · exact absurd hq1 hnba
    · exact absurd hq4 hnbs
    obtain ⟨hv9, L8, S8, hsm, hw9⟩ := hGm
    subst hv9
    rw [hw9] at hw
    have hw := nw_W.as (wn' := cW ad tC n I K9 ((stX n I hm ow sq (upR S 0 0 (flR (S 0 0) (-1) 6)) (((xs (1 + 6 * i + 1)).toNatClampNeg))).2.2.1) L9 n (mJ (va_up (va_up J 0 (nI 0)) 3 (bI (rnM n (va_up J 0 (nI 0)) hm S9 ((xs (1 + 6 * i + 1)).toNatClampNeg) bw2).2.2.1)) (rnM n (va_up J 0 (nI 0)) hm S9 ((xs (1 + 6 * i + 1)).toNatClampNeg) bw2)) ((rnM n (va_up J 0 (nI 0)) hm S9 ((xs (1 + 6 * i + 1)).toNatClampNeg) bw2).2.2.2.1) L8 (vp_updL o 0 rv9.toInt64) S8) hw cW_m
    obtain ⟨hq5, hq6, hq7⟩ := LR_run hLx rfl hr1 hr2 (Y := (rnM n (va_up J 0 (nI 0)) hm S9 ((xs (1 + 6 * i + 1)).toNatClampNeg) bw2)) rfl hsm hr3 hr4
    have hrv : rv9 = rvM (rnM n (va_up J 0 (nI 0)) hm S9 ((xs (1 + 6 * i + 1)).toNatClampNeg) bw2) := by
      by_cases h9 : (stX n I hm ow sq (upR S 0 0 (flR (S 0 0) (-1) 6)) (((xs (1 + 6 * i + 1)).toNatClampNeg))).2.2.1 = -1
      · exact (hr5 h9).trans (hq5 h9)
      · exact (hr6 h9).trans (hq6 h9)
    refine lv_istore (lv' := [(6, .int (rvM (rnM n (va_up J 0 (nI 0)) hm S9 ((xs (1 + 6 * i + 1)).toNatClampNeg) bw2))), (5, .int (nI 0)), (0, .ref (b)), (1, .ref (ad (0))), (2, .ref (ad (64))), (3, .ref (ad (69))), (4, .int (nI (1 + 6 * i)))]) hx hb d_L_law_841 hl (by decide) rfl (fun ls hl => ?_)
    refine lv_aload_n hx hb d_L_law_843 rfl (lv_at hl 4 rfl) ?_
    have hw := nw_W.as (wn' := mW ad tC n (mJ (va_up (va_up J 0 (nI 0)) 3 (bI (rnM n (va_up J 0 (nI 0)) hm S9 ((xs (1 + 6 * i + 1)).toNatClampNeg) bw2).2.2.1)) (rnM n (va_up J 0 (nI 0)) hm S9 ((xs (1 + 6 * i + 1)).toNatClampNeg) bw2)) ((rnM n (va_up J 0 (nI 0)) hm S9 ((xs (1 + 6 * i + 1)).toNatClampNeg) bw2).2.2.2.1) L8 (obX ad tC n I K9 ((stX n I hm ow sq (upR S 0 0 (flR (S 0 0) (-1) 6)) (((xs (1 + 6 * i + 1)).toNatClampNeg))).2.2.1) L9 (bE tC (vp_updL o 0 rv9.toInt64))) (arX tC n aE0) S8) hw cW_m.symm
    refine nw_call (nw_goV (n := 0) (As := []) (rest := []) hSx hA hKs hw hS (c_M_thrown l D tC A ad n (mJ (va_up (va_up J 0 (nI 0)) 3 (bI (rnM n (va_up J 0 (nI 0)) hm S9 ((xs (1 + 6 * i + 1)).toNatClampNeg) bw2).2.2.1)) (rnM n (va_up J 0 (nI 0)) hm S9 ((xs (1 + 6 * i + 1)).toNatClampNeg) bw2)) ((rnM n (va_up J 0 (nI 0)) hm S9 ((xs (1 + 6 * i + 1)).toNatClampNeg) bw2).2.2.2.1) L8 (obX ad tC n I K9 ((stX n I hm ow sq (upR S 0 0 (flR (S 0 0) (-1) 6)) (((xs (1 + 6 * i + 1)).toNatClampNeg))).2.2.1) L9 (bE tC (vp_updL o 0 rv9.toInt64))) (arX tC n aE0) S8 hN  ) kw_762 kw_759 kw_760 kw_761 kw_8 rfl rfl (by decide +kernel) ⟨Nat.le_of_ble_eq_true rfl, Nat.le_of_ble_eq_true rfl⟩ (nw_recv hK hw (mW_64) rfl) rfl hl.1 (Nat.le_of_ble_eq_true rfl) d_L_law_844 ⟨by show _ ≤ 669896; omega, by show _ ≤ 7086383; omega⟩) hS (fun rv wn' ad9 H locs hpost hw hS => ?_)
    obtain ⟨hv9, hwn9, had9⟩ := hpost
    subst hv9
    rw [hwn9, had9] at hw
    have hw := nw_W.as (wn' := cW ad tC n I K9 ((stX n I hm ow sq (upR S 0 0 (flR (S 0 0) (-1) 6)) (((xs (1 + 6 * i + 1)).toNatClampNeg))).2.2.1) L9 n (mJ (va_up (va_up J 0 (nI 0)) 3 (bI (rnM n (va_up J 0 (nI 0)) hm S9 ((xs (1 + 6 * i + 1)).toNatClampNeg) bw2).2.2.1)) (rnM n (va_up J 0 (nI 0)) hm S9 ((xs (1 + 6 * i + 1)).toNatClampNeg) bw2)) ((rnM n (va_up J 0 (nI 0)) hm S9 ((xs (1 + 6 * i + 1)).toNatClampNeg) bw2).2.2.2.1) L8 (vp_updL o 0 rv9.toInt64) S8) hw cW_m
    refine lv_ei (y := nI 0) rfl ?_
    refine lv_iload hx hb d_L_law_847 (lv_at hl 1 rfl) ?_
    refine lv_icmp_eq (tgt := 854) hx hb d_L_law_849 (by decide) (fun c_849 => ?_) (fun c_849 => ?_)
    · skip
      refine lv_iload hx hb d_L_law_854 (lv_at hl 1 rfl) ?_
      refine lv_if_ne (tgt := 871) hx hb d_L_law_856 (by decide) (fun c_856 => ?_) (fun c_856 => ?_)
      · skip
        first | exact absurd c_856 (by decide) | exact absurd (by decide) c_856
      · skip
        refine lv_aload_n hx hb d_L_law_859 rfl (lv_at hl 5 rfl) ?_
        refine lv_iconst (v := nI 0) hx hb d_L_law_860 (by decide) ?_
        refine nw_lald hx hb hK hw (69) 1 (cW_69) rfl (0) (rfl) (by omega) (by omega) d_L_law_861 ?_
        refine lv_iload hx hb d_L_law_862 (lv_at hl 0 rfl) ?_
        refine lv_i2l (v := ((rvM (rnM n (va_up J 0 (nI 0)) hm S9 ((xs (1 + 6 * i + 1)).toNatClampNeg) bw2)).toInt64)) hx hb d_L_law_864 rfl ?_
        refine lv_el (y := ((vp_updL o 0 rv9.toInt64) (0))) (congrArg Int32.toInt64 hrv.symm) ?_
        refine W.lcmp hx hb d_L_law_865 ?_
        refine lv_ei (y := nI 0) ((lg_cmp_eq _ _).mpr rfl) ?_
        refine lv_if_eq (tgt := 871) hx hb d_L_law_866 (by decide) (fun c_866 => ?_) (fun c_866 => ?_)
        · skip
          refine lv_goto (tgt := 1168) hx hb d_L_law_871 (by decide) ?_
          exact W.widen (by omega) (by omega) (hNext ad n I K9 ((stX n I hm ow sq (upR S 0 0 (flR (S 0 0) (-1) 6)) (((xs (1 + 6 * i + 1)).toNatClampNeg))).2.2.1) L9 (mJ (va_up (va_up J 0 (nI 0)) 3 (bI (rnM n (va_up J 0 (nI 0)) hm S9 ((xs (1 + 6 * i + 1)).toNatClampNeg) bw2).2.2.1)) (rnM n (va_up J 0 (nI 0)) hm S9 ((xs (1 + 6 * i + 1)).toNatClampNeg) bw2)) ((rnM n (va_up J 0 (nI 0)) hm S9 ((xs (1 + 6 * i + 1)).toNatClampNeg) bw2).2.2.2.1) L8 (vp_updL o 0 rv9.toInt64) S8 (hq7) _ _ ls hw hS (lv_sub hl [2, 3, 4, 5, 6] rfl))
        · skip
          first | exact absurd c_866 (by decide) | exact absurd (by decide) c_866
    · skip
      exact absurd rfl c_849

set_option maxHeartbeats 4000000 in
set_option maxRecDepth 100000 in
/-- case 10: nodes -/
theorem law_10 {p : Program} {l : Launch} {e : Env} {s : State} {m : MethodId} {args : Array Value} {below : List Frame} {meth : Method} {cd : Code} {Q : State → Prop} {D : va_G} {tC : Nat → ClassId} {A : Nat → Prop} {b N : Nat} {xs : Nat → Int32} (hSx : CallFix p m cd b_L_law 8 s args nw_T "HarvestPlansLaw") (hA : ∀ q, s.heap.size ≤ q → A q) (hAs : ∀ q, A q → s.heap.size ≤ q) (hKs : nw_K D hpC (hpT tC) s) (hF : nx_F s) (hfl : l.stackTraces = false) (hX : va_X b N xs s s.heap) (hbl : b < s.heap.size) (hbA : ¬ A b) (hN3 : N ≤ 3073) {cc cs i : Nat} (hcc : cc + 12 ≤ 669896) (hcs : cs + 120 ≤ 7086383) (hi : 1 + 6 * i + 6 ≤ N) (hNext : ∀ (ad : Nat → Nat) (n : Nat → Nat) (I : Nat → Nat → Int32) (K : Nat → Int32) (bw : Int64) (LA : Nat → Int64) (J : Nat → Int32) (bw2 : Int64) (L : Nat → Nat → Int64) (o : Nat → Int64) (S : Nat → Nat → Nat → Int32), LR n I K J S → ∀ (H : Heap) (locs : List Loc) (ls : Array Slot), nw_W D hpC A (cW ad tC n I K bw LA n J bw2 L o S) ad H → va_S A s.heap H locs → lv_has ls 8 [(0, .ref (b)), (1, .ref (ad (0))), (2, .ref (ad (64))), (3, .ref (ad (69))), (4, .int (nI (1 + 6 * i)))] → W p l e room_1 s m args below meth cd H locs (cc + 12) (cs + 120) Q (F0 m 1168 ls [])) (ad : Nat → Nat) (n : Nat → Nat) (I : Nat → Nat → Int32) (K : Nat → Int32) (bw : Int64) (LA : Nat → Int64) (J : Nat → Int32) (bw2 : Int64) (L : Nat → Nat → Int64) (o : Nat → Int64) (S : Nat → Nat → Nat → Int32) (hL : LR n I K J S) (H : Heap) (locs : List Loc) (ls : Array Slot) (hw : nw_W D hpC A (cW ad tC n I K bw LA n J bw2 L o S) ad H) (hS : va_S A s.heap H locs) (hl : lv_has ls 8 [(0, .ref (b)), (1, .ref (ad (0))), (2, .ref (ad (64))), (3, .ref (ad (69))), (4, .int (nI (1 + 6 * i)))]) : W p l e room_1 s m args below meth cd H locs cc cs Q (F0 m 874 ls []) := by
  obtain ⟨hx, hb, hml, hown, hts⟩ := id hSx
  have hK := hKs.1
  have hB : nx_B s s := ⟨State.WarmedH.refl s, Nat.le_refl _, fun _ _ => rfl⟩
  obtain ⟨hm, ow, sq, hLx⟩ := id hL
  have hN : hpN n := hLx.1.1
  obtain ⟨hn0, hn0', hn1, hn2, hn3, hn4⟩ := id hN
  have hJK : J 3 = K 0 := hLx.2.2.1.1
  have hH : ∀ c, c < n 2 → I 2 c = nI (hm c) ∧ hm c < n 1 := fun c hc => ⟨hLx.2.1.1 c hc, (hLx.1.2.2.2.1 c hc).2.1⟩
  have hHm : ∀ c, c < n 2 → S 5 2 c = nI (hm c) ∧ hm c < n 1 := fun c hc => ⟨(hLx.1.2.2.2.1 c hc).1, (hLx.1.2.2.2.1 c hc).2.1⟩
  have hO : ∀ o, o < n 4 → I 4 o = nI (ow o) ∧ ow o < n 0 := fun o ho => ⟨(hLx.1.2.2.2.2.2.2.1 o ho).2.1, (hLx.1.2.2.2.2.2.2.1 o ho).2.2.1⟩
  have hSq : ∀ k, k < n 4 → S 0 1 k = nI (sq k) ∧ sq k < n 4 := fun k hk => ⟨hLx.2.1.2.1 k hk, hLx.1.2.2.2.2.2.2.2.1 k hk⟩
  have hSo : ∀ q, q < n 4 → ∃ j, j < n 4 ∧ sq j = q := hLx.1.2.2.2.2.2.2.2.2.1
  have hPl := ok_pl hLx
  obtain ⟨hz1, hz4, hz51, hz56⟩ := hLx.2.1.2.2.2
  refine lv_aload_n hx hb d_L_law_874 rfl (lv_at hl 1 rfl) ?_
  have hw := nw_W.as (wn' := hW ad tC n I K bw LA (obM ad tC n J bw2 L (bE tC o)) (arM tC aE0) S) hw rfl
  refine nw_call (nw_goV (n := 0) (As := []) (rest := []) hSx hA hKs hw hS (c_X_nodes l D tC A ad n I K bw LA (obM ad tC n J bw2 L (bE tC o)) (arM tC aE0) S hN ) kw_221 kw_218 kw_219 kw_220 kw_1 rfl rfl (by decide +kernel) ⟨Nat.le_of_ble_eq_true rfl, Nat.le_of_ble_eq_true rfl⟩ (nw_recv hK hw (hW_0) rfl) rfl hl.1 (Nat.le_of_ble_eq_true rfl) d_L_law_875 ⟨by show _ ≤ 669896; omega, by show _ ≤ 7086383; omega⟩) hS (fun rv wn' ad9 H locs hpost hw hS => ?_)
  obtain ⟨hv9, hwn9, had9⟩ := hpost
  subst hv9
  rw [hwn9, had9] at hw
  have hw := nw_W.as (wn' := cW ad tC n I K bw LA n J bw2 L o S) hw rfl
  refine lv_aload_n hx hb d_L_law_878 rfl (lv_at hl 2 rfl) ?_
  have hw := nw_W.as (wn' := mW ad tC n J bw2 L (obX ad tC n I K bw LA (bE tC o)) (arX tC n aE0) S) hw cW_m.symm
  refine nw_call (nw_goV (n := 0) (As := []) (rest := [.int (K 2)]) hSx hA hKs hw hS (c_M_nodes l D tC A ad n J bw2 L (obX ad tC n I K bw LA (bE tC o)) (arX tC n aE0) S hN  ) kw_883 kw_880 kw_881 kw_882 kw_8 rfl rfl (by decide +kernel) ⟨Nat.le_of_ble_eq_true rfl, Nat.le_of_ble_eq_true rfl⟩ (nw_recv hK hw (mW_64) rfl) rfl hl.1 (Nat.le_of_ble_eq_true rfl) d_L_law_879 ⟨by show _ ≤ 669896; omega, by show _ ≤ 7086383; omega⟩) hS (fun rv wn' ad9 H locs hpost hw hS => ?_)
  obtain ⟨hv9, hwn9, had9⟩ := hpost
  subst hv9
  rw [hwn9, had9] at hw
  have hw := nw_W.as (wn' := cW ad tC n I K bw LA n (va_up J 0 (nI 0)) bw2 L o S) hw cW_m
  refine lv_icmp_eq (tgt := 1168) hx hb d_L_law_882 (by decide) (fun c_882 => ?_) (fun c_882 => ?_)
  · skip
    exact W.widen (by omega) (by omega) (hNext ad n I K bw LA (va_up J 0 (nI 0)) bw2 L o S (LR_thr hL) _ _ ls hw hS (lv_sub hl [0, 1, 2, 3, 4] rfl))
  · skip
    exact absurd (hLx.2.2.1.2.symm) c_882

set_option maxHeartbeats 4000000 in
set_option maxRecDepth 100000 in
/-- case 11: hope -/
theorem law_11 {p : Program} {l : Launch} {e : Env} {s : State} {m : MethodId} {args : Array Value} {below : List Frame} {meth : Method} {cd : Code} {Q : State → Prop} {D : va_G} {tC : Nat → ClassId} {A : Nat → Prop} {b N : Nat} {xs : Nat → Int32} (hSx : CallFix p m cd b_L_law 8 s args nw_T "HarvestPlansLaw") (hA : ∀ q, s.heap.size ≤ q → A q) (hAs : ∀ q, A q → s.heap.size ≤ q) (hKs : nw_K D hpC (hpT tC) s) (hF : nx_F s) (hfl : l.stackTraces = false) (hX : va_X b N xs s s.heap) (hbl : b < s.heap.size) (hbA : ¬ A b) (hN3 : N ≤ 3073) {cc cs i : Nat} (hcc : cc + 12 ≤ 669896) (hcs : cs + 120 ≤ 7086383) (hi : 1 + 6 * i + 6 ≤ N) (hNext : ∀ (ad : Nat → Nat) (n : Nat → Nat) (I : Nat → Nat → Int32) (K : Nat → Int32) (bw : Int64) (LA : Nat → Int64) (J : Nat → Int32) (bw2 : Int64) (L : Nat → Nat → Int64) (o : Nat → Int64) (S : Nat → Nat → Nat → Int32), LR n I K J S → ∀ (H : Heap) (locs : List Loc) (ls : Array Slot), nw_W D hpC A (cW ad tC n I K bw LA n J bw2 L o S) ad H → va_S A s.heap H locs → lv_has ls 8 [(0, .ref (b)), (1, .ref (ad (0))), (2, .ref (ad (64))), (3, .ref (ad (69))), (4, .int (nI (1 + 6 * i)))] → W p l e room_1 s m args below meth cd H locs (cc + 12) (cs + 120) Q (F0 m 1168 ls [])) (ad : Nat → Nat) (n : Nat → Nat) (I : Nat → Nat → Int32) (K : Nat → Int32) (bw : Int64) (LA : Nat → Int64) (J : Nat → Int32) (bw2 : Int64) (L : Nat → Nat → Int64) (o : Nat → Int64) (S : Nat → Nat → Nat → Int32) (hL : LR n I K J S) (H : Heap) (locs : List Loc) (ls : Array Slot) (hw : nw_W D hpC A (cW ad tC n I K bw LA n J bw2 L o S) ad H) (hS : va_S A s.heap H locs) (hl : lv_has ls 8 [(0, .ref (b)), (1, .ref (ad (0))), (2, .ref (ad (64))), (3, .ref (ad (69))), (4, .int (nI (1 + 6 * i)))]) : W p l e room_1 s m args below meth cd H locs cc cs Q (F0 m 887 ls []) := by
  obtain ⟨hx, hb, hml, hown, hts⟩ := id hSx
  have hK := hKs.1
  have hB : nx_B s s := ⟨State.WarmedH.refl s, Nat.le_refl _, fun _ _ => rfl⟩
  obtain ⟨hm, ow, sq, hLx⟩ := id hL
  have hN : hpN n := hLx.1.1
  obtain ⟨hn0, hn0', hn1, hn2, hn3, hn4⟩ := id hN
  have hJK : J 3 = K 0 := hLx.2.2.1.1
  have hH : ∀ c, c < n 2 → I 2 c = nI (hm c) ∧ hm c < n 1 := fun c hc => ⟨hLx.2.1.1 c hc, (hLx.1.2.2.2.1 c hc).2.1⟩
  have hHm : ∀ c, c < n 2 → S 5 2 c = nI (hm c) ∧ hm c < n 1 := fun c hc => ⟨(hLx.1.2.2.2.1 c hc).1, (hLx.1.2.2.2.1 c hc).2.1⟩
  have hO : ∀ o, o < n 4 → I 4 o = nI (ow o) ∧ ow o < n 0 := fun o ho => ⟨(hLx.1.2.2.2.2.2.2.1 o ho).2.1, (hLx.1.2.2.2.2.2.2.1 o ho).2.2.1⟩
  have hSq : ∀ k, k < n 4 → S 0 1 k = nI (sq k) ∧ sq k < n 4 := fun k hk => ⟨hLx.2.1.2.1 k hk, hLx.1.2.2.2.2.2.2.2.1 k hk⟩
  have hSo : ∀ q, q < n 4 → ∃ j, j < n 4 ∧ sq j = q := hLx.1.2.2.2.2.2.2.2.2.1
  have hPl := ok_pl hLx
  obtain ⟨hz1, hz4, hz51, hz56⟩ := hLx.2.1.2.2.2
  refine lv_aload_n hx hb d_L_law_887 rfl (lv_at hl 1 rfl) ?_
  have hw := nw_W.as (wn' := hW ad tC n I K bw LA (obM ad tC n J bw2 L (bE tC o)) (arM tC aE0) S) hw rfl
  refine nw_call (nw_goV (n := 0) (As := []) (rest := []) hSx hA hKs hw hS (c_X_hope l D tC A ad n I K bw LA (obM ad tC n J bw2 L (bE tC o)) (arM tC aE0) S hN ow hO) kw_225 kw_222 kw_223 kw_224 kw_1 rfl rfl (by decide +kernel) ⟨Nat.le_of_ble_eq_true rfl, Nat.le_of_ble_eq_true rfl⟩ (nw_recv hK hw (hW_0) rfl) rfl hl.1 (Nat.le_of_ble_eq_true rfl) d_L_law_888 ⟨by show _ ≤ 669896; omega, by show _ ≤ 7086383; omega⟩) hS (fun rv wn' ad9 H locs hpost hw hS => ?_)
  obtain ⟨hv9, L9, -, hw⟩ := nw_fo_out hpost hw
  subst hv9
  have hw := nw_W.as (wn' := cW ad tC n I K bw L9 n J bw2 L o S) hw rfl
  refine lv_aload_n hx hb d_L_law_891 rfl (lv_at hl 2 rfl) ?_
  have hw := nw_W.as (wn' := mW ad tC n J bw2 L (obX ad tC n I K bw L9 (bE tC o)) (arX tC n aE0) S) hw cW_m.symm
  refine nw_call (nw_goV (n := 0) (As := []) (rest := [.long (hpS n I ow S (n 2))]) hSx hA hKs hw hS (c_M_hope l D tC A ad n J bw2 L (obX ad tC n I K bw L9 (bE tC o)) (arX tC n aE0) S hN  ) kw_887 kw_884 kw_885 kw_886 kw_8 rfl rfl (by decide +kernel) ⟨Nat.le_of_ble_eq_true rfl, Nat.le_of_ble_eq_true rfl⟩ (nw_recv hK hw (mW_64) rfl) rfl hl.1 (Nat.le_of_ble_eq_true rfl) d_L_law_892 ⟨by show _ ≤ 669896; omega, by show _ ≤ 7086383; omega⟩) hS (fun rv wn' ad9 H locs hpost hw hS => ?_)
  obtain ⟨hv9, hwn9, had9⟩ := hpost
  subst hv9
  rw [hwn9, had9] at hw
  have hw := nw_W.as (wn' := cW ad tC n I K bw L9 n (va_up J 0 (nI 0)) bw2 L o S) hw cW_m
  refine lv_el (y := hpS n I ow S (n 2)) ((eq_hopes hLx).symm) ?_
  refine W.lcmp hx hb d_L_law_895 ?_
  refine lv_ei (y := nI 0) ((lg_cmp_eq _ _).mpr rfl) ?_
  refine lv_if_eq (tgt := 1168) hx hb d_L_law_896 (by decide) (fun c_896 => ?_) (fun c_896 => ?_)
  · skip
    exact W.widen (by omega) (by omega) (hNext ad n I K bw L9 (va_up J 0 (nI 0)) bw2 L o S (LR_thr hL) _ _ ls hw hS (lv_sub hl [0, 1, 2, 3, 4] rfl))
  · skip
    first | exact absurd c_896 (by decide) | exact absurd (by decide) c_896
