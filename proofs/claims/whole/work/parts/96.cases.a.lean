set_option maxHeartbeats 4000000 in
set_option maxRecDepth 100000 in
/-- case 0: place -/
theorem law_0 {p : Program} {l : Launch} {e : Env} {s : State} {m : MethodId} {args : Array Value} {below : List Frame} {meth : Method} {cd : Code} {Q : State → Prop} {D : va_G} {tC : Nat → ClassId} {A : Nat → Prop} {b N : Nat} {xs : Nat → Int32} (hSx : CallFix p m cd b_L_law 8 s args nw_T "HarvestPlansLaw") (hA : ∀ q, s.heap.size ≤ q → A q) (hAs : ∀ q, A q → s.heap.size ≤ q) (hKs : nw_K D hpC (hpT tC) s) (hF : nx_F s) (hfl : l.stackTraces = false) (hX : va_X b N xs s s.heap) (hbl : b < s.heap.size) (hbA : ¬ A b) (hN3 : N ≤ 3073) {cc cs i : Nat} (hcc : cc + 12 ≤ 669896) (hcs : cs + 120 ≤ 7086383) (hi : 1 + 6 * i + 6 ≤ N) (hNext : ∀ (ad : Nat → Nat) (n : Nat → Nat) (I : Nat → Nat → Int32) (K : Nat → Int32) (bw : Int64) (LA : Nat → Int64) (J : Nat → Int32) (bw2 : Int64) (L : Nat → Nat → Int64) (o : Nat → Int64) (S : Nat → Nat → Nat → Int32), LR n I K J S → ∀ (H : Heap) (locs : List Loc) (ls : Array Slot), nw_W D hpC A (cW ad tC n I K bw LA n J bw2 L o S) ad H → va_S A s.heap H locs → lv_has ls 8 [(0, .ref (b)), (1, .ref (ad (0))), (2, .ref (ad (64))), (3, .ref (ad (69))), (4, .int (nI (1 + 6 * i)))] → W p l e room_1 s m args below meth cd H locs (cc + 12) (cs + 120) Q (F0 m 1168 ls [])) (ad : Nat → Nat) (n : Nat → Nat) (I : Nat → Nat → Int32) (K : Nat → Int32) (bw : Int64) (LA : Nat → Int64) (J : Nat → Int32) (bw2 : Int64) (L : Nat → Nat → Int64) (o : Nat → Int64) (S : Nat → Nat → Nat → Int32) (hL : LR n I K J S) (H : Heap) (locs : List Loc) (ls : Array Slot) (hw : nw_W D hpC A (cW ad tC n I K bw LA n J bw2 L o S) ad H) (hS : va_S A s.heap H locs) (hl : lv_has ls 8 [(0, .ref (b)), (1, .ref (ad (0))), (2, .ref (ad (64))), (3, .ref (ad (69))), (4, .int (nI (1 + 6 * i)))]) : W p l e room_1 s m args below meth cd H locs cc cs Q (F0 m 132 ls []) := by
  obtain ⟨hx, hb, hml, hown, hts⟩ := id hSx
  have hK := hKs.1
  have hB : nx_B s s := ⟨State.WarmedH.refl s, Nat.le_refl _, fun _ _ => rfl⟩
  obtain ⟨hm, ow, sq, hLx⟩ := id hL
  have hN : hpN n := hLx.1.1
  obtain ⟨hn0, hn0', hn1, hn2, hn3, hn4⟩ := id hN
  have hJK : J 3 = K 0 := hLx.2.2.1.1
  have hH : ∀ c, c < n 2 → I 2 c = nI (hm c) ∧ hm c < n 1 := fun c hc => ⟨hLx.2.1.1 c hc, (hLx.1.2.2.2.1 c hc).2.1⟩
  have hHm : ∀ c, c < n 2 → S 5 2 c = nI (hm c) ∧ hm c < n 1 := fun c hc => ⟨(hLx.1.2.2.2.1 c hc).1, (hLx.1.2.2.2.1 c hc).2.1⟩
  have hO : ∀ o, o < n 4 → I 4 o = nI (ow o) ∧ ow o < n 0 := fun o ho => ⟨(hLx.1.2.2.2.2.2.2.1 o ho).2.1, (hLx.1.2.2.2.2.2.2.1 o ho).2.2.1⟩
  have hSq : ∀ k, k < n 4 → S 0 1 k = nI (sq k) ∧ sq k < n 4 := fun k hk => ⟨hLx.2.1.2.1 k hk, hLx.1.2.2.2.2.2.2.2.1 k hk⟩
  have hSo : ∀ q, q < n 4 → ∃ j, j < n 4 ∧ sq j = q := hLx.1.2.2.2.2.2.2.2.2.1
  have hPl := ok_pl hLx
  obtain ⟨hz1, hz4, hz51, hz56⟩ := hLx.2.1.2.2.2
  refine lv_aload_n hx hb d_L_law_132 rfl (lv_at hl 1 rfl) ?_
  refine lv_aload_n hx hb d_L_law_133 rfl (lv_at hl 0 rfl) ?_
  refine lv_iload hx hb d_L_law_134 (lv_at hl 4 rfl) ?_
  refine lv_iconst (v := nI 1) hx hb d_L_law_136 (by decide) ?_
  refine lv_iadd hx hb d_L_law_137 ?_
  refine lv_ei (y := nI (1 + 6 * i + 1)) (nI_add _ _) ?_
  refine va_sld hx hb hX hbl hbA hS (vp_in_nI (by omega) (by omega)) d_L_law_138 ?_
  refine lv_ei (y := xs (1 + 6 * i + 1)) (by rw [nI_clamp (by omega)]) ?_
  refine lv_aload_n hx hb d_L_law_139 rfl (lv_at hl 3 rfl) ?_
  refine nx_callC (nx_goW (n := 3) (As := [.ref (ad (0)), .int (xs (1 + 6 * i + 1)), .ref (ad (69))]) (rest := []) hSx hA hKs hF hB hAs hw hS (w_place l D tC A ad n I K bw LA n J bw2 L o S hN s hF hfl hAs (xs (1 + 6 * i + 1)) ) kt_260 kw_258 kw_259 kw_0 rfl rfl (by decide +kernel) ⟨Nat.le_of_ble_eq_true rfl, Nat.le_of_ble_eq_true rfl⟩ rfl hl.1 (Nat.le_of_ble_eq_true rfl) d_L_law_140 ⟨by show _ ≤ 669896; omega, by show _ ≤ 7086383; omega⟩) hS (fun X wn' ad' H locs x cell hpost hw hS hcell hst hcls T' hT X0 => (lw_po_x hpost).elim) (fun rv wn' ad' H locs hpost hw hS => ?_)
  rcases lw_po_i hpost with ⟨hv, hba, hwn, had⟩ | ⟨hv, hnba, hbs, hwn, had⟩ | ⟨hv, hnba, hnbs, hG⟩
  · skip
    subst hv
    rw [hwn, had] at hw
    refine lv_istore (lv' := [(5, .int (nI 1)), (0, .ref (b)), (1, .ref (ad (0))), (2, .ref (ad (64))), (3, .ref (ad (69))), (4, .int (nI (1 + 6 * i)))]) hx hb d_L_law_143 hl (by decide) rfl (fun ls hl => ?_)
    refine lv_aload_n hx hb d_L_law_145 rfl (lv_at hl 3 rfl) ?_
    refine lv_aload_n hx hb d_L_law_146 rfl (lv_at hl 1 rfl) ?_
    refine lv_iload hx hb d_L_law_147 (lv_at hl 5 rfl) ?_
    refine lv_iconst (v := nI 1) hx hb d_L_law_149 (by decide) ?_
    refine lv_iadd hx hb d_L_law_150 ?_
    refine lv_ei (y := nI (1 + 6 * i + 1)) (nI_add _ _) ?_
    refine va_sld hx hb hX hbl hbA hS (vp_in_nI (by omega) (by omega)) d_L_law_151 ?_
    refine lv_ei (y := xs (1 + 6 * i + 1)) (by rw [nI_clamp (by omega)]) ?_
    have hw := nw_W.as (wn' := mW ad tC n J bw2 L (obX ad tC n I K bw LA (bE tC o)) (arX tC n aE0) S) hw cW_m.symm
    refine nw_call (nw_goV (n := 1) (As := [.int (xs (1 + 6 * i + 1))]) (rest := []) hSx hA hKs hw hS (c_M_place l D tC A ad n J bw2 L (obX ad tC n I K bw LA (bE tC o)) (arX tC n aE0) S hN (xs (1 + 6 * i + 1)) ) kw_766 kw_763 kw_764 kw_765 kw_8 rfl rfl (by decide +kernel) ⟨Nat.le_of_ble_eq_true rfl, Nat.le_of_ble_eq_true rfl⟩ (nw_recv hK hw (mW_64) rfl) rfl hl.1 (Nat.le_of_ble_eq_true rfl) d_L_law_152 ⟨by show _ ≤ 669896; omega, by show _ ≤ 7086383; omega⟩) hS (fun rv wn' ad9 H locs hpost hw hS => ?_)
    obtain ⟨had9, hmo⟩ := hpost
    rw [had9] at hw
    rcases hmo with ⟨hq1, hq2, hq3⟩ | ⟨hq1, _⟩ | ⟨hq1, _⟩
    rotate_left
    · exact absurd hba hq1
    · exact absurd hba hq1
    subst hq2
    rw [hq3] at hw
    have hw := nw_W.as (wn' := cW ad tC n I K bw LA n (va_up J 0 1) bw2 L o S) hw cW_m
    refine lv_istore (lv' := [(6, .int (nI 0)), (5, .int (nI 1)), (0, .ref (b)), (1, .ref (ad (0))), (2, .ref (ad (64))), (3, .ref (ad (69))), (4, .int (nI (1 + 6 * i)))]) hx hb d_L_law_155 hl (by decide) rfl (fun ls hl => ?_)
    refine lv_aload_n hx hb d_L_law_157 rfl (lv_at hl 4 rfl) ?_
    have hw := nw_W.as (wn' := mW ad tC n (va_up J 0 1) bw2 L (obX ad tC n I K bw LA (bE tC o)) (arX tC n aE0) S) hw cW_m.symm
    refine nw_call (nw_goV (n := 0) (As := []) (rest := []) hSx hA hKs hw hS (c_M_thrown l D tC A ad n (va_up J 0 1) bw2 L (obX ad tC n I K bw LA (bE tC o)) (arX tC n aE0) S hN  ) kw_762 kw_759 kw_760 kw_761 kw_8 rfl rfl (by decide +kernel) ⟨Nat.le_of_ble_eq_true rfl, Nat.le_of_ble_eq_true rfl⟩ (nw_recv hK hw (mW_64) rfl) rfl hl.1 (Nat.le_of_ble_eq_true rfl) d_L_law_158 ⟨by show _ ≤ 669896; omega, by show _ ≤ 7086383; omega⟩) hS (fun rv wn' ad9 H locs hpost hw hS => ?_)
    obtain ⟨hv9, hwn9, had9⟩ := hpost
    subst hv9
    rw [hwn9, had9] at hw
    have hw := nw_W.as (wn' := cW ad tC n I K bw LA n (va_up J 0 1) bw2 L o S) hw cW_m
    refine lv_ei (y := nI 1) rfl ?_
    refine lv_iload hx hb d_L_law_161 (lv_at hl 1 rfl) ?_
    refine lv_icmp_eq (tgt := 168) hx hb d_L_law_163 (by decide) (fun c_163 => ?_) (fun c_163 => ?_)
    · skip
      refine lv_iload hx hb d_L_law_168 (lv_at hl 1 rfl) ?_
      refine lv_if_ne (tgt := 185) hx hb d_L_law_170 (by decide) (fun c_170 => ?_) (fun c_170 => ?_)
      · skip
        refine lv_goto (tgt := 1168) hx hb d_L_law_185 (by decide) ?_
        exact W.widen (by omega) (by omega) (hNext ad n I K bw LA (va_up J 0 1) bw2 L o S (LR_thr hL) _ _ ls hw hS (lv_sub hl [2, 3, 4, 5, 6] rfl))
      · skip
        first | exact absurd c_170 (by decide) | exact absurd (by decide) c_170
    · skip
      exact absurd rfl c_163
  · skip
    subst hv
    rw [hwn, had] at hw
    refine lv_ei (y := nI 2) rfl ?_
    refine lv_istore (lv' := [(5, .int (nI 2)), (0, .ref (b)), (1, .ref (ad (0))), (2, .ref (ad (64))), (3, .ref (ad (69))), (4, .int (nI (1 + 6 * i)))]) hx hb d_L_law_143 hl (by decide) rfl (fun ls hl => ?_)
    refine lv_aload_n hx hb d_L_law_145 rfl (lv_at hl 3 rfl) ?_
    refine lv_aload_n hx hb d_L_law_146 rfl (lv_at hl 1 rfl) ?_
    refine lv_iload hx hb d_L_law_147 (lv_at hl 5 rfl) ?_
    refine lv_iconst (v := nI 1) hx hb d_L_law_149 (by decide) ?_
    refine lv_iadd hx hb d_L_law_150 ?_
    refine lv_ei (y := nI (1 + 6 * i + 1)) (nI_add _ _) ?_
    refine va_sld hx hb hX hbl hbA hS (vp_in_nI (by omega) (by omega)) d_L_law_151 ?_
    refine lv_ei (y := xs (1 + 6 * i + 1)) (by rw [nI_clamp (by omega)]) ?_
    have hw := nw_W.as (wn' := mW ad tC n J bw2 L (obX ad tC n I K bw LA (bE tC o)) (arX tC n aE0) S) hw cW_m.symm
    refine nw_call (nw_goV (n := 1) (As := [.int (xs (1 + 6 * i + 1))]) (rest := []) hSx hA hKs hw hS (c_M_place l D tC A ad n J bw2 L (obX ad tC n I K bw LA (bE tC o)) (arX tC n aE0) S hN (xs (1 + 6 * i + 1)) ) kw_766 kw_763 kw_764 kw_765 kw_8 rfl rfl (by decide +kernel) ⟨Nat.le_of_ble_eq_true rfl, Nat.le_of_ble_eq_true rfl⟩ (nw_recv hK hw (mW_64) rfl) rfl hl.1 (Nat.le_of_ble_eq_true rfl) d_L_law_152 ⟨by show _ ≤ 669896; omega, by show _ ≤ 7086383; omega⟩) hS (fun rv wn' ad9 H locs hpost hw hS => ?_)
    obtain ⟨had9, hmo⟩ := hpost
    rw [had9] at hw
    rcases hmo with ⟨hq1, _⟩ | ⟨hq1, hq4, hq2, hq3⟩ | ⟨hq1, hq4, _⟩
    · exact absurd hq1 hnba
    rotate_left
    · exact absurd hbs hq4
    subst hq2
    rw [hq3] at hw
    have hw := nw_W.as (wn' := cW ad tC n I K bw LA n (va_up J 0 2) bw2 L o S) hw cW_m
    refine lv_istore (lv' := [(6, .int (nI 0)), (5, .int (nI 2)), (0, .ref (b)), (1, .ref (ad (0))), (2, .ref (ad (64))), (3, .ref (ad (69))), (4, .int (nI (1 + 6 * i)))]) hx hb d_L_law_155 hl (by decide) rfl (fun ls hl => ?_)
    refine lv_aload_n hx hb d_L_law_157 rfl (lv_at hl 4 rfl) ?_
    have hw := nw_W.as (wn' := mW ad tC n (va_up J 0 2) bw2 L (obX ad tC n I K bw LA (bE tC o)) (arX tC n aE0) S) hw cW_m.symm
    refine nw_call (nw_goV (n := 0) (As := []) (rest := []) hSx hA hKs hw hS (c_M_thrown l D tC A ad n (va_up J 0 2) bw2 L (obX ad tC n I K bw LA (bE tC o)) (arX tC n aE0) S hN  ) kw_762 kw_759 kw_760 kw_761 kw_8 rfl rfl (by decide +kernel) ⟨Nat.le_of_ble_eq_true rfl, Nat.le_of_ble_eq_true rfl⟩ (nw_recv hK hw (mW_64) rfl) rfl hl.1 (Nat.le_of_ble_eq_true rfl) d_L_law_158 ⟨by show _ ≤ 669896; omega, by show _ ≤ 7086383; omega⟩) hS (fun rv wn' ad9 H locs hpost hw hS => ?_)
    obtain ⟨hv9, hwn9, had9⟩ := hpost
    subst hv9
    rw [hwn9, had9] at hw
    have hw := nw_W.as (wn' := cW ad tC n I K bw LA n (va_up J 0 2) bw2 L o S) hw cW_m
    refine lv_ei (y := nI 2) rfl ?_
    refine lv_iload hx hb d_L_law_161 (lv_at hl 1 rfl) ?_
    refine lv_icmp_eq (tgt := 168) hx hb d_L_law_163 (by decide) (fun c_163 => ?_) (fun c_163 => ?_)
    · skip
      refine lv_iload hx hb d_L_law_168 (lv_at hl 1 rfl) ?_
      refine lv_if_ne (tgt := 185) hx hb d_L_law_170 (by decide) (fun c_170 => ?_) (fun c_170 => ?_)
      · skip
        refine lv_goto (tgt := 1168) hx hb d_L_law_185 (by decide) ?_
        exact W.widen (by omega) (by omega) (hNext ad n I K bw LA (va_up J 0 2) bw2 L o S (LR_thr hL) _ _ ls hw hS (lv_sub hl [2, 3, 4, 5, 6] rfl))
      · skip
        exact absurd c_170 (by decide)
    · skip
      exact absurd rfl c_163
  · skip
    subst hv
    obtain ⟨hag, hwn⟩ := hG
    rw [hwn] at hw
    obtain ⟨ha0, ha64, ha69⟩ := hag
    rw [← ha0, ← ha64, ← ha69] at hl
    refine lv_istore (lv' := [(5, .int (nI 0)), (0, .ref (b)), (1, .ref (ad' (0))), (2, .ref (ad' (64))), (3, .ref (ad' (69))), (4, .int (nI (1 + 6 * i)))]) hx hb d_L_law_143 hl (by decide) rfl (fun ls hl => ?_)
    refine lv_aload_n hx hb d_L_law_145 rfl (lv_at hl 3 rfl) ?_
    refine lv_aload_n hx hb d_L_law_146 rfl (lv_at hl 1 rfl) ?_
    refine lv_iload hx hb d_L_law_147 (lv_at hl 5 rfl) ?_
    refine lv_iconst (v := nI 1) hx hb d_L_law_149 (by decide) ?_
    refine lv_iadd hx hb d_L_law_150 ?_
    refine lv_ei (y := nI (1 + 6 * i + 1)) (nI_add _ _) ?_
    refine va_sld hx hb hX hbl hbA hS (vp_in_nI (by omega) (by omega)) d_L_law_151 ?_
    refine lv_ei (y := xs (1 + 6 * i + 1)) (by rw [nI_clamp (by omega)]) ?_
    have hw := nw_W.as (wn' := mW ad' tC n J bw2 L (obX ad' tC (va_up n 1 (n 1 + 1)) (adI I 1 1 (n 1) (fun _ => (xs (1 + 6 * i + 1)))) (va_up K 0 (nI 0)) bw LA (bE tC (vp_updL o 0 ((nI (n 1)).toInt64)))) (arX tC (va_up n 1 (n 1 + 1)) aE0) (adS (upR S 0 0 (flR (S 0 0) (-1) 6)) 1 1 (n 1))) hw cW_m.symm
    refine nw_call (nw_goV (n := 1) (As := [.int (xs (1 + 6 * i + 1))]) (rest := []) hSx hA hKs hw hS (c_M_place l D tC A ad' n J bw2 L (obX ad' tC (va_up n 1 (n 1 + 1)) (adI I 1 1 (n 1) (fun _ => (xs (1 + 6 * i + 1)))) (va_up K 0 (nI 0)) bw LA (bE tC (vp_updL o 0 ((nI (n 1)).toInt64)))) (arX tC (va_up n 1 (n 1 + 1)) aE0) (adS (upR S 0 0 (flR (S 0 0) (-1) 6)) 1 1 (n 1)) hN (xs (1 + 6 * i + 1)) ) kw_766 kw_763 kw_764 kw_765 kw_8 rfl rfl (by decide +kernel) ⟨Nat.le_of_ble_eq_true rfl, Nat.le_of_ble_eq_true rfl⟩ (nw_recv hK hw (mW_64) rfl) rfl hl.1 (Nat.le_of_ble_eq_true rfl) d_L_law_152 ⟨by show _ ≤ 669896; omega, by show _ ≤ 7086383; omega⟩) hS (fun rv wn' ad9 H locs hpost hw hS => ?_)
    obtain ⟨had9, hmo⟩ := hpost
    rw [had9] at hw
    rcases hmo with ⟨hq1, _⟩ | ⟨hq1, hq4, _⟩ | ⟨hq1, hq4, hGm⟩
    · exact absurd hq1 hnba
    · exact absurd hq4 hnbs
    obtain ⟨hv9, hw9⟩ := hGm
    subst hv9
    rw [hw9] at hw
    have hw := nw_W.as (wn' := cW ad' tC (va_up n 1 (n 1 + 1)) (adI I 1 1 (n 1) (fun _ => (xs (1 + 6 * i + 1)))) (va_up K 0 (nI 0)) bw LA (va_up n 1 (n 1 + 1)) (va_up (va_up J 0 (nI 0)) 3 (nI 0)) bw2 L (vp_updL o 0 ((nI (n 1)).toInt64)) (upR (adS (upR S 0 0 (flR (S 0 0) (-1) 6)) 1 1 (n 1)) 5 0 (upd ((adS (upR S 0 0 (flR (S 0 0) (-1) 6)) 1 1 (n 1)) 5 0) (n 1) (xs (1 + 6 * i + 1))))) hw cW_m
    have hLR9 := LR_place hL (Classical.not_not.mp hnba) ((nI_ltI (by omega) (by omega)).mp (Classical.not_not.mp hnbs))
    have hN2 : hpN (va_up n 1 (n 1 + 1)) := LR_N hLR9
    refine lv_istore (lv' := [(6, .int (nI (n 1))), (5, .int (nI 0)), (0, .ref (b)), (1, .ref (ad' (0))), (2, .ref (ad' (64))), (3, .ref (ad' (69))), (4, .int (nI (1 + 6 * i)))]) hx hb d_L_law_155 hl (by decide) rfl (fun ls hl => ?_)
    refine lv_aload_n hx hb d_L_law_157 rfl (lv_at hl 4 rfl) ?_
    have hw := nw_W.as (wn' := mW ad' tC (va_up n 1 (n 1 + 1)) (va_up (va_up J 0 (nI 0)) 3 (nI 0)) bw2 L (obX ad' tC (va_up n 1 (n 1 + 1)) (adI I 1 1 (n 1) (fun _ => (xs (1 + 6 * i + 1)))) (va_up K 0 (nI 0)) bw LA (bE tC (vp_updL o 0 ((nI (n 1)).toInt64)))) (arX tC (va_up n 1 (n 1 + 1)) aE0) (upR (adS (upR S 0 0 (flR (S 0 0) (-1) 6)) 1 1 (n 1)) 5 0 (upd ((adS (upR S 0 0 (flR (S 0 0) (-1) 6)) 1 1 (n 1)) 5 0) (n 1) (xs (1 + 6 * i + 1))))) hw cW_m.symm
    refine nw_call (nw_goV (n := 0) (As := []) (rest := []) hSx hA hKs hw hS (c_M_thrown l D tC A ad' (va_up n 1 (n 1 + 1)) (va_up (va_up J 0 (nI 0)) 3 (nI 0)) bw2 L (obX ad' tC (va_up n 1 (n 1 + 1)) (adI I 1 1 (n 1) (fun _ => (xs (1 + 6 * i + 1)))) (va_up K 0 (nI 0)) bw LA (bE tC (vp_updL o 0 ((nI (n 1)).toInt64)))) (arX tC (va_up n 1 (n 1 + 1)) aE0) (upR (adS (upR S 0 0 (flR (S 0 0) (-1) 6)) 1 1 (n 1)) 5 0 (upd ((adS (upR S 0 0 (flR (S 0 0) (-1) 6)) 1 1 (n 1)) 5 0) (n 1) (xs (1 + 6 * i + 1)))) hN2  ) kw_762 kw_759 kw_760 kw_761 kw_8 rfl rfl (by decide +kernel) ⟨Nat.le_of_ble_eq_true rfl, Nat.le_of_ble_eq_true rfl⟩ (nw_recv hK hw (mW_64) rfl) rfl hl.1 (Nat.le_of_ble_eq_true rfl) d_L_law_158 ⟨by show _ ≤ 669896; omega, by show _ ≤ 7086383; omega⟩) hS (fun rv wn' ad9 H locs hpost hw hS => ?_)
    obtain ⟨hv9, hwn9, had9⟩ := hpost
    subst hv9
    rw [hwn9, had9] at hw
    have hw := nw_W.as (wn' := cW ad' tC (va_up n 1 (n 1 + 1)) (adI I 1 1 (n 1) (fun _ => (xs (1 + 6 * i + 1)))) (va_up K 0 (nI 0)) bw LA (va_up n 1 (n 1 + 1)) (va_up (va_up J 0 (nI 0)) 3 (nI 0)) bw2 L (vp_updL o 0 ((nI (n 1)).toInt64)) (upR (adS (upR S 0 0 (flR (S 0 0) (-1) 6)) 1 1 (n 1)) 5 0 (upd ((adS (upR S 0 0 (flR (S 0 0) (-1) 6)) 1 1 (n 1)) 5 0) (n 1) (xs (1 + 6 * i + 1))))) hw cW_m
    refine lv_ei (y := nI 0) rfl ?_
    refine lv_iload hx hb d_L_law_161 (lv_at hl 1 rfl) ?_
    refine lv_icmp_eq (tgt := 168) hx hb d_L_law_163 (by decide) (fun c_163 => ?_) (fun c_163 => ?_)
    · skip
      refine lv_iload hx hb d_L_law_168 (lv_at hl 1 rfl) ?_
      refine lv_if_ne (tgt := 185) hx hb d_L_law_170 (by decide) (fun c_170 => ?_) (fun c_170 => ?_)
      · skip
        first | exact absurd c_170 (by decide) | exact absurd (by decide) c_170
      · skip
        refine lv_aload_n hx hb d_L_law_173 rfl (lv_at hl 5 rfl) ?_
        refine lv_iconst (v := nI 0) hx hb d_L_law_174 (by decide) ?_
        refine nw_lald hx hb hK hw (69) 1 (cW_69) rfl (0) (rfl) (by omega) (by omega) d_L_law_175 ?_
        refine lv_iload hx hb d_L_law_176 (lv_at hl 0 rfl) ?_
        refine lv_i2l (v := ((nI (n 1)).toInt64)) hx hb d_L_law_178 rfl ?_
        refine lv_el (y := ((vp_updL o 0 ((nI (n 1)).toInt64)) (0))) (rfl) ?_
        refine W.lcmp hx hb d_L_law_179 ?_
        refine lv_ei (y := nI 0) ((lg_cmp_eq _ _).mpr rfl) ?_
        refine lv_if_eq (tgt := 185) hx hb d_L_law_180 (by decide) (fun c_180 => ?_) (fun c_180 => ?_)
        · skip
          refine lv_goto (tgt := 1168) hx hb d_L_law_185 (by decide) ?_
          exact W.widen (by omega) (by omega) (hNext ad' (va_up n 1 (n 1 + 1)) (adI I 1 1 (n 1) (fun _ => (xs (1 + 6 * i + 1)))) (va_up K 0 (nI 0)) bw LA (va_up (va_up J 0 (nI 0)) 3 (nI 0)) bw2 L (vp_updL o 0 ((nI (n 1)).toInt64)) (upR (adS (upR S 0 0 (flR (S 0 0) (-1) 6)) 1 1 (n 1)) 5 0 (upd ((adS (upR S 0 0 (flR (S 0 0) (-1) 6)) 1 1 (n 1)) 5 0) (n 1) (xs (1 + 6 * i + 1)))) (hLR9) _ _ ls hw hS (lv_sub hl [2, 3, 4, 5, 6] rfl))
        · skip
          first | exact absurd c_180 (by decide) | exact absurd (by decide) c_180
    · skip
      exact absurd rfl c_163

set_option maxHeartbeats 4000000 in
set_option maxRecDepth 100000 in
/-- case 2: cage -/
theorem law_2 {p : Program} {l : Launch} {e : Env} {s : State} {m : MethodId} {args : Array Value} {below : List Frame} {meth : Method} {cd : Code} {Q : State → Prop} {D : va_G} {tC : Nat → ClassId} {A : Nat → Prop} {b N : Nat} {xs : Nat → Int32} (hSx : CallFix p m cd b_L_law 8 s args nw_T "HarvestPlansLaw") (hA : ∀ q, s.heap.size ≤ q → A q) (hAs : ∀ q, A q → s.heap.size ≤ q) (hKs : nw_K D hpC (hpT tC) s) (hF : nx_F s) (hfl : l.stackTraces = false) (hX : va_X b N xs s s.heap) (hbl : b < s.heap.size) (hbA : ¬ A b) (hN3 : N ≤ 3073) {cc cs i : Nat} (hcc : cc + 12 ≤ 669896) (hcs : cs + 120 ≤ 7086383) (hi : 1 + 6 * i + 6 ≤ N) (hNext : ∀ (ad : Nat → Nat) (n : Nat → Nat) (I : Nat → Nat → Int32) (K : Nat → Int32) (bw : Int64) (LA : Nat → Int64) (J : Nat → Int32) (bw2 : Int64) (L : Nat → Nat → Int64) (o : Nat → Int64) (S : Nat → Nat → Nat → Int32), LR n I K J S → ∀ (H : Heap) (locs : List Loc) (ls : Array Slot), nw_W D hpC A (cW ad tC n I K bw LA n J bw2 L o S) ad H → va_S A s.heap H locs → lv_has ls 8 [(0, .ref (b)), (1, .ref (ad (0))), (2, .ref (ad (64))), (3, .ref (ad (69))), (4, .int (nI (1 + 6 * i)))] → W p l e room_1 s m args below meth cd H locs (cc + 12) (cs + 120) Q (F0 m 1168 ls [])) (ad : Nat → Nat) (n : Nat → Nat) (I : Nat → Nat → Int32) (K : Nat → Int32) (bw : Int64) (LA : Nat → Int64) (J : Nat → Int32) (bw2 : Int64) (L : Nat → Nat → Int64) (o : Nat → Int64) (S : Nat → Nat → Nat → Int32) (hL : LR n I K J S) (H : Heap) (locs : List Loc) (ls : Array Slot) (hw : nw_W D hpC A (cW ad tC n I K bw LA n J bw2 L o S) ad H) (hS : va_S A s.heap H locs) (hl : lv_has ls 8 [(0, .ref (b)), (1, .ref (ad (0))), (2, .ref (ad (64))), (3, .ref (ad (69))), (4, .int (nI (1 + 6 * i)))]) : W p l e room_1 s m args below meth cd H locs cc cs Q (F0 m 291 ls []) := by
  obtain ⟨hx, hb, hml, hown, hts⟩ := id hSx
  have hK := hKs.1
  have hB : nx_B s s := ⟨State.WarmedH.refl s, Nat.le_refl _, fun _ _ => rfl⟩
  obtain ⟨hm, ow, sq, hLx⟩ := id hL
  have hN : hpN n := hLx.1.1
  obtain ⟨hn0, hn0', hn1, hn2, hn3, hn4⟩ := id hN
  have hJK : J 3 = K 0 := hLx.2.2.1.1
  have hH : ∀ c, c < n 2 → I 2 c = nI (hm c) ∧ hm c < n 1 := fun c hc => ⟨hLx.2.1.1 c hc, (hLx.1.2.2.2.1 c hc).2.1⟩
  have hHm : ∀ c, c < n 2 → S 5 2 c = nI (hm c) ∧ hm c < n 1 := fun c hc => ⟨(hLx.1.2.2.2.1 c hc).1, (hLx.1.2.2.2.1 c hc).2.1⟩
  have hO : ∀ o, o < n 4 → I 4 o = nI (ow o) ∧ ow o < n 0 := fun o ho => ⟨(hLx.1.2.2.2.2.2.2.1 o ho).2.1, (hLx.1.2.2.2.2.2.2.1 o ho).2.2.1⟩
  have hSq : ∀ k, k < n 4 → S 0 1 k = nI (sq k) ∧ sq k < n 4 := fun k hk => ⟨hLx.2.1.2.1 k hk, hLx.1.2.2.2.2.2.2.2.1 k hk⟩
  have hSo : ∀ q, q < n 4 → ∃ j, j < n 4 ∧ sq j = q := hLx.1.2.2.2.2.2.2.2.2.1
  have hPl := ok_pl hLx
  obtain ⟨hz1, hz4, hz51, hz56⟩ := hLx.2.1.2.2.2
  refine lv_aload_n hx hb d_L_law_291 rfl (lv_at hl 1 rfl) ?_
  refine lv_aload_n hx hb d_L_law_292 rfl (lv_at hl 0 rfl) ?_
  refine lv_iload hx hb d_L_law_293 (lv_at hl 4 rfl) ?_
  refine lv_iconst (v := nI 1) hx hb d_L_law_295 (by decide) ?_
  refine lv_iadd hx hb d_L_law_296 ?_
  refine lv_ei (y := nI (1 + 6 * i + 1)) (nI_add _ _) ?_
  refine va_sld hx hb hX hbl hbA hS (vp_in_nI (by omega) (by omega)) d_L_law_297 ?_
  refine lv_ei (y := xs (1 + 6 * i + 1)) (by rw [nI_clamp (by omega)]) ?_
  refine lv_aload_n hx hb d_L_law_298 rfl (lv_at hl 3 rfl) ?_
  refine nx_callC (nx_goW (n := 3) (As := [.ref (ad (0)), .int (xs (1 + 6 * i + 1)), .ref (ad (69))]) (rest := []) hSx hA hKs hF hB hAs hw hS (w_cage l D tC A ad n I K bw LA n J bw2 L o S hN s hF hfl hAs (xs (1 + 6 * i + 1)) ) kt_399 kw_397 kw_398 kw_0 rfl rfl (by decide +kernel) ⟨Nat.le_of_ble_eq_true rfl, Nat.le_of_ble_eq_true rfl⟩ rfl hl.1 (Nat.le_of_ble_eq_true rfl) d_L_law_299 ⟨by show _ ≤ 669896; omega, by show _ ≤ 7086383; omega⟩) hS (fun X wn' ad' H locs x cell hpost hw hS hcell hst hcls T' hT X0 => (lw_po_x hpost).elim) (fun rv wn' ad' H locs hpost hw hS => ?_)
  rcases lw_po_i hpost with ⟨hv, hba, hwn, had⟩ | ⟨hv, hnba, hbs, hwn, had⟩ | ⟨hv, hnba, hnbs, hG⟩
  · skip
    subst hv
    rw [hwn, had] at hw
    refine lv_istore (lv' := [(5, .int (nI 1)), (0, .ref (b)), (1, .ref (ad (0))), (2, .ref (ad (64))), (3, .ref (ad (69))), (4, .int (nI (1 + 6 * i)))]) hx hb d_L_law_302 hl (by decide) rfl (fun ls hl => ?_)
    refine lv_aload_n hx hb d_L_law_304 rfl (lv_at hl 3 rfl) ?_
    refine lv_aload_n hx hb d_L_law_305 rfl (lv_at hl 1 rfl) ?_
    refine lv_iload hx hb d_L_law_306 (lv_at hl 5 rfl) ?_
    refine lv_iconst (v := nI 1) hx hb d_L_law_308 (by decide) ?_
    refine lv_iadd hx hb d_L_law_309 ?_
    refine lv_ei (y := nI (1 + 6 * i + 1)) (nI_add _ _) ?_
    refine va_sld hx hb hX hbl hbA hS (vp_in_nI (by omega) (by omega)) d_L_law_310 ?_
    refine lv_ei (y := xs (1 + 6 * i + 1)) (by rw [nI_clamp (by omega)]) ?_
    have hw := nw_W.as (wn' := mW ad tC n J bw2 L (obX ad tC n I K bw LA (bE tC o)) (arX tC n aE0) S) hw cW_m.symm
    refine nw_call (nw_goV (n := 1) (As := [.int (xs (1 + 6 * i + 1))]) (rest := []) hSx hA hKs hw hS (c_M_cage l D tC A ad n J bw2 L (obX ad tC n I K bw LA (bE tC o)) (arX tC n aE0) S hN (xs (1 + 6 * i + 1)) ) kw_782 kw_779 kw_780 kw_781 kw_8 rfl rfl (by decide +kernel) ⟨Nat.le_of_ble_eq_true rfl, Nat.le_of_ble_eq_true rfl⟩ (nw_recv hK hw (mW_64) rfl) rfl hl.1 (Nat.le_of_ble_eq_true rfl) d_L_law_311 ⟨by show _ ≤ 669896; omega, by show _ ≤ 7086383; omega⟩) hS (fun rv wn' ad9 H locs hpost hw hS => ?_)
    obtain ⟨had9, hmo⟩ := hpost
    rw [had9] at hw
    rcases hmo with ⟨hq1, hq2, hq3⟩ | ⟨hq1, _⟩ | ⟨hq1, _⟩
    rotate_left
    · exact absurd hba hq1
    · exact absurd hba hq1
    subst hq2
    rw [hq3] at hw
    have hw := nw_W.as (wn' := cW ad tC n I K bw LA n (va_up J 0 1) bw2 L o S) hw cW_m
    refine lv_istore (lv' := [(6, .int (nI 0)), (5, .int (nI 1)), (0, .ref (b)), (1, .ref (ad (0))), (2, .ref (ad (64))), (3, .ref (ad (69))), (4, .int (nI (1 + 6 * i)))]) hx hb d_L_law_314 hl (by decide) rfl (fun ls hl => ?_)
    refine lv_aload_n hx hb d_L_law_316 rfl (lv_at hl 4 rfl) ?_
    have hw := nw_W.as (wn' := mW ad tC n (va_up J 0 1) bw2 L (obX ad tC n I K bw LA (bE tC o)) (arX tC n aE0) S) hw cW_m.symm
    refine nw_call (nw_goV (n := 0) (As := []) (rest := []) hSx hA hKs hw hS (c_M_thrown l D tC A ad n (va_up J 0 1) bw2 L (obX ad tC n I K bw LA (bE tC o)) (arX tC n aE0) S hN  ) kw_762 kw_759 kw_760 kw_761 kw_8 rfl rfl (by decide +kernel) ⟨Nat.le_of_ble_eq_true rfl, Nat.le_of_ble_eq_true rfl⟩ (nw_recv hK hw (mW_64) rfl) rfl hl.1 (Nat.le_of_ble_eq_true rfl) d_L_law_317 ⟨by show _ ≤ 669896; omega, by show _ ≤ 7086383; omega⟩) hS (fun rv wn' ad9 H locs hpost hw hS => ?_)
    obtain ⟨hv9, hwn9, had9⟩ := hpost
    subst hv9
    rw [hwn9, had9] at hw
    have hw := nw_W.as (wn' := cW ad tC n I K bw LA n (va_up J 0 1) bw2 L o S) hw cW_m
    refine lv_ei (y := nI 1) rfl ?_
    refine lv_iload hx hb d_L_law_320 (lv_at hl 1 rfl) ?_
    refine lv_icmp_eq (tgt := 327) hx hb d_L_law_322 (by decide) (fun c_322 => ?_) (fun c_322 => ?_)
    · skip
      refine lv_iload hx hb d_L_law_327 (lv_at hl 1 rfl) ?_
      refine lv_if_ne (tgt := 344) hx hb d_L_law_329 (by decide) (fun c_329 => ?_) (fun c_329 => ?_)
      · skip
        refine lv_goto (tgt := 1168) hx hb d_L_law_344 (by decide) ?_
        exact W.widen (by omega) (by omega) (hNext ad n I K bw LA (va_up J 0 1) bw2 L o S (LR_thr hL) _ _ ls hw hS (lv_sub hl [2, 3, 4, 5, 6] rfl))
      · skip
        first | exact absurd c_329 (by decide) | exact absurd (by decide) c_329
    · skip
      exact absurd rfl c_322
  · skip
    subst hv
    rw [hwn, had] at hw
    refine lv_ei (y := nI 2) rfl ?_
    refine lv_istore (lv' := [(5, .int (nI 2)), (0, .ref (b)), (1, .ref (ad (0))), (2, .ref (ad (64))), (3, .ref (ad (69))), (4, .int (nI (1 + 6 * i)))]) hx hb d_L_law_302 hl (by decide) rfl (fun ls hl => ?_)
    refine lv_aload_n hx hb d_L_law_304 rfl (lv_at hl 3 rfl) ?_
    refine lv_aload_n hx hb d_L_law_305 rfl (lv_at hl 1 rfl) ?_
    refine lv_iload hx hb d_L_law_306 (lv_at hl 5 rfl) ?_
    refine lv_iconst (v := nI 1) hx hb d_L_law_308 (by decide) ?_
    refine lv_iadd hx hb d_L_law_309 ?_
    refine lv_ei (y := nI (1 + 6 * i + 1)) (nI_add _ _) ?_
    refine va_sld hx hb hX hbl hbA hS (vp_in_nI (by omega) (by omega)) d_L_law_310 ?_
    refine lv_ei (y := xs (1 + 6 * i + 1)) (by rw [nI_clamp (by omega)]) ?_
    have hw := nw_W.as (wn' := mW ad tC n J bw2 L (obX ad tC n I K bw LA (bE tC o)) (arX tC n aE0) S) hw cW_m.symm
    refine nw_call (nw_goV (n := 1) (As := [.int (xs (1 + 6 * i + 1))]) (rest := []) hSx hA hKs hw hS (c_M_cage l D tC A ad n J bw2 L (obX ad tC n I K bw LA (bE tC o)) (arX tC n aE0) S hN (xs (1 + 6 * i + 1)) ) kw_782 kw_779 kw_780 kw_781 kw_8 rfl rfl (by decide +kernel) ⟨Nat.le_of_ble_eq_true rfl, Nat.le_of_ble_eq_true rfl⟩ (nw_recv hK hw (mW_64) rfl) rfl hl.1 (Nat.le_of_ble_eq_true rfl) d_L_law_311 ⟨by show _ ≤ 669896; omega, by show _ ≤ 7086383; omega⟩) hS (fun rv wn' ad9 H locs hpost hw hS => ?_)
    obtain ⟨had9, hmo⟩ := hpost
    rw [had9] at hw
    rcases hmo with ⟨hq1, _⟩ | ⟨hq1, hq4, hq2, hq3⟩ | ⟨hq1, hq4, _⟩
    · exact absurd hq1 hnba
    rotate_left
    · exact absurd hbs hq4
    subst hq2
    rw [hq3] at hw
    have hw := nw_W.as (wn' := cW ad tC n I K bw LA n (va_up J 0 2) bw2 L o S) hw cW_m
    refine lv_istore (lv' := [(6, .int (nI 0)), (5, .int (nI 2)), (0, .ref (b)), (1, .ref (ad (0))), (2, .ref (ad (64))), (3, .ref (ad (69))), (4, .int (nI (1 + 6 * i)))]) hx hb d_L_law_314 hl (by decide) rfl (fun ls hl => ?_)
    refine lv_aload_n hx hb d_L_law_316 rfl (lv_at hl 4 rfl) ?_
    have hw := nw_W.as (wn' := mW ad tC n (va_up J 0 2) bw2 L (obX ad tC n I K bw LA (bE tC o)) (arX tC n aE0) S) hw cW_m.symm
    refine nw_call (nw_goV (n := 0) (As := []) (rest := []) hSx hA hKs hw hS (c_M_thrown l D tC A ad n (va_up J 0 2) bw2 L (obX ad tC n I K bw LA (bE tC o)) (arX tC n aE0) S hN  ) kw_762 kw_759 kw_760 kw_761 kw_8 rfl rfl (by decide +kernel) ⟨Nat.le_of_ble_eq_true rfl, Nat.le_of_ble_eq_true rfl⟩ (nw_recv hK hw (mW_64) rfl) rfl hl.1 (Nat.le_of_ble_eq_true rfl) d_L_law_317 ⟨by show _ ≤ 669896; omega, by show _ ≤ 7086383; omega⟩) hS (fun rv wn' ad9 H locs hpost hw hS => ?_)
    obtain ⟨hv9, hwn9, had9⟩ := hpost
    subst hv9
    rw [hwn9, had9] at hw
    have hw := nw_W.as (wn' := cW ad tC n I K bw LA n (va_up J 0 2) bw2 L o S) hw cW_m
    refine lv_ei (y := nI 2) rfl ?_
    refine lv_iload hx hb d_L_law_320 (lv_at hl 1 rfl) ?_
    refine lv_icmp_eq (tgt := 327) hx hb d_L_law_322 (by decide) (fun c_322 => ?_) (fun c_322 => ?_)
    · skip
      refine lv_iload hx hb d_L_law_327 (lv_at hl 1 rfl) ?_
      refine lv_if_ne (tgt := 344) hx hb d_L_law_329 (by decide) (fun c_329 => ?_) (fun c_329 => ?_)
      · skip
        refine lv_goto (tgt := 1168) hx hb d_L_law_344 (by decide) ?_
        exact W.widen (by omega) (by omega) (hNext ad n I K bw LA (va_up J 0 2) bw2 L o S (LR_thr hL) _ _ ls hw hS (lv_sub hl [2, 3, 4, 5, 6] rfl))
      · skip
        exact absurd c_329 (by decide)
    · skip
      exact absurd rfl c_322
  · skip
    subst hv
    obtain ⟨hag, hwn⟩ := hG
    rw [hwn] at hw
    obtain ⟨ha0, ha64, ha69⟩ := hag
    rw [← ha0, ← ha64, ← ha69] at hl
    refine lv_istore (lv' := [(5, .int (nI 0)), (0, .ref (b)), (1, .ref (ad' (0))), (2, .ref (ad' (64))), (3, .ref (ad' (69))), (4, .int (nI (1 + 6 * i)))]) hx hb d_L_law_302 hl (by decide) rfl (fun ls hl => ?_)
    refine lv_aload_n hx hb d_L_law_304 rfl (lv_at hl 3 rfl) ?_
    refine lv_aload_n hx hb d_L_law_305 rfl (lv_at hl 1 rfl) ?_
    refine lv_iload hx hb d_L_law_306 (lv_at hl 5 rfl) ?_
    refine lv_iconst (v := nI 1) hx hb d_L_law_308 (by decide) ?_
    refine lv_iadd hx hb d_L_law_309 ?_
    refine lv_ei (y := nI (1 + 6 * i + 1)) (nI_add _ _) ?_
    refine va_sld hx hb hX hbl hbA hS (vp_in_nI (by omega) (by omega)) d_L_law_310 ?_
    refine lv_ei (y := xs (1 + 6 * i + 1)) (by rw [nI_clamp (by omega)]) ?_
    have hw := nw_W.as (wn' := mW ad' tC n J bw2 L (obX ad' tC (va_up n 2 (n 2 + 1)) (adI I 2 2 (n 2) (fun _ => (xs (1 + 6 * i + 1)))) (va_up K 0 (nI 0)) bw LA (bE tC (vp_updL o 0 ((nI (n 2)).toInt64)))) (arX tC (va_up n 2 (n 2 + 1)) aE0) (adS (upR S 0 0 (flR (S 0 0) (-1) 6)) 2 3 (n 2))) hw cW_m.symm
    refine nw_call (nw_goV (n := 1) (As := [.int (xs (1 + 6 * i + 1))]) (rest := []) hSx hA hKs hw hS (c_M_cage l D tC A ad' n J bw2 L (obX ad' tC (va_up n 2 (n 2 + 1)) (adI I 2 2 (n 2) (fun _ => (xs (1 + 6 * i + 1)))) (va_up K 0 (nI 0)) bw LA (bE tC (vp_updL o 0 ((nI (n 2)).toInt64)))) (arX tC (va_up n 2 (n 2 + 1)) aE0) (adS (upR S 0 0 (flR (S 0 0) (-1) 6)) 2 3 (n 2)) hN (xs (1 + 6 * i + 1)) ) kw_782 kw_779 kw_780 kw_781 kw_8 rfl rfl (by decide +kernel) ⟨Nat.le_of_ble_eq_true rfl, Nat.le_of_ble_eq_true rfl⟩ (nw_recv hK hw (mW_64) rfl) rfl hl.1 (Nat.le_of_ble_eq_true rfl) d_L_law_311 ⟨by show _ ≤ 669896; omega, by show _ ≤ 7086383; omega⟩) hS (fun rv wn' ad9 H locs hpost hw hS => ?_)
    obtain ⟨had9, hmo⟩ := hpost
    rw [had9] at hw
    rcases hmo with ⟨hq1, _⟩ | ⟨hq1, hq4, _⟩ | ⟨hq1, hq4, hGm⟩
    · exact absurd hq1 hnba
    · exact absurd hq4 hnbs
    obtain ⟨hv9, hw9⟩ := hGm
    subst hv9
    rw [hw9] at hw
    have hw := nw_W.as (wn' := cW ad' tC (va_up n 2 (n 2 + 1)) (adI I 2 2 (n 2) (fun _ => (xs (1 + 6 * i + 1)))) (va_up K 0 (nI 0)) bw LA (va_up n 2 (n 2 + 1)) (va_up (va_up J 0 (nI 0)) 3 (nI 0)) bw2 L (vp_updL o 0 ((nI (n 2)).toInt64)) (upR (adS (upR S 0 0 (flR (S 0 0) (-1) 6)) 2 3 (n 2)) 5 2 (upd ((adS (upR S 0 0 (flR (S 0 0) (-1) 6)) 2 3 (n 2)) 5 2) (n 2) (xs (1 + 6 * i + 1))))) hw cW_m
    have hLR9 := LR_cage hL (Classical.not_not.mp hnba) ((nI_ltI (by omega) (by omega)).mp (Classical.not_not.mp hnbs))
    have hN2 : hpN (va_up n 2 (n 2 + 1)) := LR_N hLR9
    refine lv_istore (lv' := [(6, .int (nI (n 2))), (5, .int (nI 0)), (0, .ref (b)), (1, .ref (ad' (0))), (2, .ref (ad' (64))), (3, .ref (ad' (69))), (4, .int (nI (1 + 6 * i)))]) hx hb d_L_law_314 hl (by decide) rfl (fun ls hl => ?_)
    refine lv_aload_n hx hb d_L_law_316 rfl (lv_at hl 4 rfl) ?_
    have hw := nw_W.as (wn' := mW ad' tC (va_up n 2 (n 2 + 1)) (va_up (va_up J 0 (nI 0)) 3 (nI 0)) bw2 L (obX ad' tC (va_up n 2 (n 2 + 1)) (adI I 2 2 (n 2) (fun _ => (xs (1 + 6 * i + 1)))) (va_up K 0 (nI 0)) bw LA (bE tC (vp_updL o 0 ((nI (n 2)).toInt64)))) (arX tC (va_up n 2 (n 2 + 1)) aE0) (upR (adS (upR S 0 0 (flR (S 0 0) (-1) 6)) 2 3 (n 2)) 5 2 (upd ((adS (upR S 0 0 (flR (S 0 0) (-1) 6)) 2 3 (n 2)) 5 2) (n 2) (xs (1 + 6 * i + 1))))) hw cW_m.symm
    refine nw_call (nw_goV (n := 0) (As := []) (rest := []) hSx hA hKs hw hS (c_M_thrown l D tC A ad' (va_up n 2 (n 2 + 1)) (va_up (va_up J 0 (nI 0)) 3 (nI 0)) bw2 L (obX ad' tC (va_up n 2 (n 2 + 1)) (adI I 2 2 (n 2) (fun _ => (xs (1 + 6 * i + 1)))) (va_up K 0 (nI 0)) bw LA (bE tC (vp_updL o 0 ((nI (n 2)).toInt64)))) (arX tC (va_up n 2 (n 2 + 1)) aE0) (upR (adS (upR S 0 0 (flR (S 0 0) (-1) 6)) 2 3 (n 2)) 5 2 (upd ((adS (upR S 0 0 (flR (S 0 0) (-1) 6)) 2 3 (n 2)) 5 2) (n 2) (xs (1 + 6 * i + 1)))) hN2  ) kw_762 kw_759 kw_760 kw_761 kw_8 rfl rfl (by decide +kernel) ⟨Nat.le_of_ble_eq_true rfl, Nat.le_of_ble_eq_true rfl⟩ (nw_recv hK hw (mW_64) rfl) rfl hl.1 (Nat.le_of_ble_eq_true rfl) d_L_law_317 ⟨by show _ ≤ 669896; omega, by show _ ≤ 7086383; omega⟩) hS (fun rv wn' ad9 H locs hpost hw hS => ?_)
    obtain ⟨hv9, hwn9, had9⟩ := hpost
    subst hv9
    rw [hwn9, had9] at hw
    have hw := nw_W.as (wn' := cW ad' tC (va_up n 2 (n 2 + 1)) (adI I 2 2 (n 2) (fun _ => (xs (1 + 6 * i + 1)))) (va_up K 0 (nI 0)) bw LA (va_up n 2 (n 2 + 1)) (va_up (va_up J 0 (nI 0)) 3 (nI 0)) bw2 L (vp_updL o 0 ((nI (n 2)).toInt64)) (upR (adS (upR S 0 0 (flR (S 0 0) (-1) 6)) 2 3 (n 2)) 5 2 (upd ((adS (upR S 0 0 (flR (S 0 0) (-1) 6)) 2 3 (n 2)) 5 2) (n 2) (xs (1 + 6 * i + 1))))) hw cW_m
    refine lv_ei (y := nI 0) rfl ?_
    refine lv_iload hx hb d_L_law_320 (lv_at hl 1 rfl) ?_
    refine lv_icmp_eq (tgt := 327) hx hb d_L_law_322 (by decide) (fun c_322 => ?_) (fun c_322 => ?_)
    · skip
      refine lv_iload hx hb d_L_law_327 (lv_at hl 1 rfl) ?_
      refine lv_if_ne (tgt := 344) hx hb d_L_law_329 (by decide) (fun c_329 => ?_) (fun c_329 => ?_)
      · skip
        first | exact absurd c_329 (by decide) | exact absurd (by decide) c_329
      · skip
        refine lv_aload_n hx hb d_L_law_332 rfl (lv_at hl 5 rfl) ?_
        refine lv_iconst (v := nI 0) hx hb d_L_law_333 (by decide) ?_
        refine nw_lald hx hb hK hw (69) 1 (cW_69) rfl (0) (rfl) (by omega) (by omega) d_L_law_334 ?_
        refine lv_iload hx hb d_L_law_335 (lv_at hl 0 rfl) ?_
        refine lv_i2l (v := ((nI (n 2)).toInt64)) hx hb d_L_law_337 rfl ?_
        refine lv_el (y := ((vp_updL o 0 ((nI (n 2)).toInt64)) (0))) (rfl) ?_
        refine W.lcmp hx hb d_L_law_338 ?_
        refine lv_ei (y := nI 0) ((lg_cmp_eq _ _).mpr rfl) ?_
        refine lv_if_eq (tgt := 344) hx hb d_L_law_339 (by decide) (fun c_339 => ?_) (fun c_339 => ?_)
        · skip
          refine lv_goto (tgt := 1168) hx hb d_L_law_344 (by decide) ?_
          exact W.widen (by omega) (by omega) (hNext ad' (va_up n 2 (n 2 + 1)) (adI I 2 2 (n 2) (fun _ => (xs (1 + 6 * i + 1)))) (va_up K 0 (nI 0)) bw LA (va_up (va_up J 0 (nI 0)) 3 (nI 0)) bw2 L (vp_updL o 0 ((nI (n 2)).toInt64)) (upR (adS (upR S 0 0 (flR (S 0 0) (-1) 6)) 2 3 (n 2)) 5 2 (upd ((adS (upR S 0 0 (flR (S 0 0) (-1) 6)) 2 3 (n 2)) 5 2) (n 2) (xs (1 + 6 * i + 1)))) (hLR9) _ _ ls hw hS (lv_sub hl [2, 3, 4, 5, 6] rfl))
        · skip
          first | exact absurd c_339 (by decide) | exact absurd (by decide) c_339
    · skip
      exact absurd rfl c_322

set_option maxHeartbeats 4000000 in
set_option maxRecDepth 100000 in
/-- case 4: boat -/
theorem law_4 {p : Program} {l : Launch} {e : Env} {s : State} {m : MethodId} {args : Array Value} {below : List Frame} {meth : Method} {cd : Code} {Q : State → Prop} {D : va_G} {tC : Nat → ClassId} {A : Nat → Prop} {b N : Nat} {xs : Nat → Int32} (hSx : CallFix p m cd b_L_law 8 s args nw_T "HarvestPlansLaw") (hA : ∀ q, s.heap.size ≤ q → A q) (hAs : ∀ q, A q → s.heap.size ≤ q) (hKs : nw_K D hpC (hpT tC) s) (hF : nx_F s) (hfl : l.stackTraces = false) (hX : va_X b N xs s s.heap) (hbl : b < s.heap.size) (hbA : ¬ A b) (hN3 : N ≤ 3073) {cc cs i : Nat} (hcc : cc + 12 ≤ 669896) (hcs : cs + 120 ≤ 7086383) (hi : 1 + 6 * i + 6 ≤ N) (hNext : ∀ (ad : Nat → Nat) (n : Nat → Nat) (I : Nat → Nat → Int32) (K : Nat → Int32) (bw : Int64) (LA : Nat → Int64) (J : Nat → Int32) (bw2 : Int64) (L : Nat → Nat → Int64) (o : Nat → Int64) (S : Nat → Nat → Nat → Int32), LR n I K J S → ∀ (H : Heap) (locs : List Loc) (ls : Array Slot), nw_W D hpC A (cW ad tC n I K bw LA n J bw2 L o S) ad H → va_S A s.heap H locs → lv_has ls 8 [(0, .ref (b)), (1, .ref (ad (0))), (2, .ref (ad (64))), (3, .ref (ad (69))), (4, .int (nI (1 + 6 * i)))] → W p l e room_1 s m args below meth cd H locs (cc + 12) (cs + 120) Q (F0 m 1168 ls [])) (ad : Nat → Nat) (n : Nat → Nat) (I : Nat → Nat → Int32) (K : Nat → Int32) (bw : Int64) (LA : Nat → Int64) (J : Nat → Int32) (bw2 : Int64) (L : Nat → Nat → Int64) (o : Nat → Int64) (S : Nat → Nat → Nat → Int32) (hL : LR n I K J S) (H : Heap) (locs : List Loc) (ls : Array Slot) (hw : nw_W D hpC A (cW ad tC n I K bw LA n J bw2 L o S) ad H) (hS : va_S A s.heap H locs) (hl : lv_has ls 8 [(0, .ref (b)), (1, .ref (ad (0))), (2, .ref (ad (64))), (3, .ref (ad (69))), (4, .int (nI (1 + 6 * i)))]) : W p l e room_1 s m args below meth cd H locs cc cs Q (F0 m 439 ls []) := by
  obtain ⟨hx, hb, hml, hown, hts⟩ := id hSx
  have hK := hKs.1
  have hB : nx_B s s := ⟨State.WarmedH.refl s, Nat.le_refl _, fun _ _ => rfl⟩
  obtain ⟨hm, ow, sq, hLx⟩ := id hL
  have hN : hpN n := hLx.1.1
  obtain ⟨hn0, hn0', hn1, hn2, hn3, hn4⟩ := id hN
  have hJK : J 3 = K 0 := hLx.2.2.1.1
  have hH : ∀ c, c < n 2 → I 2 c = nI (hm c) ∧ hm c < n 1 := fun c hc => ⟨hLx.2.1.1 c hc, (hLx.1.2.2.2.1 c hc).2.1⟩
  have hHm : ∀ c, c < n 2 → S 5 2 c = nI (hm c) ∧ hm c < n 1 := fun c hc => ⟨(hLx.1.2.2.2.1 c hc).1, (hLx.1.2.2.2.1 c hc).2.1⟩
  have hO : ∀ o, o < n 4 → I 4 o = nI (ow o) ∧ ow o < n 0 := fun o ho => ⟨(hLx.1.2.2.2.2.2.2.1 o ho).2.1, (hLx.1.2.2.2.2.2.2.1 o ho).2.2.1⟩
  have hSq : ∀ k, k < n 4 → S 0 1 k = nI (sq k) ∧ sq k < n 4 := fun k hk => ⟨hLx.2.1.2.1 k hk, hLx.1.2.2.2.2.2.2.2.1 k hk⟩
  have hSo : ∀ q, q < n 4 → ∃ j, j < n 4 ∧ sq j = q := hLx.1.2.2.2.2.2.2.2.2.1
  have hPl := ok_pl hLx
  obtain ⟨hz1, hz4, hz51, hz56⟩ := hLx.2.1.2.2.2
  refine lv_aload_n hx hb d_L_law_439 rfl (lv_at hl 1 rfl) ?_
  refine lv_aload_n hx hb d_L_law_440 rfl (lv_at hl 0 rfl) ?_
  refine lv_iload hx hb d_L_law_441 (lv_at hl 4 rfl) ?_
  refine lv_iconst (v := nI 1) hx hb d_L_law_443 (by decide) ?_
  refine lv_iadd hx hb d_L_law_444 ?_
  refine lv_ei (y := nI (1 + 6 * i + 1)) (nI_add _ _) ?_
  refine va_sld hx hb hX hbl hbA hS (vp_in_nI (by omega) (by omega)) d_L_law_445 ?_
  refine lv_ei (y := xs (1 + 6 * i + 1)) (by rw [nI_clamp (by omega)]) ?_
  refine lv_aload_n hx hb d_L_law_446 rfl (lv_at hl 3 rfl) ?_
  refine nx_callC (nx_goW (n := 3) (As := [.ref (ad (0)), .int (xs (1 + 6 * i + 1)), .ref (ad (69))]) (rest := []) hSx hA hKs hF hB hAs hw hS (w_boat l D tC A ad n I K bw LA n J bw2 L o S hN s hF hfl hAs (xs (1 + 6 * i + 1)) ) kt_441 kw_439 kw_440 kw_0 rfl rfl (by decide +kernel) ⟨Nat.le_of_ble_eq_true rfl, Nat.le_of_ble_eq_true rfl⟩ rfl hl.1 (Nat.le_of_ble_eq_true rfl) d_L_law_447 ⟨by show _ ≤ 669896; omega, by show _ ≤ 7086383; omega⟩) hS (fun X wn' ad' H locs x cell hpost hw hS hcell hst hcls T' hT X0 => (lw_po_x hpost).elim) (fun rv wn' ad' H locs hpost hw hS => ?_)
  rcases lw_po_i hpost with ⟨hv, hba, hwn, had⟩ | ⟨hv, hnba, hbs, hwn, had⟩ | ⟨hv, hnba, hnbs, hG⟩
  · skip
    subst hv
    rw [hwn, had] at hw
    refine lv_istore (lv' := [(5, .int (nI 1)), (0, .ref (b)), (1, .ref (ad (0))), (2, .ref (ad (64))), (3, .ref (ad (69))), (4, .int (nI (1 + 6 * i)))]) hx hb d_L_law_450 hl (by decide) rfl (fun ls hl => ?_)
    refine lv_aload_n hx hb d_L_law_452 rfl (lv_at hl 3 rfl) ?_
    refine lv_aload_n hx hb d_L_law_453 rfl (lv_at hl 1 rfl) ?_
    refine lv_iload hx hb d_L_law_454 (lv_at hl 5 rfl) ?_
    refine lv_iconst (v := nI 1) hx hb d_L_law_456 (by decide) ?_
    refine lv_iadd hx hb d_L_law_457 ?_
    refine lv_ei (y := nI (1 + 6 * i + 1)) (nI_add _ _) ?_
    refine va_sld hx hb hX hbl hbA hS (vp_in_nI (by omega) (by omega)) d_L_law_458 ?_
    refine lv_ei (y := xs (1 + 6 * i + 1)) (by rw [nI_clamp (by omega)]) ?_
    have hw := nw_W.as (wn' := mW ad tC n J bw2 L (obX ad tC n I K bw LA (bE tC o)) (arX tC n aE0) S) hw cW_m.symm
    refine nw_call (nw_goV (n := 1) (As := [.int (xs (1 + 6 * i + 1))]) (rest := []) hSx hA hKs hw hS (c_M_boat l D tC A ad n J bw2 L (obX ad tC n I K bw LA (bE tC o)) (arX tC n aE0) S hN (xs (1 + 6 * i + 1)) ) kw_797 kw_794 kw_795 kw_796 kw_8 rfl rfl (by decide +kernel) ⟨Nat.le_of_ble_eq_true rfl, Nat.le_of_ble_eq_true rfl⟩ (nw_recv hK hw (mW_64) rfl) rfl hl.1 (Nat.le_of_ble_eq_true rfl) d_L_law_459 ⟨by show _ ≤ 669896; omega, by show _ ≤ 7086383; omega⟩) hS (fun rv wn' ad9 H locs hpost hw hS => ?_)
    obtain ⟨had9, hmo⟩ := hpost
    rw [had9] at hw
    rcases hmo with ⟨hq1, hq2, hq3⟩ | ⟨hq1, _⟩ | ⟨hq1, _⟩
    rotate_left
    · exact absurd hba hq1
    · exact absurd hba hq1
    subst hq2
    rw [hq3] at hw
    have hw := nw_W.as (wn' := cW ad tC n I K bw LA n (va_up J 0 1) bw2 L o S) hw cW_m
    refine lv_istore (lv' := [(6, .int (nI 0)), (5, .int (nI 1)), (0, .ref (b)), (1, .ref (ad (0))), (2, .ref (ad (64))), (3, .ref (ad (69))), (4, .int (nI (1 + 6 * i)))]) hx hb d_L_law_462 hl (by decide) rfl (fun ls hl => ?_)
    refine lv_aload_n hx hb d_L_law_464 rfl (lv_at hl 4 rfl) ?_
    have hw := nw_W.as (wn' := mW ad tC n (va_up J 0 1) bw2 L (obX ad tC n I K bw LA (bE tC o)) (arX tC n aE0) S) hw cW_m.symm
    refine nw_call (nw_goV (n := 0) (As := []) (rest := []) hSx hA hKs hw hS (c_M_thrown l D tC A ad n (va_up J 0 1) bw2 L (obX ad tC n I K bw LA (bE tC o)) (arX tC n aE0) S hN  ) kw_762 kw_759 kw_760 kw_761 kw_8 rfl rfl (by decide +kernel) ⟨Nat.le_of_ble_eq_true rfl, Nat.le_of_ble_eq_true rfl⟩ (nw_recv hK hw (mW_64) rfl) rfl hl.1 (Nat.le_of_ble_eq_true rfl) d_L_law_465 ⟨by show _ ≤ 669896; omega, by show _ ≤ 7086383; omega⟩) hS (fun rv wn' ad9 H locs hpost hw hS => ?_)
    obtain ⟨hv9, hwn9, had9⟩ := hpost
    subst hv9
    rw [hwn9, had9] at hw
    have hw := nw_W.as (wn' := cW ad tC n I K bw LA n (va_up J 0 1) bw2 L o S) hw cW_m
    refine lv_ei (y := nI 1) rfl ?_
    refine lv_iload hx hb d_L_law_468 (lv_at hl 1 rfl) ?_
    refine lv_icmp_eq (tgt := 475) hx hb d_L_law_470 (by decide) (fun c_470 => ?_) (fun c_470 => ?_)
    · skip
      refine lv_iload hx hb d_L_law_475 (lv_at hl 1 rfl) ?_
      refine lv_if_ne (tgt := 492) hx hb d_L_law_477 (by decide) (fun c_477 => ?_) (fun c_477 => ?_)
      · skip
        refine lv_goto (tgt := 1168) hx hb d_L_law_492 (by decide) ?_
        exact W.widen (by omega) (by omega) (hNext ad n I K bw LA (va_up J 0 1) bw2 L o S (LR_thr hL) _ _ ls hw hS (lv_sub hl [2, 3, 4, 5, 6] rfl))
      · skip
        first | exact absurd c_477 (by decide) | exact absurd (by decide) c_477
    · skip
      exact absurd rfl c_470
  · skip
    subst hv
    rw [hwn, had] at hw
    refine lv_ei (y := nI 2) rfl ?_
    refine lv_istore (lv' := [(5, .int (nI 2)), (0, .ref (b)), (1, .ref (ad (0))), (2, .ref (ad (64))), (3, .ref (ad (69))), (4, .int (nI (1 + 6 * i)))]) hx hb d_L_law_450 hl (by decide) rfl (fun ls hl => ?_)
    refine lv_aload_n hx hb d_L_law_452 rfl (lv_at hl 3 rfl) ?_
    refine lv_aload_n hx hb d_L_law_453 rfl (lv_at hl 1 rfl) ?_
    refine lv_iload hx hb d_L_law_454 (lv_at hl 5 rfl) ?_
    refine lv_iconst (v := nI 1) hx hb d_L_law_456 (by decide) ?_
    refine lv_iadd hx hb d_L_law_457 ?_
    refine lv_ei (y := nI (1 + 6 * i + 1)) (nI_add _ _) ?_
    refine va_sld hx hb hX hbl hbA hS (vp_in_nI (by omega) (by omega)) d_L_law_458 ?_
    refine lv_ei (y := xs (1 + 6 * i + 1)) (by rw [nI_clamp (by omega)]) ?_
    have hw := nw_W.as (wn' := mW ad tC n J bw2 L (obX ad tC n I K bw LA (bE tC o)) (arX tC n aE0) S) hw cW_m.symm
    refine nw_call (nw_goV (n := 1) (As := [.int (xs (1 + 6 * i + 1))]) (rest := []) hSx hA hKs hw hS (c_M_boat l D tC A ad n J bw2 L (obX ad tC n I K bw LA (bE tC o)) (arX tC n aE0) S hN (xs (1 + 6 * i + 1)) ) kw_797 kw_794 kw_795 kw_796 kw_8 rfl rfl (by decide +kernel) ⟨Nat.le_of_ble_eq_true rfl, Nat.le_of_ble_eq_true rfl⟩ (nw_recv hK hw (mW_64) rfl) rfl hl.1 (Nat.le_of_ble_eq_true rfl) d_L_law_459 ⟨by show _ ≤ 669896; omega, by show _ ≤ 7086383; omega⟩) hS (fun rv wn' ad9 H locs hpost hw hS => ?_)
    obtain ⟨had9, hmo⟩ := hpost
    rw [had9] at hw
    rcases hmo with ⟨hq1, _⟩ | ⟨hq1, hq4, hq2, hq3⟩ | ⟨hq1, hq4, _⟩
    · exact absurd hq1 hnba
    rotate_left
    · exact absurd hbs hq4
    subst hq2
    rw [hq3] at hw
    have hw := nw_W.as (wn' := cW ad tC n I K bw LA n (va_up J 0 2) bw2 L o S) hw cW_m
    refine lv_istore (lv' := [(6, .int (nI 0)), (5, .int (nI 2)), (0, .ref (b)), (1, .ref (ad (0))), (2, .ref (ad (64))), (3, .ref (ad (69))), (4, .int (nI (1 + 6 * i)))]) hx hb d_L_law_462 hl (by decide) rfl (fun ls hl => ?_)
    refine lv_aload_n hx hb d_L_law_464 rfl (lv_at hl 4 rfl) ?_
    have hw := nw_W.as (wn' := mW ad tC n (va_up J 0 2) bw2 L (obX ad tC n I K bw LA (bE tC o)) (arX tC n aE0) S) hw cW_m.symm
    refine nw_call (nw_goV (n := 0) (As := []) (rest := []) hSx hA hKs hw hS (c_M_thrown l D tC A ad n (va_up J 0 2) bw2 L (obX ad tC n I K bw LA (bE tC o)) (arX tC n aE0) S hN  ) kw_762 kw_759 kw_760 kw_761 kw_8 rfl rfl (by decide +kernel) ⟨Nat.le_of_ble_eq_true rfl, Nat.le_of_ble_eq_true rfl⟩ (nw_recv hK hw (mW_64) rfl) rfl hl.1 (Nat.le_of_ble_eq_true rfl) d_L_law_465 ⟨by show _ ≤ 669896; omega, by show _ ≤ 7086383; omega⟩) hS (fun rv wn' ad9 H locs hpost hw hS => ?_)
    obtain ⟨hv9, hwn9, had9⟩ := hpost
    subst hv9
    rw [hwn9, had9] at hw
    have hw := nw_W.as (wn' := cW ad tC n I K bw LA n (va_up J 0 2) bw2 L o S) hw cW_m
    refine lv_ei (y := nI 2) rfl ?_
    refine lv_iload hx hb d_L_law_468 (lv_at hl 1 rfl) ?_
    refine lv_icmp_eq (tgt := 475) hx hb d_L_law_470 (by decide) (fun c_470 => ?_) (fun c_470 => ?_)
    · skip
      refine lv_iload hx hb d_L_law_475 (lv_at hl 1 rfl) ?_
      refine lv_if_ne (tgt := 492) hx hb d_L_law_477 (by decide) (fun c_477 => ?_) (fun c_477 => ?_)
      · skip
        refine lv_goto (tgt := 1168) hx hb d_L_law_492 (by decide) ?_
        exact W.widen (by omega) (by omega) (hNext ad n I K bw LA (va_up J 0 2) bw2 L o S (LR_thr hL) _ _ ls hw hS (lv_sub hl [2, 3, 4, 5, 6] rfl))
      · skip
        exact absurd c_477 (by decide)
    · skip
      exact absurd rfl c_470
  · skip
    subst hv
    obtain ⟨hag, hwn⟩ := hG
    rw [hwn] at hw
    obtain ⟨ha0, ha64, ha69⟩ := hag
    rw [← ha0, ← ha64, ← ha69] at hl
    refine lv_istore (lv' := [(5, .int (nI 0)), (0, .ref (b)), (1, .ref (ad' (0))), (2, .ref (ad' (64))), (3, .ref (ad' (69))), (4, .int (nI (1 + 6 * i)))]) hx hb d_L_law_450 hl (by decide) rfl (fun ls hl => ?_)
    refine lv_aload_n hx hb d_L_law_452 rfl (lv_at hl 3 rfl) ?_
    refine lv_aload_n hx hb d_L_law_453 rfl (lv_at hl 1 rfl) ?_
    refine lv_iload hx hb d_L_law_454 (lv_at hl 5 rfl) ?_
    refine lv_iconst (v := nI 1) hx hb d_L_law_456 (by decide) ?_
    refine lv_iadd hx hb d_L_law_457 ?_
    refine lv_ei (y := nI (1 + 6 * i + 1)) (nI_add _ _) ?_
    refine va_sld hx hb hX hbl hbA hS (vp_in_nI (by omega) (by omega)) d_L_law_458 ?_
    refine lv_ei (y := xs (1 + 6 * i + 1)) (by rw [nI_clamp (by omega)]) ?_
    have hw := nw_W.as (wn' := mW ad' tC n J bw2 L (obX ad' tC (va_up n 3 (n 3 + 1)) (adI I 3 3 (n 3) (fun _ => (xs (1 + 6 * i + 1)))) (va_up K 0 (nI 0)) bw LA (bE tC (vp_updL o 0 ((nI (n 3)).toInt64)))) (arX tC (va_up n 3 (n 3 + 1)) aE0) (adS (upR S 0 0 (flR (S 0 0) (-1) 6)) 4 4 (n 3))) hw cW_m.symm
    refine nw_call (nw_goV (n := 1) (As := [.int (xs (1 + 6 * i + 1))]) (rest := []) hSx hA hKs hw hS (c_M_boat l D tC A ad' n J bw2 L (obX ad' tC (va_up n 3 (n 3 + 1)) (adI I 3 3 (n 3) (fun _ => (xs (1 + 6 * i + 1)))) (va_up K 0 (nI 0)) bw LA (bE tC (vp_updL o 0 ((nI (n 3)).toInt64)))) (arX tC (va_up n 3 (n 3 + 1)) aE0) (adS (upR S 0 0 (flR (S 0 0) (-1) 6)) 4 4 (n 3)) hN (xs (1 + 6 * i + 1)) ) kw_797 kw_794 kw_795 kw_796 kw_8 rfl rfl (by decide +kernel) ⟨Nat.le_of_ble_eq_true rfl, Nat.le_of_ble_eq_true rfl⟩ (nw_recv hK hw (mW_64) rfl) rfl hl.1 (Nat.le_of_ble_eq_true rfl) d_L_law_459 ⟨by show _ ≤ 669896; omega, by show _ ≤ 7086383; omega⟩) hS (fun rv wn' ad9 H locs hpost hw hS => ?_)
    obtain ⟨had9, hmo⟩ := hpost
    rw [had9] at hw
    rcases hmo with ⟨hq1, _⟩ | ⟨hq1, hq4, _⟩ | ⟨hq1, hq4, hGm⟩
    · exact absurd hq1 hnba
    · exact absurd hq4 hnbs
    obtain ⟨hv9, hw9⟩ := hGm
    subst hv9
    rw [hw9] at hw
    have hw := nw_W.as (wn' := cW ad' tC (va_up n 3 (n 3 + 1)) (adI I 3 3 (n 3) (fun _ => (xs (1 + 6 * i + 1)))) (va_up K 0 (nI 0)) bw LA (va_up n 3 (n 3 + 1)) (va_up (va_up J 0 (nI 0)) 3 (nI 0)) bw2 L (vp_updL o 0 ((nI (n 3)).toInt64)) (upR (adS (upR S 0 0 (flR (S 0 0) (-1) 6)) 4 4 (n 3)) 5 5 (upd ((adS (upR S 0 0 (flR (S 0 0) (-1) 6)) 4 4 (n 3)) 5 5) (n 3) (xs (1 + 6 * i + 1))))) hw cW_m
    have hLR9 := LR_boat hL (Classical.not_not.mp hnba) ((nI_ltI (by omega) (by omega)).mp (Classical.not_not.mp hnbs))
    have hN2 : hpN (va_up n 3 (n 3 + 1)) := LR_N hLR9
    refine lv_istore (lv' := [(6, .int (nI (n 3))), (5, .int (nI 0)), (0, .ref (b)), (1, .ref (ad' (0))), (2, .ref (ad' (64))), (3, .ref (ad' (69))), (4, .int (nI (1 + 6 * i)))]) hx hb d_L_law_462 hl (by decide) rfl (fun ls hl => ?_)
    refine lv_aload_n hx hb d_L_law_464 rfl (lv_at hl 4 rfl) ?_
    have hw := nw_W.as (wn' := mW ad' tC (va_up n 3 (n 3 + 1)) (va_up (va_up J 0 (nI 0)) 3 (nI 0)) bw2 L (obX ad' tC (va_up n 3 (n 3 + 1)) (adI I 3 3 (n 3) (fun _ => (xs (1 + 6 * i + 1)))) (va_up K 0 (nI 0)) bw LA (bE tC (vp_updL o 0 ((nI (n 3)).toInt64)))) (arX tC (va_up n 3 (n 3 + 1)) aE0) (upR (adS (upR S 0 0 (flR (S 0 0) (-1) 6)) 4 4 (n 3)) 5 5 (upd ((adS (upR S 0 0 (flR (S 0 0) (-1) 6)) 4 4 (n 3)) 5 5) (n 3) (xs (1 + 6 * i + 1))))) hw cW_m.symm
    refine nw_call (nw_goV (n := 0) (As := []) (rest := []) hSx hA hKs hw hS (c_M_thrown l D tC A ad' (va_up n 3 (n 3 + 1)) (va_up (va_up J 0 (nI 0)) 3 (nI 0)) bw2 L (obX ad' tC (va_up n 3 (n 3 + 1)) (adI I 3 3 (n 3) (fun _ => (xs (1 + 6 * i + 1)))) (va_up K 0 (nI 0)) bw LA (bE tC (vp_updL o 0 ((nI (n 3)).toInt64)))) (arX tC (va_up n 3 (n 3 + 1)) aE0) (upR (adS (upR S 0 0 (flR (S 0 0) (-1) 6)) 4 4 (n 3)) 5 5 (upd ((adS (upR S 0 0 (flR (S 0 0) (-1) 6)) 4 4 (n 3)) 5 5) (n 3) (xs (1 + 6 * i + 1)))) hN2  ) kw_762 kw_759 kw_760 kw_761 kw_8 rfl rfl (by decide +kernel) ⟨Nat.le_of_ble_eq_true rfl, Nat.le_of_ble_eq_true rfl⟩ (nw_recv hK hw (mW_64) rfl) rfl hl.1 (Nat.le_of_ble_eq_true rfl) d_L_law_465 ⟨by show _ ≤ 669896; omega, by show _ ≤ 7086383; omega⟩) hS (fun rv wn' ad9 H locs hpost hw hS => ?_)
    obtain ⟨hv9, hwn9, had9⟩ := hpost
    subst hv9
    rw [hwn9, had9] at hw
    have hw := nw_W.as (wn' := cW ad' tC (va_up n 3 (n 3 + 1)) (adI I 3 3 (n 3) (fun _ => (xs (1 + 6 * i + 1)))) (va_up K 0 (nI 0)) bw LA (va_up n 3 (n 3 + 1)) (va_up (va_up J 0 (nI 0)) 3 (nI 0)) bw2 L (vp_updL o 0 ((nI (n 3)).toInt64)) (upR (adS (upR S 0 0 (flR (S 0 0) (-1) 6)) 4 4 (n 3)) 5 5 (upd ((adS (upR S 0 0 (flR (S 0 0) (-1) 6)) 4 4 (n 3)) 5 5) (n 3) (xs (1 + 6 * i + 1))))) hw cW_m
    refine lv_ei (y := nI 0) rfl ?_
    refine lv_iload hx hb d_L_law_468 (lv_at hl 1 rfl) ?_
    refine lv_icmp_eq (tgt := 475) hx hb d_L_law_470 (by decide) (fun c_470 => ?_) (fun c_470 => ?_)
    · skip
      refine lv_iload hx hb d_L_law_475 (lv_at hl 1 rfl) ?_
      refine lv_if_ne (tgt := 492) hx hb d_L_law_477 (by decide) (fun c_477 => ?_) (fun c_477 => ?_)
      · skip
        first | exact absurd c_477 (by decide) | exact absurd (by decide) c_477
      · skip
        refine lv_aload_n hx hb d_L_law_480 rfl (lv_at hl 5 rfl) ?_
        refine lv_iconst (v := nI 0) hx hb d_L_law_481 (by decide) ?_
        refine nw_lald hx hb hK hw (69) 1 (cW_69) rfl (0) (rfl) (by omega) (by omega) d_L_law_482 ?_
        refine lv_iload hx hb d_L_law_483 (lv_at hl 0 rfl) ?_
        refine lv_i2l (v := ((nI (n 3)).toInt64)) hx hb d_L_law_485 rfl ?_
        refine lv_el (y := ((vp_updL o 0 ((nI (n 3)).toInt64)) (0))) (rfl) ?_
        refine W.lcmp hx hb d_L_law_486 ?_
        refine lv_ei (y := nI 0) ((lg_cmp_eq _ _).mpr rfl) ?_
        refine lv_if_eq (tgt := 492) hx hb d_L_law_487 (by decide) (fun c_487 => ?_) (fun c_487 => ?_)
        · skip
          refine lv_goto (tgt := 1168) hx hb d_L_law_492 (by decide) ?_
          exact W.widen (by omega) (by omega) (hNext ad' (va_up n 3 (n 3 + 1)) (adI I 3 3 (n 3) (fun _ => (xs (1 + 6 * i + 1)))) (va_up K 0 (nI 0)) bw LA (va_up (va_up J 0 (nI 0)) 3 (nI 0)) bw2 L (vp_updL o 0 ((nI (n 3)).toInt64)) (upR (adS (upR S 0 0 (flR (S 0 0) (-1) 6)) 4 4 (n 3)) 5 5 (upd ((adS (upR S 0 0 (flR (S 0 0) (-1) 6)) 4 4 (n 3)) 5 5) (n 3) (xs (1 + 6 * i + 1)))) (hLR9) _ _ ls hw hS (lv_sub hl [2, 3, 4, 5, 6] rfl))
        · skip
          first | exact absurd c_487 (by decide) | exact absurd (by decide) c_487
    · skip
      exact absurd rfl c_470
