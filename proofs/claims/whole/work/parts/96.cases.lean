set_option maxHeartbeats 4000000 in
set_option maxRecDepth 100000 in
/-- case 0: place -/
theorem law_0 {p : Program} {l : Launch} {e : Env} {s : State} {m : MethodId} {args : Array Value} {below : List Frame} {meth : Method} {cd : Code} {Q : State → Prop} {D : va_G} {tC : Nat → ClassId} {A : Nat → Prop} {b N : Nat} {xs : Nat → Int32} (hSx : CallFix p m cd b_L_law 8 s args nw_T "HarvestPlansLaw") (hA : ∀ q, s.heap.size ≤ q → A q) (hAs : ∀ q, A q → s.heap.size ≤ q) (hKs : nw_K D hpC (hpT tC) s) (hF : nx_F s) (hfl : l.stackTraces = false) (hX : va_X b N xs s s.heap) (hbl : b < s.heap.size) (hbA : ¬ A b) (hN3 : N ≤ 3073) {cc cs i : Nat} (hcc : cc + 12 ≤ 669896) (hcs : cs + 120 ≤ 7086383) (hi : 1 + 6 * i + 6 ≤ N) (hNext : ∀ (ad : Nat → Nat) (n : Nat → Nat) (I : Nat → Nat → Int32) (K : Nat → Int32) (bw : Int64) (LA : Nat → Int64) (J : Nat → Int32) (bw2 : Int64) (L : Nat → Nat → Int64) (o : Nat → Int64) (S : Nat → Nat → Nat → Int32), LR n I K J S → ∀ (H : Heap) (locs : List Loc) (ls : Array Slot), nw_W D hpC A (cW ad tC n I K bw LA n J bw2 L o S) ad H → va_S A s.heap H locs → lv_has ls 8 [(0, .ref (b)), (1, .ref (ad (0))), (2, .ref (ad (64))), (3, .ref (ad (69))), (4, .int (nI (1 + 6 * i)))] → W p l e room_1 s m args below meth cd H locs (cc + 12) (cs + 120) Q (F0 m 1168 ls [])) (ad : Nat → Nat) (n : Nat → Nat) (I : Nat → Nat → Int32) (K : Nat → Int32) (bw : Int64) (LA : Nat → Int64) (J : Nat → Int32) (bw2 : Int64) (L : Nat → Nat → Int64) (o : Nat → Int64) (S : Nat → Nat → Nat → Int32) (hL : LR n I K J S) (H : Heap) (locs : List Loc) (ls : Array Slot) (hw : nw_W D hpC A (cW ad tC n I K bw LA n J bw2 L o S) ad H) (hS : va_S A s.heap H locs) (hl : lv_has ls 8 [(0, .ref (b)), (1, .ref (ad (0))), (2, .ref (ad (64))), (3, .ref (ad (69))), (4, .int (nI (1 + 6 * i)))]) : W p l e room_1 s m args below meth cd H locs cc cs Q (F0 m 132 ls []) := by
  obtain ⟨hx, hb, hml, hown, hts⟩ := id hSx
  have hK := hKs.1
  have hB : nx_B s s := ⟨State.WarmedH.refl s, Nat.le_refl _, fun _ _ => rfl⟩
  obtain ⟨hm, ow, sq, hLx⟩ := id hL
  have hN : hpN n := hLx.1.1
  obtain ⟨hn0, hn0', hn1, hn2, hn3, hn4⟩ := id hN
  have hJK : J 3 = K 0 := hLx.2.2.1.1
  have hH : ∀ c, c < n 2 → I 2 c = nI (hm c) ∧ hm c < n 1 := fun c hc => ⟨hLx.2.1.1 c hc, (hLx.1.2.2.2.1 c hc).2.1⟩
  have hHm : ∀ c, c < n 2 → S 5 2 c = nI (hm c) ∧ hm c < n 1 := fun c hc => ⟨(hLx.1.2.2.2.1 c hc).1, (hLx.1.2.2.2.1 c hc).2.1⟩
  have hO : ∀ o, o < n 4 → I 4 o = nI (ow o) ∧ ow o < n 0 := fun o ho => ⟨(hLx.1.2.2.2.2.2.2.1 o ho).2.1, (hLx.1.2.2.2.2.2.2.1 o ho).2.2.1⟩
  have hSq : ∀ k, k < n 4 → S 0 1 k = nI (sq k) ∧ sq k < n 4 := fun k hk => ⟨hLx.2.1.2.1 k hk, hLx.1.2.2.2.2.2.2.2.1 k hk⟩
  have hSo : ∀ q, q < n 4 → ∃ j, j < n 4 ∧ sq j = q := hLx.1.2.2.2.2.2.2.2.2.1
  have hPl := ok_pl hLx
  obtain ⟨hz1, hz4, hz51, hz56⟩ := hLx.2.1.2.2.2
  refine lv_aload_n hx hb d_L_law_132 rfl (lv_at hl 1 rfl) ?_
  refine lv_aload_n hx hb d_L_law_133 rfl (lv_at hl 0 rfl) ?_
  refine lv_iload hx hb d_L_law_134 (lv_at hl 4 rfl) ?_
  refine lv_iconst (v := nI 1) hx hb d_L_law_136 (by decide) ?_
  refine lv_iadd hx hb d_L_law_137 ?_
  refine lv_ei (y := nI (1 + 6 * i + 1)) (nI_add _ _) ?_
  refine va_sld hx hb hX hbl hbA hS (vp_in_nI (by omega) (by omega)) d_L_law_138 ?_
  refine lv_ei (y := xs (1 + 6 * i + 1)) (by rw [nI_clamp (by omega)]) ?_
  refine lv_aload_n hx hb d_L_law_139 rfl (lv_at hl 3 rfl) ?_
  refine nx_callC (nx_goW (n := 3) (As := [.ref (ad (0)), .int (xs (1 + 6 * i + 1)), .ref (ad (69))]) (rest := []) hSx hA hKs hF hB hAs hw hS (w_place l D tC A ad n I K bw LA n J bw2 L o S hN s hF hfl hAs (xs (1 + 6 * i + 1)) ) kt_260 kw_258 kw_259 kw_0 rfl rfl (by decide +kernel) ⟨Nat.le_of_ble_eq_true rfl, Nat.le_of_ble_eq_true rfl⟩ rfl hl.1 (Nat.le_of_ble_eq_true rfl) d_L_law_140 ⟨by show _ ≤ 669896; omega, by show _ ≤ 7086383; omega⟩) hS (fun X wn' ad' H locs x cell hpost hw hS hcell hst hcls T' hT X0 => (lw_po_x hpost).elim) (fun rv wn' ad' H locs hpost hw hS => ?_)
  rcases lw_po_i hpost with ⟨hv, hba, hwn, had⟩ | ⟨hv, hnba, hbs, hwn, had⟩ | ⟨hv, hnba, hnbs, hG⟩
  · skip
    subst hv
    rw [hwn, had] at hw
    refine lv_istore (lv' := [(5, .int (nI 1)), (0, .ref (b)), (1, .ref (ad (0))), (2, .ref (ad (64))), (3, .ref (ad (69))), (4, .int (nI (1 + 6 * i)))]) hx hb d_L_law_143 hl (by decide) rfl (fun ls hl => ?_)
    refine lv_aload_n hx hb d_L_law_145 rfl (lv_at hl 3 rfl) ?_
    refine lv_aload_n hx hb d_L_law_146 rfl (lv_at hl 1 rfl) ?_
    refine lv_iload hx hb d_L_law_147 (lv_at hl 5 rfl) ?_
    refine lv_iconst (v := nI 1) hx hb d_L_law_149 (by decide) ?_
    refine lv_iadd hx hb d_L_law_150 ?_
    refine lv_ei (y := nI (1 + 6 * i + 1)) (nI_add _ _) ?_
    refine va_sld hx hb hX hbl hbA hS (vp_in_nI (by omega) (by omega)) d_L_law_151 ?_
    refine lv_ei (y := xs (1 + 6 * i + 1)) (by rw [nI_clamp (by omega)]) ?_
    have hw := nw_W.as (wn' := mW ad tC n J bw2 L (obX ad tC n I K bw LA (bE tC o)) (arX tC n aE0) S) hw cW_m.symm
    refine nw_call (nw_goV (n := 1) (As := [.int (xs (1 + 6 * i + 1))]) (rest := []) hSx hA hKs hw hS (c_M_place l D tC A ad n J bw2 L (obX ad tC n I K bw LA (bE tC o)) (arX tC n aE0) S hN (xs (1 + 6 * i + 1)) ) kw_766 kw_763 kw_764 kw_765 kw_8 rfl rfl (by decide +kernel) ⟨Nat.le_of_ble_eq_true rfl, Nat.le_of_ble_eq_true rfl⟩ (nw_recv hK hw (mW_64) rfl) rfl hl.1 (Nat.le_of_ble_eq_true rfl) d_L_law_152 ⟨by show _ ≤ 669896; omega, by show _ ≤ 7086383; omega⟩) hS (fun rv wn' ad9 H locs hpost hw hS => ?_)
    obtain ⟨had9, hmo⟩ := hpost
    rw [had9] at hw
    rcases hmo with ⟨hq1, hq2, hq3⟩ | ⟨hq1, _⟩ | ⟨hq1, _⟩
    rotate_left
    · exact absurd hba hq1
    · exact absurd hba hq1
    subst hq2
    rw [hq3] at hw
    have hw := nw_W.as (wn' := cW ad tC n I K bw LA n (va_up J 0 1) bw2 L o S) hw cW_m
    refine lv_istore (lv' := [(6, .int (nI 0)), (5, .int (nI 1)), (0, .ref (b)), (1, .ref (ad (0))), (2, .ref (ad (64))), (3, .ref (ad (69))), (4, .int (nI (1 + 6 * i)))]) hx hb d_L_law_155 hl (by decide) rfl (fun ls hl => ?_)
    refine lv_aload_n hx hb d_L_law_157 rfl (lv_at hl 4 rfl) ?_
    have hw := nw_W.as (wn' := mW ad tC n (va_up J 0 1) bw2 L (obX ad tC n I K bw LA (bE tC o)) (arX tC n aE0) S) hw cW_m.symm
    refine nw_call (nw_goV (n := 0) (As := []) (rest := []) hSx hA hKs hw hS (c_M_thrown l D tC A ad n (va_up J 0 1) bw2 L (obX ad tC n I K bw LA (bE tC o)) (arX tC n aE0) S hN  ) kw_762 kw_759 kw_760 kw_761 kw_8 rfl rfl (by decide +kernel) ⟨Nat.le_of_ble_eq_true rfl, Nat.le_of_ble_eq_true rfl⟩ (nw_recv hK hw (mW_64) rfl) rfl hl.1 (Nat.le_of_ble_eq_true rfl) d_L_law_158 ⟨by show _ ≤ 669896; omega, by show _ ≤ 7086383; omega⟩) hS (fun rv wn' ad9 H locs hpost hw hS => ?_)
    obtain ⟨hv9, hwn9, had9⟩ := hpost
    subst hv9
    rw [hwn9, had9] at hw
    have hw := nw_W.as (wn' := cW ad tC n I K bw LA n (va_up J 0 1) bw2 L o S) hw cW_m
    refine lv_ei (y := nI 1) rfl ?_
    refine lv_iload hx hb d_L_law_161 (lv_at hl 1 rfl) ?_
    refine lv_icmp_eq (tgt := 168) hx hb d_L_law_163 (by decide) (fun c_163 => ?_) (fun c_163 => ?_)
    · skip
      refine lv_iload hx hb d_L_law_168 (lv_at hl 1 rfl) ?_
      refine lv_if_ne (tgt := 185) hx hb d_L_law_170 (by decide) (fun c_170 => ?_) (fun c_170 => ?_)
      · skip
        refine lv_goto (tgt := 1168) hx hb d_L_law_185 (by decide) ?_
        exact W.widen (by omega) (by omega) (hNext ad n I K bw LA (va_up J 0 1) bw2 L o S (LR_thr hL) _ _ ls hw hS (lv_sub hl [2, 3, 4, 5, 6] rfl))
      · skip
        first | exact absurd c_170 (by decide) | exact absurd (by decide) c_170
    · skip
      exact absurd rfl c_163
  · skip
    subst hv
    rw [hwn, had] at hw
    refine lv_ei (y := nI 2) rfl ?_
    refine lv_istore (lv' := [(5, .int (nI 2)), (0, .ref (b)), (1, .ref (ad (0))), (2, .ref (ad (64))), (3, .ref (ad (69))), (4, .int (nI (1 + 6 * i)))]) hx hb d_L_law_143 hl (by decide) rfl (fun ls hl => ?_)
    refine lv_aload_n hx hb d_L_law_145 rfl (lv_at hl 3 rfl) ?_
    refine lv_aload_n hx hb d_L_law_146 rfl (lv_at hl 1 rfl) ?_
    refine lv_iload hx hb d_L_law_147 (lv_at hl 5 rfl) ?_
    refine lv_iconst (v := nI 1) hx hb d_L_law_149 (by decide) ?_
    refine lv_iadd hx hb d_L_law_150 ?_
    refine lv_ei (y := nI (1 + 6 * i + 1)) (nI_add _ _) ?_
    refine va_sld hx hb hX hbl hbA hS (vp_in_nI (by omega) (by omega)) d_L_law_151 ?_
    refine lv_ei (y := xs (1 + 6 * i + 1)) (by rw [nI_clamp (by omega)]) ?_
    have hw := nw_W.as (wn' := mW ad tC n J bw2 L (obX ad tC n I K bw LA (bE tC o)) (arX tC n aE0) S) hw cW_m.symm
    refine nw_call (nw_goV (n := 1) (As := [.int (xs (1 + 6 * i + 1))]) (rest := []) hSx hA hKs hw hS (c_M_place l D tC A ad n J bw2 L (obX ad tC n I K bw LA (bE tC o)) (arX tC n aE0) S hN (xs (1 + 6 * i + 1)) ) kw_766 kw_763 kw_764 kw_765 kw_8 rfl rfl (by decide +kernel) ⟨Nat.le_of_ble_eq_true rfl, Nat.le_of_ble_eq_true rfl⟩ (nw_recv hK hw (mW_64) rfl) rfl hl.1 (Nat.le_of_ble_eq_true rfl) d_L_law_152 ⟨by show _ ≤ 669896; omega, by show _ ≤ 7086383; omega⟩) hS (fun rv wn' ad9 H locs hpost hw hS => ?_)
    obtain ⟨had9, hmo⟩ := hpost
    rw [had9] at hw
    rcases hmo with ⟨hq1, _⟩ | ⟨hq1, hq4, hq2, hq3⟩ | ⟨hq1, hq4, _⟩
    · exact absurd hq1 hnba
    rotate_left
    · exact absurd hbs hq4
    subst hq2
    rw [hq3] at hw
    have hw := nw_W.as (wn' := cW ad tC n I K bw LA n (va_up J 0 2) bw2 L o S) hw cW_m
    refine lv_istore (lv' := [(6, .int (nI 0)), (5, .int (nI 2)), (0, .ref (b)), (1, .ref (ad (0))), (2, .ref (ad (64))), (3, .ref (ad (69))), (4, .int (nI (1 + 6 * i)))]) hx hb d_L_law_155 hl (by decide) rfl (fun ls hl => ?_)
    refine lv_aload_n hx hb d_L_law_157 rfl (lv_at hl 4 rfl) ?_
    have hw := nw_W.as (wn' := mW ad tC n (va_up J 0 2) bw2 L (obX ad tC n I K bw LA (bE tC o)) (arX tC n aE0) S) hw cW_m.symm
    refine nw_call (nw_goV (n := 0) (As := []) (rest := []) hSx hA hKs hw hS (c_M_thrown l D tC A ad n (va_up J 0 2) bw2 L (obX ad tC n I K bw LA (bE tC o)) (arX tC n aE0) S hN  ) kw_762 kw_759 kw_760 kw_761 kw_8 rfl rfl (by decide +kernel) ⟨Nat.le_of_ble_eq_true rfl, Nat.le_of_ble_eq_true rfl⟩ (nw_recv hK hw (mW_64) rfl) rfl hl.1 (Nat.le_of_ble_eq_true rfl) d_L_law_158 ⟨by show _ ≤ 669896; omega, by show _ ≤ 7086383; omega⟩) hS (fun rv wn' ad9 H locs hpost hw hS => ?_)
    obtain ⟨hv9, hwn9, had9⟩ := hpost
    subst hv9
    rw [hwn9, had9] at hw
    have hw := nw_W.as (wn' := cW ad tC n I K bw LA n (va_up J 0 2) bw2 L o S) hw cW_m
    refine lv_ei (y := nI 2) rfl ?_
    refine lv_iload hx hb d_L_law_161 (lv_at hl 1 rfl) ?_
    refine lv_icmp_eq (tgt := 168) hx hb d_L_law_163 (by decide) (fun c_163 => ?_) (fun c_163 => ?_)
    · skip
      refine lv_iload hx hb d_L_law_168 (lv_at hl 1 rfl) ?_
      refine lv_if_ne (tgt := 185) hx hb d_L_law_170 (by decide) (fun c_170 => ?_) (fun c_170 => ?_)
      · skip
        refine lv_goto (tgt := 1168) hx hb d_L_law_185 (by decide) ?_
        exact W.widen (by omega) (by omega) (hNext ad n I K bw LA (va_up J 0 2) bw2 L o S (LR_thr hL) _ _ ls hw hS (lv_sub hl [2, 3, 4, 5, 6] rfl))
      · skip
        exact absurd c_170 (by decide)
    · skip
      exact absurd rfl c_163
  · skip
    subst hv
    obtain ⟨hag, hwn⟩ := hG
    rw [hwn] at hw
    obtain ⟨ha0, ha64, ha69⟩ := hag
    rw [← ha0, ← ha64, ← ha69] at hl
    refine lv_istore (lv' := [(5, .int (nI 0)), (0, .ref (b)), (1, .ref (ad' (0))), (2, .ref (ad' (64))), (3, .ref (ad' (69))), (4, .int (nI (1 + 6 * i)))]) hx hb d_L_law_143 hl (by decide) rfl (fun ls hl => ?_)
    refine lv_aload_n hx hb d_L_law_145 rfl (lv_at hl 3 rfl) ?_
    refine lv_aload_n hx hb d_L_law_146 rfl (lv_at hl 1 rfl) ?_
    refine lv_iload hx hb d_L_law_147 (lv_at hl 5 rfl) ?_
    refine lv_iconst (v := nI 1) hx hb d_L_law_149 (by decide) ?_
    refine lv_iadd hx hb d_L_law_150 ?_
    refine lv_ei (y := nI (1 + 6 * i + 1)) (nI_add _ _) ?_
    refine va_sld hx hb hX hbl hbA hS (vp_in_nI (by omega) (by omega)) d_L_law_151 ?_
    refine lv_ei (y := xs (1 + 6 * i + 1)) (by rw [nI_clamp (by omega)]) ?_
    have hw := nw_W.as (wn' := mW ad' tC n J bw2 L (obX ad' tC (va_up n 1 (n 1 + 1)) (adI I 1 1 (n 1) (fun _ => (xs (1 + 6 * i + 1)))) (va_up K 0 (nI 0)) bw LA (bE tC (vp_updL o 0 ((nI (n 1)).toInt64)))) (arX tC (va_up n 1 (n 1 + 1)) aE0) (adS (upR S 0 0 (flR (S 0 0) (-1) 6)) 1 1 (n 1))) hw cW_m.symm
    refine nw_call (nw_goV (n := 1) (As := [.int (xs (1 + 6 * i + 1))]) (rest := []) hSx hA hKs hw hS (c_M_place l D tC A ad' n J bw2 L (obX ad' tC (va_up n 1 (n 1 + 1)) (adI I 1 1 (n 1) (fun _ => (xs (1 + 6 * i + 1)))) (va_up K 0 (nI 0)) bw LA (bE tC (vp_updL o 0 ((nI (n 1)).toInt64)))) (arX tC (va_up n 1 (n 1 + 1)) aE0) (adS (upR S 0 0 (flR (S 0 0) (-1) 6)) 1 1 (n 1)) hN (xs (1 + 6 * i + 1)) ) kw_766 kw_763 kw_764 kw_765 kw_8 rfl rfl (by decide +kernel) ⟨Nat.le_of_ble_eq_true rfl, Nat.le_of_ble_eq_true rfl⟩ (nw_recv hK hw (mW_64) rfl) rfl hl.1 (Nat.le_of_ble_eq_true rfl) d_L_law_152 ⟨by show _ ≤ 669896; omega, by show _ ≤ 7086383; omega⟩) hS (fun rv wn' ad9 H locs hpost hw hS => ?_)
    obtain ⟨had9, hmo⟩ := hpost
    rw [had9] at hw
    rcases hmo with ⟨hq1, _⟩ | ⟨hq1, hq4, _⟩ | ⟨hq1, hq4, hGm⟩
    · exact absurd hq1 hnba
    · exact absurd hq4 hnbs
    obtain ⟨hv9, hw9⟩ := hGm
    subst hv9
    rw [hw9] at hw
    have hw := nw_W.as (wn' := cW ad' tC (va_up n 1 (n 1 + 1)) (adI I 1 1 (n 1) (fun _ => (xs (1 + 6 * i + 1)))) (va_up K 0 (nI 0)) bw LA (va_up n 1 (n 1 + 1)) (va_up (va_up J 0 (nI 0)) 3 (nI 0)) bw2 L (vp_updL o 0 ((nI (n 1)).toInt64)) (upR (adS (upR S 0 0 (flR (S 0 0) (-1) 6)) 1 1 (n 1)) 5 0 (upd ((adS (upR S 0 0 (flR (S 0 0) (-1) 6)) 1 1 (n 1)) 5 0) (n 1) (xs (1 + 6 * i + 1))))) hw cW_m
    have hLR9 := LR_place hL (Classical.not_not.mp hnba) ((nI_ltI (by omega) (by omega)).mp (Classical.not_not.mp hnbs))
    have hN2 : hpN (va_up n 1 (n 1 + 1)) := LR_N hLR9
    refine lv_istore (lv' := [(6, .int (nI (n 1))), (5, .int (nI 0)), (0, .ref (b)), (1, .ref (ad' (0))), (2, .ref (ad' (64))), (3, .ref (ad' (69))), (4, .int (nI (1 + 6 * i)))]) hx hb d_L_law_155 hl (by decide) rfl (fun ls hl => ?_)
    refine lv_aload_n hx hb d_L_law_157 rfl (lv_at hl 4 rfl) ?_
    have hw := nw_W.as (wn' := mW ad' tC (va_up n 1 (n 1 + 1)) (va_up (va_up J 0 (nI 0)) 3 (nI 0)) bw2 L (obX ad' tC (va_up n 1 (n 1 + 1)) (adI I 1 1 (n 1) (fun _ => (xs (1 + 6 * i + 1)))) (va_up K 0 (nI 0)) bw LA (bE tC (vp_updL o 0 ((nI (n 1)).toInt64)))) (arX tC (va_up n 1 (n 1 + 1)) aE0) (upR (adS (upR S 0 0 (flR (S 0 0) (-1) 6)) 1 1 (n 1)) 5 0 (upd ((adS (upR S 0 0 (flR (S 0 0) (-1) 6)) 1 1 (n 1)) 5 0) (n 1) (xs (1 + 6 * i + 1))))) hw cW_m.symm
    refine nw_call (nw_goV (n := 0) (As := []) (rest := []) hSx hA hKs hw hS (c_M_thrown l D tC A ad' (va_up n 1 (n 1 + 1)) (va_up (va_up J 0 (nI 0)) 3 (nI 0)) bw2 L (obX ad' tC (va_up n 1 (n 1 + 1)) (adI I 1 1 (n 1) (fun _ => (xs (1 + 6 * i + 1)))) (va_up K 0 (nI 0)) bw LA (bE tC (vp_updL o 0 ((nI (n 1)).toInt64)))) (arX tC (va_up n 1 (n 1 + 1)) aE0) (upR (adS (upR S 0 0 (flR (S 0 0) (-1) 6)) 1 1 (n 1)) 5 0 (upd ((adS (upR S 0 0 (flR (S 0 0) (-1) 6)) 1 1 (n 1)) 5 0) (n 1) (xs (1 + 6 * i + 1)))) hN2  ) kw_762 kw_759 kw_760 kw_761 kw_8 rfl rfl (by decide +kernel) ⟨Nat.le_of_ble_eq_true rfl, Nat.le_of_ble_eq_true rfl⟩ (nw_recv hK hw (mW_64) rfl) rfl hl.1 (Nat.le_of_ble_eq_true rfl) d_L_law_158 ⟨by show _ ≤ 669896; omega, by show _ ≤ 7086383; omega⟩) hS (fun rv wn' ad9 H locs hpost hw hS => ?_)
    obtain ⟨hv9, hwn9, had9⟩ := hpost
    subst hv9
    rw [hwn9, had9] at hw
    have hw := nw_W.as (wn' := cW ad' tC (va_up n 1 (n 1 + 1)) (adI I 1 1 (n 1) (fun _ => (xs (1 + 6 * i + 1)))) (va_up K 0 (nI 0)) bw LA (va_up n 1 (n 1 + 1)) (va_up (va_up J 0 (nI 0)) 3 (nI 0)) bw2 L (vp_updL o 0 ((nI (n 1)).toInt64)) (upR (adS (upR S 0 0 (flR (S 0 0) (-1) 6)) 1 1 (n 1)) 5 0 (upd ((adS (upR S 0 0 (flR (S 0 0) (-1) 6)) 1 1 (n 1)) 5 0) (n 1) (xs (1 + 6 * i + 1))))) hw cW_m
    refine lv_ei (y := nI 0) rfl ?_
    refine lv_iload hx hb d_L_law_161 (lv_at hl 1 rfl) ?_
    refine lv_icmp_eq (tgt := 168) hx hb d_L_law_163 (by decide) (fun c_163 => ?_) (fun c_163 => ?_)
    · skip
      refine lv_iload hx hb d_L_law_168 (lv_at hl 1 rfl) ?_
      refine lv_if_ne (tgt := 185) hx hb d_L_law_170 (by decide) (fun c_170 => ?_) (fun c_170 => ?_)
      · skip
        first | exact absurd c_170 (by decide) | exact absurd (by decide) c_170
      · skip
        refine lv_aload_n hx hb d_L_law_173 rfl (lv_at hl 5 rfl) ?_
        refine lv_iconst (v := nI 0) hx hb d_L_law_174 (by decide) ?_
        refine nw_lald hx hb hK hw (69) 1 (cW_69) rfl (0) (rfl) (by omega) (by omega) d_L_law_175 ?_
        refine lv_iload hx hb d_L_law_176 (lv_at hl 0 rfl) ?_
        refine lv_i2l (v := ((nI (n 1)).toInt64)) hx hb d_L_law_178 rfl ?_
        refine lv_el (y := ((vp_updL o 0 ((nI (n 1)).toInt64)) (0))) (rfl) ?_
        refine W.lcmp hx hb d_L_law_179 ?_
        refine lv_ei (y := nI 0) ((lg_cmp_eq _ _).mpr rfl) ?_
        refine lv_if_eq (tgt := 185) hx hb d_L_law_180 (by decide) (fun c_180 => ?_) (fun c_180 => ?_)
        · skip
          refine lv_goto (tgt := 1168) hx hb d_L_law_185 (by decide) ?_
          exact W.widen (by omega) (by omega) (hNext ad' (va_up n 1 (n 1 + 1)) (adI I 1 1 (n 1) (fun _ => (xs (1 + 6 * i + 1)))) (va_up K 0 (nI 0)) bw LA (va_up (va_up J 0 (nI 0)) 3 (nI 0)) bw2 L (vp_updL o 0 ((nI (n 1)).toInt64)) (upR (adS (upR S 0 0 (flR (S 0 0) (-1) 6)) 1 1 (n 1)) 5 0 (upd ((adS (upR S 0 0 (flR (S 0 0) (-1) 6)) 1 1 (n 1)) 5 0) (n 1) (xs (1 + 6 * i + 1)))) (hLR9) _ _ ls hw hS (lv_sub hl [2, 3, 4, 5, 6] rfl))
        · skip
          first | exact absurd c_180 (by decide) | exact absurd (by decide) c_180
    · skip
      exact absurd rfl c_163

set_option maxHeartbeats 4000000 in
set_option maxRecDepth 100000 in
/-- case 2: cage -/
theorem law_2 {p : Program} {l : Launch} {e : Env} {s : State} {m : MethodId} {args : Array Value} {below : List Frame} {meth : Method} {cd : Code} {Q : State → Prop} {D : va_G} {tC : Nat → ClassId} {A : Nat → Prop} {b N : Nat} {xs : Nat → Int32} (hSx : CallFix p m cd b_L_law 8 s args nw_T "HarvestPlansLaw") (hA : ∀ q, s.heap.size ≤ q → A q) (hAs : ∀ q, A q → s.heap.size ≤ q) (hKs : nw_K D hpC (hpT tC) s) (hF : nx_F s) (hfl : l.stackTraces = false) (hX : va_X b N xs s s.heap) (hbl : b < s.heap.size) (hbA : ¬ A b) (hN3 : N ≤ 3073) {cc cs i : Nat} (hcc : cc + 12 ≤ 669896) (hcs : cs + 120 ≤ 7086383) (hi : 1 + 6 * i + 6 ≤ N) (hNext : ∀ (ad : Nat → Nat) (n : Nat → Nat) (I : Nat → Nat → Int32) (K : Nat → Int32) (bw : Int64) (LA : Nat → Int64) (J : Nat → Int32) (bw2 : Int64) (L : Nat → Nat → Int64) (o : Nat → Int64) (S : Nat → Nat → Nat → Int32), LR n I K J S → ∀ (H : Heap) (locs : List Loc) (ls : Array Slot), nw_W D hpC A (cW ad tC n I K bw LA n J bw2 L o S) ad H → va_S A s.heap H locs → lv_has ls 8 [(0, .ref (b)), (1, .ref (ad (0))), (2, .ref (ad (64))), (3, .ref (ad (69))), (4, .int (nI (1 + 6 * i)))] → W p l e room_1 s m args below meth cd H locs (cc + 12) (cs + 120) Q (F0 m 1168 ls [])) (ad : Nat → Nat) (n : Nat → Nat) (I : Nat → Nat → Int32) (K : Nat → Int32) (bw : Int64) (LA : Nat → Int64) (J : Nat → Int32) (bw2 : Int64) (L : Nat → Nat → Int64) (o : Nat → Int64) (S : Nat → Nat → Nat → Int32) (hL : LR n I K J S) (H : Heap) (locs : List Loc) (ls : Array Slot) (hw : nw_W D hpC A (cW ad tC n I K bw LA n J bw2 L o S) ad H) (hS : va_S A s.heap H locs) (hl : lv_has ls 8 [(0, .ref (b)), (1, .ref (ad (0))), (2, .ref (ad (64))), (3, .ref (ad (69))), (4, .int (nI (1 + 6 * i)))]) : W p l e room_1 s m args below meth cd H locs cc cs Q (F0 m 291 ls []) := by
  obtain ⟨hx, hb, hml, hown, hts⟩ := id hSx
  have hK := hKs.1
  have hB : nx_B s s := ⟨State.WarmedH.refl s, Nat.le_refl _, fun _ _ => rfl⟩
  obtain ⟨hm, ow, sq, hLx⟩ := id hL
  have hN : hpN n := hLx.1.1
  obtain ⟨hn0, hn0', hn1, hn2, hn3, hn4⟩ := id hN
  have hJK : J 3 = K 0 := hLx.2.2.1.1
  have hH : ∀ c, c < n 2 → I 2 c = nI (hm c) ∧ hm c < n 1 := fun c hc => ⟨hLx.2.1.1 c hc, (hLx.1.2.2.2.1 c hc).2.1⟩
  have hHm : ∀ c, c < n 2 → S 5 2 c = nI (hm c) ∧ hm c < n 1 := fun c hc => ⟨(hLx.1.2.2.2.1 c hc).1, (hLx.1.2.2.2.1 c hc).2.1⟩
  have hO : ∀ o, o < n 4 → I 4 o = nI (ow o) ∧ ow o < n 0 := fun o ho => ⟨(hLx.1.2.2.2.2.2.2.1 o ho).2.1, (hLx.1.2.2.2.2.2.2.1 o ho).2.2.1⟩
  have hSq : ∀ k, k < n 4 → S 0 1 k = nI (sq k) ∧ sq k < n 4 := fun k hk => ⟨hLx.2.1.2.1 k hk, hLx.1.2.2.2.2.2.2.2.1 k hk⟩
  have hSo : ∀ q, q < n 4 → ∃ j, j < n 4 ∧ sq j = q := hLx.1.2.2.2.2.2.2.2.2.1
  have hPl := ok_pl hLx
  obtain ⟨hz1, hz4, hz51, hz56⟩ := hLx.2.1.2.2.2
  refine lv_aload_n hx hb d_L_law_291 rfl (lv_at hl 1 rfl) ?_
  refine lv_aload_n hx hb d_L_law_292 rfl (lv_at hl 0 rfl) ?_
  refine lv_iload hx hb d_L_law_293 (lv_at hl 4 rfl) ?_
  refine lv_iconst (v := nI 1) hx hb d_L_law_295 (by decide) ?_
  refine lv_iadd hx hb d_L_law_296 ?_
  refine lv_ei (y := nI (1 + 6 * i + 1)) (nI_add _ _) ?_
  refine va_sld hx hb hX hbl hbA hS (vp_in_nI (by omega) (by omega)) d_L_law_297 ?_
  refine lv_ei (y := xs (1 + 6 * i + 1)) (by rw [nI_clamp (by omega)]) ?_
  refine lv_aload_n hx hb d_L_law_298 rfl (lv_at hl 3 rfl) ?_
  refine nx_callC (nx_goW (n := 3) (As := [.ref (ad (0)), .int (xs (1 + 6 * i + 1)), .ref (ad (69))]) (rest := []) hSx hA hKs hF hB hAs hw hS (w_cage l D tC A ad n I K bw LA n J bw2 L o S hN s hF hfl hAs (xs (1 + 6 * i + 1)) ) kt_399 kw_397 kw_398 kw_0 rfl rfl (by decide +kernel) ⟨Nat.le_of_ble_eq_true rfl, Nat.le_of_ble_eq_true rfl⟩ rfl hl.1 (Nat.le_of_ble_eq_true rfl) d_L_law_299 ⟨by show _ ≤ 669896; omega, by show _ ≤ 7086383; omega⟩) hS (fun X wn' ad' H locs x cell hpost hw hS hcell hst hcls T' hT X0 => (lw_po_x hpost).elim) (fun rv wn' ad' H locs hpost hw hS => ?_)
  rcases lw_po_i hpost with ⟨hv, hba, hwn, had⟩ | ⟨hv, hnba, hbs, hwn, had⟩ | ⟨hv, hnba, hnbs, hG⟩
  · skip
    subst hv
    rw [hwn, had] at hw
    refine lv_istore (lv' := [(5, .int (nI 1)), (0, .ref (b)), (1, .ref (ad (0))), (2, .ref (ad (64))), (3, .ref (ad (69))), (4, .int (nI (1 + 6 * i)))]) hx hb d_L_law_302 hl (by decide) rfl (fun ls hl => ?_)
    refine lv_aload_n hx hb d_L_law_304 rfl (lv_at hl 3 rfl) ?_
    refine lv_aload_n hx hb d_L_law_305 rfl (lv_at hl 1 rfl) ?_
    refine lv_iload hx hb d_L_law_306 (lv_at hl 5 rfl) ?_
    refine lv_iconst (v := nI 1) hx hb d_L_law_308 (by decide) ?_
    refine lv_iadd hx hb d_L_law_309 ?_
    refine lv_ei (y := nI (1 + 6 * i + 1)) (nI_add _ _) ?_
    refine va_sld hx hb hX hbl hbA hS (vp_in_nI (by omega) (by omega)) d_L_law_310 ?_
    refine lv_ei (y := xs (1 + 6 * i + 1)) (by rw [nI_clamp (by omega)]) ?_
    have hw := nw_W.as (wn' := mW ad tC n J bw2 L (obX ad tC n I K bw LA (bE tC o)) (arX tC n aE0) S) hw cW_m.symm
    refine nw_call (nw_goV (n := 1) (As := [.int (xs (1 + 6 * i + 1))]) (rest := []) hSx hA hKs hw hS (c_M_cage l D tC A ad n J bw2 L (obX ad tC n I K bw LA (bE tC o)) (arX tC n aE0) S hN (xs (1 + 6 * i + 1)) ) kw_782 kw_779 kw_780 kw_781 kw_8 rfl rfl (by decide +kernel) ⟨Nat.le_of_ble_eq_true rfl, Nat.le_of_ble_eq_true rfl⟩ (nw_recv hK hw (mW_64) rfl) rfl hl.1 (Nat.le_of_ble_eq_true rfl) d_L_law_311 ⟨by show _ ≤ 669896; omega, by show _ ≤ 7086383; omega⟩) hS (fun rv wn' ad9 H locs hpost hw hS => ?_)
    obtain ⟨had9, hmo⟩ := hpost
    rw [had9] at hw
    rcases hmo with ⟨hq1, hq2, hq3⟩ | ⟨hq1, _⟩ | ⟨hq1, _⟩
    rotate_left
    · exact absurd hba hq1
    · exact absurd hba hq1
    subst hq2
    rw [hq3] at hw
    have hw := nw_W.as (wn' := cW ad tC n I K bw LA n (va_up J 0 1) bw2 L o S) hw cW_m
    refine lv_istore (lv' := [(6, .int (nI 0)), (5, .int (nI 1)), (0, .ref (b)), (1, .ref (ad (0))), (2, .ref (ad (64))), (3, .ref (ad (69))), (4, .int (nI (1 + 6 * i)))]) hx hb d_L_law_314 hl (by decide) rfl (fun ls hl => ?_)
    refine lv_aload_n hx hb d_L_law_316 rfl (lv_at hl 4 rfl) ?_
    have hw := nw_W.as (wn' := mW ad tC n (va_up J 0 1) bw2 L (obX ad tC n I K bw LA (bE tC o)) (arX tC n aE0) S) hw cW_m.symm
    refine nw_call (nw_goV (n := 0) (As := []) (rest := []) hSx hA hKs hw hS (c_M_thrown l D tC A ad n (va_up J 0 1) bw2 L (obX ad tC n I K bw LA (bE tC o)) (arX tC n aE0) S hN  ) kw_762 kw_759 kw_760 kw_761 kw_8 rfl rfl (by decide +kernel) ⟨Nat.le_of_ble_eq_true rfl, Nat.le_of_ble_eq_true rfl⟩ (nw_recv hK hw (mW_64) rfl) rfl hl.1 (Nat.le_of_ble_eq_true rfl) d_L_law_317 ⟨by show _ ≤ 669896; omega, by show _ ≤ 7086383; omega⟩) hS (fun rv wn' ad9 H locs hpost hw hS => ?_)
    obtain ⟨hv9, hwn9, had9⟩ := hpost
    subst hv9
    rw [hwn9, had9] at hw
    have hw := nw_W.as (wn' := cW ad tC n I K bw LA n (va_up J 0 1) bw2 L o S) hw cW_m
    refine lv_ei (y := nI 1) rfl ?_
    refine lv_iload hx hb d_L_law_320 (lv_at hl 1 rfl) ?_
    refine lv_icmp_eq (tgt := 327) hx hb d_L_law_322 (by decide) (fun c_322 => ?_) (fun c_322 => ?_)
    · skip
      refine lv_iload hx hb d_L_law_327 (lv_at hl 1 rfl) ?_
      refine lv_if_ne (tgt := 344) hx hb d_L_law_329 (by decide) (fun c_329 => ?_) (fun c_329 => ?_)
      · skip
        refine lv_goto (tgt := 1168) hx hb d_L_law_344 (by decide) ?_
        exact W.widen (by omega) (by omega) (hNext ad n I K bw LA (va_up J 0 1) bw2 L o S (LR_thr hL) _ _ ls hw hS (lv_sub hl [2, 3, 4, 5, 6] rfl))
      · skip
        first | exact absurd c_329 (by decide) | exact absurd (by decide) c_329
    · skip
      exact absurd rfl c_322
  · skip
    subst hv
    rw [hwn, had] at hw
    refine lv_ei (y := nI 2) rfl ?_
    refine lv_istore (lv' := [(5, .int (nI 2)), (0, .ref (b)), (1, .ref (ad (0))), (2, .ref (ad (64))), (3, .ref (ad (69))), (4, .int (nI (1 + 6 * i)))]) hx hb d_L_law_302 hl (by decide) rfl (fun ls hl => ?_)
    refine lv_aload_n hx hb d_L_law_304 rfl (lv_at hl 3 rfl) ?_
    refine lv_aload_n hx hb d_L_law_305 rfl (lv_at hl 1 rfl) ?_
    refine lv_iload hx hb d_L_law_306 (lv_at hl 5 rfl) ?_
    refine lv_iconst (v := nI 1) hx hb d_L_law_308 (by decide) ?_
    refine lv_iadd hx hb d_L_law_309 ?_
    refine lv_ei (y := nI (1 + 6 * i + 1)) (nI_add _ _) ?_
    refine va_sld hx hb hX hbl hbA hS (vp_in_nI (by omega) (by omega)) d_L_law_310 ?_
    refine lv_ei (y := xs (1 + 6 * i + 1)) (by rw [nI_clamp (by omega)]) ?_
    have hw := nw_W.as (wn' := mW ad tC n J bw2 L (obX ad tC n I K bw LA (bE tC o)) (arX tC n aE0) S) hw cW_m.symm
    refine nw_call (nw_goV (n := 1) (As := [.int (xs (1 + 6 * i + 1))]) (rest := []) hSx hA hKs hw hS (c_M_cage l D tC A ad n J bw2 L (obX ad tC n I K bw LA (bE tC o)) (arX tC n aE0) S hN (xs (1 + 6 * i + 1)) ) kw_782 kw_779 kw_780 kw_781 kw_8 rfl rfl (by decide +kernel) ⟨Nat.le_of_ble_eq_true rfl, Nat.le_of_ble_eq_true rfl⟩ (nw_recv hK hw (mW_64) rfl) rfl hl.1 (Nat.le_of_ble_eq_true rfl) d_L_law_311 ⟨by show _ ≤ 669896; omega, by show _ ≤ 7086383; omega⟩) hS (fun rv wn' ad9 H locs hpost hw hS => ?_)
    obtain ⟨had9, hmo⟩ := hpost
    rw [had9] at hw
    rcases hmo with ⟨hq1, _⟩ | ⟨hq1, hq4, hq2, hq3⟩ | ⟨hq1, hq4, _⟩
    · exact absurd hq1 hnba
    rotate_left
    · exact absurd hbs hq4
    subst hq2
    rw [hq3] at hw
    have hw := nw_W.as (wn' := cW ad tC n I K bw LA n (va_up J 0 2) bw2 L o S) hw cW_m
    refine lv_istore (lv' := [(6, .int (nI 0)), (5, .int (nI 2)), (0, .ref (b)), (1, .ref (ad (0))), (2, .ref (ad (64))), (3, .ref (ad (69))), (4, .int (nI (1 + 6 * i)))]) hx hb d_L_law_314 hl (by decide) rfl (fun ls hl => ?_)
    refine lv_aload_n hx hb d_L_law_316 rfl (lv_at hl 4 rfl) ?_
    have hw := nw_W.as (wn' := mW ad tC n (va_up J 0 2) bw2 L (obX ad tC n I K bw LA (bE tC o)) (arX tC n aE0) S) hw cW_m.symm
    refine nw_call (nw_goV (n := 0) (As := []) (rest := []) hSx hA hKs hw hS (c_M_thrown l D tC A ad n (va_up J 0 2) bw2 L (obX ad tC n I K bw LA (bE tC o)) (arX tC n aE0) S hN  ) kw_762 kw_759 kw_760 kw_761 kw_8 rfl rfl (by decide +kernel) ⟨Nat.le_of_ble_eq_true rfl, Nat.le_of_ble_eq_true rfl⟩ (nw_recv hK hw (mW_64) rfl) rfl hl.1 (Nat.le_of_ble_eq_true rfl) d_L_law_317 ⟨by show _ ≤ 669896; omega, by show _ ≤ 7086383; omega⟩) hS (fun rv wn' ad9 H locs hpost hw hS => ?_)
    obtain ⟨hv9, hwn9, had9⟩ := hpost
    subst hv9
    rw [hwn9, had9] at hw
    have hw := nw_W.as (wn' := cW ad tC n I K bw LA n (va_up J 0 2) bw2 L o S) hw cW_m
    refine lv_ei (y := nI 2) rfl ?_
    refine lv_iload hx hb d_L_law_320 (lv_at hl 1 rfl) ?_
    refine lv_icmp_eq (tgt := 327) hx hb d_L_law_322 (by decide) (fun c_322 => ?_) (fun c_322 => ?_)
    · skip
      refine lv_iload hx hb d_L_law_327 (lv_at hl 1 rfl) ?_
      refine lv_if_ne (tgt := 344) hx hb d_L_law_329 (by decide) (fun c_329 => ?_) (fun c_329 => ?_)
      · skip
        refine lv_goto (tgt := 1168) hx hb d_L_law_344 (by decide) ?_
        exact W.widen (by omega) (by omega) (hNext ad n I K bw LA (va_up J 0 2) bw2 L o S (LR_thr hL) _ _ ls hw hS (lv_sub hl [2, 3, 4, 5, 6] rfl))
      · skip
        exact absurd c_329 (by decide)
    · skip
      exact absurd rfl c_322
  · skip
    subst hv
    obtain ⟨hag, hwn⟩ := hG
    rw [hwn] at hw
    obtain ⟨ha0, ha64, ha69⟩ := hag
    rw [← ha0, ← ha64, ← ha69] at hl
    refine lv_istore (lv' := [(5, .int (nI 0)), (0, .ref (b)), (1, .ref (ad' (0))), (2, .ref (ad' (64))), (3, .ref (ad' (69))), (4, .int (nI (1 + 6 * i)))]) hx hb d_L_law_302 hl (by decide) rfl (fun ls hl => ?_)
    refine lv_aload_n hx hb d_L_law_304 rfl (lv_at hl 3 rfl) ?_
    refine lv_aload_n hx hb d_L_law_305 rfl (lv_at hl 1 rfl) ?_
    refine lv_iload hx hb d_L_law_306 (lv_at hl 5 rfl) ?_
    refine lv_iconst (v := nI 1) hx hb d_L_law_308 (by decide) ?_
    refine lv_iadd hx hb d_L_law_309 ?_
    refine lv_ei (y := nI (1 + 6 * i + 1)) (nI_add _ _) ?_
    refine va_sld hx hb hX hbl hbA hS (vp_in_nI (by omega) (by omega)) d_L_law_310 ?_
    refine lv_ei (y := xs (1 + 6 * i + 1)) (by rw [nI_clamp (by omega)]) ?_
    have hw := nw_W.as (wn' := mW ad' tC n J bw2 L (obX ad' tC (va_up n 2 (n 2 + 1)) (adI I 2 2 (n 2) (fun _ => (xs (1 + 6 * i + 1)))) (va_up K 0 (nI 0)) bw LA (bE tC (vp_updL o 0 ((nI (n 2)).toInt64)))) (arX tC (va_up n 2 (n 2 + 1)) aE0) (adS (upR S 0 0 (flR (S 0 0) (-1) 6)) 2 3 (n 2))) hw cW_m.symm
    refine nw_call (nw_goV (n := 1) (As := [.int (xs (1 + 6 * i + 1))]) (rest := []) hSx hA hKs hw hS (c_M_cage l D tC A ad' n J bw2 L (obX ad' tC (va_up n 2 (n 2 + 1)) (adI I 2 2 (n 2) (fun _ => (xs (1 + 6 * i + 1)))) (va_up K 0 (nI 0)) bw LA (bE tC (vp_updL o 0 ((nI (n 2)).toInt64)))) (arX tC (va_up n 2 (n 2 + 1)) aE0) (adS (upR S 0 0 (flR (S 0 0) (-1) 6)) 2 3 (n 2)) hN (xs (1 + 6 * i + 1)) ) kw_782 kw_779 kw_780 kw_781 kw_8 rfl rfl (by decide +kernel) ⟨Nat.le_of_ble_eq_true rfl, Nat.le_of_ble_eq_true rfl⟩ (nw_recv hK hw (mW_64) rfl) rfl hl.1 (Nat.le_of_ble_eq_true rfl) d_L_law_311 ⟨by show _ ≤ 669896; omega, by show _ ≤ 7086383; omega⟩) hS (fun rv wn' ad9 H locs hpost hw hS => ?_)
    obtain ⟨had9, hmo⟩ := hpost
    rw [had9] at hw
    rcases hmo with ⟨hq1, _⟩ | ⟨hq1, hq4, _⟩ | ⟨hq1, hq4, hGm⟩
    · exact absurd hq1 hnba
    · exact absurd hq4 hnbs
    obtain ⟨hv9, hw9⟩ := hGm
    subst hv9
    rw [hw9] at hw
    have hw := nw_W.as (wn' := cW ad' tC (va_up n 2 (n 2 + 1)) (adI I 2 2 (n 2) (fun _ => (xs (1 + 6 * i + 1)))) (va_up K 0 (nI 0)) bw LA (va_up n 2 (n 2 + 1)) (va_up (va_up J 0 (nI 0)) 3 (nI 0)) bw2 L (vp_updL o 0 ((nI (n 2)).toInt64)) (upR (adS (upR S 0 0 (flR (S 0 0) (-1) 6)) 2 3 (n 2)) 5 2 (upd ((adS (upR S 0 0 (flR (S 0 0) (-1) 6)) 2 3 (n 2)) 5 2) (n 2) (xs (1 + 6 * i + 1))))) hw cW_m
    have hLR9 := LR_cage hL (Classical.not_not.mp hnba) ((nI_ltI (by omega) (by omega)).mp (Classical.not_not.mp hnbs))
    have hN2 : hpN (va_up n 2 (n 2 + 1)) := LR_N hLR9
    refine lv_istore (lv' := [(6, .int (nI (n 2))), (5, .int (nI 0)), (0, .ref (b)), (1, .ref (ad' (0))), (2, .ref (ad' (64))), (3, .ref (ad' (69))), (4, .int (nI (1 + 6 * i)))]) hx hb d_L_law_314 hl (by decide) rfl (fun ls hl => ?_)
    refine lv_aload_n hx hb d_L_law_316 rfl (lv_at hl 4 rfl) ?_
    have hw := nw_W.as (wn' := mW ad' tC (va_up n 2 (n 2 + 1)) (va_up (va_up J 0 (nI 0)) 3 (nI 0)) bw2 L (obX ad' tC (va_up n 2 (n 2 + 1)) (adI I 2 2 (n 2) (fun _ => (xs (1 + 6 * i + 1)))) (va_up K 0 (nI 0)) bw LA (bE tC (vp_updL o 0 ((nI (n 2)).toInt64)))) (arX tC (va_up n 2 (n 2 + 1)) aE0) (upR (adS (upR S 0 0 (flR (S 0 0) (-1) 6)) 2 3 (n 2)) 5 2 (upd ((adS (upR S 0 0 (flR (S 0 0) (-1) 6)) 2 3 (n 2)) 5 2) (n 2) (xs (1 + 6 * i + 1))))) hw cW_m.symm
    refine nw_call (nw_goV (n := 0) (As := []) (rest := []) hSx hA hKs hw hS (c_M_thrown l D tC A ad' (va_up n 2 (n 2 + 1)) (va_up (va_up J 0 (nI 0)) 3 (nI 0)) bw2 L (obX ad' tC (va_up n 2 (n 2 + 1)) (adI I 2 2 (n 2) (fun _ => (xs (1 + 6 * i + 1)))) (va_up K 0 (nI 0)) bw LA (bE tC (vp_updL o 0 ((nI (n 2)).toInt64)))) (arX tC (va_up n 2 (n 2 + 1)) aE0) (upR (adS (upR S 0 0 (flR (S 0 0) (-1) 6)) 2 3 (n 2)) 5 2 (upd ((adS (upR S 0 0 (flR (S 0 0) (-1) 6)) 2 3 (n 2)) 5 2) (n 2) (xs (1 + 6 * i + 1)))) hN2  ) kw_762 kw_759 kw_760 kw_761 kw_8 rfl rfl (by decide +kernel) ⟨Nat.le_of_ble_eq_true rfl, Nat.le_of_ble_eq_true rfl⟩ (nw_recv hK hw (mW_64) rfl) rfl hl.1 (Nat.le_of_ble_eq_true rfl) d_L_law_317 ⟨by show _ ≤ 669896; omega, by show _ ≤ 7086383; omega⟩) hS (fun rv wn' ad9 H locs hpost hw hS => ?_)
    obtain ⟨hv9, hwn9, had9⟩ := hpost
    subst hv9
    rw [hwn9, had9] at hw
    have hw := nw_W.as (wn' := cW ad' tC (va_up n 2 (n 2 + 1)) (adI I 2 2 (n 2) (fun _ => (xs (1 + 6 * i + 1)))) (va_up K 0 (nI 0)) bw LA (va_up n 2 (n 2 + 1)) (va_up (va_up J 0 (nI 0)) 3 (nI 0)) bw2 L (vp_updL o 0 ((nI (n 2)).toInt64)) (upR (adS (upR S 0 0 (flR (S 0 0) (-1) 6)) 2 3 (n 2)) 5 2 (upd ((adS (upR S 0 0 (flR (S 0 0) (-1) 6)) 2 3 (n 2)) 5 2) (n 2) (xs (1 + 6 * i + 1))))) hw cW_m
    refine lv_ei (y := nI 0) rfl ?_
    refine lv_iload hx hb d_L_law_320 (lv_at hl 1 rfl) ?_
    refine lv_icmp_eq (tgt := 327) hx hb d_L_law_322 (by decide) (fun c_322 => ?_) (fun c_322 => ?_)
    · skip
      refine lv_iload hx hb d_L_law_327 (lv_at hl 1 rfl) ?_
      refine lv_if_ne (tgt := 344) hx hb d_L_law_329 (by decide) (fun c_329 => ?_) (fun c_329 => ?_)
      · skip
        first | exact absurd c_329 (by decide) | exact absurd (by decide) c_329
      · skip
        refine lv_aload_n hx hb d_L_law_332 rfl (lv_at hl 5 rfl) ?_
        refine lv_iconst (v := nI 0) hx hb d_L_law_333 (by decide) ?_
        refine nw_lald hx hb hK hw (69) 1 (cW_69) rfl (0) (rfl) (by omega) (by omega) d_L_law_334 ?_
        refine lv_iload hx hb d_L_law_335 (lv_at hl 0 rfl) ?_
        refine lv_i2l (v := ((nI (n 2)).toInt64)) hx hb d_L_law_337 rfl ?_
        refine lv_el (y := ((vp_updL o 0 ((nI (n 2)).toInt64)) (0))) (rfl) ?_
        refine W.lcmp hx hb d_L_law_338 ?_
        refine lv_ei (y := nI 0) ((lg_cmp_eq _ _).mpr rfl) ?_
        refine lv_if_eq (tgt := 344) hx hb d_L_law_339 (by decide) (fun c_339 => ?_) (fun c_339 => ?_)
        · skip
          refine lv_goto (tgt := 1168) hx hb d_L_law_344 (by decide) ?_
          exact W.widen (by omega) (by omega) (hNext ad' (va_up n 2 (n 2 + 1)) (adI I 2 2 (n 2) (fun _ => (xs (1 + 6 * i + 1)))) (va_up K 0 (nI 0)) bw LA (va_up (va_up J 0 (nI 0)) 3 (nI 0)) bw2 L (vp_updL o 0 ((nI (n 2)).toInt64)) (upR (adS (upR S 0 0 (flR (S 0 0) (-1) 6)) 2 3 (n 2)) 5 2 (upd ((adS (upR S 0 0 (flR (S 0 0) (-1) 6)) 2 3 (n 2)) 5 2) (n 2) (xs (1 + 6 * i + 1)))) (hLR9) _ _ ls hw hS (lv_sub hl [2, 3, 4, 5, 6] rfl))
        · skip
          first | exact absurd c_339 (by decide) | exact absurd (by decide) c_339
    · skip
      exact absurd rfl c_322

set_option maxHeartbeats 4000000 in
set_option maxRecDepth 100000 in
/-- case 4: boat -/
theorem law_4 {p : Program} {l : Launch} {e : Env} {s : State} {m : MethodId} {args : Array Value} {below : List Frame} {meth : Method} {cd : Code} {Q : State → Prop} {D : va_G} {tC : Nat → ClassId} {A : Nat → Prop} {b N : Nat} {xs : Nat → Int32} (hSx : CallFix p m cd b_L_law 8 s args nw_T "HarvestPlansLaw") (hA : ∀ q, s.heap.size ≤ q → A q) (hAs : ∀ q, A q → s.heap.size ≤ q) (hKs : nw_K D hpC (hpT tC) s) (hF : nx_F s) (hfl : l.stackTraces = false) (hX : va_X b N xs s s.heap) (hbl : b < s.heap.size) (hbA : ¬ A b) (hN3 : N ≤ 3073) {cc cs i : Nat} (hcc : cc + 12 ≤ 669896) (hcs : cs + 120 ≤ 7086383) (hi : 1 + 6 * i + 6 ≤ N) (hNext : ∀ (ad : Nat → Nat) (n : Nat → Nat) (I : Nat → Nat → Int32) (K : Nat → Int32) (bw : Int64) (LA : Nat → Int64) (J : Nat → Int32) (bw2 : Int64) (L : Nat → Nat → Int64) (o : Nat → Int64) (S : Nat → Nat → Nat → Int32), LR n I K J S → ∀ (H : Heap) (locs : List Loc) (ls : Array Slot), nw_W D hpC A (cW ad tC n I K bw LA n J bw2 L o S) ad H → va_S A s.heap H locs → lv_has ls 8 [(0, .ref (b)), (1, .ref (ad (0))), (2, .ref (ad (64))), (3, .ref (ad (69))), (4, .int (nI (1 + 6 * i)))] → W p l e room_1 s m args below meth cd H locs (cc + 12) (cs + 120) Q (F0 m 1168 ls [])) (ad : Nat → Nat) (n : Nat → Nat) (I : Nat → Nat → Int32) (K : Nat → Int32) (bw : Int64) (LA : Nat → Int64) (J : Nat → Int32) (bw2 : Int64) (L : Nat → Nat → Int64) (o : Nat → Int64) (S : Nat → Nat → Nat → Int32) (hL : LR n I K J S) (H : Heap) (locs : List Loc) (ls : Array Slot) (hw : nw_W D hpC A (cW ad tC n I K bw LA n J bw2 L o S) ad H) (hS : va_S A s.heap H locs) (hl : lv_has ls 8 [(0, .ref (b)), (1, .ref (ad (0))), (2, .ref (ad (64))), (3, .ref (ad (69))), (4, .int (nI (1 + 6 * i)))]) : W p l e room_1 s m args below meth cd H locs cc cs Q (F0 m 439 ls []) := by
  obtain ⟨hx, hb, hml, hown, hts⟩ := id hSx
  have hK := hKs.1
  have hB : nx_B s s := ⟨State.WarmedH.refl s, Nat.le_refl _, fun _ _ => rfl⟩
  obtain ⟨hm, ow, sq, hLx⟩ := id hL
  have hN : hpN n := hLx.1.1
  obtain ⟨hn0, hn0', hn1, hn2, hn3, hn4⟩ := id hN
  have hJK : J 3 = K 0 := hLx.2.2.1.1
  have hH : ∀ c, c < n 2 → I 2 c = nI (hm c) ∧ hm c < n 1 := fun c hc => ⟨hLx.2.1.1 c hc, (hLx.1.2.2.2.1 c hc).2.1⟩
  have hHm : ∀ c, c < n 2 → S 5 2 c = nI (hm c) ∧ hm c < n 1 := fun c hc => ⟨(hLx.1.2.2.2.1 c hc).1, (hLx.1.2.2.2.1 c hc).2.1⟩
  have hO : ∀ o, o < n 4 → I 4 o = nI (ow o) ∧ ow o < n 0 := fun o ho => ⟨(hLx.1.2.2.2.2.2.2.1 o ho).2.1, (hLx.1.2.2.2.2.2.2.1 o ho).2.2.1⟩
  have hSq : ∀ k, k < n 4 → S 0 1 k = nI (sq k) ∧ sq k < n 4 := fun k hk => ⟨hLx.2.1.2.1 k hk, hLx.1.2.2.2.2.2.2.2.1 k hk⟩
  have hSo : ∀ q, q < n 4 → ∃ j, j < n 4 ∧ sq j = q := hLx.1.2.2.2.2.2.2.2.2.1
  have hPl := ok_pl hLx
  obtain ⟨hz1, hz4, hz51, hz56⟩ := hLx.2.1.2.2.2
  refine lv_aload_n hx hb d_L_law_439 rfl (lv_at hl 1 rfl) ?_
  refine lv_aload_n hx hb d_L_law_440 rfl (lv_at hl 0 rfl) ?_
  refine lv_iload hx hb d_L_law_441 (lv_at hl 4 rfl) ?_
  refine lv_iconst (v := nI 1) hx hb d_L_law_443 (by decide) ?_
  refine lv_iadd hx hb d_L_law_444 ?_
  refine lv_ei (y := nI (1 + 6 * i + 1)) (nI_add _ _) ?_
  refine va_sld hx hb hX hbl hbA hS (vp_in_nI (by omega) (by omega)) d_L_law_445 ?_
  refine lv_ei (y := xs (1 + 6 * i + 1)) (by rw [nI_clamp (by omega)]) ?_
  refine lv_aload_n hx hb d_L_law_446 rfl (lv_at hl 3 rfl) ?_
  refine nx_callC (nx_goW (n := 3) (As := [.ref (ad (0)), .int (xs (1 + 6 * i + 1)), .ref (ad (69))]) (rest := []) hSx hA hKs hF hB hAs hw hS (w_boat l D tC A ad n I K bw LA n J bw2 L o S hN s hF hfl hAs (xs (1 + 6 * i + 1)) ) kt_441 kw_439 kw_440 kw_0 rfl rfl (by decide +kernel) ⟨Nat.le_of_ble_eq_true rfl, Nat.le_of_ble_eq_true rfl⟩ rfl hl.1 (Nat.le_of_ble_eq_true rfl) d_L_law_447 ⟨by show _ ≤ 669896; omega, by show _ ≤ 7086383; omega⟩) hS (fun X wn' ad' H locs x cell hpost hw hS hcell hst hcls T' hT X0 => (lw_po_x hpost).elim) (fun rv wn' ad' H locs hpost hw hS => ?_)
  rcases lw_po_i hpost with ⟨hv, hba, hwn, had⟩ | ⟨hv, hnba, hbs, hwn, had⟩ | ⟨hv, hnba, hnbs, hG⟩
  · skip
    subst hv
    rw [hwn, had] at hw
    refine lv_istore (lv' := [(5, .int (nI 1)), (0, .ref (b)), (1, .ref (ad (0))), (2, .ref (ad (64))), (3, .ref (ad (69))), (4, .int (nI (1 + 6 * i)))]) hx hb d_L_law_450 hl (by decide) rfl (fun ls hl => ?_)
    refine lv_aload_n hx hb d_L_law_452 rfl (lv_at hl 3 rfl) ?_
    refine lv_aload_n hx hb d_L_law_453 rfl (lv_at hl 1 rfl) ?_
    refine lv_iload hx hb d_L_law_454 (lv_at hl 5 rfl) ?_
    refine lv_iconst (v := nI 1) hx hb d_L_law_456 (by decide) ?_
    refine lv_iadd hx hb d_L_law_457 ?_
    refine lv_ei (y := nI (1 + 6 * i + 1)) (nI_add _ _) ?_
    refine va_sld hx hb hX hbl hbA hS (vp_in_nI (by omega) (by omega)) d_L_law_458 ?_
    refine lv_ei (y := xs (1 + 6 * i + 1)) (by rw [nI_clamp (by omega)]) ?_
    have hw := nw_W.as (wn' := mW ad tC n J bw2 L (obX ad tC n I K bw LA (bE tC o)) (arX tC n aE0) S) hw cW_m.symm
    refine nw_call (nw_goV (n := 1) (As := [.int (xs (1 + 6 * i + 1))]) (rest := []) hSx hA hKs hw hS (c_M_boat l D tC A ad n J bw2 L (obX ad tC n I K bw LA (bE tC o)) (arX tC n aE0) S hN (xs (1 + 6 * i + 1)) ) kw_797 kw_794 kw_795 kw_796 kw_8 rfl rfl (by decide +kernel) ⟨Nat.le_of_ble_eq_true rfl, Nat.le_of_ble_eq_true rfl⟩ (nw_recv hK hw (mW_64) rfl) rfl hl.1 (Nat.le_of_ble_eq_true rfl) d_L_law_459 ⟨by show _ ≤ 669896; omega, by show _ ≤ 7086383; omega⟩) hS (fun rv wn' ad9 H locs hpost hw hS => ?_)
    obtain ⟨had9, hmo⟩ := hpost
    rw [had9] at hw
    rcases hmo with ⟨hq1, hq2, hq3⟩ | ⟨hq1, _⟩ | ⟨hq1, _⟩
    rotate_left
    · exact absurd hba hq1
    · exact absurd hba hq1
    subst hq2
    rw [hq3] at hw
    have hw := nw_W.as (wn' := cW ad tC n I K bw LA n (va_up J 0 1) bw2 L o S) hw cW_m
    refine lv_istore (lv' := [(6, .int (nI 0)), (5, .int (nI 1)), (0, .ref (b)), (1, .ref (ad (0))), (2, .ref (ad (64))), (3, .ref (ad (69))), (4, .int (nI (1 + 6 * i)))]) hx hb d_L_law_462 hl (by decide) rfl (fun ls hl => ?_)
    refine lv_aload_n hx hb d_L_law_464 rfl (lv_at hl 4 rfl) ?_
    have hw := nw_W.as (wn' := mW ad tC n (va_up J 0 1) bw2 L (obX ad tC n I K bw LA (bE tC o)) (arX tC n aE0) S) hw cW_m.symm
    refine nw_call (nw_goV (n := 0) (As := []) (rest := []) hSx hA hKs hw hS (c_M_thrown l D tC A ad n (va_up J 0 1) bw2 L (obX ad tC n I K bw LA (bE tC o)) (arX tC n aE0) S hN  ) kw_762 kw_759 kw_760 kw_761 kw_8 rfl rfl (by decide +kernel) ⟨Nat.le_of_ble_eq_true rfl, Nat.le_of_ble_eq_true rfl⟩ (nw_recv hK hw (mW_64) rfl) rfl hl.1 (Nat.le_of_ble_eq_true rfl) d_L_law_465 ⟨by show _ ≤ 669896; omega, by show _ ≤ 7086383; omega⟩) hS (fun rv wn' ad9 H locs hpost hw hS => ?_)
    obtain ⟨hv9, hwn9, had9⟩ := hpost
    subst hv9
    rw [hwn9, had9] at hw
    have hw := nw_W.as (wn' := cW ad tC n I K bw LA n (va_up J 0 1) bw2 L o S) hw cW_m
    refine lv_ei (y := nI 1) rfl ?_
    refine lv_iload hx hb d_L_law_468 (lv_at hl 1 rfl) ?_
    refine lv_icmp_eq (tgt := 475) hx hb d_L_law_470 (by decide) (fun c_470 => ?_) (fun c_470 => ?_)
    · skip
      refine lv_iload hx hb d_L_law_475 (lv_at hl 1 rfl) ?_
      refine lv_if_ne (tgt := 492) hx hb d_L_law_477 (by decide) (fun c_477 => ?_) (fun c_477 => ?_)
      · skip
        refine lv_goto (tgt := 1168) hx hb d_L_law_492 (by decide) ?_
        exact W.widen (by omega) (by omega) (hNext ad n I K bw LA (va_up J 0 1) bw2 L o S (LR_thr hL) _ _ ls hw hS (lv_sub hl [2, 3, 4, 5, 6] rfl))
      · skip
        first | exact absurd c_477 (by decide) | exact absurd (by decide) c_477
    · skip
      exact absurd rfl c_470
  · skip
    subst hv
    rw [hwn, had] at hw
    refine lv_ei (y := nI 2) rfl ?_
    refine lv_istore (lv' := [(5, .int (nI 2)), (0, .ref (b)), (1, .ref (ad (0))), (2, .ref (ad (64))), (3, .ref (ad (69))), (4, .int (nI (1 + 6 * i)))]) hx hb d_L_law_450 hl (by decide) rfl (fun ls hl => ?_)
    refine lv_aload_n hx hb d_L_law_452 rfl (lv_at hl 3 rfl) ?_
    refine lv_aload_n hx hb d_L_law_453 rfl (lv_at hl 1 rfl) ?_
    refine lv_iload hx hb d_L_law_454 (lv_at hl 5 rfl) ?_
    refine lv_iconst (v := nI 1) hx hb d_L_law_456 (by decide) ?_
    refine lv_iadd hx hb d_L_law_457 ?_
    refine lv_ei (y := nI (1 + 6 * i + 1)) (nI_add _ _) ?_
    refine va_sld hx hb hX hbl hbA hS (vp_in_nI (by omega) (by omega)) d_L_law_458 ?_
    refine lv_ei (y := xs (1 + 6 * i + 1)) (by rw [nI_clamp (by omega)]) ?_
    have hw := nw_W.as (wn' := mW ad tC n J bw2 L (obX ad tC n I K bw LA (bE tC o)) (arX tC n aE0) S) hw cW_m.symm
    refine nw_call (nw_goV (n := 1) (As := [.int (xs (1 + 6 * i + 1))]) (rest := []) hSx hA hKs hw hS (c_M_boat l D tC A ad n J bw2 L (obX ad tC n I K bw LA (bE tC o)) (arX tC n aE0) S hN (xs (1 + 6 * i + 1)) ) kw_797 kw_794 kw_795 kw_796 kw_8 rfl rfl (by decide +kernel) ⟨Nat.le_of_ble_eq_true rfl, Nat.le_of_ble_eq_true rfl⟩ (nw_recv hK hw (mW_64) rfl) rfl hl.1 (Nat.le_of_ble_eq_true rfl) d_L_law_459 ⟨by show _ ≤ 669896; omega, by show _ ≤ 7086383; omega⟩) hS (fun rv wn' ad9 H locs hpost hw hS => ?_)
    obtain ⟨had9, hmo⟩ := hpost
    rw [had9] at hw
    rcases hmo with ⟨hq1, _⟩ | ⟨hq1, hq4, hq2, hq3⟩ | ⟨hq1, hq4, _⟩
    · exact absurd hq1 hnba
    rotate_left
    · exact absurd hbs hq4
    subst hq2
    rw [hq3] at hw
    have hw := nw_W.as (wn' := cW ad tC n I K bw LA n (va_up J 0 2) bw2 L o S) hw cW_m
    refine lv_istore (lv' := [(6, .int (nI 0)), (5, .int (nI 2)), (0, .ref (b)), (1, .ref (ad (0))), (2, .ref (ad (64))), (3, .ref (ad (69))), (4, .int (nI (1 + 6 * i)))]) hx hb d_L_law_462 hl (by decide) rfl (fun ls hl => ?_)
    refine lv_aload_n hx hb d_L_law_464 rfl (lv_at hl 4 rfl) ?_
    have hw := nw_W.as (wn' := mW ad tC n (va_up J 0 2) bw2 L (obX ad tC n I K bw LA (bE tC o)) (arX tC n aE0) S) hw cW_m.symm
    refine nw_call (nw_goV (n := 0) (As := []) (rest := []) hSx hA hKs hw hS (c_M_thrown l D tC A ad n (va_up J 0 2) bw2 L (obX ad tC n I K bw LA (bE tC o)) (arX tC n aE0) S hN  ) kw_762 kw_759 kw_760 kw_761 kw_8 rfl rfl (by decide +kernel) ⟨Nat.le_of_ble_eq_true rfl, Nat.le_of_ble_eq_true rfl⟩ (nw_recv hK hw (mW_64) rfl) rfl hl.1 (Nat.le_of_ble_eq_true rfl) d_L_law_465 ⟨by show _ ≤ 669896; omega, by show _ ≤ 7086383; omega⟩) hS (fun rv wn' ad9 H locs hpost hw hS => ?_)
    obtain ⟨hv9, hwn9, had9⟩ := hpost
    subst hv9
    rw [hwn9, had9] at hw
    have hw := nw_W.as (wn' := cW ad tC n I K bw LA n (va_up J 0 2) bw2 L o S) hw cW_m
    refine lv_ei (y := nI 2) rfl ?_
    refine lv_iload hx hb d_L_law_468 (lv_at hl 1 rfl) ?_
    refine lv_icmp_eq (tgt := 475) hx hb d_L_law_470 (by decide) (fun c_470 => ?_) (fun c_470 => ?_)
    · skip
      refine lv_iload hx hb d_L_law_475 (lv_at hl 1 rfl) ?_
      refine lv_if_ne (tgt := 492) hx hb d_L_law_477 (by decide) (fun c_477 => ?_) (fun c_477 => ?_)
      · skip
        refine lv_goto (tgt := 1168) hx hb d_L_law_492 (by decide) ?_
        exact W.widen (by omega) (by omega) (hNext ad n I K bw LA (va_up J 0 2) bw2 L o S (LR_thr hL) _ _ ls hw hS (lv_sub hl [2, 3, 4, 5, 6] rfl))
      · skip
        exact absurd c_477 (by decide)
    · skip
      exact absurd rfl c_470
  · skip
    subst hv
    obtain ⟨hag, hwn⟩ := hG
    rw [hwn] at hw
    obtain ⟨ha0, ha64, ha69⟩ := hag
    rw [← ha0, ← ha64, ← ha69] at hl
    refine lv_istore (lv' := [(5, .int (nI 0)), (0, .ref (b)), (1, .ref (ad' (0))), (2, .ref (ad' (64))), (3, .ref (ad' (69))), (4, .int (nI (1 + 6 * i)))]) hx hb d_L_law_450 hl (by decide) rfl (fun ls hl => ?_)
    refine lv_aload_n hx hb d_L_law_452 rfl (lv_at hl 3 rfl) ?_
    refine lv_aload_n hx hb d_L_law_453 rfl (lv_at hl 1 rfl) ?_
    refine lv_iload hx hb d_L_law_454 (lv_at hl 5 rfl) ?_
    refine lv_iconst (v := nI 1) hx hb d_L_law_456 (by decide) ?_
    refine lv_iadd hx hb d_L_law_457 ?_
    refine lv_ei (y := nI (1 + 6 * i + 1)) (nI_add _ _) ?_
    refine va_sld hx hb hX hbl hbA hS (vp_in_nI (by omega) (by omega)) d_L_law_458 ?_
    refine lv_ei (y := xs (1 + 6 * i + 1)) (by rw [nI_clamp (by omega)]) ?_
    have hw := nw_W.as (wn' := mW ad' tC n J bw2 L (obX ad' tC (va_up n 3 (n 3 + 1)) (adI I 3 3 (n 3) (fun _ => (xs (1 + 6 * i + 1)))) (va_up K 0 (nI 0)) bw LA (bE tC (vp_updL o 0 ((nI (n 3)).toInt64)))) (arX tC (va_up n 3 (n 3 + 1)) aE0) (adS (upR S 0 0 (flR (S 0 0) (-1) 6)) 4 4 (n 3))) hw cW_m.symm
    refine nw_call (nw_goV (n := 1) (As := [.int (xs (1 + 6 * i + 1))]) (rest := []) hSx hA hKs hw hS (c_M_boat l D tC A ad' n J bw2 L (obX ad' tC (va_up n 3 (n 3 + 1)) (adI I 3 3 (n 3) (fun _ => (xs (1 + 6 * i + 1)))) (va_up K 0 (nI 0)) bw LA (bE tC (vp_updL o 0 ((nI (n 3)).toInt64)))) (arX tC (va_up n 3 (n 3 + 1)) aE0) (adS (upR S 0 0 (flR (S 0 0) (-1) 6)) 4 4 (n 3)) hN (xs (1 + 6 * i + 1)) ) kw_797 kw_794 kw_795 kw_796 kw_8 rfl rfl (by decide +kernel) ⟨Nat.le_of_ble_eq_true rfl, Nat.le_of_ble_eq_true rfl⟩ (nw_recv hK hw (mW_64) rfl) rfl hl.1 (Nat.le_of_ble_eq_true rfl) d_L_law_459 ⟨by show _ ≤ 669896; omega, by show _ ≤ 7086383; omega⟩) hS (fun rv wn' ad9 H locs hpost hw hS => ?_)
    obtain ⟨had9, hmo⟩ := hpost
    rw [had9] at hw
    rcases hmo with ⟨hq1, _⟩ | ⟨hq1, hq4, _⟩ | ⟨hq1, hq4, hGm⟩
    · exact absurd hq1 hnba
    · exact absurd hq4 hnbs
    obtain ⟨hv9, hw9⟩ := hGm
    subst hv9
    rw [hw9] at hw
    have hw := nw_W.as (wn' := cW ad' tC (va_up n 3 (n 3 + 1)) (adI I 3 3 (n 3) (fun _ => (xs (1 + 6 * i + 1)))) (va_up K 0 (nI 0)) bw LA (va_up n 3 (n 3 + 1)) (va_up (va_up J 0 (nI 0)) 3 (nI 0)) bw2 L (vp_updL o 0 ((nI (n 3)).toInt64)) (upR (adS (upR S 0 0 (flR (S 0 0) (-1) 6)) 4 4 (n 3)) 5 5 (upd ((adS (upR S 0 0 (flR (S 0 0) (-1) 6)) 4 4 (n 3)) 5 5) (n 3) (xs (1 + 6 * i + 1))))) hw cW_m
    have hLR9 := LR_boat hL (Classical.not_not.mp hnba) ((nI_ltI (by omega) (by omega)).mp (Classical.not_not.mp hnbs))
    have hN2 : hpN (va_up n 3 (n 3 + 1)) := LR_N hLR9
    refine lv_istore (lv' := [(6, .int (nI (n 3))), (5, .int (nI 0)), (0, .ref (b)), (1, .ref (ad' (0))), (2, .ref (ad' (64))), (3, .ref (ad' (69))), (4, .int (nI (1 + 6 * i)))]) hx hb d_L_law_462 hl (by decide) rfl (fun ls hl => ?_)
    refine lv_aload_n hx hb d_L_law_464 rfl (lv_at hl 4 rfl) ?_
    have hw := nw_W.as (wn' := mW ad' tC (va_up n 3 (n 3 + 1)) (va_up (va_up J 0 (nI 0)) 3 (nI 0)) bw2 L (obX ad' tC (va_up n 3 (n 3 + 1)) (adI I 3 3 (n 3) (fun _ => (xs (1 + 6 * i + 1)))) (va_up K 0 (nI 0)) bw LA (bE tC (vp_updL o 0 ((nI (n 3)).toInt64)))) (arX tC (va_up n 3 (n 3 + 1)) aE0) (upR (adS (upR S 0 0 (flR (S 0 0) (-1) 6)) 4 4 (n 3)) 5 5 (upd ((adS (upR S 0 0 (flR (S 0 0) (-1) 6)) 4 4 (n 3)) 5 5) (n 3) (xs (1 + 6 * i + 1))))) hw cW_m.symm
    refine nw_call (nw_goV (n := 0) (As := []) (rest := []) hSx hA hKs hw hS (c_M_thrown l D tC A ad' (va_up n 3 (n 3 + 1)) (va_up (va_up J 0 (nI 0)) 3 (nI 0)) bw2 L (obX ad' tC (va_up n 3 (n 3 + 1)) (adI I 3 3 (n 3) (fun _ => (xs (1 + 6 * i + 1)))) (va_up K 0 (nI 0)) bw LA (bE tC (vp_updL o 0 ((nI (n 3)).toInt64)))) (arX tC (va_up n 3 (n 3 + 1)) aE0) (upR (adS (upR S 0 0 (flR (S 0 0) (-1) 6)) 4 4 (n 3)) 5 5 (upd ((adS (upR S 0 0 (flR (S 0 0) (-1) 6)) 4 4 (n 3)) 5 5) (n 3) (xs (1 + 6 * i + 1)))) hN2  ) kw_762 kw_759 kw_760 kw_761 kw_8 rfl rfl (by decide +kernel) ⟨Nat.le_of_ble_eq_true rfl, Nat.le_of_ble_eq_true rfl⟩ (nw_recv hK hw (mW_64) rfl) rfl hl.1 (Nat.le_of_ble_eq_true rfl) d_L_law_465 ⟨by show _ ≤ 669896; omega, by show _ ≤ 7086383; omega⟩) hS (fun rv wn' ad9 H locs hpost hw hS => ?_)
    obtain ⟨hv9, hwn9, had9⟩ := hpost
    subst hv9
    rw [hwn9, had9] at hw
    have hw := nw_W.as (wn' := cW ad' tC (va_up n 3 (n 3 + 1)) (adI I 3 3 (n 3) (fun _ => (xs (1 + 6 * i + 1)))) (va_up K 0 (nI 0)) bw LA (va_up n 3 (n 3 + 1)) (va_up (va_up J 0 (nI 0)) 3 (nI 0)) bw2 L (vp_updL o 0 ((nI (n 3)).toInt64)) (upR (adS (upR S 0 0 (flR (S 0 0) (-1) 6)) 4 4 (n 3)) 5 5 (upd ((adS (upR S 0 0 (flR (S 0 0) (-1) 6)) 4 4 (n 3)) 5 5) (n 3) (xs (1 + 6 * i + 1))))) hw cW_m
    refine lv_ei (y := nI 0) rfl ?_
    refine lv_iload hx hb d_L_law_468 (lv_at hl 1 rfl) ?_
    refine lv_icmp_eq (tgt := 475) hx hb d_L_law_470 (by decide) (fun c_470 => ?_) (fun c_470 => ?_)
    · skip
      refine lv_iload hx hb d_L_law_475 (lv_at hl 1 rfl) ?_
      refine lv_if_ne (tgt := 492) hx hb d_L_law_477 (by decide) (fun c_477 => ?_) (fun c_477 => ?_)
      · skip
        first | exact absurd c_477 (by decide) | exact absurd (by decide) c_477
      · skip
        refine lv_aload_n hx hb d_L_law_480 rfl (lv_at hl 5 rfl) ?_
        refine lv_iconst (v := nI 0) hx hb d_L_law_481 (by decide) ?_
        refine nw_lald hx hb hK hw (69) 1 (cW_69) rfl (0) (rfl) (by omega) (by omega) d_L_law_482 ?_
        refine lv_iload hx hb d_L_law_483 (lv_at hl 0 rfl) ?_
        refine lv_i2l (v := ((nI (n 3)).toInt64)) hx hb d_L_law_485 rfl ?_
        refine lv_el (y := ((vp_updL o 0 ((nI (n 3)).toInt64)) (0))) (rfl) ?_
        refine W.lcmp hx hb d_L_law_486 ?_
        refine lv_ei (y := nI 0) ((lg_cmp_eq _ _).mpr rfl) ?_
        refine lv_if_eq (tgt := 492) hx hb d_L_law_487 (by decide) (fun c_487 => ?_) (fun c_487 => ?_)
        · skip
          refine lv_goto (tgt := 1168) hx hb d_L_law_492 (by decide) ?_
          exact W.widen (by omega) (by omega) (hNext ad' (va_up n 3 (n 3 + 1)) (adI I 3 3 (n 3) (fun _ => (xs (1 + 6 * i + 1)))) (va_up K 0 (nI 0)) bw LA (va_up (va_up J 0 (nI 0)) 3 (nI 0)) bw2 L (vp_updL o 0 ((nI (n 3)).toInt64)) (upR (adS (upR S 0 0 (flR (S 0 0) (-1) 6)) 4 4 (n 3)) 5 5 (upd ((adS (upR S 0 0 (flR (S 0 0) (-1) 6)) 4 4 (n 3)) 5 5) (n 3) (xs (1 + 6 * i + 1)))) (hLR9) _ _ ls hw hS (lv_sub hl [2, 3, 4, 5, 6] rfl))
        · skip
          first | exact absurd c_487 (by decide) | exact absurd (by decide) c_487
    · skip
      exact absurd rfl c_470

set_option maxHeartbeats 4000000 in
set_option maxRecDepth 100000 in
/-- case 1: closed -/
theorem law_1 {p : Program} {l : Launch} {e : Env} {s : State} {m : MethodId} {args : Array Value} {below : List Frame} {meth : Method} {cd : Code} {Q : State → Prop} {D : va_G} {tC : Nat → ClassId} {A : Nat → Prop} {b N : Nat} {xs : Nat → Int32} (hSx : CallFix p m cd b_L_law 8 s args nw_T "HarvestPlansLaw") (hA : ∀ q, s.heap.size ≤ q → A q) (hAs : ∀ q, A q → s.heap.size ≤ q) (hKs : nw_K D hpC (hpT tC) s) (hF : nx_F s) (hfl : l.stackTraces = false) (hX : va_X b N xs s s.heap) (hbl : b < s.heap.size) (hbA : ¬ A b) (hN3 : N ≤ 3073) {cc cs i : Nat} (hcc : cc + 12 ≤ 669896) (hcs : cs + 120 ≤ 7086383) (hi : 1 + 6 * i + 6 ≤ N) (hNext : ∀ (ad : Nat → Nat) (n : Nat → Nat) (I : Nat → Nat → Int32) (K : Nat → Int32) (bw : Int64) (LA : Nat → Int64) (J : Nat → Int32) (bw2 : Int64) (L : Nat → Nat → Int64) (o : Nat → Int64) (S : Nat → Nat → Nat → Int32), LR n I K J S → ∀ (H : Heap) (locs : List Loc) (ls : Array Slot), nw_W D hpC A (cW ad tC n I K bw LA n J bw2 L o S) ad H → va_S A s.heap H locs → lv_has ls 8 [(0, .ref (b)), (1, .ref (ad (0))), (2, .ref (ad (64))), (3, .ref (ad (69))), (4, .int (nI (1 + 6 * i)))] → W p l e room_1 s m args below meth cd H locs (cc + 12) (cs + 120) Q (F0 m 1168 ls [])) (ad : Nat → Nat) (n : Nat → Nat) (I : Nat → Nat → Int32) (K : Nat → Int32) (bw : Int64) (LA : Nat → Int64) (J : Nat → Int32) (bw2 : Int64) (L : Nat → Nat → Int64) (o : Nat → Int64) (S : Nat → Nat → Nat → Int32) (hL : LR n I K J S) (H : Heap) (locs : List Loc) (ls : Array Slot) (hw : nw_W D hpC A (cW ad tC n I K bw LA n J bw2 L o S) ad H) (hS : va_S A s.heap H locs) (hl : lv_has ls 8 [(0, .ref (b)), (1, .ref (ad (0))), (2, .ref (ad (64))), (3, .ref (ad (69))), (4, .int (nI (1 + 6 * i)))]) : W p l e room_1 s m args below meth cd H locs cc cs Q (F0 m 188 ls []) := by
  obtain ⟨hx, hb, hml, hown, hts⟩ := id hSx
  have hK := hKs.1
  have hB : nx_B s s := ⟨State.WarmedH.refl s, Nat.le_refl _, fun _ _ => rfl⟩
  obtain ⟨hm, ow, sq, hLx⟩ := id hL
  have hN : hpN n := hLx.1.1
  obtain ⟨hn0, hn0', hn1, hn2, hn3, hn4⟩ := id hN
  have hJK : J 3 = K 0 := hLx.2.2.1.1
  have hH : ∀ c, c < n 2 → I 2 c = nI (hm c) ∧ hm c < n 1 := fun c hc => ⟨hLx.2.1.1 c hc, (hLx.1.2.2.2.1 c hc).2.1⟩
  have hHm : ∀ c, c < n 2 → S 5 2 c = nI (hm c) ∧ hm c < n 1 := fun c hc => ⟨(hLx.1.2.2.2.1 c hc).1, (hLx.1.2.2.2.1 c hc).2.1⟩
  have hO : ∀ o, o < n 4 → I 4 o = nI (ow o) ∧ ow o < n 0 := fun o ho => ⟨(hLx.1.2.2.2.2.2.2.1 o ho).2.1, (hLx.1.2.2.2.2.2.2.1 o ho).2.2.1⟩
  have hSq : ∀ k, k < n 4 → S 0 1 k = nI (sq k) ∧ sq k < n 4 := fun k hk => ⟨hLx.2.1.2.1 k hk, hLx.1.2.2.2.2.2.2.2.1 k hk⟩
  have hSo : ∀ q, q < n 4 → ∃ j, j < n 4 ∧ sq j = q := hLx.1.2.2.2.2.2.2.2.2.1
  have hPl := ok_pl hLx
  obtain ⟨hz1, hz4, hz51, hz56⟩ := hLx.2.1.2.2.2
  refine lv_aload_n hx hb d_L_law_188 rfl (lv_at hl 1 rfl) ?_
  refine lv_aload_n hx hb d_L_law_189 rfl (lv_at hl 0 rfl) ?_
  refine lv_iload hx hb d_L_law_190 (lv_at hl 4 rfl) ?_
  refine lv_iconst (v := nI 1) hx hb d_L_law_192 (by decide) ?_
  refine lv_iadd hx hb d_L_law_193 ?_
  refine lv_ei (y := nI (1 + 6 * i + 1)) (nI_add _ _) ?_
  refine va_sld hx hb hX hbl hbA hS (vp_in_nI (by omega) (by omega)) d_L_law_194 ?_
  refine lv_ei (y := xs (1 + 6 * i + 1)) (by rw [nI_clamp (by omega)]) ?_
  refine lv_aload_n hx hb d_L_law_195 rfl (lv_at hl 0 rfl) ?_
  refine lv_iload hx hb d_L_law_196 (lv_at hl 4 rfl) ?_
  refine lv_iconst (v := nI 2) hx hb d_L_law_198 (by decide) ?_
  refine lv_iadd hx hb d_L_law_199 ?_
  refine lv_ei (y := nI (1 + 6 * i + 2)) (nI_add _ _) ?_
  refine va_sld hx hb hX hbl hbA hS (vp_in_nI (by omega) (by omega)) d_L_law_200 ?_
  refine lv_ei (y := xs (1 + 6 * i + 2)) (by rw [nI_clamp (by omega)]) ?_
  refine lv_aload_n hx hb d_L_law_201 rfl (lv_at hl 0 rfl) ?_
  refine lv_iload hx hb d_L_law_202 (lv_at hl 4 rfl) ?_
  refine lv_iconst (v := nI 3) hx hb d_L_law_204 (by decide) ?_
  refine lv_iadd hx hb d_L_law_205 ?_
  refine lv_ei (y := nI (1 + 6 * i + 3)) (nI_add _ _) ?_
  refine va_sld hx hb hX hbl hbA hS (vp_in_nI (by omega) (by omega)) d_L_law_206 ?_
  refine lv_ei (y := xs (1 + 6 * i + 3)) (by rw [nI_clamp (by omega)]) ?_
  refine lv_if_eq (tgt := 214) hx hb d_L_law_207 (by decide) (fun c_207 => ?_) (fun c_207 => ?_)
  · skip
    refine lv_iconst (v := nI 0) hx hb d_L_law_214 (by decide) ?_
    refine lv_aload_n hx hb d_L_law_215 rfl (lv_at hl 3 rfl) ?_
    refine nx_callC (nx_goW (n := 5) (As := [.ref (ad (0)), .int (xs (1 + 6 * i + 1)), .int (xs (1 + 6 * i + 2)), .int (nI 0), .ref (ad (69))]) (rest := []) hSx hA hKs hF hB hAs hw hS (w_closed l D tC A ad n I K bw LA n J bw2 L o S hN s hF hfl hAs (xs (1 + 6 * i + 1)) (xs (1 + 6 * i + 2)) (nI 0) (by decide) hz1) kt_384 kw_382 kw_383 kw_0 rfl rfl (by decide +kernel) ⟨Nat.le_of_ble_eq_true rfl, Nat.le_of_ble_eq_true rfl⟩ rfl hl.1 (Nat.le_of_ble_eq_true rfl) d_L_law_216 ⟨by show _ ≤ 669896; omega, by show _ ≤ 7086383; omega⟩) hS (fun X wn' ad' H locs x cell hpost hw hS hcell hst hcls T' hT X0 => (lw_po_x hpost).elim) (fun rv wn' ad' H locs hpost hw hS => ?_)
    rcases lw_po_i hpost with ⟨hv, hba, hwn, had⟩ | ⟨hv, hnba, hbs, hwn, had⟩ | ⟨hv, hnba, hnbs, hG⟩
    · skip
      subst hv
      rw [hwn, had] at hw
      refine lv_istore (lv' := [(5, .int (nI 1)), (0, .ref (b)), (1, .ref (ad (0))), (2, .ref (ad (64))), (3, .ref (ad (69))), (4, .int (nI (1 + 6 * i)))]) hx hb d_L_law_219 hl (by decide) rfl (fun ls hl => ?_)
      refine lv_aload_n hx hb d_L_law_221 rfl (lv_at hl 3 rfl) ?_
      refine lv_aload_n hx hb d_L_law_222 rfl (lv_at hl 1 rfl) ?_
      refine lv_iload hx hb d_L_law_223 (lv_at hl 5 rfl) ?_
      refine lv_iconst (v := nI 1) hx hb d_L_law_225 (by decide) ?_
      refine lv_iadd hx hb d_L_law_226 ?_
      refine lv_ei (y := nI (1 + 6 * i + 1)) (nI_add _ _) ?_
      refine va_sld hx hb hX hbl hbA hS (vp_in_nI (by omega) (by omega)) d_L_law_227 ?_
      refine lv_ei (y := xs (1 + 6 * i + 1)) (by rw [nI_clamp (by omega)]) ?_
      refine lv_aload_n hx hb d_L_law_228 rfl (lv_at hl 1 rfl) ?_
      refine lv_iload hx hb d_L_law_229 (lv_at hl 5 rfl) ?_
      refine lv_iconst (v := nI 2) hx hb d_L_law_231 (by decide) ?_
      refine lv_iadd hx hb d_L_law_232 ?_
      refine lv_ei (y := nI (1 + 6 * i + 2)) (nI_add _ _) ?_
      refine va_sld hx hb hX hbl hbA hS (vp_in_nI (by omega) (by omega)) d_L_law_233 ?_
      refine lv_ei (y := xs (1 + 6 * i + 2)) (by rw [nI_clamp (by omega)]) ?_
      refine lv_aload_n hx hb d_L_law_234 rfl (lv_at hl 1 rfl) ?_
      refine lv_iload hx hb d_L_law_235 (lv_at hl 5 rfl) ?_
      refine lv_iconst (v := nI 3) hx hb d_L_law_237 (by decide) ?_
      refine lv_iadd hx hb d_L_law_238 ?_
      refine lv_ei (y := nI (1 + 6 * i + 3)) (nI_add _ _) ?_
      refine va_sld hx hb hX hbl hbA hS (vp_in_nI (by omega) (by omega)) d_L_law_239 ?_
      refine lv_ei (y := xs (1 + 6 * i + 3)) (by rw [nI_clamp (by omega)]) ?_
      refine lv_if_eq (tgt := 247) hx hb d_L_law_240 (by decide) (fun c_240 => ?_) (fun c_240 => ?_)
      · skip
        refine lv_iconst (v := nI 0) hx hb d_L_law_247 (by decide) ?_
        have hw := nw_W.as (wn' := mW ad tC n J bw2 L (obX ad tC n I K bw LA (bE tC o)) (arX tC n aE0) S) hw cW_m.symm
        refine nw_call (nw_goV (n := 3) (As := [.int (xs (1 + 6 * i + 1)), .int (xs (1 + 6 * i + 2)), .int (nI 0)]) (rest := []) hSx hA hKs hw hS (c_M_closed l D tC A ad n J bw2 L (obX ad tC n I K bw LA (bE tC o)) (arX tC n aE0) S hN (xs (1 + 6 * i + 1)) (xs (1 + 6 * i + 2)) (nI 0) (by decide) hz51) kw_778 kw_775 kw_776 kw_777 kw_8 rfl rfl (by decide +kernel) ⟨Nat.le_of_ble_eq_true rfl, Nat.le_of_ble_eq_true rfl⟩ (nw_recv hK hw (mW_64) rfl) rfl hl.1 (Nat.le_of_ble_eq_true rfl) d_L_law_248 ⟨by show _ ≤ 669896; omega, by show _ ≤ 7086383; omega⟩) hS (fun rv wn' ad9 H locs hpost hw hS => ?_)
        obtain ⟨had9, hmo⟩ := hpost
        rw [had9] at hw
        rcases hmo with ⟨hq1, hq2, hq3⟩ | ⟨hq1, _⟩ | ⟨hq1, _⟩
        rotate_left
        · exact absurd hba hq1
        · exact absurd hba hq1
        subst hq2
        rw [hq3] at hw
        have hw := nw_W.as (wn' := cW ad tC n I K bw LA n (va_up J 0 1) bw2 L o S) hw cW_m
        refine lv_istore (lv' := [(6, .int (nI 0)), (5, .int (nI 1)), (0, .ref (b)), (1, .ref (ad (0))), (2, .ref (ad (64))), (3, .ref (ad (69))), (4, .int (nI (1 + 6 * i)))]) hx hb d_L_law_251 hl (by decide) rfl (fun ls hl => ?_)
        refine lv_aload_n hx hb d_L_law_253 rfl (lv_at hl 4 rfl) ?_
        have hw := nw_W.as (wn' := mW ad tC n (va_up J 0 1) bw2 L (obX ad tC n I K bw LA (bE tC o)) (arX tC n aE0) S) hw cW_m.symm
        refine nw_call (nw_goV (n := 0) (As := []) (rest := []) hSx hA hKs hw hS (c_M_thrown l D tC A ad n (va_up J 0 1) bw2 L (obX ad tC n I K bw LA (bE tC o)) (arX tC n aE0) S hN  ) kw_762 kw_759 kw_760 kw_761 kw_8 rfl rfl (by decide +kernel) ⟨Nat.le_of_ble_eq_true rfl, Nat.le_of_ble_eq_true rfl⟩ (nw_recv hK hw (mW_64) rfl) rfl hl.1 (Nat.le_of_ble_eq_true rfl) d_L_law_254 ⟨by show _ ≤ 669896; omega, by show _ ≤ 7086383; omega⟩) hS (fun rv wn' ad9 H locs hpost hw hS => ?_)
        obtain ⟨hv9, hwn9, had9⟩ := hpost
        subst hv9
        rw [hwn9, had9] at hw
        have hw := nw_W.as (wn' := cW ad tC n I K bw LA n (va_up J 0 1) bw2 L o S) hw cW_m
        refine lv_ei (y := nI 1) rfl ?_
        refine lv_iload hx hb d_L_law_257 (lv_at hl 1 rfl) ?_
        refine lv_icmp_eq (tgt := 264) hx hb d_L_law_259 (by decide) (fun c_259 => ?_) (fun c_259 => ?_)
        · skip
          refine lv_iload hx hb d_L_law_264 (lv_at hl 1 rfl) ?_
          refine lv_if_ne (tgt := 288) hx hb d_L_law_266 (by decide) (fun c_266 => ?_) (fun c_266 => ?_)
          · skip
            refine lv_goto (tgt := 1168) hx hb d_L_law_288 (by decide) ?_
            exact W.widen (by omega) (by omega) (hNext ad n I K bw LA (va_up J 0 1) bw2 L o S (LR_thr hL) _ _ ls hw hS (lv_sub hl [2, 3, 4, 5, 6] rfl))
          · skip
            first | exact absurd c_266 (by decide) | exact absurd (by decide) c_266
        · skip
          exact absurd rfl c_259
      · skip
        exact absurd c_207 c_240
    · skip
      subst hv
      exact absurd trivial hbs
    · skip
      subst hv
      obtain ⟨had, hwn⟩ := hG
      rw [hwn, had] at hw
      refine lv_istore (lv' := [(5, .int (nI 0)), (0, .ref (b)), (1, .ref (ad (0))), (2, .ref (ad (64))), (3, .ref (ad (69))), (4, .int (nI (1 + 6 * i)))]) hx hb d_L_law_219 hl (by decide) rfl (fun ls hl => ?_)
      refine lv_aload_n hx hb d_L_law_221 rfl (lv_at hl 3 rfl) ?_
      refine lv_aload_n hx hb d_L_law_222 rfl (lv_at hl 1 rfl) ?_
      refine lv_iload hx hb d_L_law_223 (lv_at hl 5 rfl) ?_
      refine lv_iconst (v := nI 1) hx hb d_L_law_225 (by decide) ?_
      refine lv_iadd hx hb d_L_law_226 ?_
      refine lv_ei (y := nI (1 + 6 * i + 1)) (nI_add _ _) ?_
      refine va_sld hx hb hX hbl hbA hS (vp_in_nI (by omega) (by omega)) d_L_law_227 ?_
      refine lv_ei (y := xs (1 + 6 * i + 1)) (by rw [nI_clamp (by omega)]) ?_
      refine lv_aload_n hx hb d_L_law_228 rfl (lv_at hl 1 rfl) ?_
      refine lv_iload hx hb d_L_law_229 (lv_at hl 5 rfl) ?_
      refine lv_iconst (v := nI 2) hx hb d_L_law_231 (by decide) ?_
      refine lv_iadd hx hb d_L_law_232 ?_
      refine lv_ei (y := nI (1 + 6 * i + 2)) (nI_add _ _) ?_
      refine va_sld hx hb hX hbl hbA hS (vp_in_nI (by omega) (by omega)) d_L_law_233 ?_
      refine lv_ei (y := xs (1 + 6 * i + 2)) (by rw [nI_clamp (by omega)]) ?_
      refine lv_aload_n hx hb d_L_law_234 rfl (lv_at hl 1 rfl) ?_
      refine lv_iload hx hb d_L_law_235 (lv_at hl 5 rfl) ?_
      refine lv_iconst (v := nI 3) hx hb d_L_law_237 (by decide) ?_
      refine lv_iadd hx hb d_L_law_238 ?_
      refine lv_ei (y := nI (1 + 6 * i + 3)) (nI_add _ _) ?_
      refine va_sld hx hb hX hbl hbA hS (vp_in_nI (by omega) (by omega)) d_L_law_239 ?_
      refine lv_ei (y := xs (1 + 6 * i + 3)) (by rw [nI_clamp (by omega)]) ?_
      refine lv_if_eq (tgt := 247) hx hb d_L_law_240 (by decide) (fun c_240 => ?_) (fun c_240 => ?_)
      · skip
        refine lv_iconst (v := nI 0) hx hb d_L_law_247 (by decide) ?_
        have hw := nw_W.as (wn' := mW ad tC n J bw2 L (obX ad tC n I (va_up K 0 (nI 0)) bw LA (bE tC (vp_updL o 0 (if (upR S 0 0 (flR (S 0 0) (-1) 6)) 1 ((xs (1 + 6 * i + 1)).toNatClampNeg) ((xs (1 + 6 * i + 2)).toNatClampNeg) = 0 then (0 : Int64) else 1)))) (arX tC n aE0) (upR (upR S 0 0 (flR (S 0 0) (-1) 6)) 1 ((xs (1 + 6 * i + 1)).toNatClampNeg) (upd ((upR S 0 0 (flR (S 0 0) (-1) 6)) 1 ((xs (1 + 6 * i + 1)).toNatClampNeg)) ((xs (1 + 6 * i + 2)).toNatClampNeg) (nI 0)))) hw cW_m.symm
        refine nw_call (nw_goV (n := 3) (As := [.int (xs (1 + 6 * i + 1)), .int (xs (1 + 6 * i + 2)), .int (nI 0)]) (rest := []) hSx hA hKs hw hS (c_M_closed l D tC A ad n J bw2 L (obX ad tC n I (va_up K 0 (nI 0)) bw LA (bE tC (vp_updL o 0 (if (upR S 0 0 (flR (S 0 0) (-1) 6)) 1 ((xs (1 + 6 * i + 1)).toNatClampNeg) ((xs (1 + 6 * i + 2)).toNatClampNeg) = 0 then (0 : Int64) else 1)))) (arX tC n aE0) (upR (upR S 0 0 (flR (S 0 0) (-1) 6)) 1 ((xs (1 + 6 * i + 1)).toNatClampNeg) (upd ((upR S 0 0 (flR (S 0 0) (-1) 6)) 1 ((xs (1 + 6 * i + 1)).toNatClampNeg)) ((xs (1 + 6 * i + 2)).toNatClampNeg) (nI 0))) hN (xs (1 + 6 * i + 1)) (xs (1 + 6 * i + 2)) (nI 0) (by decide) hz51) kw_778 kw_775 kw_776 kw_777 kw_8 rfl rfl (by decide +kernel) ⟨Nat.le_of_ble_eq_true rfl, Nat.le_of_ble_eq_true rfl⟩ (nw_recv hK hw (mW_64) rfl) rfl hl.1 (Nat.le_of_ble_eq_true rfl) d_L_law_248 ⟨by show _ ≤ 669896; omega, by show _ ≤ 7086383; omega⟩) hS (fun rv wn' ad9 H locs hpost hw hS => ?_)
        obtain ⟨had9, hmo⟩ := hpost
        rw [had9] at hw
        rcases hmo with ⟨hq1, _⟩ | ⟨hq1, hq4, _⟩ | ⟨hq1, hq4, hGm⟩
        · exact absurd hq1 hnba
        · exact absurd hq4 hnbs
        obtain ⟨hv9, hw9⟩ := hGm
        subst hv9
        rw [hw9] at hw
        have hw := nw_W.as (wn' := cW ad tC n I (va_up K 0 (nI 0)) bw LA n (va_up (va_up J 0 (nI 0)) 3 (nI 0)) bw2 L (vp_updL o 0 (if (upR S 0 0 (flR (S 0 0) (-1) 6)) 1 ((xs (1 + 6 * i + 1)).toNatClampNeg) ((xs (1 + 6 * i + 2)).toNatClampNeg) = 0 then (0 : Int64) else 1)) (upR (upR (upR S 0 0 (flR (S 0 0) (-1) 6)) 1 ((xs (1 + 6 * i + 1)).toNatClampNeg) (upd ((upR S 0 0 (flR (S 0 0) (-1) 6)) 1 ((xs (1 + 6 * i + 1)).toNatClampNeg)) ((xs (1 + 6 * i + 2)).toNatClampNeg) (nI 0))) 5 1 (upd ((upR (upR S 0 0 (flR (S 0 0) (-1) 6)) 1 ((xs (1 + 6 * i + 1)).toNatClampNeg) (upd ((upR S 0 0 (flR (S 0 0) (-1) 6)) 1 ((xs (1 + 6 * i + 1)).toNatClampNeg)) ((xs (1 + 6 * i + 2)).toNatClampNeg) (nI 0))) 5 1) (8 * ((xs (1 + 6 * i + 1)).toNatClampNeg) + ((xs (1 + 6 * i + 2)).toNatClampNeg)) (nI 0)))) hw cW_m
        refine lv_istore (lv' := [(6, .int ((upR (upR S 0 0 (flR (S 0 0) (-1) 6)) 1 ((xs (1 + 6 * i + 1)).toNatClampNeg) (upd ((upR S 0 0 (flR (S 0 0) (-1) 6)) 1 ((xs (1 + 6 * i + 1)).toNatClampNeg)) ((xs (1 + 6 * i + 2)).toNatClampNeg) (nI 0))) 5 1 (8 * ((xs (1 + 6 * i + 1)).toNatClampNeg) + ((xs (1 + 6 * i + 2)).toNatClampNeg)))), (5, .int (nI 0)), (0, .ref (b)), (1, .ref (ad (0))), (2, .ref (ad (64))), (3, .ref (ad (69))), (4, .int (nI (1 + 6 * i)))]) hx hb d_L_law_251 hl (by decide) rfl (fun ls hl => ?_)
        refine lv_aload_n hx hb d_L_law_253 rfl (lv_at hl 4 rfl) ?_
        have hw := nw_W.as (wn' := mW ad tC n (va_up (va_up J 0 (nI 0)) 3 (nI 0)) bw2 L (obX ad tC n I (va_up K 0 (nI 0)) bw LA (bE tC (vp_updL o 0 (if (upR S 0 0 (flR (S 0 0) (-1) 6)) 1 ((xs (1 + 6 * i + 1)).toNatClampNeg) ((xs (1 + 6 * i + 2)).toNatClampNeg) = 0 then (0 : Int64) else 1)))) (arX tC n aE0) (upR (upR (upR S 0 0 (flR (S 0 0) (-1) 6)) 1 ((xs (1 + 6 * i + 1)).toNatClampNeg) (upd ((upR S 0 0 (flR (S 0 0) (-1) 6)) 1 ((xs (1 + 6 * i + 1)).toNatClampNeg)) ((xs (1 + 6 * i + 2)).toNatClampNeg) (nI 0))) 5 1 (upd ((upR (upR S 0 0 (flR (S 0 0) (-1) 6)) 1 ((xs (1 + 6 * i + 1)).toNatClampNeg) (upd ((upR S 0 0 (flR (S 0 0) (-1) 6)) 1 ((xs (1 + 6 * i + 1)).toNatClampNeg)) ((xs (1 + 6 * i + 2)).toNatClampNeg) (nI 0))) 5 1) (8 * ((xs (1 + 6 * i + 1)).toNatClampNeg) + ((xs (1 + 6 * i + 2)).toNatClampNeg)) (nI 0)))) hw cW_m.symm
        refine nw_call (nw_goV (n := 0) (As := []) (rest := []) hSx hA hKs hw hS (c_M_thrown l D tC A ad n (va_up (va_up J 0 (nI 0)) 3 (nI 0)) bw2 L (obX ad tC n I (va_up K 0 (nI 0)) bw LA (bE tC (vp_updL o 0 (if (upR S 0 0 (flR (S 0 0) (-1) 6)) 1 ((xs (1 + 6 * i + 1)).toNatClampNeg) ((xs (1 + 6 * i + 2)).toNatClampNeg) = 0 then (0 : Int64) else 1)))) (arX tC n aE0) (upR (upR (upR S 0 0 (flR (S 0 0) (-1) 6)) 1 ((xs (1 + 6 * i + 1)).toNatClampNeg) (upd ((upR S 0 0 (flR (S 0 0) (-1) 6)) 1 ((xs (1 + 6 * i + 1)).toNatClampNeg)) ((xs (1 + 6 * i + 2)).toNatClampNeg) (nI 0))) 5 1 (upd ((upR (upR S 0 0 (flR (S 0 0) (-1) 6)) 1 ((xs (1 + 6 * i + 1)).toNatClampNeg) (upd ((upR S 0 0 (flR (S 0 0) (-1) 6)) 1 ((xs (1 + 6 * i + 1)).toNatClampNeg)) ((xs (1 + 6 * i + 2)).toNatClampNeg) (nI 0))) 5 1) (8 * ((xs (1 + 6 * i + 1)).toNatClampNeg) + ((xs (1 + 6 * i + 2)).toNatClampNeg)) (nI 0))) hN  ) kw_762 kw_759 kw_760 kw_761 kw_8 rfl rfl (by decide +kernel) ⟨Nat.le_of_ble_eq_true rfl, Nat.le_of_ble_eq_true rfl⟩ (nw_recv hK hw (mW_64) rfl) rfl hl.1 (Nat.le_of_ble_eq_true rfl) d_L_law_254 ⟨by show _ ≤ 669896; omega, by show _ ≤ 7086383; omega⟩) hS (fun rv wn' ad9 H locs hpost hw hS => ?_)
        obtain ⟨hv9, hwn9, had9⟩ := hpost
        subst hv9
        rw [hwn9, had9] at hw
        have hw := nw_W.as (wn' := cW ad tC n I (va_up K 0 (nI 0)) bw LA n (va_up (va_up J 0 (nI 0)) 3 (nI 0)) bw2 L (vp_updL o 0 (if (upR S 0 0 (flR (S 0 0) (-1) 6)) 1 ((xs (1 + 6 * i + 1)).toNatClampNeg) ((xs (1 + 6 * i + 2)).toNatClampNeg) = 0 then (0 : Int64) else 1)) (upR (upR (upR S 0 0 (flR (S 0 0) (-1) 6)) 1 ((xs (1 + 6 * i + 1)).toNatClampNeg) (upd ((upR S 0 0 (flR (S 0 0) (-1) 6)) 1 ((xs (1 + 6 * i + 1)).toNatClampNeg)) ((xs (1 + 6 * i + 2)).toNatClampNeg) (nI 0))) 5 1 (upd ((upR (upR S 0 0 (flR (S 0 0) (-1) 6)) 1 ((xs (1 + 6 * i + 1)).toNatClampNeg) (upd ((upR S 0 0 (flR (S 0 0) (-1) 6)) 1 ((xs (1 + 6 * i + 1)).toNatClampNeg)) ((xs (1 + 6 * i + 2)).toNatClampNeg) (nI 0))) 5 1) (8 * ((xs (1 + 6 * i + 1)).toNatClampNeg) + ((xs (1 + 6 * i + 2)).toNatClampNeg)) (nI 0)))) hw cW_m
        refine lv_ei (y := nI 0) rfl ?_
        refine lv_iload hx hb d_L_law_257 (lv_at hl 1 rfl) ?_
        refine lv_icmp_eq (tgt := 264) hx hb d_L_law_259 (by decide) (fun c_259 => ?_) (fun c_259 => ?_)
        · skip
          refine lv_iload hx hb d_L_law_264 (lv_at hl 1 rfl) ?_
          refine lv_if_ne (tgt := 288) hx hb d_L_law_266 (by decide) (fun c_266 => ?_) (fun c_266 => ?_)
          · skip
            first | exact absurd c_266 (by decide) | exact absurd (by decide) c_266
          · skip
            refine lv_aload_n hx hb d_L_law_269 rfl (lv_at hl 5 rfl) ?_
            refine lv_iconst (v := nI 0) hx hb d_L_law_270 (by decide) ?_
            refine nw_lald hx hb hK hw (69) 1 (cW_69) rfl (0) (rfl) (by omega) (by omega) d_L_law_271 ?_
            refine lv_iload hx hb d_L_law_272 (lv_at hl 0 rfl) ?_
            refine lv_if_eq (tgt := 281) hx hb d_L_law_274 (by decide) (fun c_274 => ?_) (fun c_274 => ?_)
            · skip
              have hbb : (0 : Int64) = (if (upR (upR S 0 0 (flR (S 0 0) (-1) 6)) 1 ((xs (1 + 6 * i + 1)).toNatClampNeg) (upd ((upR S 0 0 (flR (S 0 0) (-1) 6)) 1 ((xs (1 + 6 * i + 1)).toNatClampNeg)) ((xs (1 + 6 * i + 2)).toNatClampNeg) (nI 0))) 5 1 (8 * ((xs (1 + 6 * i + 1)).toNatClampNeg) + ((xs (1 + 6 * i + 2)).toNatClampNeg)) = 0 then (0 : Int64) else 1) := (if_pos c_274).symm
              refine lv_lconst (v := 0) hx hb d_L_law_281 (by decide) ?_
              refine lv_el (y := ((vp_updL o 0 (if (upR S 0 0 (flR (S 0 0) (-1) 6)) 1 ((xs (1 + 6 * i + 1)).toNatClampNeg) ((xs (1 + 6 * i + 2)).toNatClampNeg) = 0 then (0 : Int64) else 1)) (0))) (hbb.trans (congrArg (fun z : Int32 => if z = 0 then (0 : Int64) else 1) (LR_closed (x3 := nI 0) hL (Classical.not_not.mp hnba).1 (Classical.not_not.mp hnba).2 (by decide)).1.symm)) ?_
              refine W.lcmp hx hb d_L_law_282 ?_
              refine lv_ei (y := nI 0) ((lg_cmp_eq _ _).mpr rfl) ?_
              refine lv_if_eq (tgt := 288) hx hb d_L_law_283 (by decide) (fun c_283 => ?_) (fun c_283 => ?_)
              · skip
                refine lv_goto (tgt := 1168) hx hb d_L_law_288 (by decide) ?_
                exact W.widen (by omega) (by omega) (hNext ad n I (va_up K 0 (nI 0)) bw LA (va_up (va_up J 0 (nI 0)) 3 (nI 0)) bw2 L (vp_updL o 0 (if (upR S 0 0 (flR (S 0 0) (-1) 6)) 1 ((xs (1 + 6 * i + 1)).toNatClampNeg) ((xs (1 + 6 * i + 2)).toNatClampNeg) = 0 then (0 : Int64) else 1)) (upR (upR (upR S 0 0 (flR (S 0 0) (-1) 6)) 1 ((xs (1 + 6 * i + 1)).toNatClampNeg) (upd ((upR S 0 0 (flR (S 0 0) (-1) 6)) 1 ((xs (1 + 6 * i + 1)).toNatClampNeg)) ((xs (1 + 6 * i + 2)).toNatClampNeg) (nI 0))) 5 1 (upd ((upR (upR S 0 0 (flR (S 0 0) (-1) 6)) 1 ((xs (1 + 6 * i + 1)).toNatClampNeg) (upd ((upR S 0 0 (flR (S 0 0) (-1) 6)) 1 ((xs (1 + 6 * i + 1)).toNatClampNeg)) ((xs (1 + 6 * i + 2)).toNatClampNeg) (nI 0))) 5 1) (8 * ((xs (1 + 6 * i + 1)).toNatClampNeg) + ((xs (1 + 6 * i + 2)).toNatClampNeg)) (nI 0))) ((LR_closed (x3 := nI 0) hL (Classical.not_not.mp hnba).1 (Classical.not_not.mp hnba).2 (by decide)).2) _ _ ls hw hS (lv_sub hl [2, 3, 4, 5, 6] rfl))
              · skip
                first | exact absurd c_283 (by decide) | exact absurd (by decide) c_283
            · skip
              have hbb : (1 : Int64) = (if (upR (upR S 0 0 (flR (S 0 0) (-1) 6)) 1 ((xs (1 + 6 * i + 1)).toNatClampNeg) (upd ((upR S 0 0 (flR (S 0 0) (-1) 6)) 1 ((xs (1 + 6 * i + 1)).toNatClampNeg)) ((xs (1 + 6 * i + 2)).toNatClampNeg) (nI 0))) 5 1 (8 * ((xs (1 + 6 * i + 1)).toNatClampNeg) + ((xs (1 + 6 * i + 2)).toNatClampNeg)) = 0 then (0 : Int64) else 1) := (if_neg c_274).symm
              refine lv_lconst (v := 1) hx hb d_L_law_277 (by decide) ?_
              refine lv_goto (tgt := 282) hx hb d_L_law_278 (by decide) ?_
              refine lv_el (y := ((vp_updL o 0 (if (upR S 0 0 (flR (S 0 0) (-1) 6)) 1 ((xs (1 + 6 * i + 1)).toNatClampNeg) ((xs (1 + 6 * i + 2)).toNatClampNeg) = 0 then (0 : Int64) else 1)) (0))) (hbb.trans (congrArg (fun z : Int32 => if z = 0 then (0 : Int64) else 1) (LR_closed (x3 := nI 0) hL (Classical.not_not.mp hnba).1 (Classical.not_not.mp hnba).2 (by decide)).1.symm)) ?_
              refine W.lcmp hx hb d_L_law_282 ?_
              refine lv_ei (y := nI 0) ((lg_cmp_eq _ _).mpr rfl) ?_
              refine lv_if_eq (tgt := 288) hx hb d_L_law_283 (by decide) (fun c_283 => ?_) (fun c_283 => ?_)
              · skip
                refine lv_goto (tgt := 1168) hx hb d_L_law_288 (by decide) ?_
                exact W.widen (by omega) (by omega) (hNext ad n I (va_up K 0 (nI 0)) bw LA (va_up (va_up J 0 (nI 0)) 3 (nI 0)) bw2 L (vp_updL o 0 (if (upR S 0 0 (flR (S 0 0) (-1) 6)) 1 ((xs (1 + 6 * i + 1)).toNatClampNeg) ((xs (1 + 6 * i + 2)).toNatClampNeg) = 0 then (0 : Int64) else 1)) (upR (upR (upR S 0 0 (flR (S 0 0) (-1) 6)) 1 ((xs (1 + 6 * i + 1)).toNatClampNeg) (upd ((upR S 0 0 (flR (S 0 0) (-1) 6)) 1 ((xs (1 + 6 * i + 1)).toNatClampNeg)) ((xs (1 + 6 * i + 2)).toNatClampNeg) (nI 0))) 5 1 (upd ((upR (upR S 0 0 (flR (S 0 0) (-1) 6)) 1 ((xs (1 + 6 * i + 1)).toNatClampNeg) (upd ((upR S 0 0 (flR (S 0 0) (-1) 6)) 1 ((xs (1 + 6 * i + 1)).toNatClampNeg)) ((xs (1 + 6 * i + 2)).toNatClampNeg) (nI 0))) 5 1) (8 * ((xs (1 + 6 * i + 1)).toNatClampNeg) + ((xs (1 + 6 * i + 2)).toNatClampNeg)) (nI 0))) ((LR_closed (x3 := nI 0) hL (Classical.not_not.mp hnba).1 (Classical.not_not.mp hnba).2 (by decide)).2) _ _ ls hw hS (lv_sub hl [2, 3, 4, 5, 6] rfl))
              · skip
                first | exact absurd c_283 (by decide) | exact absurd (by decide) c_283
        · skip
          exact absurd rfl c_259
      · skip
        exact absurd c_207 c_240
  · skip
    refine lv_iconst (v := nI 1) hx hb d_L_law_210 (by decide) ?_
    refine lv_goto (tgt := 215) hx hb d_L_law_211 (by decide) ?_
    refine lv_aload_n hx hb d_L_law_215 rfl (lv_at hl 3 rfl) ?_
    refine nx_callC (nx_goW (n := 5) (As := [.ref (ad (0)), .int (xs (1 + 6 * i + 1)), .int (xs (1 + 6 * i + 2)), .int (nI 1), .ref (ad (69))]) (rest := []) hSx hA hKs hF hB hAs hw hS (w_closed l D tC A ad n I K bw LA n J bw2 L o S hN s hF hfl hAs (xs (1 + 6 * i + 1)) (xs (1 + 6 * i + 2)) (nI 1) (by decide) hz1) kt_384 kw_382 kw_383 kw_0 rfl rfl (by decide +kernel) ⟨Nat.le_of_ble_eq_true rfl, Nat.le_of_ble_eq_true rfl⟩ rfl hl.1 (Nat.le_of_ble_eq_true rfl) d_L_law_216 ⟨by show _ ≤ 669896; omega, by show _ ≤ 7086383; omega⟩) hS (fun X wn' ad' H locs x cell hpost hw hS hcell hst hcls T' hT X0 => (lw_po_x hpost).elim) (fun rv wn' ad' H locs hpost hw hS => ?_)
    rcases lw_po_i hpost with ⟨hv, hba, hwn, had⟩ | ⟨hv, hnba, hbs, hwn, had⟩ | ⟨hv, hnba, hnbs, hG⟩
    · skip
      subst hv
      rw [hwn, had] at hw
      refine lv_istore (lv' := [(5, .int (nI 1)), (0, .ref (b)), (1, .ref (ad (0))), (2, .ref (ad (64))), (3, .ref (ad (69))), (4, .int (nI (1 + 6 * i)))]) hx hb d_L_law_219 hl (by decide) rfl (fun ls hl => ?_)
      refine lv_aload_n hx hb d_L_law_221 rfl (lv_at hl 3 rfl) ?_
      refine lv_aload_n hx hb d_L_law_222 rfl (lv_at hl 1 rfl) ?_
      refine lv_iload hx hb d_L_law_223 (lv_at hl 5 rfl) ?_
      refine lv_iconst (v := nI 1) hx hb d_L_law_225 (by decide) ?_
      refine lv_iadd hx hb d_L_law_226 ?_
      refine lv_ei (y := nI (1 + 6 * i + 1)) (nI_add _ _) ?_
      refine va_sld hx hb hX hbl hbA hS (vp_in_nI (by omega) (by omega)) d_L_law_227 ?_
      refine lv_ei (y := xs (1 + 6 * i + 1)) (by rw [nI_clamp (by omega)]) ?_
      refine lv_aload_n hx hb d_L_law_228 rfl (lv_at hl 1 rfl) ?_
      refine lv_iload hx hb d_L_law_229 (lv_at hl 5 rfl) ?_
      refine lv_iconst (v := nI 2) hx hb d_L_law_231 (by decide) ?_
      refine lv_iadd hx hb d_L_law_232 ?_
      refine lv_ei (y := nI (1 + 6 * i + 2)) (nI_add _ _) ?_
      refine va_sld hx hb hX hbl hbA hS (vp_in_nI (by omega) (by omega)) d_L_law_233 ?_
      refine lv_ei (y := xs (1 + 6 * i + 2)) (by rw [nI_clamp (by omega)]) ?_
      refine lv_aload_n hx hb d_L_law_234 rfl (lv_at hl 1 rfl) ?_
      refine lv_iload hx hb d_L_law_235 (lv_at hl 5 rfl) ?_
      refine lv_iconst (v := nI 3) hx hb d_L_law_237 (by decide) ?_
      refine lv_iadd hx hb d_L_law_238 ?_
      refine lv_ei (y := nI (1 + 6 * i + 3)) (nI_add _ _) ?_
      refine va_sld hx hb hX hbl hbA hS (vp_in_nI (by omega) (by omega)) d_L_law_239 ?_
      refine lv_ei (y := xs (1 + 6 * i + 3)) (by rw [nI_clamp (by omega)]) ?_
      refine lv_if_eq (tgt := 247) hx hb d_L_law_240 (by decide) (fun c_240 => ?_) (fun c_240 => ?_)
      · skip
        exact absurd c_240 c_207
      · skip
        refine lv_iconst (v := nI 1) hx hb d_L_law_243 (by decide) ?_
        refine lv_goto (tgt := 248) hx hb d_L_law_244 (by decide) ?_
        have hw := nw_W.as (wn' := mW ad tC n J bw2 L (obX ad tC n I K bw LA (bE tC o)) (arX tC n aE0) S) hw cW_m.symm
        refine nw_call (nw_goV (n := 3) (As := [.int (xs (1 + 6 * i + 1)), .int (xs (1 + 6 * i + 2)), .int (nI 1)]) (rest := []) hSx hA hKs hw hS (c_M_closed l D tC A ad n J bw2 L (obX ad tC n I K bw LA (bE tC o)) (arX tC n aE0) S hN (xs (1 + 6 * i + 1)) (xs (1 + 6 * i + 2)) (nI 1) (by decide) hz51) kw_778 kw_775 kw_776 kw_777 kw_8 rfl rfl (by decide +kernel) ⟨Nat.le_of_ble_eq_true rfl, Nat.le_of_ble_eq_true rfl⟩ (nw_recv hK hw (mW_64) rfl) rfl hl.1 (Nat.le_of_ble_eq_true rfl) d_L_law_248 ⟨by show _ ≤ 669896; omega, by show _ ≤ 7086383; omega⟩) hS (fun rv wn' ad9 H locs hpost hw hS => ?_)
        obtain ⟨had9, hmo⟩ := hpost
        rw [had9] at hw
        rcases hmo with ⟨hq1, hq2, hq3⟩ | ⟨hq1, _⟩ | ⟨hq1, _⟩
        rotate_left
        · exact absurd hba hq1
        · exact absurd hba hq1
        subst hq2
        rw [hq3] at hw
        have hw := nw_W.as (wn' := cW ad tC n I K bw LA n (va_up J 0 1) bw2 L o S) hw cW_m
        refine lv_istore (lv' := [(6, .int (nI 0)), (5, .int (nI 1)), (0, .ref (b)), (1, .ref (ad (0))), (2, .ref (ad (64))), (3, .ref (ad (69))), (4, .int (nI (1 + 6 * i)))]) hx hb d_L_law_251 hl (by decide) rfl (fun ls hl => ?_)
        refine lv_aload_n hx hb d_L_law_253 rfl (lv_at hl 4 rfl) ?_
        have hw := nw_W.as (wn' := mW ad tC n (va_up J 0 1) bw2 L (obX ad tC n I K bw LA (bE tC o)) (arX tC n aE0) S) hw cW_m.symm
        refine nw_call (nw_goV (n := 0) (As := []) (rest := []) hSx hA hKs hw hS (c_M_thrown l D tC A ad n (va_up J 0 1) bw2 L (obX ad tC n I K bw LA (bE tC o)) (arX tC n aE0) S hN  ) kw_762 kw_759 kw_760 kw_761 kw_8 rfl rfl (by decide +kernel) ⟨Nat.le_of_ble_eq_true rfl, Nat.le_of_ble_eq_true rfl⟩ (nw_recv hK hw (mW_64) rfl) rfl hl.1 (Nat.le_of_ble_eq_true rfl) d_L_law_254 ⟨by show _ ≤ 669896; omega, by show _ ≤ 7086383; omega⟩) hS (fun rv wn' ad9 H locs hpost hw hS => ?_)
        obtain ⟨hv9, hwn9, had9⟩ := hpost
        subst hv9
        rw [hwn9, had9] at hw
        have hw := nw_W.as (wn' := cW ad tC n I K bw LA n (va_up J 0 1) bw2 L o S) hw cW_m
        refine lv_ei (y := nI 1) rfl ?_
        refine lv_iload hx hb d_L_law_257 (lv_at hl 1 rfl) ?_
        refine lv_icmp_eq (tgt := 264) hx hb d_L_law_259 (by decide) (fun c_259 => ?_) (fun c_259 => ?_)
        · skip
          refine lv_iload hx hb d_L_law_264 (lv_at hl 1 rfl) ?_
          refine lv_if_ne (tgt := 288) hx hb d_L_law_266 (by decide) (fun c_266 => ?_) (fun c_266 => ?_)
          · skip
            refine lv_goto (tgt := 1168) hx hb d_L_law_288 (by decide) ?_
            exact W.widen (by omega) (by omega) (hNext ad n I K bw LA (va_up J 0 1) bw2 L o S (LR_thr hL) _ _ ls hw hS (lv_sub hl [2, 3, 4, 5, 6] rfl))
          · skip
            first | exact absurd c_266 (by decide) | exact absurd (by decide) c_266
        · skip
          exact absurd rfl c_259
    · skip
      subst hv
      exact absurd trivial hbs
    · skip
      subst hv
      obtain ⟨had, hwn⟩ := hG
      rw [hwn, had] at hw
      refine lv_istore (lv' := [(5, .int (nI 0)), (0, .ref (b)), (1, .ref (ad (0))), (2, .ref (ad (64))), (3, .ref (ad (69))), (4, .int (nI (1 + 6 * i)))]) hx hb d_L_law_219 hl (by decide) rfl (fun ls hl => ?_)
      refine lv_aload_n hx hb d_L_law_221 rfl (lv_at hl 3 rfl) ?_
      refine lv_aload_n hx hb d_L_law_222 rfl (lv_at hl 1 rfl) ?_
      refine lv_iload hx hb d_L_law_223 (lv_at hl 5 rfl) ?_
      refine lv_iconst (v := nI 1) hx hb d_L_law_225 (by decide) ?_
      refine lv_iadd hx hb d_L_law_226 ?_
      refine lv_ei (y := nI (1 + 6 * i + 1)) (nI_add _ _) ?_
      refine va_sld hx hb hX hbl hbA hS (vp_in_nI (by omega) (by omega)) d_L_law_227 ?_
      refine lv_ei (y := xs (1 + 6 * i + 1)) (by rw [nI_clamp (by omega)]) ?_
      refine lv_aload_n hx hb d_L_law_228 rfl (lv_at hl 1 rfl) ?_
      refine lv_iload hx hb d_L_law_229 (lv_at hl 5 rfl) ?_
      refine lv_iconst (v := nI 2) hx hb d_L_law_231 (by decide) ?_
      refine lv_iadd hx hb d_L_law_232 ?_
      refine lv_ei (y := nI (1 + 6 * i + 2)) (nI_add _ _) ?_
      refine va_sld hx hb hX hbl hbA hS (vp_in_nI (by omega) (by omega)) d_L_law_233 ?_
      refine lv_ei (y := xs (1 + 6 * i + 2)) (by rw [nI_clamp (by omega)]) ?_
      refine lv_aload_n hx hb d_L_law_234 rfl (lv_at hl 1 rfl) ?_
      refine lv_iload hx hb d_L_law_235 (lv_at hl 5 rfl) ?_
      refine lv_iconst (v := nI 3) hx hb d_L_law_237 (by decide) ?_
      refine lv_iadd hx hb d_L_law_238 ?_
      refine lv_ei (y := nI (1 + 6 * i + 3)) (nI_add _ _) ?_
      refine va_sld hx hb hX hbl hbA hS (vp_in_nI (by omega) (by omega)) d_L_law_239 ?_
      refine lv_ei (y := xs (1 + 6 * i + 3)) (by rw [nI_clamp (by omega)]) ?_
      refine lv_if_eq (tgt := 247) hx hb d_L_law_240 (by decide) (fun c_240 => ?_) (fun c_240 => ?_)
      · skip
        exact absurd c_240 c_207
      · skip
        refine lv_iconst (v := nI 1) hx hb d_L_law_243 (by decide) ?_
        refine lv_goto (tgt := 248) hx hb d_L_law_244 (by decide) ?_
        have hw := nw_W.as (wn' := mW ad tC n J bw2 L (obX ad tC n I (va_up K 0 (nI 0)) bw LA (bE tC (vp_updL o 0 (if (upR S 0 0 (flR (S 0 0) (-1) 6)) 1 ((xs (1 + 6 * i + 1)).toNatClampNeg) ((xs (1 + 6 * i + 2)).toNatClampNeg) = 0 then (0 : Int64) else 1)))) (arX tC n aE0) (upR (upR S 0 0 (flR (S 0 0) (-1) 6)) 1 ((xs (1 + 6 * i + 1)).toNatClampNeg) (upd ((upR S 0 0 (flR (S 0 0) (-1) 6)) 1 ((xs (1 + 6 * i + 1)).toNatClampNeg)) ((xs (1 + 6 * i + 2)).toNatClampNeg) (nI 1)))) hw cW_m.symm
        refine nw_call (nw_goV (n := 3) (As := [.int (xs (1 + 6 * i + 1)), .int (xs (1 + 6 * i + 2)), .int (nI 1)]) (rest := []) hSx hA hKs hw hS (c_M_closed l D tC A ad n J bw2 L (obX ad tC n I (va_up K 0 (nI 0)) bw LA (bE tC (vp_updL o 0 (if (upR S 0 0 (flR (S 0 0) (-1) 6)) 1 ((xs (1 + 6 * i + 1)).toNatClampNeg) ((xs (1 + 6 * i + 2)).toNatClampNeg) = 0 then (0 : Int64) else 1)))) (arX tC n aE0) (upR (upR S 0 0 (flR (S 0 0) (-1) 6)) 1 ((xs (1 + 6 * i + 1)).toNatClampNeg) (upd ((upR S 0 0 (flR (S 0 0) (-1) 6)) 1 ((xs (1 + 6 * i + 1)).toNatClampNeg)) ((xs (1 + 6 * i + 2)).toNatClampNeg) (nI 1))) hN (xs (1 + 6 * i + 1)) (xs (1 + 6 * i + 2)) (nI 1) (by decide) hz51) kw_778 kw_775 kw_776 kw_777 kw_8 rfl rfl (by decide +kernel) ⟨Nat.le_of_ble_eq_true rfl, Nat.le_of_ble_eq_true rfl⟩ (nw_recv hK hw (mW_64) rfl) rfl hl.1 (Nat.le_of_ble_eq_true rfl) d_L_law_248 ⟨by show _ ≤ 669896; omega, by show _ ≤ 7086383; omega⟩) hS (fun rv wn' ad9 H locs hpost hw hS => ?_)
        obtain ⟨had9, hmo⟩ := hpost
        rw [had9] at hw
        rcases hmo with ⟨hq1, _⟩ | ⟨hq1, hq4, _⟩ | ⟨hq1, hq4, hGm⟩
        · exact absurd hq1 hnba
        · exact absurd hq4 hnbs
        obtain ⟨hv9, hw9⟩ := hGm
        subst hv9
        rw [hw9] at hw
        have hw := nw_W.as (wn' := cW ad tC n I (va_up K 0 (nI 0)) bw LA n (va_up (va_up J 0 (nI 0)) 3 (nI 0)) bw2 L (vp_updL o 0 (if (upR S 0 0 (flR (S 0 0) (-1) 6)) 1 ((xs (1 + 6 * i + 1)).toNatClampNeg) ((xs (1 + 6 * i + 2)).toNatClampNeg) = 0 then (0 : Int64) else 1)) (upR (upR (upR S 0 0 (flR (S 0 0) (-1) 6)) 1 ((xs (1 + 6 * i + 1)).toNatClampNeg) (upd ((upR S 0 0 (flR (S 0 0) (-1) 6)) 1 ((xs (1 + 6 * i + 1)).toNatClampNeg)) ((xs (1 + 6 * i + 2)).toNatClampNeg) (nI 1))) 5 1 (upd ((upR (upR S 0 0 (flR (S 0 0) (-1) 6)) 1 ((xs (1 + 6 * i + 1)).toNatClampNeg) (upd ((upR S 0 0 (flR (S 0 0) (-1) 6)) 1 ((xs (1 + 6 * i + 1)).toNatClampNeg)) ((xs (1 + 6 * i + 2)).toNatClampNeg) (nI 1))) 5 1) (8 * ((xs (1 + 6 * i + 1)).toNatClampNeg) + ((xs (1 + 6 * i + 2)).toNatClampNeg)) (nI 1)))) hw cW_m
        refine lv_istore (lv' := [(6, .int ((upR (upR S 0 0 (flR (S 0 0) (-1) 6)) 1 ((xs (1 + 6 * i + 1)).toNatClampNeg) (upd ((upR S 0 0 (flR (S 0 0) (-1) 6)) 1 ((xs (1 + 6 * i + 1)).toNatClampNeg)) ((xs (1 + 6 * i + 2)).toNatClampNeg) (nI 1))) 5 1 (8 * ((xs (1 + 6 * i + 1)).toNatClampNeg) + ((xs (1 + 6 * i + 2)).toNatClampNeg)))), (5, .int (nI 0)), (0, .ref (b)), (1, .ref (ad (0))), (2, .ref (ad (64))), (3, .ref (ad (69))), (4, .int (nI (1 + 6 * i)))]) hx hb d_L_law_251 hl (by decide) rfl (fun ls hl => ?_)
        refine lv_aload_n hx hb d_L_law_253 rfl (lv_at hl 4 rfl) ?_
        have hw := nw_W.as (wn' := mW ad tC n (va_up (va_up J 0 (nI 0)) 3 (nI 0)) bw2 L (obX ad tC n I (va_up K 0 (nI 0)) bw LA (bE tC (vp_updL o 0 (if (upR S 0 0 (flR (S 0 0) (-1) 6)) 1 ((xs (1 + 6 * i + 1)).toNatClampNeg) ((xs (1 + 6 * i + 2)).toNatClampNeg) = 0 then (0 : Int64) else 1)))) (arX tC n aE0) (upR (upR (upR S 0 0 (flR (S 0 0) (-1) 6)) 1 ((xs (1 + 6 * i + 1)).toNatClampNeg) (upd ((upR S 0 0 (flR (S 0 0) (-1) 6)) 1 ((xs (1 + 6 * i + 1)).toNatClampNeg)) ((xs (1 + 6 * i + 2)).toNatClampNeg) (nI 1))) 5 1 (upd ((upR (upR S 0 0 (flR (S 0 0) (-1) 6)) 1 ((xs (1 + 6 * i + 1)).toNatClampNeg) (upd ((upR S 0 0 (flR (S 0 0) (-1) 6)) 1 ((xs (1 + 6 * i + 1)).toNatClampNeg)) ((xs (1 + 6 * i + 2)).toNatClampNeg) (nI 1))) 5 1) (8 * ((xs (1 + 6 * i + 1)).toNatClampNeg) + ((xs (1 + 6 * i + 2)).toNatClampNeg)) (nI 1)))) hw cW_m.symm
        refine nw_call (nw_goV (n := 0) (As := []) (rest := []) hSx hA hKs hw hS (c_M_thrown l D tC A ad n (va_up (va_up J 0 (nI 0)) 3 (nI 0)) bw2 L (obX ad tC n I (va_up K 0 (nI 0)) bw LA (bE tC (vp_updL o 0 (if (upR S 0 0 (flR (S 0 0) (-1) 6)) 1 ((xs (1 + 6 * i + 1)).toNatClampNeg) ((xs (1 + 6 * i + 2)).toNatClampNeg) = 0 then (0 : Int64) else 1)))) (arX tC n aE0) (upR (upR (upR S 0 0 (flR (S 0 0) (-1) 6)) 1 ((xs (1 + 6 * i + 1)).toNatClampNeg) (upd ((upR S 0 0 (flR (S 0 0) (-1) 6)) 1 ((xs (1 + 6 * i + 1)).toNatClampNeg)) ((xs (1 + 6 * i + 2)).toNatClampNeg) (nI 1))) 5 1 (upd ((upR (upR S 0 0 (flR (S 0 0) (-1) 6)) 1 ((xs (1 + 6 * i + 1)).toNatClampNeg) (upd ((upR S 0 0 (flR (S 0 0) (-1) 6)) 1 ((xs (1 + 6 * i + 1)).toNatClampNeg)) ((xs (1 + 6 * i + 2)).toNatClampNeg) (nI 1))) 5 1) (8 * ((xs (1 + 6 * i + 1)).toNatClampNeg) + ((xs (1 + 6 * i + 2)).toNatClampNeg)) (nI 1))) hN  ) kw_762 kw_759 kw_760 kw_761 kw_8 rfl rfl (by decide +kernel) ⟨Nat.le_of_ble_eq_true rfl, Nat.le_of_ble_eq_true rfl⟩ (nw_recv hK hw (mW_64) rfl) rfl hl.1 (Nat.le_of_ble_eq_true rfl) d_L_law_254 ⟨by show _ ≤ 669896; omega, by show _ ≤ 7086383; omega⟩) hS (fun rv wn' ad9 H locs hpost hw hS => ?_)
        obtain ⟨hv9, hwn9, had9⟩ := hpost
        subst hv9
        rw [hwn9, had9] at hw
        have hw := nw_W.as (wn' := cW ad tC n I (va_up K 0 (nI 0)) bw LA n (va_up (va_up J 0 (nI 0)) 3 (nI 0)) bw2 L (vp_updL o 0 (if (upR S 0 0 (flR (S 0 0) (-1) 6)) 1 ((xs (1 + 6 * i + 1)).toNatClampNeg) ((xs (1 + 6 * i + 2)).toNatClampNeg) = 0 then (0 : Int64) else 1)) (upR (upR (upR S 0 0 (flR (S 0 0) (-1) 6)) 1 ((xs (1 + 6 * i + 1)).toNatClampNeg) (upd ((upR S 0 0 (flR (S 0 0) (-1) 6)) 1 ((xs (1 + 6 * i + 1)).toNatClampNeg)) ((xs (1 + 6 * i + 2)).toNatClampNeg) (nI 1))) 5 1 (upd ((upR (upR S 0 0 (flR (S 0 0) (-1) 6)) 1 ((xs (1 + 6 * i + 1)).toNatClampNeg) (upd ((upR S 0 0 (flR (S 0 0) (-1) 6)) 1 ((xs (1 + 6 * i + 1)).toNatClampNeg)) ((xs (1 + 6 * i + 2)).toNatClampNeg) (nI 1))) 5 1) (8 * ((xs (1 + 6 * i + 1)).toNatClampNeg) + ((xs (1 + 6 * i + 2)).toNatClampNeg)) (nI 1)))) hw cW_m
        refine lv_ei (y := nI 0) rfl ?_
        refine lv_iload hx hb d_L_law_257 (lv_at hl 1 rfl) ?_
        refine lv_icmp_eq (tgt := 264) hx hb d_L_law_259 (by decide) (fun c_259 => ?_) (fun c_259 => ?_)
        · skip
          refine lv_iload hx hb d_L_law_264 (lv_at hl 1 rfl) ?_
          refine lv_if_ne (tgt := 288) hx hb d_L_law_266 (by decide) (fun c_266 => ?_) (fun c_266 => ?_)
          · skip
            first | exact absurd c_266 (by decide) | exact absurd (by decide) c_266
          · skip
            refine lv_aload_n hx hb d_L_law_269 rfl (lv_at hl 5 rfl) ?_
            refine lv_iconst (v := nI 0) hx hb d_L_law_270 (by decide) ?_
            refine nw_lald hx hb hK hw (69) 1 (cW_69) rfl (0) (rfl) (by omega) (by omega) d_L_law_271 ?_
            refine lv_iload hx hb d_L_law_272 (lv_at hl 0 rfl) ?_
            refine lv_if_eq (tgt := 281) hx hb d_L_law_274 (by decide) (fun c_274 => ?_) (fun c_274 => ?_)
            · skip
              have hbb : (0 : Int64) = (if (upR (upR S 0 0 (flR (S 0 0) (-1) 6)) 1 ((xs (1 + 6 * i + 1)).toNatClampNeg) (upd ((upR S 0 0 (flR (S 0 0) (-1) 6)) 1 ((xs (1 + 6 * i + 1)).toNatClampNeg)) ((xs (1 + 6 * i + 2)).toNatClampNeg) (nI 1))) 5 1 (8 * ((xs (1 + 6 * i + 1)).toNatClampNeg) + ((xs (1 + 6 * i + 2)).toNatClampNeg)) = 0 then (0 : Int64) else 1) := (if_pos c_274).symm
              refine lv_lconst (v := 0) hx hb d_L_law_281 (by decide) ?_
              refine lv_el (y := ((vp_updL o 0 (if (upR S 0 0 (flR (S 0 0) (-1) 6)) 1 ((xs (1 + 6 * i + 1)).toNatClampNeg) ((xs (1 + 6 * i + 2)).toNatClampNeg) = 0 then (0 : Int64) else 1)) (0))) (hbb.trans (congrArg (fun z : Int32 => if z = 0 then (0 : Int64) else 1) (LR_closed (x3 := nI 1) hL (Classical.not_not.mp hnba).1 (Classical.not_not.mp hnba).2 (by decide)).1.symm)) ?_
              refine W.lcmp hx hb d_L_law_282 ?_
              refine lv_ei (y := nI 0) ((lg_cmp_eq _ _).mpr rfl) ?_
              refine lv_if_eq (tgt := 288) hx hb d_L_law_283 (by decide) (fun c_283 => ?_) (fun c_283 => ?_)
              · skip
                refine lv_goto (tgt := 1168) hx hb d_L_law_288 (by decide) ?_
                exact W.widen (by omega) (by omega) (hNext ad n I (va_up K 0 (nI 0)) bw LA (va_up (va_up J 0 (nI 0)) 3 (nI 0)) bw2 L (vp_updL o 0 (if (upR S 0 0 (flR (S 0 0) (-1) 6)) 1 ((xs (1 + 6 * i + 1)).toNatClampNeg) ((xs (1 + 6 * i + 2)).toNatClampNeg) = 0 then (0 : Int64) else 1)) (upR (upR (upR S 0 0 (flR (S 0 0) (-1) 6)) 1 ((xs (1 + 6 * i + 1)).toNatClampNeg) (upd ((upR S 0 0 (flR (S 0 0) (-1) 6)) 1 ((xs (1 + 6 * i + 1)).toNatClampNeg)) ((xs (1 + 6 * i + 2)).toNatClampNeg) (nI 1))) 5 1 (upd ((upR (upR S 0 0 (flR (S 0 0) (-1) 6)) 1 ((xs (1 + 6 * i + 1)).toNatClampNeg) (upd ((upR S 0 0 (flR (S 0 0) (-1) 6)) 1 ((xs (1 + 6 * i + 1)).toNatClampNeg)) ((xs (1 + 6 * i + 2)).toNatClampNeg) (nI 1))) 5 1) (8 * ((xs (1 + 6 * i + 1)).toNatClampNeg) + ((xs (1 + 6 * i + 2)).toNatClampNeg)) (nI 1))) ((LR_closed (x3 := nI 1) hL (Classical.not_not.mp hnba).1 (Classical.not_not.mp hnba).2 (by decide)).2) _ _ ls hw hS (lv_sub hl [2, 3, 4, 5, 6] rfl))
              · skip
                first | exact absurd c_283 (by decide) | exact absurd (by decide) c_283
            · skip
              have hbb : (1 : Int64) = (if (upR (upR S 0 0 (flR (S 0 0) (-1) 6)) 1 ((xs (1 + 6 * i + 1)).toNatClampNeg) (upd ((upR S 0 0 (flR (S 0 0) (-1) 6)) 1 ((xs (1 + 6 * i + 1)).toNatClampNeg)) ((xs (1 + 6 * i + 2)).toNatClampNeg) (nI 1))) 5 1 (8 * ((xs (1 + 6 * i + 1)).toNatClampNeg) + ((xs (1 + 6 * i + 2)).toNatClampNeg)) = 0 then (0 : Int64) else 1) := (if_neg c_274).symm
              refine lv_lconst (v := 1) hx hb d_L_law_277 (by decide) ?_
              refine lv_goto (tgt := 282) hx hb d_L_law_278 (by decide) ?_
              refine lv_el (y := ((vp_updL o 0 (if (upR S 0 0 (flR (S 0 0) (-1) 6)) 1 ((xs (1 + 6 * i + 1)).toNatClampNeg) ((xs (1 + 6 * i + 2)).toNatClampNeg) = 0 then (0 : Int64) else 1)) (0))) (hbb.trans (congrArg (fun z : Int32 => if z = 0 then (0 : Int64) else 1) (LR_closed (x3 := nI 1) hL (Classical.not_not.mp hnba).1 (Classical.not_not.mp hnba).2 (by decide)).1.symm)) ?_
              refine W.lcmp hx hb d_L_law_282 ?_
              refine lv_ei (y := nI 0) ((lg_cmp_eq _ _).mpr rfl) ?_
              refine lv_if_eq (tgt := 288) hx hb d_L_law_283 (by decide) (fun c_283 => ?_) (fun c_283 => ?_)
              · skip
                refine lv_goto (tgt := 1168) hx hb d_L_law_288 (by decide) ?_
                exact W.widen (by omega) (by omega) (hNext ad n I (va_up K 0 (nI 0)) bw LA (va_up (va_up J 0 (nI 0)) 3 (nI 0)) bw2 L (vp_updL o 0 (if (upR S 0 0 (flR (S 0 0) (-1) 6)) 1 ((xs (1 + 6 * i + 1)).toNatClampNeg) ((xs (1 + 6 * i + 2)).toNatClampNeg) = 0 then (0 : Int64) else 1)) (upR (upR (upR S 0 0 (flR (S 0 0) (-1) 6)) 1 ((xs (1 + 6 * i + 1)).toNatClampNeg) (upd ((upR S 0 0 (flR (S 0 0) (-1) 6)) 1 ((xs (1 + 6 * i + 1)).toNatClampNeg)) ((xs (1 + 6 * i + 2)).toNatClampNeg) (nI 1))) 5 1 (upd ((upR (upR S 0 0 (flR (S 0 0) (-1) 6)) 1 ((xs (1 + 6 * i + 1)).toNatClampNeg) (upd ((upR S 0 0 (flR (S 0 0) (-1) 6)) 1 ((xs (1 + 6 * i + 1)).toNatClampNeg)) ((xs (1 + 6 * i + 2)).toNatClampNeg) (nI 1))) 5 1) (8 * ((xs (1 + 6 * i + 1)).toNatClampNeg) + ((xs (1 + 6 * i + 2)).toNatClampNeg)) (nI 1))) ((LR_closed (x3 := nI 1) hL (Classical.not_not.mp hnba).1 (Classical.not_not.mp hnba).2 (by decide)).2) _ _ ls hw hS (lv_sub hl [2, 3, 4, 5, 6] rfl))
              · skip
                first | exact absurd c_283 (by decide) | exact absurd (by decide) c_283
        · skip
          exact absurd rfl c_259

set_option maxHeartbeats 4000000 in
set_option maxRecDepth 100000 in
/-- case 5: weather -/
theorem law_5 {p : Program} {l : Launch} {e : Env} {s : State} {m : MethodId} {args : Array Value} {below : List Frame} {meth : Method} {cd : Code} {Q : State → Prop} {D : va_G} {tC : Nat → ClassId} {A : Nat → Prop} {b N : Nat} {xs : Nat → Int32} (hSx : CallFix p m cd b_L_law 8 s args nw_T "HarvestPlansLaw") (hA : ∀ q, s.heap.size ≤ q → A q) (hAs : ∀ q, A q → s.heap.size ≤ q) (hKs : nw_K D hpC (hpT tC) s) (hF : nx_F s) (hfl : l.stackTraces = false) (hX : va_X b N xs s s.heap) (hbl : b < s.heap.size) (hbA : ¬ A b) (hN3 : N ≤ 3073) {cc cs i : Nat} (hcc : cc + 12 ≤ 669896) (hcs : cs + 120 ≤ 7086383) (hi : 1 + 6 * i + 6 ≤ N) (hNext : ∀ (ad : Nat → Nat) (n : Nat → Nat) (I : Nat → Nat → Int32) (K : Nat → Int32) (bw : Int64) (LA : Nat → Int64) (J : Nat → Int32) (bw2 : Int64) (L : Nat → Nat → Int64) (o : Nat → Int64) (S : Nat → Nat → Nat → Int32), LR n I K J S → ∀ (H : Heap) (locs : List Loc) (ls : Array Slot), nw_W D hpC A (cW ad tC n I K bw LA n J bw2 L o S) ad H → va_S A s.heap H locs → lv_has ls 8 [(0, .ref (b)), (1, .ref (ad (0))), (2, .ref (ad (64))), (3, .ref (ad (69))), (4, .int (nI (1 + 6 * i)))] → W p l e room_1 s m args below meth cd H locs (cc + 12) (cs + 120) Q (F0 m 1168 ls [])) (ad : Nat → Nat) (n : Nat → Nat) (I : Nat → Nat → Int32) (K : Nat → Int32) (bw : Int64) (LA : Nat → Int64) (J : Nat → Int32) (bw2 : Int64) (L : Nat → Nat → Int64) (o : Nat → Int64) (S : Nat → Nat → Nat → Int32) (hL : LR n I K J S) (H : Heap) (locs : List Loc) (ls : Array Slot) (hw : nw_W D hpC A (cW ad tC n I K bw LA n J bw2 L o S) ad H) (hS : va_S A s.heap H locs) (hl : lv_has ls 8 [(0, .ref (b)), (1, .ref (ad (0))), (2, .ref (ad (64))), (3, .ref (ad (69))), (4, .int (nI (1 + 6 * i)))]) : W p l e room_1 s m args below meth cd H locs cc cs Q (F0 m 495 ls []) := by
  obtain ⟨hx, hb, hml, hown, hts⟩ := id hSx
  have hK := hKs.1
  have hB : nx_B s s := ⟨State.WarmedH.refl s, Nat.le_refl _, fun _ _ => rfl⟩
  obtain ⟨hm, ow, sq, hLx⟩ := id hL
  have hN : hpN n := hLx.1.1
  obtain ⟨hn0, hn0', hn1, hn2, hn3, hn4⟩ := id hN
  have hJK : J 3 = K 0 := hLx.2.2.1.1
  have hH : ∀ c, c < n 2 → I 2 c = nI (hm c) ∧ hm c < n 1 := fun c hc => ⟨hLx.2.1.1 c hc, (hLx.1.2.2.2.1 c hc).2.1⟩
  have hHm : ∀ c, c < n 2 → S 5 2 c = nI (hm c) ∧ hm c < n 1 := fun c hc => ⟨(hLx.1.2.2.2.1 c hc).1, (hLx.1.2.2.2.1 c hc).2.1⟩
  have hO : ∀ o, o < n 4 → I 4 o = nI (ow o) ∧ ow o < n 0 := fun o ho => ⟨(hLx.1.2.2.2.2.2.2.1 o ho).2.1, (hLx.1.2.2.2.2.2.2.1 o ho).2.2.1⟩
  have hSq : ∀ k, k < n 4 → S 0 1 k = nI (sq k) ∧ sq k < n 4 := fun k hk => ⟨hLx.2.1.2.1 k hk, hLx.1.2.2.2.2.2.2.2.1 k hk⟩
  have hSo : ∀ q, q < n 4 → ∃ j, j < n 4 ∧ sq j = q := hLx.1.2.2.2.2.2.2.2.2.1
  have hPl := ok_pl hLx
  obtain ⟨hz1, hz4, hz51, hz56⟩ := hLx.2.1.2.2.2
  refine lv_aload_n hx hb d_L_law_495 rfl (lv_at hl 1 rfl) ?_
  refine lv_aload_n hx hb d_L_law_496 rfl (lv_at hl 0 rfl) ?_
  refine lv_iload hx hb d_L_law_497 (lv_at hl 4 rfl) ?_
  refine lv_iconst (v := nI 1) hx hb d_L_law_499 (by decide) ?_
  refine lv_iadd hx hb d_L_law_500 ?_
  refine lv_ei (y := nI (1 + 6 * i + 1)) (nI_add _ _) ?_
  refine va_sld hx hb hX hbl hbA hS (vp_in_nI (by omega) (by omega)) d_L_law_501 ?_
  refine lv_ei (y := xs (1 + 6 * i + 1)) (by rw [nI_clamp (by omega)]) ?_
  refine lv_aload_n hx hb d_L_law_502 rfl (lv_at hl 0 rfl) ?_
  refine lv_iload hx hb d_L_law_503 (lv_at hl 4 rfl) ?_
  refine lv_iconst (v := nI 2) hx hb d_L_law_505 (by decide) ?_
  refine lv_iadd hx hb d_L_law_506 ?_
  refine lv_ei (y := nI (1 + 6 * i + 2)) (nI_add _ _) ?_
  refine va_sld hx hb hX hbl hbA hS (vp_in_nI (by omega) (by omega)) d_L_law_507 ?_
  refine lv_ei (y := xs (1 + 6 * i + 2)) (by rw [nI_clamp (by omega)]) ?_
  refine lv_aload_n hx hb d_L_law_508 rfl (lv_at hl 0 rfl) ?_
  refine lv_iload hx hb d_L_law_509 (lv_at hl 4 rfl) ?_
  refine lv_iconst (v := nI 3) hx hb d_L_law_511 (by decide) ?_
  refine lv_iadd hx hb d_L_law_512 ?_
  refine lv_ei (y := nI (1 + 6 * i + 3)) (nI_add _ _) ?_
  refine va_sld hx hb hX hbl hbA hS (vp_in_nI (by omega) (by omega)) d_L_law_513 ?_
  refine lv_ei (y := xs (1 + 6 * i + 3)) (by rw [nI_clamp (by omega)]) ?_
  refine lv_if_eq (tgt := 521) hx hb d_L_law_514 (by decide) (fun c_514 => ?_) (fun c_514 => ?_)
  · skip
    refine lv_iconst (v := nI 0) hx hb d_L_law_521 (by decide) ?_
    refine lv_aload_n hx hb d_L_law_522 rfl (lv_at hl 3 rfl) ?_
    refine nx_callC (nx_goW (n := 5) (As := [.ref (ad (0)), .int (xs (1 + 6 * i + 1)), .int (xs (1 + 6 * i + 2)), .int (nI 0), .ref (ad (69))]) (rest := []) hSx hA hKs hF hB hAs hw hS (w_weather l D tC A ad n I K bw LA n J bw2 L o S hN s hF hfl hAs (xs (1 + 6 * i + 1)) (xs (1 + 6 * i + 2)) (nI 0) (by decide) hz4) kt_468 kw_466 kw_467 kw_0 rfl rfl (by decide +kernel) ⟨Nat.le_of_ble_eq_true rfl, Nat.le_of_ble_eq_true rfl⟩ rfl hl.1 (Nat.le_of_ble_eq_true rfl) d_L_law_523 ⟨by show _ ≤ 669896; omega, by show _ ≤ 7086383; omega⟩) hS (fun X wn' ad' H locs x cell hpost hw hS hcell hst hcls T' hT X0 => (lw_po_x hpost).elim) (fun rv wn' ad' H locs hpost hw hS => ?_)
    rcases lw_po_i hpost with ⟨hv, hba, hwn, had⟩ | ⟨hv, hnba, hbs, hwn, had⟩ | ⟨hv, hnba, hnbs, hG⟩
    · skip
      subst hv
      rw [hwn, had] at hw
      refine lv_istore (lv' := [(5, .int (nI 1)), (0, .ref (b)), (1, .ref (ad (0))), (2, .ref (ad (64))), (3, .ref (ad (69))), (4, .int (nI (1 + 6 * i)))]) hx hb d_L_law_526 hl (by decide) rfl (fun ls hl => ?_)
      refine lv_aload_n hx hb d_L_law_528 rfl (lv_at hl 3 rfl) ?_
      refine lv_aload_n hx hb d_L_law_529 rfl (lv_at hl 1 rfl) ?_
      refine lv_iload hx hb d_L_law_530 (lv_at hl 5 rfl) ?_
      refine lv_iconst (v := nI 1) hx hb d_L_law_532 (by decide) ?_
      refine lv_iadd hx hb d_L_law_533 ?_
      refine lv_ei (y := nI (1 + 6 * i + 1)) (nI_add _ _) ?_
      refine va_sld hx hb hX hbl hbA hS (vp_in_nI (by omega) (by omega)) d_L_law_534 ?_
      refine lv_ei (y := xs (1 + 6 * i + 1)) (by rw [nI_clamp (by omega)]) ?_
      refine lv_aload_n hx hb d_L_law_535 rfl (lv_at hl 1 rfl) ?_
      refine lv_iload hx hb d_L_law_536 (lv_at hl 5 rfl) ?_
      refine lv_iconst (v := nI 2) hx hb d_L_law_538 (by decide) ?_
      refine lv_iadd hx hb d_L_law_539 ?_
      refine lv_ei (y := nI (1 + 6 * i + 2)) (nI_add _ _) ?_
      refine va_sld hx hb hX hbl hbA hS (vp_in_nI (by omega) (by omega)) d_L_law_540 ?_
      refine lv_ei (y := xs (1 + 6 * i + 2)) (by rw [nI_clamp (by omega)]) ?_
      refine lv_aload_n hx hb d_L_law_541 rfl (lv_at hl 1 rfl) ?_
      refine lv_iload hx hb d_L_law_542 (lv_at hl 5 rfl) ?_
      refine lv_iconst (v := nI 3) hx hb d_L_law_544 (by decide) ?_
      refine lv_iadd hx hb d_L_law_545 ?_
      refine lv_ei (y := nI (1 + 6 * i + 3)) (nI_add _ _) ?_
      refine va_sld hx hb hX hbl hbA hS (vp_in_nI (by omega) (by omega)) d_L_law_546 ?_
      refine lv_ei (y := xs (1 + 6 * i + 3)) (by rw [nI_clamp (by omega)]) ?_
      refine lv_if_eq (tgt := 554) hx hb d_L_law_547 (by decide) (fun c_547 => ?_) (fun c_547 => ?_)
      · skip
        refine lv_iconst (v := nI 0) hx hb d_L_law_554 (by decide) ?_
        have hw := nw_W.as (wn' := mW ad tC n J bw2 L (obX ad tC n I K bw LA (bE tC o)) (arX tC n aE0) S) hw cW_m.symm
        refine nw_call (nw_goV (n := 3) (As := [.int (xs (1 + 6 * i + 1)), .int (xs (1 + 6 * i + 2)), .int (nI 0)]) (rest := []) hSx hA hKs hw hS (c_M_weather l D tC A ad n J bw2 L (obX ad tC n I K bw LA (bE tC o)) (arX tC n aE0) S hN (xs (1 + 6 * i + 1)) (xs (1 + 6 * i + 2)) (nI 0) (by decide) hz56) kw_801 kw_798 kw_799 kw_800 kw_8 rfl rfl (by decide +kernel) ⟨Nat.le_of_ble_eq_true rfl, Nat.le_of_ble_eq_true rfl⟩ (nw_recv hK hw (mW_64) rfl) rfl hl.1 (Nat.le_of_ble_eq_true rfl) d_L_law_555 ⟨by show _ ≤ 669896; omega, by show _ ≤ 7086383; omega⟩) hS (fun rv wn' ad9 H locs hpost hw hS => ?_)
        obtain ⟨had9, hmo⟩ := hpost
        rw [had9] at hw
        rcases hmo with ⟨hq1, hq2, hq3⟩ | ⟨hq1, _⟩ | ⟨hq1, _⟩
        rotate_left
        · exact absurd hba hq1
        · exact absurd hba hq1
        subst hq2
        rw [hq3] at hw
        have hw := nw_W.as (wn' := cW ad tC n I K bw LA n (va_up J 0 1) bw2 L o S) hw cW_m
        refine lv_istore (lv' := [(6, .int (nI 0)), (5, .int (nI 1)), (0, .ref (b)), (1, .ref (ad (0))), (2, .ref (ad (64))), (3, .ref (ad (69))), (4, .int (nI (1 + 6 * i)))]) hx hb d_L_law_558 hl (by decide) rfl (fun ls hl => ?_)
        refine lv_aload_n hx hb d_L_law_560 rfl (lv_at hl 4 rfl) ?_
        have hw := nw_W.as (wn' := mW ad tC n (va_up J 0 1) bw2 L (obX ad tC n I K bw LA (bE tC o)) (arX tC n aE0) S) hw cW_m.symm
        refine nw_call (nw_goV (n := 0) (As := []) (rest := []) hSx hA hKs hw hS (c_M_thrown l D tC A ad n (va_up J 0 1) bw2 L (obX ad tC n I K bw LA (bE tC o)) (arX tC n aE0) S hN  ) kw_762 kw_759 kw_760 kw_761 kw_8 rfl rfl (by decide +kernel) ⟨Nat.le_of_ble_eq_true rfl, Nat.le_of_ble_eq_true rfl⟩ (nw_recv hK hw (mW_64) rfl) rfl hl.1 (Nat.le_of_ble_eq_true rfl) d_L_law_561 ⟨by show _ ≤ 669896; omega, by show _ ≤ 7086383; omega⟩) hS (fun rv wn' ad9 H locs hpost hw hS => ?_)
        obtain ⟨hv9, hwn9, had9⟩ := hpost
        subst hv9
        rw [hwn9, had9] at hw
        have hw := nw_W.as (wn' := cW ad tC n I K bw LA n (va_up J 0 1) bw2 L o S) hw cW_m
        refine lv_ei (y := nI 1) rfl ?_
        refine lv_iload hx hb d_L_law_564 (lv_at hl 1 rfl) ?_
        refine lv_icmp_eq (tgt := 571) hx hb d_L_law_566 (by decide) (fun c_566 => ?_) (fun c_566 => ?_)
        · skip
          refine lv_iload hx hb d_L_law_571 (lv_at hl 1 rfl) ?_
          refine lv_if_ne (tgt := 595) hx hb d_L_law_573 (by decide) (fun c_573 => ?_) (fun c_573 => ?_)
          · skip
            refine lv_goto (tgt := 1168) hx hb d_L_law_595 (by decide) ?_
            exact W.widen (by omega) (by omega) (hNext ad n I K bw LA (va_up J 0 1) bw2 L o S (LR_thr hL) _ _ ls hw hS (lv_sub hl [2, 3, 4, 5, 6] rfl))
          · skip
            first | exact absurd c_573 (by decide) | exact absurd (by decide) c_573
        · skip
          exact absurd rfl c_566
      · skip
        exact absurd c_514 c_547
    · skip
      subst hv
      exact absurd trivial hbs
    · skip
      subst hv
      obtain ⟨had, hwn⟩ := hG
      rw [hwn, had] at hw
      refine lv_istore (lv' := [(5, .int (nI 0)), (0, .ref (b)), (1, .ref (ad (0))), (2, .ref (ad (64))), (3, .ref (ad (69))), (4, .int (nI (1 + 6 * i)))]) hx hb d_L_law_526 hl (by decide) rfl (fun ls hl => ?_)
      refine lv_aload_n hx hb d_L_law_528 rfl (lv_at hl 3 rfl) ?_
      refine lv_aload_n hx hb d_L_law_529 rfl (lv_at hl 1 rfl) ?_
      refine lv_iload hx hb d_L_law_530 (lv_at hl 5 rfl) ?_
      refine lv_iconst (v := nI 1) hx hb d_L_law_532 (by decide) ?_
      refine lv_iadd hx hb d_L_law_533 ?_
      refine lv_ei (y := nI (1 + 6 * i + 1)) (nI_add _ _) ?_
      refine va_sld hx hb hX hbl hbA hS (vp_in_nI (by omega) (by omega)) d_L_law_534 ?_
      refine lv_ei (y := xs (1 + 6 * i + 1)) (by rw [nI_clamp (by omega)]) ?_
      refine lv_aload_n hx hb d_L_law_535 rfl (lv_at hl 1 rfl) ?_
      refine lv_iload hx hb d_L_law_536 (lv_at hl 5 rfl) ?_
      refine lv_iconst (v := nI 2) hx hb d_L_law_538 (by decide) ?_
      refine lv_iadd hx hb d_L_law_539 ?_
      refine lv_ei (y := nI (1 + 6 * i + 2)) (nI_add _ _) ?_
      refine va_sld hx hb hX hbl hbA hS (vp_in_nI (by omega) (by omega)) d_L_law_540 ?_
      refine lv_ei (y := xs (1 + 6 * i + 2)) (by rw [nI_clamp (by omega)]) ?_
      refine lv_aload_n hx hb d_L_law_541 rfl (lv_at hl 1 rfl) ?_
      refine lv_iload hx hb d_L_law_542 (lv_at hl 5 rfl) ?_
      refine lv_iconst (v := nI 3) hx hb d_L_law_544 (by decide) ?_
      refine lv_iadd hx hb d_L_law_545 ?_
      refine lv_ei (y := nI (1 + 6 * i + 3)) (nI_add _ _) ?_
      refine va_sld hx hb hX hbl hbA hS (vp_in_nI (by omega) (by omega)) d_L_law_546 ?_
      refine lv_ei (y := xs (1 + 6 * i + 3)) (by rw [nI_clamp (by omega)]) ?_
      refine lv_if_eq (tgt := 554) hx hb d_L_law_547 (by decide) (fun c_547 => ?_) (fun c_547 => ?_)
      · skip
        refine lv_iconst (v := nI 0) hx hb d_L_law_554 (by decide) ?_
        have hw := nw_W.as (wn' := mW ad tC n J bw2 L (obX ad tC n I (va_up K 0 (nI 0)) bw LA (bE tC (vp_updL o 0 (if (upR S 0 0 (flR (S 0 0) (-1) 6)) 4 ((xs (1 + 6 * i + 1)).toNatClampNeg) ((xs (1 + 6 * i + 2)).toNatClampNeg) = 0 then (0 : Int64) else 1)))) (arX tC n aE0) (upR (upR S 0 0 (flR (S 0 0) (-1) 6)) 4 ((xs (1 + 6 * i + 1)).toNatClampNeg) (upd ((upR S 0 0 (flR (S 0 0) (-1) 6)) 4 ((xs (1 + 6 * i + 1)).toNatClampNeg)) ((xs (1 + 6 * i + 2)).toNatClampNeg) (nI 0)))) hw cW_m.symm
        refine nw_call (nw_goV (n := 3) (As := [.int (xs (1 + 6 * i + 1)), .int (xs (1 + 6 * i + 2)), .int (nI 0)]) (rest := []) hSx hA hKs hw hS (c_M_weather l D tC A ad n J bw2 L (obX ad tC n I (va_up K 0 (nI 0)) bw LA (bE tC (vp_updL o 0 (if (upR S 0 0 (flR (S 0 0) (-1) 6)) 4 ((xs (1 + 6 * i + 1)).toNatClampNeg) ((xs (1 + 6 * i + 2)).toNatClampNeg) = 0 then (0 : Int64) else 1)))) (arX tC n aE0) (upR (upR S 0 0 (flR (S 0 0) (-1) 6)) 4 ((xs (1 + 6 * i + 1)).toNatClampNeg) (upd ((upR S 0 0 (flR (S 0 0) (-1) 6)) 4 ((xs (1 + 6 * i + 1)).toNatClampNeg)) ((xs (1 + 6 * i + 2)).toNatClampNeg) (nI 0))) hN (xs (1 + 6 * i + 1)) (xs (1 + 6 * i + 2)) (nI 0) (by decide) hz56) kw_801 kw_798 kw_799 kw_800 kw_8 rfl rfl (by decide +kernel) ⟨Nat.le_of_ble_eq_true rfl, Nat.le_of_ble_eq_true rfl⟩ (nw_recv hK hw (mW_64) rfl) rfl hl.1 (Nat.le_of_ble_eq_true rfl) d_L_law_555 ⟨by show _ ≤ 669896; omega, by show _ ≤ 7086383; omega⟩) hS (fun rv wn' ad9 H locs hpost hw hS => ?_)
        obtain ⟨had9, hmo⟩ := hpost
        rw [had9] at hw
        rcases hmo with ⟨hq1, _⟩ | ⟨hq1, hq4, _⟩ | ⟨hq1, hq4, hGm⟩
        · exact absurd hq1 hnba
        · exact absurd hq4 hnbs
        obtain ⟨hv9, hw9⟩ := hGm
        subst hv9
        rw [hw9] at hw
        have hw := nw_W.as (wn' := cW ad tC n I (va_up K 0 (nI 0)) bw LA n (va_up (va_up J 0 (nI 0)) 3 (nI 0)) bw2 L (vp_updL o 0 (if (upR S 0 0 (flR (S 0 0) (-1) 6)) 4 ((xs (1 + 6 * i + 1)).toNatClampNeg) ((xs (1 + 6 * i + 2)).toNatClampNeg) = 0 then (0 : Int64) else 1)) (upR (upR (upR S 0 0 (flR (S 0 0) (-1) 6)) 4 ((xs (1 + 6 * i + 1)).toNatClampNeg) (upd ((upR S 0 0 (flR (S 0 0) (-1) 6)) 4 ((xs (1 + 6 * i + 1)).toNatClampNeg)) ((xs (1 + 6 * i + 2)).toNatClampNeg) (nI 0))) 5 6 (upd ((upR (upR S 0 0 (flR (S 0 0) (-1) 6)) 4 ((xs (1 + 6 * i + 1)).toNatClampNeg) (upd ((upR S 0 0 (flR (S 0 0) (-1) 6)) 4 ((xs (1 + 6 * i + 1)).toNatClampNeg)) ((xs (1 + 6 * i + 2)).toNatClampNeg) (nI 0))) 5 6) (8 * ((xs (1 + 6 * i + 1)).toNatClampNeg) + ((xs (1 + 6 * i + 2)).toNatClampNeg)) (nI 0)))) hw cW_m
        refine lv_istore (lv' := [(6, .int ((upR (upR S 0 0 (flR (S 0 0) (-1) 6)) 4 ((xs (1 + 6 * i + 1)).toNatClampNeg) (upd ((upR S 0 0 (flR (S 0 0) (-1) 6)) 4 ((xs (1 + 6 * i + 1)).toNatClampNeg)) ((xs (1 + 6 * i + 2)).toNatClampNeg) (nI 0))) 5 6 (8 * ((xs (1 + 6 * i + 1)).toNatClampNeg) + ((xs (1 + 6 * i + 2)).toNatClampNeg)))), (5, .int (nI 0)), (0, .ref (b)), (1, .ref (ad (0))), (2, .ref (ad (64))), (3, .ref (ad (69))), (4, .int (nI (1 + 6 * i)))]) hx hb d_L_law_558 hl (by decide) rfl (fun ls hl => ?_)
        refine lv_aload_n hx hb d_L_law_560 rfl (lv_at hl 4 rfl) ?_
        have hw := nw_W.as (wn' := mW ad tC n (va_up (va_up J 0 (nI 0)) 3 (nI 0)) bw2 L (obX ad tC n I (va_up K 0 (nI 0)) bw LA (bE tC (vp_updL o 0 (if (upR S 0 0 (flR (S 0 0) (-1) 6)) 4 ((xs (1 + 6 * i + 1)).toNatClampNeg) ((xs (1 + 6 * i + 2)).toNatClampNeg) = 0 then (0 : Int64) else 1)))) (arX tC n aE0) (upR (upR (upR S 0 0 (flR (S 0 0) (-1) 6)) 4 ((xs (1 + 6 * i + 1)).toNatClampNeg) (upd ((upR S 0 0 (flR (S 0 0) (-1) 6)) 4 ((xs (1 + 6 * i + 1)).toNatClampNeg)) ((xs (1 + 6 * i + 2)).toNatClampNeg) (nI 0))) 5 6 (upd ((upR (upR S 0 0 (flR (S 0 0) (-1) 6)) 4 ((xs (1 + 6 * i + 1)).toNatClampNeg) (upd ((upR S 0 0 (flR (S 0 0) (-1) 6)) 4 ((xs (1 + 6 * i + 1)).toNatClampNeg)) ((xs (1 + 6 * i + 2)).toNatClampNeg) (nI 0))) 5 6) (8 * ((xs (1 + 6 * i + 1)).toNatClampNeg) + ((xs (1 + 6 * i + 2)).toNatClampNeg)) (nI 0)))) hw cW_m.symm
        refine nw_call (nw_goV (n := 0) (As := []) (rest := []) hSx hA hKs hw hS (c_M_thrown l D tC A ad n (va_up (va_up J 0 (nI 0)) 3 (nI 0)) bw2 L (obX ad tC n I (va_up K 0 (nI 0)) bw LA (bE tC (vp_updL o 0 (if (upR S 0 0 (flR (S 0 0) (-1) 6)) 4 ((xs (1 + 6 * i + 1)).toNatClampNeg) ((xs (1 + 6 * i + 2)).toNatClampNeg) = 0 then (0 : Int64) else 1)))) (arX tC n aE0) (upR (upR (upR S 0 0 (flR (S 0 0) (-1) 6)) 4 ((xs (1 + 6 * i + 1)).toNatClampNeg) (upd ((upR S 0 0 (flR (S 0 0) (-1) 6)) 4 ((xs (1 + 6 * i + 1)).toNatClampNeg)) ((xs (1 + 6 * i + 2)).toNatClampNeg) (nI 0))) 5 6 (upd ((upR (upR S 0 0 (flR (S 0 0) (-1) 6)) 4 ((xs (1 + 6 * i + 1)).toNatClampNeg) (upd ((upR S 0 0 (flR (S 0 0) (-1) 6)) 4 ((xs (1 + 6 * i + 1)).toNatClampNeg)) ((xs (1 + 6 * i + 2)).toNatClampNeg) (nI 0))) 5 6) (8 * ((xs (1 + 6 * i + 1)).toNatClampNeg) + ((xs (1 + 6 * i + 2)).toNatClampNeg)) (nI 0))) hN  ) kw_762 kw_759 kw_760 kw_761 kw_8 rfl rfl (by decide +kernel) ⟨Nat.le_of_ble_eq_true rfl, Nat.le_of_ble_eq_true rfl⟩ (nw_recv hK hw (mW_64) rfl) rfl hl.1 (Nat.le_of_ble_eq_true rfl) d_L_law_561 ⟨by show _ ≤ 669896; omega, by show _ ≤ 7086383; omega⟩) hS (fun rv wn' ad9 H locs hpost hw hS => ?_)
        obtain ⟨hv9, hwn9, had9⟩ := hpost
        subst hv9
        rw [hwn9, had9] at hw
        have hw := nw_W.as (wn' := cW ad tC n I (va_up K 0 (nI 0)) bw LA n (va_up (va_up J 0 (nI 0)) 3 (nI 0)) bw2 L (vp_updL o 0 (if (upR S 0 0 (flR (S 0 0) (-1) 6)) 4 ((xs (1 + 6 * i + 1)).toNatClampNeg) ((xs (1 + 6 * i + 2)).toNatClampNeg) = 0 then (0 : Int64) else 1)) (upR (upR (upR S 0 0 (flR (S 0 0) (-1) 6)) 4 ((xs (1 + 6 * i + 1)).toNatClampNeg) (upd ((upR S 0 0 (flR (S 0 0) (-1) 6)) 4 ((xs (1 + 6 * i + 1)).toNatClampNeg)) ((xs (1 + 6 * i + 2)).toNatClampNeg) (nI 0))) 5 6 (upd ((upR (upR S 0 0 (flR (S 0 0) (-1) 6)) 4 ((xs (1 + 6 * i + 1)).toNatClampNeg) (upd ((upR S 0 0 (flR (S 0 0) (-1) 6)) 4 ((xs (1 + 6 * i + 1)).toNatClampNeg)) ((xs (1 + 6 * i + 2)).toNatClampNeg) (nI 0))) 5 6) (8 * ((xs (1 + 6 * i + 1)).toNatClampNeg) + ((xs (1 + 6 * i + 2)).toNatClampNeg)) (nI 0)))) hw cW_m
        refine lv_ei (y := nI 0) rfl ?_
        refine lv_iload hx hb d_L_law_564 (lv_at hl 1 rfl) ?_
        refine lv_icmp_eq (tgt := 571) hx hb d_L_law_566 (by decide) (fun c_566 => ?_) (fun c_566 => ?_)
        · skip
          refine lv_iload hx hb d_L_law_571 (lv_at hl 1 rfl) ?_
          refine lv_if_ne (tgt := 595) hx hb d_L_law_573 (by decide) (fun c_573 => ?_) (fun c_573 => ?_)
          · skip
            first | exact absurd c_573 (by decide) | exact absurd (by decide) c_573
          · skip
            refine lv_aload_n hx hb d_L_law_576 rfl (lv_at hl 5 rfl) ?_
            refine lv_iconst (v := nI 0) hx hb d_L_law_577 (by decide) ?_
            refine nw_lald hx hb hK hw (69) 1 (cW_69) rfl (0) (rfl) (by omega) (by omega) d_L_law_578 ?_
            refine lv_iload hx hb d_L_law_579 (lv_at hl 0 rfl) ?_
            refine lv_if_eq (tgt := 588) hx hb d_L_law_581 (by decide) (fun c_581 => ?_) (fun c_581 => ?_)
            · skip
              have hbb : (0 : Int64) = (if (upR (upR S 0 0 (flR (S 0 0) (-1) 6)) 4 ((xs (1 + 6 * i + 1)).toNatClampNeg) (upd ((upR S 0 0 (flR (S 0 0) (-1) 6)) 4 ((xs (1 + 6 * i + 1)).toNatClampNeg)) ((xs (1 + 6 * i + 2)).toNatClampNeg) (nI 0))) 5 6 (8 * ((xs (1 + 6 * i + 1)).toNatClampNeg) + ((xs (1 + 6 * i + 2)).toNatClampNeg)) = 0 then (0 : Int64) else 1) := (if_pos c_581).symm
              refine lv_lconst (v := 0) hx hb d_L_law_588 (by decide) ?_
              refine lv_el (y := ((vp_updL o 0 (if (upR S 0 0 (flR (S 0 0) (-1) 6)) 4 ((xs (1 + 6 * i + 1)).toNatClampNeg) ((xs (1 + 6 * i + 2)).toNatClampNeg) = 0 then (0 : Int64) else 1)) (0))) (hbb.trans (congrArg (fun z : Int32 => if z = 0 then (0 : Int64) else 1) (LR_weather (x3 := nI 0) hL (Classical.not_not.mp hnba).1 (Classical.not_not.mp hnba).2 (by decide)).1.symm)) ?_
              refine W.lcmp hx hb d_L_law_589 ?_
              refine lv_ei (y := nI 0) ((lg_cmp_eq _ _).mpr rfl) ?_
              refine lv_if_eq (tgt := 595) hx hb d_L_law_590 (by decide) (fun c_590 => ?_) (fun c_590 => ?_)
              · skip
                refine lv_goto (tgt := 1168) hx hb d_L_law_595 (by decide) ?_
                exact W.widen (by omega) (by omega) (hNext ad n I (va_up K 0 (nI 0)) bw LA (va_up (va_up J 0 (nI 0)) 3 (nI 0)) bw2 L (vp_updL o 0 (if (upR S 0 0 (flR (S 0 0) (-1) 6)) 4 ((xs (1 + 6 * i + 1)).toNatClampNeg) ((xs (1 + 6 * i + 2)).toNatClampNeg) = 0 then (0 : Int64) else 1)) (upR (upR (upR S 0 0 (flR (S 0 0) (-1) 6)) 4 ((xs (1 + 6 * i + 1)).toNatClampNeg) (upd ((upR S 0 0 (flR (S 0 0) (-1) 6)) 4 ((xs (1 + 6 * i + 1)).toNatClampNeg)) ((xs (1 + 6 * i + 2)).toNatClampNeg) (nI 0))) 5 6 (upd ((upR (upR S 0 0 (flR (S 0 0) (-1) 6)) 4 ((xs (1 + 6 * i + 1)).toNatClampNeg) (upd ((upR S 0 0 (flR (S 0 0) (-1) 6)) 4 ((xs (1 + 6 * i + 1)).toNatClampNeg)) ((xs (1 + 6 * i + 2)).toNatClampNeg) (nI 0))) 5 6) (8 * ((xs (1 + 6 * i + 1)).toNatClampNeg) + ((xs (1 + 6 * i + 2)).toNatClampNeg)) (nI 0))) ((LR_weather (x3 := nI 0) hL (Classical.not_not.mp hnba).1 (Classical.not_not.mp hnba).2 (by decide)).2) _ _ ls hw hS (lv_sub hl [2, 3, 4, 5, 6] rfl))
              · skip
                first | exact absurd c_590 (by decide) | exact absurd (by decide) c_590
            · skip
              have hbb : (1 : Int64) = (if (upR (upR S 0 0 (flR (S 0 0) (-1) 6)) 4 ((xs (1 + 6 * i + 1)).toNatClampNeg) (upd ((upR S 0 0 (flR (S 0 0) (-1) 6)) 4 ((xs (1 + 6 * i + 1)).toNatClampNeg)) ((xs (1 + 6 * i + 2)).toNatClampNeg) (nI 0))) 5 6 (8 * ((xs (1 + 6 * i + 1)).toNatClampNeg) + ((xs (1 + 6 * i + 2)).toNatClampNeg)) = 0 then (0 : Int64) else 1) := (if_neg c_581).symm
              refine lv_lconst (v := 1) hx hb d_L_law_584 (by decide) ?_
              refine lv_goto (tgt := 589) hx hb d_L_law_585 (by decide) ?_
              refine lv_el (y := ((vp_updL o 0 (if (upR S 0 0 (flR (S 0 0) (-1) 6)) 4 ((xs (1 + 6 * i + 1)).toNatClampNeg) ((xs (1 + 6 * i + 2)).toNatClampNeg) = 0 then (0 : Int64) else 1)) (0))) (hbb.trans (congrArg (fun z : Int32 => if z = 0 then (0 : Int64) else 1) (LR_weather (x3 := nI 0) hL (Classical.not_not.mp hnba).1 (Classical.not_not.mp hnba).2 (by decide)).1.symm)) ?_
              refine W.lcmp hx hb d_L_law_589 ?_
              refine lv_ei (y := nI 0) ((lg_cmp_eq _ _).mpr rfl) ?_
              refine lv_if_eq (tgt := 595) hx hb d_L_law_590 (by decide) (fun c_590 => ?_) (fun c_590 => ?_)
              · skip
                refine lv_goto (tgt := 1168) hx hb d_L_law_595 (by decide) ?_
                exact W.widen (by omega) (by omega) (hNext ad n I (va_up K 0 (nI 0)) bw LA (va_up (va_up J 0 (nI 0)) 3 (nI 0)) bw2 L (vp_updL o 0 (if (upR S 0 0 (flR (S 0 0) (-1) 6)) 4 ((xs (1 + 6 * i + 1)).toNatClampNeg) ((xs (1 + 6 * i + 2)).toNatClampNeg) = 0 then (0 : Int64) else 1)) (upR (upR (upR S 0 0 (flR (S 0 0) (-1) 6)) 4 ((xs (1 + 6 * i + 1)).toNatClampNeg) (upd ((upR S 0 0 (flR (S 0 0) (-1) 6)) 4 ((xs (1 + 6 * i + 1)).toNatClampNeg)) ((xs (1 + 6 * i + 2)).toNatClampNeg) (nI 0))) 5 6 (upd ((upR (upR S 0 0 (flR (S 0 0) (-1) 6)) 4 ((xs (1 + 6 * i + 1)).toNatClampNeg) (upd ((upR S 0 0 (flR (S 0 0) (-1) 6)) 4 ((xs (1 + 6 * i + 1)).toNatClampNeg)) ((xs (1 + 6 * i + 2)).toNatClampNeg) (nI 0))) 5 6) (8 * ((xs (1 + 6 * i + 1)).toNatClampNeg) + ((xs (1 + 6 * i + 2)).toNatClampNeg)) (nI 0))) ((LR_weather (x3 := nI 0) hL (Classical.not_not.mp hnba).1 (Classical.not_not.mp hnba).2 (by decide)).2) _ _ ls hw hS (lv_sub hl [2, 3, 4, 5, 6] rfl))
              · skip
                first | exact absurd c_590 (by decide) | exact absurd (by decide) c_590
        · skip
          exact absurd rfl c_566
      · skip
        exact absurd c_514 c_547
  · skip
    refine lv_iconst (v := nI 1) hx hb d_L_law_517 (by decide) ?_
    refine lv_goto (tgt := 522) hx hb d_L_law_518 (by decide) ?_
    refine lv_aload_n hx hb d_L_law_522 rfl (lv_at hl 3 rfl) ?_
    refine nx_callC (nx_goW (n := 5) (As := [.ref (ad (0)), .int (xs (1 + 6 * i + 1)), .int (xs (1 + 6 * i + 2)), .int (nI 1), .ref (ad (69))]) (rest := []) hSx hA hKs hF hB hAs hw hS (w_weather l D tC A ad n I K bw LA n J bw2 L o S hN s hF hfl hAs (xs (1 + 6 * i + 1)) (xs (1 + 6 * i + 2)) (nI 1) (by decide) hz4) kt_468 kw_466 kw_467 kw_0 rfl rfl (by decide +kernel) ⟨Nat.le_of_ble_eq_true rfl, Nat.le_of_ble_eq_true rfl⟩ rfl hl.1 (Nat.le_of_ble_eq_true rfl) d_L_law_523 ⟨by show _ ≤ 669896; omega, by show _ ≤ 7086383; omega⟩) hS (fun X wn' ad' H locs x cell hpost hw hS hcell hst hcls T' hT X0 => (lw_po_x hpost).elim) (fun rv wn' ad' H locs hpost hw hS => ?_)
    rcases lw_po_i hpost with ⟨hv, hba, hwn, had⟩ | ⟨hv, hnba, hbs, hwn, had⟩ | ⟨hv, hnba, hnbs, hG⟩
    · skip
      subst hv
      rw [hwn, had] at hw
      refine lv_istore (lv' := [(5, .int (nI 1)), (0, .ref (b)), (1, .ref (ad (0))), (2, .ref (ad (64))), (3, .ref (ad (69))), (4, .int (nI (1 + 6 * i)))]) hx hb d_L_law_526 hl (by decide) rfl (fun ls hl => ?_)
      refine lv_aload_n hx hb d_L_law_528 rfl (lv_at hl 3 rfl) ?_
      refine lv_aload_n hx hb d_L_law_529 rfl (lv_at hl 1 rfl) ?_
      refine lv_iload hx hb d_L_law_530 (lv_at hl 5 rfl) ?_
      refine lv_iconst (v := nI 1) hx hb d_L_law_532 (by decide) ?_
      refine lv_iadd hx hb d_L_law_533 ?_
      refine lv_ei (y := nI (1 + 6 * i + 1)) (nI_add _ _) ?_
      refine va_sld hx hb hX hbl hbA hS (vp_in_nI (by omega) (by omega)) d_L_law_534 ?_
      refine lv_ei (y := xs (1 + 6 * i + 1)) (by rw [nI_clamp (by omega)]) ?_
      refine lv_aload_n hx hb d_L_law_535 rfl (lv_at hl 1 rfl) ?_
      refine lv_iload hx hb d_L_law_536 (lv_at hl 5 rfl) ?_
      refine lv_iconst (v := nI 2) hx hb d_L_law_538 (by decide) ?_
      refine lv_iadd hx hb d_L_law_539 ?_
      refine lv_ei (y := nI (1 + 6 * i + 2)) (nI_add _ _) ?_
      refine va_sld hx hb hX hbl hbA hS (vp_in_nI (by omega) (by omega)) d_L_law_540 ?_
      refine lv_ei (y := xs (1 + 6 * i + 2)) (by rw [nI_clamp (by omega)]) ?_
      refine lv_aload_n hx hb d_L_law_541 rfl (lv_at hl 1 rfl) ?_
      refine lv_iload hx hb d_L_law_542 (lv_at hl 5 rfl) ?_
      refine lv_iconst (v := nI 3) hx hb d_L_law_544 (by decide) ?_
      refine lv_iadd hx hb d_L_law_545 ?_
      refine lv_ei (y := nI (1 + 6 * i + 3)) (nI_add _ _) ?_
      refine va_sld hx hb hX hbl hbA hS (vp_in_nI (by omega) (by omega)) d_L_law_546 ?_
      refine lv_ei (y := xs (1 + 6 * i + 3)) (by rw [nI_clamp (by omega)]) ?_
      refine lv_if_eq (tgt := 554) hx hb d_L_law_547 (by decide) (fun c_547 => ?_) (fun c_547 => ?_)
      · skip
        exact absurd c_547 c_514
      · skip
        refine lv_iconst (v := nI 1) hx hb d_L_law_550 (by decide) ?_
        refine lv_goto (tgt := 555) hx hb d_L_law_551 (by decide) ?_
        have hw := nw_W.as (wn' := mW ad tC n J bw2 L (obX ad tC n I K bw LA (bE tC o)) (arX tC n aE0) S) hw cW_m.symm
        refine nw_call (nw_goV (n := 3) (As := [.int (xs (1 + 6 * i + 1)), .int (xs (1 + 6 * i + 2)), .int (nI 1)]) (rest := []) hSx hA hKs hw hS (c_M_weather l D tC A ad n J bw2 L (obX ad tC n I K bw LA (bE tC o)) (arX tC n aE0) S hN (xs (1 + 6 * i + 1)) (xs (1 + 6 * i + 2)) (nI 1) (by decide) hz56) kw_801 kw_798 kw_799 kw_800 kw_8 rfl rfl (by decide +kernel) ⟨Nat.le_of_ble_eq_true rfl, Nat.le_of_ble_eq_true rfl⟩ (nw_recv hK hw (mW_64) rfl) rfl hl.1 (Nat.le_of_ble_eq_true rfl) d_L_law_555 ⟨by show _ ≤ 669896; omega, by show _ ≤ 7086383; omega⟩) hS (fun rv wn' ad9 H locs hpost hw hS => ?_)
        obtain ⟨had9, hmo⟩ := hpost
        rw [had9] at hw
        rcases hmo with ⟨hq1, hq2, hq3⟩ | ⟨hq1, _⟩ | ⟨hq1, _⟩
        rotate_left
        · exact absurd hba hq1
        · exact absurd hba hq1
        subst hq2
        rw [hq3] at hw
        have hw := nw_W.as (wn' := cW ad tC n I K bw LA n (va_up J 0 1) bw2 L o S) hw cW_m
        refine lv_istore (lv' := [(6, .int (nI 0)), (5, .int (nI 1)), (0, .ref (b)), (1, .ref (ad (0))), (2, .ref (ad (64))), (3, .ref (ad (69))), (4, .int (nI (1 + 6 * i)))]) hx hb d_L_law_558 hl (by decide) rfl (fun ls hl => ?_)
        refine lv_aload_n hx hb d_L_law_560 rfl (lv_at hl 4 rfl) ?_
        have hw := nw_W.as (wn' := mW ad tC n (va_up J 0 1) bw2 L (obX ad tC n I K bw LA (bE tC o)) (arX tC n aE0) S) hw cW_m.symm
        refine nw_call (nw_goV (n := 0) (As := []) (rest := []) hSx hA hKs hw hS (c_M_thrown l D tC A ad n (va_up J 0 1) bw2 L (obX ad tC n I K bw LA (bE tC o)) (arX tC n aE0) S hN  ) kw_762 kw_759 kw_760 kw_761 kw_8 rfl rfl (by decide +kernel) ⟨Nat.le_of_ble_eq_true rfl, Nat.le_of_ble_eq_true rfl⟩ (nw_recv hK hw (mW_64) rfl) rfl hl.1 (Nat.le_of_ble_eq_true rfl) d_L_law_561 ⟨by show _ ≤ 669896; omega, by show _ ≤ 7086383; omega⟩) hS (fun rv wn' ad9 H locs hpost hw hS => ?_)
        obtain ⟨hv9, hwn9, had9⟩ := hpost
        subst hv9
        rw [hwn9, had9] at hw
        have hw := nw_W.as (wn' := cW ad tC n I K bw LA n (va_up J 0 1) bw2 L o S) hw cW_m
        refine lv_ei (y := nI 1) rfl ?_
        refine lv_iload hx hb d_L_law_564 (lv_at hl 1 rfl) ?_
        refine lv_icmp_eq (tgt := 571) hx hb d_L_law_566 (by decide) (fun c_566 => ?_) (fun c_566 => ?_)
        · skip
          refine lv_iload hx hb d_L_law_571 (lv_at hl 1 rfl) ?_
          refine lv_if_ne (tgt := 595) hx hb d_L_law_573 (by decide) (fun c_573 => ?_) (fun c_573 => ?_)
          · skip
            refine lv_goto (tgt := 1168) hx hb d_L_law_595 (by decide) ?_
            exact W.widen (by omega) (by omega) (hNext ad n I K bw LA (va_up J 0 1) bw2 L o S (LR_thr hL) _ _ ls hw hS (lv_sub hl [2, 3, 4, 5, 6] rfl))
          · skip
            first | exact absurd c_573 (by decide) | exact absurd (by decide) c_573
        · skip
          exact absurd rfl c_566
    · skip
      subst hv
      exact absurd trivial hbs
    · skip
      subst hv
      obtain ⟨had, hwn⟩ := hG
      rw [hwn, had] at hw
      refine lv_istore (lv' := [(5, .int (nI 0)), (0, .ref (b)), (1, .ref (ad (0))), (2, .ref (ad (64))), (3, .ref (ad (69))), (4, .int (nI (1 + 6 * i)))]) hx hb d_L_law_526 hl (by decide) rfl (fun ls hl => ?_)
      refine lv_aload_n hx hb d_L_law_528 rfl (lv_at hl 3 rfl) ?_
      refine lv_aload_n hx hb d_L_law_529 rfl (lv_at hl 1 rfl) ?_
      refine lv_iload hx hb d_L_law_530 (lv_at hl 5 rfl) ?_
      refine lv_iconst (v := nI 1) hx hb d_L_law_532 (by decide) ?_
      refine lv_iadd hx hb d_L_law_533 ?_
      refine lv_ei (y := nI (1 + 6 * i + 1)) (nI_add _ _) ?_
      refine va_sld hx hb hX hbl hbA hS (vp_in_nI (by omega) (by omega)) d_L_law_534 ?_
      refine lv_ei (y := xs (1 + 6 * i + 1)) (by rw [nI_clamp (by omega)]) ?_
      refine lv_aload_n hx hb d_L_law_535 rfl (lv_at hl 1 rfl) ?_
      refine lv_iload hx hb d_L_law_536 (lv_at hl 5 rfl) ?_
      refine lv_iconst (v := nI 2) hx hb d_L_law_538 (by decide) ?_
      refine lv_iadd hx hb d_L_law_539 ?_
      refine lv_ei (y := nI (1 + 6 * i + 2)) (nI_add _ _) ?_
      refine va_sld hx hb hX hbl hbA hS (vp_in_nI (by omega) (by omega)) d_L_law_540 ?_
      refine lv_ei (y := xs (1 + 6 * i + 2)) (by rw [nI_clamp (by omega)]) ?_
      refine lv_aload_n hx hb d_L_law_541 rfl (lv_at hl 1 rfl) ?_
      refine lv_iload hx hb d_L_law_542 (lv_at hl 5 rfl) ?_
      refine lv_iconst (v := nI 3) hx hb d_L_law_544 (by decide) ?_
      refine lv_iadd hx hb d_L_law_545 ?_
      refine lv_ei (y := nI (1 + 6 * i + 3)) (nI_add _ _) ?_
      refine va_sld hx hb hX hbl hbA hS (vp_in_nI (by omega) (by omega)) d_L_law_546 ?_
      refine lv_ei (y := xs (1 + 6 * i + 3)) (by rw [nI_clamp (by omega)]) ?_
      refine lv_if_eq (tgt := 554) hx hb d_L_law_547 (by decide) (fun c_547 => ?_) (fun c_547 => ?_)
      · skip
        exact absurd c_547 c_514
      · skip
        refine lv_iconst (v := nI 1) hx hb d_L_law_550 (by decide) ?_
        refine lv_goto (tgt := 555) hx hb d_L_law_551 (by decide) ?_
        have hw := nw_W.as (wn' := mW ad tC n J bw2 L (obX ad tC n I (va_up K 0 (nI 0)) bw LA (bE tC (vp_updL o 0 (if (upR S 0 0 (flR (S 0 0) (-1) 6)) 4 ((xs (1 + 6 * i + 1)).toNatClampNeg) ((xs (1 + 6 * i + 2)).toNatClampNeg) = 0 then (0 : Int64) else 1)))) (arX tC n aE0) (upR (upR S 0 0 (flR (S 0 0) (-1) 6)) 4 ((xs (1 + 6 * i + 1)).toNatClampNeg) (upd ((upR S 0 0 (flR (S 0 0) (-1) 6)) 4 ((xs (1 + 6 * i + 1)).toNatClampNeg)) ((xs (1 + 6 * i + 2)).toNatClampNeg) (nI 1)))) hw cW_m.symm
        refine nw_call (nw_goV (n := 3) (As := [.int (xs (1 + 6 * i + 1)), .int (xs (1 + 6 * i + 2)), .int (nI 1)]) (rest := []) hSx hA hKs hw hS (c_M_weather l D tC A ad n J bw2 L (obX ad tC n I (va_up K 0 (nI 0)) bw LA (bE tC (vp_updL o 0 (if (upR S 0 0 (flR (S 0 0) (-1) 6)) 4 ((xs (1 + 6 * i + 1)).toNatClampNeg) ((xs (1 + 6 * i + 2)).toNatClampNeg) = 0 then (0 : Int64) else 1)))) (arX tC n aE0) (upR (upR S 0 0 (flR (S 0 0) (-1) 6)) 4 ((xs (1 + 6 * i + 1)).toNatClampNeg) (upd ((upR S 0 0 (flR (S 0 0) (-1) 6)) 4 ((xs (1 + 6 * i + 1)).toNatClampNeg)) ((xs (1 + 6 * i + 2)).toNatClampNeg) (nI 1))) hN (xs (1 + 6 * i + 1)) (xs (1 + 6 * i + 2)) (nI 1) (by decide) hz56) kw_801 kw_798 kw_799 kw_800 kw_8 rfl rfl (by decide +kernel) ⟨Nat.le_of_ble_eq_true rfl, Nat.le_of_ble_eq_true rfl⟩ (nw_recv hK hw (mW_64) rfl) rfl hl.1 (Nat.le_of_ble_eq_true rfl) d_L_law_555 ⟨by show _ ≤ 669896; omega, by show _ ≤ 7086383; omega⟩) hS (fun rv wn' ad9 H locs hpost hw hS => ?_)
        obtain ⟨had9, hmo⟩ := hpost
        rw [had9] at hw
        rcases hmo with ⟨hq1, _⟩ | ⟨hq1, hq4, _⟩ | ⟨hq1, hq4, hGm⟩
        · exact absurd hq1 hnba
        · exact absurd hq4 hnbs
        obtain ⟨hv9, hw9⟩ := hGm
        subst hv9
        rw [hw9] at hw
        have hw := nw_W.as (wn' := cW ad tC n I (va_up K 0 (nI 0)) bw LA n (va_up (va_up J 0 (nI 0)) 3 (nI 0)) bw2 L (vp_updL o 0 (if (upR S 0 0 (flR (S 0 0) (-1) 6)) 4 ((xs (1 + 6 * i + 1)).toNatClampNeg) ((xs (1 + 6 * i + 2)).toNatClampNeg) = 0 then (0 : Int64) else 1)) (upR (upR (upR S 0 0 (flR (S 0 0) (-1) 6)) 4 ((xs (1 + 6 * i + 1)).toNatClampNeg) (upd ((upR S 0 0 (flR (S 0 0) (-1) 6)) 4 ((xs (1 + 6 * i + 1)).toNatClampNeg)) ((xs (1 + 6 * i + 2)).toNatClampNeg) (nI 1))) 5 6 (upd ((upR (upR S 0 0 (flR (S 0 0) (-1) 6)) 4 ((xs (1 + 6 * i + 1)).toNatClampNeg) (upd ((upR S 0 0 (flR (S 0 0) (-1) 6)) 4 ((xs (1 + 6 * i + 1)).toNatClampNeg)) ((xs (1 + 6 * i + 2)).toNatClampNeg) (nI 1))) 5 6) (8 * ((xs (1 + 6 * i + 1)).toNatClampNeg) + ((xs (1 + 6 * i + 2)).toNatClampNeg)) (nI 1)))) hw cW_m
        refine lv_istore (lv' := [(6, .int ((upR (upR S 0 0 (flR (S 0 0) (-1) 6)) 4 ((xs (1 + 6 * i + 1)).toNatClampNeg) (upd ((upR S 0 0 (flR (S 0 0) (-1) 6)) 4 ((xs (1 + 6 * i + 1)).toNatClampNeg)) ((xs (1 + 6 * i + 2)).toNatClampNeg) (nI 1))) 5 6 (8 * ((xs (1 + 6 * i + 1)).toNatClampNeg) + ((xs (1 + 6 * i + 2)).toNatClampNeg)))), (5, .int (nI 0)), (0, .ref (b)), (1, .ref (ad (0))), (2, .ref (ad (64))), (3, .ref (ad (69))), (4, .int (nI (1 + 6 * i)))]) hx hb d_L_law_558 hl (by decide) rfl (fun ls hl => ?_)
        refine lv_aload_n hx hb d_L_law_560 rfl (lv_at hl 4 rfl) ?_
        have hw := nw_W.as (wn' := mW ad tC n (va_up (va_up J 0 (nI 0)) 3 (nI 0)) bw2 L (obX ad tC n I (va_up K 0 (nI 0)) bw LA (bE tC (vp_updL o 0 (if (upR S 0 0 (flR (S 0 0) (-1) 6)) 4 ((xs (1 + 6 * i + 1)).toNatClampNeg) ((xs (1 + 6 * i + 2)).toNatClampNeg) = 0 then (0 : Int64) else 1)))) (arX tC n aE0) (upR (upR (upR S 0 0 (flR (S 0 0) (-1) 6)) 4 ((xs (1 + 6 * i + 1)).toNatClampNeg) (upd ((upR S 0 0 (flR (S 0 0) (-1) 6)) 4 ((xs (1 + 6 * i + 1)).toNatClampNeg)) ((xs (1 + 6 * i + 2)).toNatClampNeg) (nI 1))) 5 6 (upd ((upR (upR S 0 0 (flR (S 0 0) (-1) 6)) 4 ((xs (1 + 6 * i + 1)).toNatClampNeg) (upd ((upR S 0 0 (flR (S 0 0) (-1) 6)) 4 ((xs (1 + 6 * i + 1)).toNatClampNeg)) ((xs (1 + 6 * i + 2)).toNatClampNeg) (nI 1))) 5 6) (8 * ((xs (1 + 6 * i + 1)).toNatClampNeg) + ((xs (1 + 6 * i + 2)).toNatClampNeg)) (nI 1)))) hw cW_m.symm
        refine nw_call (nw_goV (n := 0) (As := []) (rest := []) hSx hA hKs hw hS (c_M_thrown l D tC A ad n (va_up (va_up J 0 (nI 0)) 3 (nI 0)) bw2 L (obX ad tC n I (va_up K 0 (nI 0)) bw LA (bE tC (vp_updL o 0 (if (upR S 0 0 (flR (S 0 0) (-1) 6)) 4 ((xs (1 + 6 * i + 1)).toNatClampNeg) ((xs (1 + 6 * i + 2)).toNatClampNeg) = 0 then (0 : Int64) else 1)))) (arX tC n aE0) (upR (upR (upR S 0 0 (flR (S 0 0) (-1) 6)) 4 ((xs (1 + 6 * i + 1)).toNatClampNeg) (upd ((upR S 0 0 (flR (S 0 0) (-1) 6)) 4 ((xs (1 + 6 * i + 1)).toNatClampNeg)) ((xs (1 + 6 * i + 2)).toNatClampNeg) (nI 1))) 5 6 (upd ((upR (upR S 0 0 (flR (S 0 0) (-1) 6)) 4 ((xs (1 + 6 * i + 1)).toNatClampNeg) (upd ((upR S 0 0 (flR (S 0 0) (-1) 6)) 4 ((xs (1 + 6 * i + 1)).toNatClampNeg)) ((xs (1 + 6 * i + 2)).toNatClampNeg) (nI 1))) 5 6) (8 * ((xs (1 + 6 * i + 1)).toNatClampNeg) + ((xs (1 + 6 * i + 2)).toNatClampNeg)) (nI 1))) hN  ) kw_762 kw_759 kw_760 kw_761 kw_8 rfl rfl (by decide +kernel) ⟨Nat.le_of_ble_eq_true rfl, Nat.le_of_ble_eq_true rfl⟩ (nw_recv hK hw (mW_64) rfl) rfl hl.1 (Nat.le_of_ble_eq_true rfl) d_L_law_561 ⟨by show _ ≤ 669896; omega, by show _ ≤ 7086383; omega⟩) hS (fun rv wn' ad9 H locs hpost hw hS => ?_)
        obtain ⟨hv9, hwn9, had9⟩ := hpost
        subst hv9
        rw [hwn9, had9] at hw
        have hw := nw_W.as (wn' := cW ad tC n I (va_up K 0 (nI 0)) bw LA n (va_up (va_up J 0 (nI 0)) 3 (nI 0)) bw2 L (vp_updL o 0 (if (upR S 0 0 (flR (S 0 0) (-1) 6)) 4 ((xs (1 + 6 * i + 1)).toNatClampNeg) ((xs (1 + 6 * i + 2)).toNatClampNeg) = 0 then (0 : Int64) else 1)) (upR (upR (upR S 0 0 (flR (S 0 0) (-1) 6)) 4 ((xs (1 + 6 * i + 1)).toNatClampNeg) (upd ((upR S 0 0 (flR (S 0 0) (-1) 6)) 4 ((xs (1 + 6 * i + 1)).toNatClampNeg)) ((xs (1 + 6 * i + 2)).toNatClampNeg) (nI 1))) 5 6 (upd ((upR (upR S 0 0 (flR (S 0 0) (-1) 6)) 4 ((xs (1 + 6 * i + 1)).toNatClampNeg) (upd ((upR S 0 0 (flR (S 0 0) (-1) 6)) 4 ((xs (1 + 6 * i + 1)).toNatClampNeg)) ((xs (1 + 6 * i + 2)).toNatClampNeg) (nI 1))) 5 6) (8 * ((xs (1 + 6 * i + 1)).toNatClampNeg) + ((xs (1 + 6 * i + 2)).toNatClampNeg)) (nI 1)))) hw cW_m
        refine lv_ei (y := nI 0) rfl ?_
        refine lv_iload hx hb d_L_law_564 (lv_at hl 1 rfl) ?_
        refine lv_icmp_eq (tgt := 571) hx hb d_L_law_566 (by decide) (fun c_566 => ?_) (fun c_566 => ?_)
        · skip
          refine lv_iload hx hb d_L_law_571 (lv_at hl 1 rfl) ?_
          refine lv_if_ne (tgt := 595) hx hb d_L_law_573 (by decide) (fun c_573 => ?_) (fun c_573 => ?_)
          · skip
            first | exact absurd c_573 (by decide) | exact absurd (by decide) c_573
          · skip
            refine lv_aload_n hx hb d_L_law_576 rfl (lv_at hl 5 rfl) ?_
            refine lv_iconst (v := nI 0) hx hb d_L_law_577 (by decide) ?_
            refine nw_lald hx hb hK hw (69) 1 (cW_69) rfl (0) (rfl) (by omega) (by omega) d_L_law_578 ?_
            refine lv_iload hx hb d_L_law_579 (lv_at hl 0 rfl) ?_
            refine lv_if_eq (tgt := 588) hx hb d_L_law_581 (by decide) (fun c_581 => ?_) (fun c_581 => ?_)
            · skip
              have hbb : (0 : Int64) = (if (upR (upR S 0 0 (flR (S 0 0) (-1) 6)) 4 ((xs (1 + 6 * i + 1)).toNatClampNeg) (upd ((upR S 0 0 (flR (S 0 0) (-1) 6)) 4 ((xs (1 + 6 * i + 1)).toNatClampNeg)) ((xs (1 + 6 * i + 2)).toNatClampNeg) (nI 1))) 5 6 (8 * ((xs (1 + 6 * i + 1)).toNatClampNeg) + ((xs (1 + 6 * i + 2)).toNatClampNeg)) = 0 then (0 : Int64) else 1) := (if_pos c_581).symm
              refine lv_lconst (v := 0) hx hb d_L_law_588 (by decide) ?_
              refine lv_el (y := ((vp_updL o 0 (if (upR S 0 0 (flR (S 0 0) (-1) 6)) 4 ((xs (1 + 6 * i + 1)).toNatClampNeg) ((xs (1 + 6 * i + 2)).toNatClampNeg) = 0 then (0 : Int64) else 1)) (0))) (hbb.trans (congrArg (fun z : Int32 => if z = 0 then (0 : Int64) else 1) (LR_weather (x3 := nI 1) hL (Classical.not_not.mp hnba).1 (Classical.not_not.mp hnba).2 (by decide)).1.symm)) ?_
              refine W.lcmp hx hb d_L_law_589 ?_
              refine lv_ei (y := nI 0) ((lg_cmp_eq _ _).mpr rfl) ?_
              refine lv_if_eq (tgt := 595) hx hb d_L_law_590 (by decide) (fun c_590 => ?_) (fun c_590 => ?_)
              · skip
                refine lv_goto (tgt := 1168) hx hb d_L_law_595 (by decide) ?_
                exact W.widen (by omega) (by omega) (hNext ad n I (va_up K 0 (nI 0)) bw LA (va_up (va_up J 0 (nI 0)) 3 (nI 0)) bw2 L (vp_updL o 0 (if (upR S 0 0 (flR (S 0 0) (-1) 6)) 4 ((xs (1 + 6 * i + 1)).toNatClampNeg) ((xs (1 + 6 * i + 2)).toNatClampNeg) = 0 then (0 : Int64) else 1)) (upR (upR (upR S 0 0 (flR (S 0 0) (-1) 6)) 4 ((xs (1 + 6 * i + 1)).toNatClampNeg) (upd ((upR S 0 0 (flR (S 0 0) (-1) 6)) 4 ((xs (1 + 6 * i + 1)).toNatClampNeg)) ((xs (1 + 6 * i + 2)).toNatClampNeg) (nI 1))) 5 6 (upd ((upR (upR S 0 0 (flR (S 0 0) (-1) 6)) 4 ((xs (1 + 6 * i + 1)).toNatClampNeg) (upd ((upR S 0 0 (flR (S 0 0) (-1) 6)) 4 ((xs (1 + 6 * i + 1)).toNatClampNeg)) ((xs (1 + 6 * i + 2)).toNatClampNeg) (nI 1))) 5 6) (8 * ((xs (1 + 6 * i + 1)).toNatClampNeg) + ((xs (1 + 6 * i + 2)).toNatClampNeg)) (nI 1))) ((LR_weather (x3 := nI 1) hL (Classical.not_not.mp hnba).1 (Classical.not_not.mp hnba).2 (by decide)).2) _ _ ls hw hS (lv_sub hl [2, 3, 4, 5, 6] rfl))
              · skip
                first | exact absurd c_590 (by decide) | exact absurd (by decide) c_590
            · skip
              have hbb : (1 : Int64) = (if (upR (upR S 0 0 (flR (S 0 0) (-1) 6)) 4 ((xs (1 + 6 * i + 1)).toNatClampNeg) (upd ((upR S 0 0 (flR (S 0 0) (-1) 6)) 4 ((xs (1 + 6 * i + 1)).toNatClampNeg)) ((xs (1 + 6 * i + 2)).toNatClampNeg) (nI 1))) 5 6 (8 * ((xs (1 + 6 * i + 1)).toNatClampNeg) + ((xs (1 + 6 * i + 2)).toNatClampNeg)) = 0 then (0 : Int64) else 1) := (if_neg c_581).symm
              refine lv_lconst (v := 1) hx hb d_L_law_584 (by decide) ?_
              refine lv_goto (tgt := 589) hx hb d_L_law_585 (by decide) ?_
              refine lv_el (y := ((vp_updL o 0 (if (upR S 0 0 (flR (S 0 0) (-1) 6)) 4 ((xs (1 + 6 * i + 1)).toNatClampNeg) ((xs (1 + 6 * i + 2)).toNatClampNeg) = 0 then (0 : Int64) else 1)) (0))) (hbb.trans (congrArg (fun z : Int32 => if z = 0 then (0 : Int64) else 1) (LR_weather (x3 := nI 1) hL (Classical.not_not.mp hnba).1 (Classical.not_not.mp hnba).2 (by decide)).1.symm)) ?_
              refine W.lcmp hx hb d_L_law_589 ?_
              refine lv_ei (y := nI 0) ((lg_cmp_eq _ _).mpr rfl) ?_
              refine lv_if_eq (tgt := 595) hx hb d_L_law_590 (by decide) (fun c_590 => ?_) (fun c_590 => ?_)
              · skip
                refine lv_goto (tgt := 1168) hx hb d_L_law_595 (by decide) ?_
                exact W.widen (by omega) (by omega) (hNext ad n I (va_up K 0 (nI 0)) bw LA (va_up (va_up J 0 (nI 0)) 3 (nI 0)) bw2 L (vp_updL o 0 (if (upR S 0 0 (flR (S 0 0) (-1) 6)) 4 ((xs (1 + 6 * i + 1)).toNatClampNeg) ((xs (1 + 6 * i + 2)).toNatClampNeg) = 0 then (0 : Int64) else 1)) (upR (upR (upR S 0 0 (flR (S 0 0) (-1) 6)) 4 ((xs (1 + 6 * i + 1)).toNatClampNeg) (upd ((upR S 0 0 (flR (S 0 0) (-1) 6)) 4 ((xs (1 + 6 * i + 1)).toNatClampNeg)) ((xs (1 + 6 * i + 2)).toNatClampNeg) (nI 1))) 5 6 (upd ((upR (upR S 0 0 (flR (S 0 0) (-1) 6)) 4 ((xs (1 + 6 * i + 1)).toNatClampNeg) (upd ((upR S 0 0 (flR (S 0 0) (-1) 6)) 4 ((xs (1 + 6 * i + 1)).toNatClampNeg)) ((xs (1 + 6 * i + 2)).toNatClampNeg) (nI 1))) 5 6) (8 * ((xs (1 + 6 * i + 1)).toNatClampNeg) + ((xs (1 + 6 * i + 2)).toNatClampNeg)) (nI 1))) ((LR_weather (x3 := nI 1) hL (Classical.not_not.mp hnba).1 (Classical.not_not.mp hnba).2 (by decide)).2) _ _ ls hw hS (lv_sub hl [2, 3, 4, 5, 6] rfl))
              · skip
                first | exact absurd c_590 (by decide) | exact absurd (by decide) c_590
        · skip
          exact absurd rfl c_566

set_option maxHeartbeats 4000000 in
set_option maxRecDepth 100000 in
/-- case 3: size -/
theorem law_3 {p : Program} {l : Launch} {e : Env} {s : State} {m : MethodId} {args : Array Value} {below : List Frame} {meth : Method} {cd : Code} {Q : State → Prop} {D : va_G} {tC : Nat → ClassId} {A : Nat → Prop} {b N : Nat} {xs : Nat → Int32} (hSx : CallFix p m cd b_L_law 8 s args nw_T "HarvestPlansLaw") (hA : ∀ q, s.heap.size ≤ q → A q) (hAs : ∀ q, A q → s.heap.size ≤ q) (hKs : nw_K D hpC (hpT tC) s) (hF : nx_F s) (hfl : l.stackTraces = false) (hX : va_X b N xs s s.heap) (hbl : b < s.heap.size) (hbA : ¬ A b) (hN3 : N ≤ 3073) {cc cs i : Nat} (hcc : cc + 12 ≤ 669896) (hcs : cs + 120 ≤ 7086383) (hi : 1 + 6 * i + 6 ≤ N) (hNext : ∀ (ad : Nat → Nat) (n : Nat → Nat) (I : Nat → Nat → Int32) (K : Nat → Int32) (bw : Int64) (LA : Nat → Int64) (J : Nat → Int32) (bw2 : Int64) (L : Nat → Nat → Int64) (o : Nat → Int64) (S : Nat → Nat → Nat → Int32), LR n I K J S → ∀ (H : Heap) (locs : List Loc) (ls : Array Slot), nw_W D hpC A (cW ad tC n I K bw LA n J bw2 L o S) ad H → va_S A s.heap H locs → lv_has ls 8 [(0, .ref (b)), (1, .ref (ad (0))), (2, .ref (ad (64))), (3, .ref (ad (69))), (4, .int (nI (1 + 6 * i)))] → W p l e room_1 s m args below meth cd H locs (cc + 12) (cs + 120) Q (F0 m 1168 ls [])) (ad : Nat → Nat) (n : Nat → Nat) (I : Nat → Nat → Int32) (K : Nat → Int32) (bw : Int64) (LA : Nat → Int64) (J : Nat → Int32) (bw2 : Int64) (L : Nat → Nat → Int64) (o : Nat → Int64) (S : Nat → Nat → Nat → Int32) (hL : LR n I K J S) (H : Heap) (locs : List Loc) (ls : Array Slot) (hw : nw_W D hpC A (cW ad tC n I K bw LA n J bw2 L o S) ad H) (hS : va_S A s.heap H locs) (hl : lv_has ls 8 [(0, .ref (b)), (1, .ref (ad (0))), (2, .ref (ad (64))), (3, .ref (ad (69))), (4, .int (nI (1 + 6 * i)))]) : W p l e room_1 s m args below meth cd H locs cc cs Q (F0 m 347 ls []) := by
  obtain ⟨hx, hb, hml, hown, hts⟩ := id hSx
  have hK := hKs.1
  have hB : nx_B s s := ⟨State.WarmedH.refl s, Nat.le_refl _, fun _ _ => rfl⟩
  obtain ⟨hm, ow, sq, hLx⟩ := id hL
  have hN : hpN n := hLx.1.1
  obtain ⟨hn0, hn0', hn1, hn2, hn3, hn4⟩ := id hN
  have hJK : J 3 = K 0 := hLx.2.2.1.1
  have hH : ∀ c, c < n 2 → I 2 c = nI (hm c) ∧ hm c < n 1 := fun c hc => ⟨hLx.2.1.1 c hc, (hLx.1.2.2.2.1 c hc).2.1⟩
  have hHm : ∀ c, c < n 2 → S 5 2 c = nI (hm c) ∧ hm c < n 1 := fun c hc => ⟨(hLx.1.2.2.2.1 c hc).1, (hLx.1.2.2.2.1 c hc).2.1⟩
  have hO : ∀ o, o < n 4 → I 4 o = nI (ow o) ∧ ow o < n 0 := fun o ho => ⟨(hLx.1.2.2.2.2.2.2.1 o ho).2.1, (hLx.1.2.2.2.2.2.2.1 o ho).2.2.1⟩
  have hSq : ∀ k, k < n 4 → S 0 1 k = nI (sq k) ∧ sq k < n 4 := fun k hk => ⟨hLx.2.1.2.1 k hk, hLx.1.2.2.2.2.2.2.2.1 k hk⟩
  have hSo : ∀ q, q < n 4 → ∃ j, j < n 4 ∧ sq j = q := hLx.1.2.2.2.2.2.2.2.2.1
  have hPl := ok_pl hLx
  obtain ⟨hz1, hz4, hz51, hz56⟩ := hLx.2.1.2.2.2
  refine lv_aload_n hx hb d_L_law_347 rfl (lv_at hl 1 rfl) ?_
  refine lv_aload_n hx hb d_L_law_348 rfl (lv_at hl 0 rfl) ?_
  refine lv_iload hx hb d_L_law_349 (lv_at hl 4 rfl) ?_
  refine lv_iconst (v := nI 1) hx hb d_L_law_351 (by decide) ?_
  refine lv_iadd hx hb d_L_law_352 ?_
  refine lv_ei (y := nI (1 + 6 * i + 1)) (nI_add _ _) ?_
  refine va_sld hx hb hX hbl hbA hS (vp_in_nI (by omega) (by omega)) d_L_law_353 ?_
  refine lv_ei (y := xs (1 + 6 * i + 1)) (by rw [nI_clamp (by omega)]) ?_
  refine lv_aload_n hx hb d_L_law_354 rfl (lv_at hl 0 rfl) ?_
  refine lv_iload hx hb d_L_law_355 (lv_at hl 4 rfl) ?_
  refine lv_iconst (v := nI 2) hx hb d_L_law_357 (by decide) ?_
  refine lv_iadd hx hb d_L_law_358 ?_
  refine lv_ei (y := nI (1 + 6 * i + 2)) (nI_add _ _) ?_
  refine va_sld hx hb hX hbl hbA hS (vp_in_nI (by omega) (by omega)) d_L_law_359 ?_
  refine lv_ei (y := xs (1 + 6 * i + 2)) (by rw [nI_clamp (by omega)]) ?_
  refine lv_aload_n hx hb d_L_law_360 rfl (lv_at hl 0 rfl) ?_
  refine lv_iload hx hb d_L_law_361 (lv_at hl 4 rfl) ?_
  refine lv_iconst (v := nI 3) hx hb d_L_law_363 (by decide) ?_
  refine lv_iadd hx hb d_L_law_364 ?_
  refine lv_ei (y := nI (1 + 6 * i + 3)) (nI_add _ _) ?_
  refine va_sld hx hb hX hbl hbA hS (vp_in_nI (by omega) (by omega)) d_L_law_365 ?_
  refine lv_ei (y := xs (1 + 6 * i + 3)) (by rw [nI_clamp (by omega)]) ?_
  refine lv_aload_n hx hb d_L_law_366 rfl (lv_at hl 0 rfl) ?_
  refine lv_iload hx hb d_L_law_367 (lv_at hl 4 rfl) ?_
  refine lv_iconst (v := nI 4) hx hb d_L_law_369 (by decide) ?_
  refine lv_iadd hx hb d_L_law_370 ?_
  refine lv_ei (y := nI (1 + 6 * i + 4)) (nI_add _ _) ?_
  refine va_sld hx hb hX hbl hbA hS (vp_in_nI (by omega) (by omega)) d_L_law_371 ?_
  refine lv_ei (y := xs (1 + 6 * i + 4)) (by rw [nI_clamp (by omega)]) ?_
  refine lv_aload_n hx hb d_L_law_372 rfl (lv_at hl 3 rfl) ?_
  refine nx_callC (nx_goW (n := 6) (As := [.ref (ad (0)), .int (xs (1 + 6 * i + 1)), .int (xs (1 + 6 * i + 2)), .int (xs (1 + 6 * i + 3)), .int (xs (1 + 6 * i + 4)), .ref (ad (69))]) (rest := []) hSx hA hKs hF hB hAs hw hS (w_size l D tC A ad n I K bw LA n J bw2 L o S hN s hF hfl hAs (xs (1 + 6 * i + 1)) (xs (1 + 6 * i + 2)) (xs (1 + 6 * i + 3)) (xs (1 + 6 * i + 4)) ) kt_433 kw_431 kw_432 kw_0 rfl rfl (by decide +kernel) ⟨Nat.le_of_ble_eq_true rfl, Nat.le_of_ble_eq_true rfl⟩ rfl hl.1 (Nat.le_of_ble_eq_true rfl) d_L_law_373 ⟨by show _ ≤ 669896; omega, by show _ ≤ 7086383; omega⟩) hS (fun X wn' ad' H locs x cell hpost hw hS hcell hst hcls T' hT X0 => (lw_po_x hpost).elim) (fun rv wn' ad' H locs hpost hw hS => ?_)
  rcases lw_po_i hpost with ⟨hv, hba, hwn, had⟩ | ⟨hv, hnba, hbs, hwn, had⟩ | ⟨hv, hnba, hnbs, hG⟩
  · skip
    subst hv
    rw [hwn, had] at hw
    refine lv_istore (lv' := [(5, .int (nI 1)), (0, .ref (b)), (1, .ref (ad (0))), (2, .ref (ad (64))), (3, .ref (ad (69))), (4, .int (nI (1 + 6 * i)))]) hx hb d_L_law_376 hl (by decide) rfl (fun ls hl => ?_)
    refine lv_aload_n hx hb d_L_law_378 rfl (lv_at hl 3 rfl) ?_
    refine lv_aload_n hx hb d_L_law_379 rfl (lv_at hl 1 rfl) ?_
    refine lv_iload hx hb d_L_law_380 (lv_at hl 5 rfl) ?_
    refine lv_iconst (v := nI 1) hx hb d_L_law_382 (by decide) ?_
    refine lv_iadd hx hb d_L_law_383 ?_
    refine lv_ei (y := nI (1 + 6 * i + 1)) (nI_add _ _) ?_
    refine va_sld hx hb hX hbl hbA hS (vp_in_nI (by omega) (by omega)) d_L_law_384 ?_
    refine lv_ei (y := xs (1 + 6 * i + 1)) (by rw [nI_clamp (by omega)]) ?_
    refine lv_aload_n hx hb d_L_law_385 rfl (lv_at hl 1 rfl) ?_
    refine lv_iload hx hb d_L_law_386 (lv_at hl 5 rfl) ?_
    refine lv_iconst (v := nI 2) hx hb d_L_law_388 (by decide) ?_
    refine lv_iadd hx hb d_L_law_389 ?_
    refine lv_ei (y := nI (1 + 6 * i + 2)) (nI_add _ _) ?_
    refine va_sld hx hb hX hbl hbA hS (vp_in_nI (by omega) (by omega)) d_L_law_390 ?_
    refine lv_ei (y := xs (1 + 6 * i + 2)) (by rw [nI_clamp (by omega)]) ?_
    refine lv_aload_n hx hb d_L_law_391 rfl (lv_at hl 1 rfl) ?_
    refine lv_iload hx hb d_L_law_392 (lv_at hl 5 rfl) ?_
    refine lv_iconst (v := nI 3) hx hb d_L_law_394 (by decide) ?_
    refine lv_iadd hx hb d_L_law_395 ?_
    refine lv_ei (y := nI (1 + 6 * i + 3)) (nI_add _ _) ?_
    refine va_sld hx hb hX hbl hbA hS (vp_in_nI (by omega) (by omega)) d_L_law_396 ?_
    refine lv_ei (y := xs (1 + 6 * i + 3)) (by rw [nI_clamp (by omega)]) ?_
    refine lv_aload_n hx hb d_L_law_397 rfl (lv_at hl 1 rfl) ?_
    refine lv_iload hx hb d_L_law_398 (lv_at hl 5 rfl) ?_
    refine lv_iconst (v := nI 4) hx hb d_L_law_400 (by decide) ?_
    refine lv_iadd hx hb d_L_law_401 ?_
    refine lv_ei (y := nI (1 + 6 * i + 4)) (nI_add _ _) ?_
    refine va_sld hx hb hX hbl hbA hS (vp_in_nI (by omega) (by omega)) d_L_law_402 ?_
    refine lv_ei (y := xs (1 + 6 * i + 4)) (by rw [nI_clamp (by omega)]) ?_
    have hw := nw_W.as (wn' := mW ad tC n J bw2 L (obX ad tC n I K bw LA (bE tC o)) (arX tC n aE0) S) hw cW_m.symm
    refine nw_call (nw_goV (n := 4) (As := [.int (xs (1 + 6 * i + 1)), .int (xs (1 + 6 * i + 2)), .int (xs (1 + 6 * i + 3)), .int (xs (1 + 6 * i + 4))]) (rest := []) hSx hA hKs hw hS (c_M_size l D tC A ad n J bw2 L (obX ad tC n I K bw LA (bE tC o)) (arX tC n aE0) S hN (xs (1 + 6 * i + 1)) (xs (1 + 6 * i + 2)) (xs (1 + 6 * i + 3)) (xs (1 + 6 * i + 4)) ) kw_786 kw_783 kw_784 kw_785 kw_8 rfl rfl (by decide +kernel) ⟨Nat.le_of_ble_eq_true rfl, Nat.le_of_ble_eq_true rfl⟩ (nw_recv hK hw (mW_64) rfl) rfl hl.1 (Nat.le_of_ble_eq_true rfl) d_L_law_403 ⟨by show _ ≤ 669896; omega, by show _ ≤ 7086383; omega⟩) hS (fun rv wn' ad9 H locs hpost hw hS => ?_)
    obtain ⟨had9, hmo⟩ := hpost
    rw [had9] at hw
    rcases hmo with ⟨hq1, hq2, hq3⟩ | ⟨hq1, _⟩ | ⟨hq1, _⟩
    rotate_left
    · exact absurd hba hq1
    · exact absurd hba hq1
    subst hq2
    rw [hq3] at hw
    have hw := nw_W.as (wn' := cW ad tC n I K bw LA n (va_up J 0 1) bw2 L o S) hw cW_m
    refine lv_istore (lv' := [(6, .int (nI 0)), (5, .int (nI 1)), (0, .ref (b)), (1, .ref (ad (0))), (2, .ref (ad (64))), (3, .ref (ad (69))), (4, .int (nI (1 + 6 * i)))]) hx hb d_L_law_406 hl (by decide) rfl (fun ls hl => ?_)
    refine lv_aload_n hx hb d_L_law_408 rfl (lv_at hl 4 rfl) ?_
    have hw := nw_W.as (wn' := mW ad tC n (va_up J 0 1) bw2 L (obX ad tC n I K bw LA (bE tC o)) (arX tC n aE0) S) hw cW_m.symm
    refine nw_call (nw_goV (n := 0) (As := []) (rest := []) hSx hA hKs hw hS (c_M_thrown l D tC A ad n (va_up J 0 1) bw2 L (obX ad tC n I K bw LA (bE tC o)) (arX tC n aE0) S hN  ) kw_762 kw_759 kw_760 kw_761 kw_8 rfl rfl (by decide +kernel) ⟨Nat.le_of_ble_eq_true rfl, Nat.le_of_ble_eq_true rfl⟩ (nw_recv hK hw (mW_64) rfl) rfl hl.1 (Nat.le_of_ble_eq_true rfl) d_L_law_409 ⟨by show _ ≤ 669896; omega, by show _ ≤ 7086383; omega⟩) hS (fun rv wn' ad9 H locs hpost hw hS => ?_)
    obtain ⟨hv9, hwn9, had9⟩ := hpost
    subst hv9
    rw [hwn9, had9] at hw
    have hw := nw_W.as (wn' := cW ad tC n I K bw LA n (va_up J 0 1) bw2 L o S) hw cW_m
    refine lv_ei (y := nI 1) rfl ?_
    refine lv_iload hx hb d_L_law_412 (lv_at hl 1 rfl) ?_
    refine lv_icmp_eq (tgt := 419) hx hb d_L_law_414 (by decide) (fun c_414 => ?_) (fun c_414 => ?_)
    · skip
      refine lv_iload hx hb d_L_law_419 (lv_at hl 1 rfl) ?_
      refine lv_if_ne (tgt := 436) hx hb d_L_law_421 (by decide) (fun c_421 => ?_) (fun c_421 => ?_)
      · skip
        refine lv_goto (tgt := 1168) hx hb d_L_law_436 (by decide) ?_
        exact W.widen (by omega) (by omega) (hNext ad n I K bw LA (va_up J 0 1) bw2 L o S (LR_thr hL) _ _ ls hw hS (lv_sub hl [2, 3, 4, 5, 6] rfl))
      · skip
        first | exact absurd c_421 (by decide) | exact absurd (by decide) c_421
    · skip
      exact absurd rfl c_414
  · skip
    subst hv
    exact absurd trivial hbs
  · skip
    subst hv
    obtain ⟨had, hwn⟩ := hG
    rw [hwn, had] at hw
    refine lv_istore (lv' := [(5, .int (nI 0)), (0, .ref (b)), (1, .ref (ad (0))), (2, .ref (ad (64))), (3, .ref (ad (69))), (4, .int (nI (1 + 6 * i)))]) hx hb d_L_law_376 hl (by decide) rfl (fun ls hl => ?_)
    refine lv_aload_n hx hb d_L_law_378 rfl (lv_at hl 3 rfl) ?_
    refine lv_aload_n hx hb d_L_law_379 rfl (lv_at hl 1 rfl) ?_
    refine lv_iload hx hb d_L_law_380 (lv_at hl 5 rfl) ?_
    refine lv_iconst (v := nI 1) hx hb d_L_law_382 (by decide) ?_
    refine lv_iadd hx hb d_L_law_383 ?_
    refine lv_ei (y := nI (1 + 6 * i + 1)) (nI_add _ _) ?_
    refine va_sld hx hb hX hbl hbA hS (vp_in_nI (by omega) (by omega)) d_L_law_384 ?_
    refine lv_ei (y := xs (1 + 6 * i + 1)) (by rw [nI_clamp (by omega)]) ?_
    refine lv_aload_n hx hb d_L_law_385 rfl (lv_at hl 1 rfl) ?_
    refine lv_iload hx hb d_L_law_386 (lv_at hl 5 rfl) ?_
    refine lv_iconst (v := nI 2) hx hb d_L_law_388 (by decide) ?_
    refine lv_iadd hx hb d_L_law_389 ?_
    refine lv_ei (y := nI (1 + 6 * i + 2)) (nI_add _ _) ?_
    refine va_sld hx hb hX hbl hbA hS (vp_in_nI (by omega) (by omega)) d_L_law_390 ?_
    refine lv_ei (y := xs (1 + 6 * i + 2)) (by rw [nI_clamp (by omega)]) ?_
    refine lv_aload_n hx hb d_L_law_391 rfl (lv_at hl 1 rfl) ?_
    refine lv_iload hx hb d_L_law_392 (lv_at hl 5 rfl) ?_
    refine lv_iconst (v := nI 3) hx hb d_L_law_394 (by decide) ?_
    refine lv_iadd hx hb d_L_law_395 ?_
    refine lv_ei (y := nI (1 + 6 * i + 3)) (nI_add _ _) ?_
    refine va_sld hx hb hX hbl hbA hS (vp_in_nI (by omega) (by omega)) d_L_law_396 ?_
    refine lv_ei (y := xs (1 + 6 * i + 3)) (by rw [nI_clamp (by omega)]) ?_
    refine lv_aload_n hx hb d_L_law_397 rfl (lv_at hl 1 rfl) ?_
    refine lv_iload hx hb d_L_law_398 (lv_at hl 5 rfl) ?_
    refine lv_iconst (v := nI 4) hx hb d_L_law_400 (by decide) ?_
    refine lv_iadd hx hb d_L_law_401 ?_
    refine lv_ei (y := nI (1 + 6 * i + 4)) (nI_add _ _) ?_
    refine va_sld hx hb hX hbl hbA hS (vp_in_nI (by omega) (by omega)) d_L_law_402 ?_
    refine lv_ei (y := xs (1 + 6 * i + 4)) (by rw [nI_clamp (by omega)]) ?_
    have hw := nw_W.as (wn' := mW ad tC n J bw2 L (obX ad tC n I (va_up K 0 (nI 0)) bw LA (bE tC (vp_updL o 0 (((((xs (1 + 6 * i + 3)) * (xs (1 + 6 * i + 4))) / (nI 1000))).toInt64)))) (arX tC n aE0) (upR (upR (upR S 0 0 (flR (S 0 0) (-1) 6)) 2 ((xs (1 + 6 * i + 1)).toNatClampNeg) (upd ((upR S 0 0 (flR (S 0 0) (-1) 6)) 2 ((xs (1 + 6 * i + 1)).toNatClampNeg)) ((xs (1 + 6 * i + 2)).toNatClampNeg) (xs (1 + 6 * i + 3)))) 3 ((xs (1 + 6 * i + 1)).toNatClampNeg) (upd ((upR (upR S 0 0 (flR (S 0 0) (-1) 6)) 2 ((xs (1 + 6 * i + 1)).toNatClampNeg) (upd ((upR S 0 0 (flR (S 0 0) (-1) 6)) 2 ((xs (1 + 6 * i + 1)).toNatClampNeg)) ((xs (1 + 6 * i + 2)).toNatClampNeg) (xs (1 + 6 * i + 3)))) 3 ((xs (1 + 6 * i + 1)).toNatClampNeg)) ((xs (1 + 6 * i + 2)).toNatClampNeg) (((xs (1 + 6 * i + 3)) * (xs (1 + 6 * i + 4))) / (nI 1000))))) hw cW_m.symm
    refine nw_call (nw_goV (n := 4) (As := [.int (xs (1 + 6 * i + 1)), .int (xs (1 + 6 * i + 2)), .int (xs (1 + 6 * i + 3)), .int (xs (1 + 6 * i + 4))]) (rest := []) hSx hA hKs hw hS (c_M_size l D tC A ad n J bw2 L (obX ad tC n I (va_up K 0 (nI 0)) bw LA (bE tC (vp_updL o 0 (((((xs (1 + 6 * i + 3)) * (xs (1 + 6 * i + 4))) / (nI 1000))).toInt64)))) (arX tC n aE0) (upR (upR (upR S 0 0 (flR (S 0 0) (-1) 6)) 2 ((xs (1 + 6 * i + 1)).toNatClampNeg) (upd ((upR S 0 0 (flR (S 0 0) (-1) 6)) 2 ((xs (1 + 6 * i + 1)).toNatClampNeg)) ((xs (1 + 6 * i + 2)).toNatClampNeg) (xs (1 + 6 * i + 3)))) 3 ((xs (1 + 6 * i + 1)).toNatClampNeg) (upd ((upR (upR S 0 0 (flR (S 0 0) (-1) 6)) 2 ((xs (1 + 6 * i + 1)).toNatClampNeg) (upd ((upR S 0 0 (flR (S 0 0) (-1) 6)) 2 ((xs (1 + 6 * i + 1)).toNatClampNeg)) ((xs (1 + 6 * i + 2)).toNatClampNeg) (xs (1 + 6 * i + 3)))) 3 ((xs (1 + 6 * i + 1)).toNatClampNeg)) ((xs (1 + 6 * i + 2)).toNatClampNeg) (((xs (1 + 6 * i + 3)) * (xs (1 + 6 * i + 4))) / (nI 1000)))) hN (xs (1 + 6 * i + 1)) (xs (1 + 6 * i + 2)) (xs (1 + 6 * i + 3)) (xs (1 + 6 * i + 4)) ) kw_786 kw_783 kw_784 kw_785 kw_8 rfl rfl (by decide +kernel) ⟨Nat.le_of_ble_eq_true rfl, Nat.le_of_ble_eq_true rfl⟩ (nw_recv hK hw (mW_64) rfl) rfl hl.1 (Nat.le_of_ble_eq_true rfl) d_L_law_403 ⟨by show _ ≤ 669896; omega, by show _ ≤ 7086383; omega⟩) hS (fun rv wn' ad9 H locs hpost hw hS => ?_)
    obtain ⟨had9, hmo⟩ := hpost
    rw [had9] at hw
    rcases hmo with ⟨hq1, _⟩ | ⟨hq1, hq4, _⟩ | ⟨hq1, hq4, hGm⟩
    · exact absurd hq1 hnba
    · exact absurd hq4 hnbs
    obtain ⟨hv9, hw9⟩ := hGm
    subst hv9
    rw [hw9] at hw
    have hw := nw_W.as (wn' := cW ad tC n I (va_up K 0 (nI 0)) bw LA n (va_up (va_up J 0 (nI 0)) 3 (nI 0)) bw2 L (vp_updL o 0 (((((xs (1 + 6 * i + 3)) * (xs (1 + 6 * i + 4))) / (nI 1000))).toInt64)) (upR (upR (upR (upR (upR S 0 0 (flR (S 0 0) (-1) 6)) 2 ((xs (1 + 6 * i + 1)).toNatClampNeg) (upd ((upR S 0 0 (flR (S 0 0) (-1) 6)) 2 ((xs (1 + 6 * i + 1)).toNatClampNeg)) ((xs (1 + 6 * i + 2)).toNatClampNeg) (xs (1 + 6 * i + 3)))) 3 ((xs (1 + 6 * i + 1)).toNatClampNeg) (upd ((upR (upR S 0 0 (flR (S 0 0) (-1) 6)) 2 ((xs (1 + 6 * i + 1)).toNatClampNeg) (upd ((upR S 0 0 (flR (S 0 0) (-1) 6)) 2 ((xs (1 + 6 * i + 1)).toNatClampNeg)) ((xs (1 + 6 * i + 2)).toNatClampNeg) (xs (1 + 6 * i + 3)))) 3 ((xs (1 + 6 * i + 1)).toNatClampNeg)) ((xs (1 + 6 * i + 2)).toNatClampNeg) (((xs (1 + 6 * i + 3)) * (xs (1 + 6 * i + 4))) / (nI 1000)))) 5 3 (upd ((upR (upR (upR S 0 0 (flR (S 0 0) (-1) 6)) 2 ((xs (1 + 6 * i + 1)).toNatClampNeg) (upd ((upR S 0 0 (flR (S 0 0) (-1) 6)) 2 ((xs (1 + 6 * i + 1)).toNatClampNeg)) ((xs (1 + 6 * i + 2)).toNatClampNeg) (xs (1 + 6 * i + 3)))) 3 ((xs (1 + 6 * i + 1)).toNatClampNeg) (upd ((upR (upR S 0 0 (flR (S 0 0) (-1) 6)) 2 ((xs (1 + 6 * i + 1)).toNatClampNeg) (upd ((upR S 0 0 (flR (S 0 0) (-1) 6)) 2 ((xs (1 + 6 * i + 1)).toNatClampNeg)) ((xs (1 + 6 * i + 2)).toNatClampNeg) (xs (1 + 6 * i + 3)))) 3 ((xs (1 + 6 * i + 1)).toNatClampNeg)) ((xs (1 + 6 * i + 2)).toNatClampNeg) (((xs (1 + 6 * i + 3)) * (xs (1 + 6 * i + 4))) / (nI 1000)))) 5 3) (8 * ((xs (1 + 6 * i + 1)).toNatClampNeg) + ((xs (1 + 6 * i + 2)).toNatClampNeg)) (xs (1 + 6 * i + 3)))) 5 4 (upd ((upR (upR (upR (upR S 0 0 (flR (S 0 0) (-1) 6)) 2 ((xs (1 + 6 * i + 1)).toNatClampNeg) (upd ((upR S 0 0 (flR (S 0 0) (-1) 6)) 2 ((xs (1 + 6 * i + 1)).toNatClampNeg)) ((xs (1 + 6 * i + 2)).toNatClampNeg) (xs (1 + 6 * i + 3)))) 3 ((xs (1 + 6 * i + 1)).toNatClampNeg) (upd ((upR (upR S 0 0 (flR (S 0 0) (-1) 6)) 2 ((xs (1 + 6 * i + 1)).toNatClampNeg) (upd ((upR S 0 0 (flR (S 0 0) (-1) 6)) 2 ((xs (1 + 6 * i + 1)).toNatClampNeg)) ((xs (1 + 6 * i + 2)).toNatClampNeg) (xs (1 + 6 * i + 3)))) 3 ((xs (1 + 6 * i + 1)).toNatClampNeg)) ((xs (1 + 6 * i + 2)).toNatClampNeg) (((xs (1 + 6 * i + 3)) * (xs (1 + 6 * i + 4))) / (nI 1000)))) 5 3 (upd ((upR (upR (upR S 0 0 (flR (S 0 0) (-1) 6)) 2 ((xs (1 + 6 * i + 1)).toNatClampNeg) (upd ((upR S 0 0 (flR (S 0 0) (-1) 6)) 2 ((xs (1 + 6 * i + 1)).toNatClampNeg)) ((xs (1 + 6 * i + 2)).toNatClampNeg) (xs (1 + 6 * i + 3)))) 3 ((xs (1 + 6 * i + 1)).toNatClampNeg) (upd ((upR (upR S 0 0 (flR (S 0 0) (-1) 6)) 2 ((xs (1 + 6 * i + 1)).toNatClampNeg) (upd ((upR S 0 0 (flR (S 0 0) (-1) 6)) 2 ((xs (1 + 6 * i + 1)).toNatClampNeg)) ((xs (1 + 6 * i + 2)).toNatClampNeg) (xs (1 + 6 * i + 3)))) 3 ((xs (1 + 6 * i + 1)).toNatClampNeg)) ((xs (1 + 6 * i + 2)).toNatClampNeg) (((xs (1 + 6 * i + 3)) * (xs (1 + 6 * i + 4))) / (nI 1000)))) 5 3) (8 * ((xs (1 + 6 * i + 1)).toNatClampNeg) + ((xs (1 + 6 * i + 2)).toNatClampNeg)) (xs (1 + 6 * i + 3)))) 5 4) (8 * ((xs (1 + 6 * i + 1)).toNatClampNeg) + ((xs (1 + 6 * i + 2)).toNatClampNeg)) (xs (1 + 6 * i + 4))))) hw cW_m
    refine lv_istore (lv' := [(6, .int ((kM (upR (upR (upR (upR (upR S 0 0 (flR (S 0 0) (-1) 6)) 2 ((xs (1 + 6 * i + 1)).toNatClampNeg) (upd ((upR S 0 0 (flR (S 0 0) (-1) 6)) 2 ((xs (1 + 6 * i + 1)).toNatClampNeg)) ((xs (1 + 6 * i + 2)).toNatClampNeg) (xs (1 + 6 * i + 3)))) 3 ((xs (1 + 6 * i + 1)).toNatClampNeg) (upd ((upR (upR S 0 0 (flR (S 0 0) (-1) 6)) 2 ((xs (1 + 6 * i + 1)).toNatClampNeg) (upd ((upR S 0 0 (flR (S 0 0) (-1) 6)) 2 ((xs (1 + 6 * i + 1)).toNatClampNeg)) ((xs (1 + 6 * i + 2)).toNatClampNeg) (xs (1 + 6 * i + 3)))) 3 ((xs (1 + 6 * i + 1)).toNatClampNeg)) ((xs (1 + 6 * i + 2)).toNatClampNeg) (((xs (1 + 6 * i + 3)) * (xs (1 + 6 * i + 4))) / (nI 1000)))) 5 3 (upd ((upR (upR (upR S 0 0 (flR (S 0 0) (-1) 6)) 2 ((xs (1 + 6 * i + 1)).toNatClampNeg) (upd ((upR S 0 0 (flR (S 0 0) (-1) 6)) 2 ((xs (1 + 6 * i + 1)).toNatClampNeg)) ((xs (1 + 6 * i + 2)).toNatClampNeg) (xs (1 + 6 * i + 3)))) 3 ((xs (1 + 6 * i + 1)).toNatClampNeg) (upd ((upR (upR S 0 0 (flR (S 0 0) (-1) 6)) 2 ((xs (1 + 6 * i + 1)).toNatClampNeg) (upd ((upR S 0 0 (flR (S 0 0) (-1) 6)) 2 ((xs (1 + 6 * i + 1)).toNatClampNeg)) ((xs (1 + 6 * i + 2)).toNatClampNeg) (xs (1 + 6 * i + 3)))) 3 ((xs (1 + 6 * i + 1)).toNatClampNeg)) ((xs (1 + 6 * i + 2)).toNatClampNeg) (((xs (1 + 6 * i + 3)) * (xs (1 + 6 * i + 4))) / (nI 1000)))) 5 3) (8 * ((xs (1 + 6 * i + 1)).toNatClampNeg) + ((xs (1 + 6 * i + 2)).toNatClampNeg)) (xs (1 + 6 * i + 3)))) 5 4 (upd ((upR (upR (upR (upR S 0 0 (flR (S 0 0) (-1) 6)) 2 ((xs (1 + 6 * i + 1)).toNatClampNeg) (upd ((upR S 0 0 (flR (S 0 0) (-1) 6)) 2 ((xs (1 + 6 * i + 1)).toNatClampNeg)) ((xs (1 + 6 * i + 2)).toNatClampNeg) (xs (1 + 6 * i + 3)))) 3 ((xs (1 + 6 * i + 1)).toNatClampNeg) (upd ((upR (upR S 0 0 (flR (S 0 0) (-1) 6)) 2 ((xs (1 + 6 * i + 1)).toNatClampNeg) (upd ((upR S 0 0 (flR (S 0 0) (-1) 6)) 2 ((xs (1 + 6 * i + 1)).toNatClampNeg)) ((xs (1 + 6 * i + 2)).toNatClampNeg) (xs (1 + 6 * i + 3)))) 3 ((xs (1 + 6 * i + 1)).toNatClampNeg)) ((xs (1 + 6 * i + 2)).toNatClampNeg) (((xs (1 + 6 * i + 3)) * (xs (1 + 6 * i + 4))) / (nI 1000)))) 5 3 (upd ((upR (upR (upR S 0 0 (flR (S 0 0) (-1) 6)) 2 ((xs (1 + 6 * i + 1)).toNatClampNeg) (upd ((upR S 0 0 (flR (S 0 0) (-1) 6)) 2 ((xs (1 + 6 * i + 1)).toNatClampNeg)) ((xs (1 + 6 * i + 2)).toNatClampNeg) (xs (1 + 6 * i + 3)))) 3 ((xs (1 + 6 * i + 1)).toNatClampNeg) (upd ((upR (upR S 0 0 (flR (S 0 0) (-1) 6)) 2 ((xs (1 + 6 * i + 1)).toNatClampNeg) (upd ((upR S 0 0 (flR (S 0 0) (-1) 6)) 2 ((xs (1 + 6 * i + 1)).toNatClampNeg)) ((xs (1 + 6 * i + 2)).toNatClampNeg) (xs (1 + 6 * i + 3)))) 3 ((xs (1 + 6 * i + 1)).toNatClampNeg)) ((xs (1 + 6 * i + 2)).toNatClampNeg) (((xs (1 + 6 * i + 3)) * (xs (1 + 6 * i + 4))) / (nI 1000)))) 5 3) (8 * ((xs (1 + 6 * i + 1)).toNatClampNeg) + ((xs (1 + 6 * i + 2)).toNatClampNeg)) (xs (1 + 6 * i + 3)))) 5 4) (8 * ((xs (1 + 6 * i + 1)).toNatClampNeg) + ((xs (1 + 6 * i + 2)).toNatClampNeg)) (xs (1 + 6 * i + 4)))) ((xs (1 + 6 * i + 1)).toNatClampNeg) ((xs (1 + 6 * i + 2)).toNatClampNeg)).toInt32)), (5, .int (nI 0)), (0, .ref (b)), (1, .ref (ad (0))), (2, .ref (ad (64))), (3, .ref (ad (69))), (4, .int (nI (1 + 6 * i)))]) hx hb d_L_law_406 hl (by decide) rfl (fun ls hl => ?_)
    refine lv_aload_n hx hb d_L_law_408 rfl (lv_at hl 4 rfl) ?_
    have hw := nw_W.as (wn' := mW ad tC n (va_up (va_up J 0 (nI 0)) 3 (nI 0)) bw2 L (obX ad tC n I (va_up K 0 (nI 0)) bw LA (bE tC (vp_updL o 0 (((((xs (1 + 6 * i + 3)) * (xs (1 + 6 * i + 4))) / (nI 1000))).toInt64)))) (arX tC n aE0) (upR (upR (upR (upR (upR S 0 0 (flR (S 0 0) (-1) 6)) 2 ((xs (1 + 6 * i + 1)).toNatClampNeg) (upd ((upR S 0 0 (flR (S 0 0) (-1) 6)) 2 ((xs (1 + 6 * i + 1)).toNatClampNeg)) ((xs (1 + 6 * i + 2)).toNatClampNeg) (xs (1 + 6 * i + 3)))) 3 ((xs (1 + 6 * i + 1)).toNatClampNeg) (upd ((upR (upR S 0 0 (flR (S 0 0) (-1) 6)) 2 ((xs (1 + 6 * i + 1)).toNatClampNeg) (upd ((upR S 0 0 (flR (S 0 0) (-1) 6)) 2 ((xs (1 + 6 * i + 1)).toNatClampNeg)) ((xs (1 + 6 * i + 2)).toNatClampNeg) (xs (1 + 6 * i + 3)))) 3 ((xs (1 + 6 * i + 1)).toNatClampNeg)) ((xs (1 + 6 * i + 2)).toNatClampNeg) (((xs (1 + 6 * i + 3)) * (xs (1 + 6 * i + 4))) / (nI 1000)))) 5 3 (upd ((upR (upR (upR S 0 0 (flR (S 0 0) (-1) 6)) 2 ((xs (1 + 6 * i + 1)).toNatClampNeg) (upd ((upR S 0 0 (flR (S 0 0) (-1) 6)) 2 ((xs (1 + 6 * i + 1)).toNatClampNeg)) ((xs (1 + 6 * i + 2)).toNatClampNeg) (xs (1 + 6 * i + 3)))) 3 ((xs (1 + 6 * i + 1)).toNatClampNeg) (upd ((upR (upR S 0 0 (flR (S 0 0) (-1) 6)) 2 ((xs (1 + 6 * i + 1)).toNatClampNeg) (upd ((upR S 0 0 (flR (S 0 0) (-1) 6)) 2 ((xs (1 + 6 * i + 1)).toNatClampNeg)) ((xs (1 + 6 * i + 2)).toNatClampNeg) (xs (1 + 6 * i + 3)))) 3 ((xs (1 + 6 * i + 1)).toNatClampNeg)) ((xs (1 + 6 * i + 2)).toNatClampNeg) (((xs (1 + 6 * i + 3)) * (xs (1 + 6 * i + 4))) / (nI 1000)))) 5 3) (8 * ((xs (1 + 6 * i + 1)).toNatClampNeg) + ((xs (1 + 6 * i + 2)).toNatClampNeg)) (xs (1 + 6 * i + 3)))) 5 4 (upd ((upR (upR (upR (upR S 0 0 (flR (S 0 0) (-1) 6)) 2 ((xs (1 + 6 * i + 1)).toNatClampNeg) (upd ((upR S 0 0 (flR (S 0 0) (-1) 6)) 2 ((xs (1 + 6 * i + 1)).toNatClampNeg)) ((xs (1 + 6 * i + 2)).toNatClampNeg) (xs (1 + 6 * i + 3)))) 3 ((xs (1 + 6 * i + 1)).toNatClampNeg) (upd ((upR (upR S 0 0 (flR (S 0 0) (-1) 6)) 2 ((xs (1 + 6 * i + 1)).toNatClampNeg) (upd ((upR S 0 0 (flR (S 0 0) (-1) 6)) 2 ((xs (1 + 6 * i + 1)).toNatClampNeg)) ((xs (1 + 6 * i + 2)).toNatClampNeg) (xs (1 + 6 * i + 3)))) 3 ((xs (1 + 6 * i + 1)).toNatClampNeg)) ((xs (1 + 6 * i + 2)).toNatClampNeg) (((xs (1 + 6 * i + 3)) * (xs (1 + 6 * i + 4))) / (nI 1000)))) 5 3 (upd ((upR (upR (upR S 0 0 (flR (S 0 0) (-1) 6)) 2 ((xs (1 + 6 * i + 1)).toNatClampNeg) (upd ((upR S 0 0 (flR (S 0 0) (-1) 6)) 2 ((xs (1 + 6 * i + 1)).toNatClampNeg)) ((xs (1 + 6 * i + 2)).toNatClampNeg) (xs (1 + 6 * i + 3)))) 3 ((xs (1 + 6 * i + 1)).toNatClampNeg) (upd ((upR (upR S 0 0 (flR (S 0 0) (-1) 6)) 2 ((xs (1 + 6 * i + 1)).toNatClampNeg) (upd ((upR S 0 0 (flR (S 0 0) (-1) 6)) 2 ((xs (1 + 6 * i + 1)).toNatClampNeg)) ((xs (1 + 6 * i + 2)).toNatClampNeg) (xs (1 + 6 * i + 3)))) 3 ((xs (1 + 6 * i + 1)).toNatClampNeg)) ((xs (1 + 6 * i + 2)).toNatClampNeg) (((xs (1 + 6 * i + 3)) * (xs (1 + 6 * i + 4))) / (nI 1000)))) 5 3) (8 * ((xs (1 + 6 * i + 1)).toNatClampNeg) + ((xs (1 + 6 * i + 2)).toNatClampNeg)) (xs (1 + 6 * i + 3)))) 5 4) (8 * ((xs (1 + 6 * i + 1)).toNatClampNeg) + ((xs (1 + 6 * i + 2)).toNatClampNeg)) (xs (1 + 6 * i + 4))))) hw cW_m.symm
    refine nw_call (nw_goV (n := 0) (As := []) (rest := []) hSx hA hKs hw hS (c_M_thrown l D tC A ad n (va_up (va_up J 0 (nI 0)) 3 (nI 0)) bw2 L (obX ad tC n I (va_up K 0 (nI 0)) bw LA (bE tC (vp_updL o 0 (((((xs (1 + 6 * i + 3)) * (xs (1 + 6 * i + 4))) / (nI 1000))).toInt64)))) (arX tC n aE0) (upR (upR (upR (upR (upR S 0 0 (flR (S 0 0) (-1) 6)) 2 ((xs (1 + 6 * i + 1)).toNatClampNeg) (upd ((upR S 0 0 (flR (S 0 0) (-1) 6)) 2 ((xs (1 + 6 * i + 1)).toNatClampNeg)) ((xs (1 + 6 * i + 2)).toNatClampNeg) (xs (1 + 6 * i + 3)))) 3 ((xs (1 + 6 * i + 1)).toNatClampNeg) (upd ((upR (upR S 0 0 (flR (S 0 0) (-1) 6)) 2 ((xs (1 + 6 * i + 1)).toNatClampNeg) (upd ((upR S 0 0 (flR (S 0 0) (-1) 6)) 2 ((xs (1 + 6 * i + 1)).toNatClampNeg)) ((xs (1 + 6 * i + 2)).toNatClampNeg) (xs (1 + 6 * i + 3)))) 3 ((xs (1 + 6 * i + 1)).toNatClampNeg)) ((xs (1 + 6 * i + 2)).toNatClampNeg) (((xs (1 + 6 * i + 3)) * (xs (1 + 6 * i + 4))) / (nI 1000)))) 5 3 (upd ((upR (upR (upR S 0 0 (flR (S 0 0) (-1) 6)) 2 ((xs (1 + 6 * i + 1)).toNatClampNeg) (upd ((upR S 0 0 (flR (S 0 0) (-1) 6)) 2 ((xs (1 + 6 * i + 1)).toNatClampNeg)) ((xs (1 + 6 * i + 2)).toNatClampNeg) (xs (1 + 6 * i + 3)))) 3 ((xs (1 + 6 * i + 1)).toNatClampNeg) (upd ((upR (upR S 0 0 (flR (S 0 0) (-1) 6)) 2 ((xs (1 + 6 * i + 1)).toNatClampNeg) (upd ((upR S 0 0 (flR (S 0 0) (-1) 6)) 2 ((xs (1 + 6 * i + 1)).toNatClampNeg)) ((xs (1 + 6 * i + 2)).toNatClampNeg) (xs (1 + 6 * i + 3)))) 3 ((xs (1 + 6 * i + 1)).toNatClampNeg)) ((xs (1 + 6 * i + 2)).toNatClampNeg) (((xs (1 + 6 * i + 3)) * (xs (1 + 6 * i + 4))) / (nI 1000)))) 5 3) (8 * ((xs (1 + 6 * i + 1)).toNatClampNeg) + ((xs (1 + 6 * i + 2)).toNatClampNeg)) (xs (1 + 6 * i + 3)))) 5 4 (upd ((upR (upR (upR (upR S 0 0 (flR (S 0 0) (-1) 6)) 2 ((xs (1 + 6 * i + 1)).toNatClampNeg) (upd ((upR S 0 0 (flR (S 0 0) (-1) 6)) 2 ((xs (1 + 6 * i + 1)).toNatClampNeg)) ((xs (1 + 6 * i + 2)).toNatClampNeg) (xs (1 + 6 * i + 3)))) 3 ((xs (1 + 6 * i + 1)).toNatClampNeg) (upd ((upR (upR S 0 0 (flR (S 0 0) (-1) 6)) 2 ((xs (1 + 6 * i + 1)).toNatClampNeg) (upd ((upR S 0 0 (flR (S 0 0) (-1) 6)) 2 ((xs (1 + 6 * i + 1)).toNatClampNeg)) ((xs (1 + 6 * i + 2)).toNatClampNeg) (xs (1 + 6 * i + 3)))) 3 ((xs (1 + 6 * i + 1)).toNatClampNeg)) ((xs (1 + 6 * i + 2)).toNatClampNeg) (((xs (1 + 6 * i + 3)) * (xs (1 + 6 * i + 4))) / (nI 1000)))) 5 3 (upd ((upR (upR (upR S 0 0 (flR (S 0 0) (-1) 6)) 2 ((xs (1 + 6 * i + 1)).toNatClampNeg) (upd ((upR S 0 0 (flR (S 0 0) (-1) 6)) 2 ((xs (1 + 6 * i + 1)).toNatClampNeg)) ((xs (1 + 6 * i + 2)).toNatClampNeg) (xs (1 + 6 * i + 3)))) 3 ((xs (1 + 6 * i + 1)).toNatClampNeg) (upd ((upR (upR S 0 0 (flR (S 0 0) (-1) 6)) 2 ((xs (1 + 6 * i + 1)).toNatClampNeg) (upd ((upR S 0 0 (flR (S 0 0) (-1) 6)) 2 ((xs (1 + 6 * i + 1)).toNatClampNeg)) ((xs (1 + 6 * i + 2)).toNatClampNeg) (xs (1 + 6 * i + 3)))) 3 ((xs (1 + 6 * i + 1)).toNatClampNeg)) ((xs (1 + 6 * i + 2)).toNatClampNeg) (((xs (1 + 6 * i + 3)) * (xs (1 + 6 * i + 4))) / (nI 1000)))) 5 3) (8 * ((xs (1 + 6 * i + 1)).toNatClampNeg) + ((xs (1 + 6 * i + 2)).toNatClampNeg)) (xs (1 + 6 * i + 3)))) 5 4) (8 * ((xs (1 + 6 * i + 1)).toNatClampNeg) + ((xs (1 + 6 * i + 2)).toNatClampNeg)) (xs (1 + 6 * i + 4)))) hN  ) kw_762 kw_759 kw_760 kw_761 kw_8 rfl rfl (by decide +kernel) ⟨Nat.le_of_ble_eq_true rfl, Nat.le_of_ble_eq_true rfl⟩ (nw_recv hK hw (mW_64) rfl) rfl hl.1 (Nat.le_of_ble_eq_true rfl) d_L_law_409 ⟨by show _ ≤ 669896; omega, by show _ ≤ 7086383; omega⟩) hS (fun rv wn' ad9 H locs hpost hw hS => ?_)
    obtain ⟨hv9, hwn9, had9⟩ := hpost
    subst hv9
    rw [hwn9, had9] at hw
    have hw := nw_W.as (wn' := cW ad tC n I (va_up K 0 (nI 0)) bw LA n (va_up (va_up J 0 (nI 0)) 3 (nI 0)) bw2 L (vp_updL o 0 (((((xs (1 + 6 * i + 3)) * (xs (1 + 6 * i + 4))) / (nI 1000))).toInt64)) (upR (upR (upR (upR (upR S 0 0 (flR (S 0 0) (-1) 6)) 2 ((xs (1 + 6 * i + 1)).toNatClampNeg) (upd ((upR S 0 0 (flR (S 0 0) (-1) 6)) 2 ((xs (1 + 6 * i + 1)).toNatClampNeg)) ((xs (1 + 6 * i + 2)).toNatClampNeg) (xs (1 + 6 * i + 3)))) 3 ((xs (1 + 6 * i + 1)).toNatClampNeg) (upd ((upR (upR S 0 0 (flR (S 0 0) (-1) 6)) 2 ((xs (1 + 6 * i + 1)).toNatClampNeg) (upd ((upR S 0 0 (flR (S 0 0) (-1) 6)) 2 ((xs (1 + 6 * i + 1)).toNatClampNeg)) ((xs (1 + 6 * i + 2)).toNatClampNeg) (xs (1 + 6 * i + 3)))) 3 ((xs (1 + 6 * i + 1)).toNatClampNeg)) ((xs (1 + 6 * i + 2)).toNatClampNeg) (((xs (1 + 6 * i + 3)) * (xs (1 + 6 * i + 4))) / (nI 1000)))) 5 3 (upd ((upR (upR (upR S 0 0 (flR (S 0 0) (-1) 6)) 2 ((xs (1 + 6 * i + 1)).toNatClampNeg) (upd ((upR S 0 0 (flR (S 0 0) (-1) 6)) 2 ((xs (1 + 6 * i + 1)).toNatClampNeg)) ((xs (1 + 6 * i + 2)).toNatClampNeg) (xs (1 + 6 * i + 3)))) 3 ((xs (1 + 6 * i + 1)).toNatClampNeg) (upd ((upR (upR S 0 0 (flR (S 0 0) (-1) 6)) 2 ((xs (1 + 6 * i + 1)).toNatClampNeg) (upd ((upR S 0 0 (flR (S 0 0) (-1) 6)) 2 ((xs (1 + 6 * i + 1)).toNatClampNeg)) ((xs (1 + 6 * i + 2)).toNatClampNeg) (xs (1 + 6 * i + 3)))) 3 ((xs (1 + 6 * i + 1)).toNatClampNeg)) ((xs (1 + 6 * i + 2)).toNatClampNeg) (((xs (1 + 6 * i + 3)) * (xs (1 + 6 * i + 4))) / (nI 1000)))) 5 3) (8 * ((xs (1 + 6 * i + 1)).toNatClampNeg) + ((xs (1 + 6 * i + 2)).toNatClampNeg)) (xs (1 + 6 * i + 3)))) 5 4 (upd ((upR (upR (upR (upR S 0 0 (flR (S 0 0) (-1) 6)) 2 ((xs (1 + 6 * i + 1)).toNatClampNeg) (upd ((upR S 0 0 (flR (S 0 0) (-1) 6)) 2 ((xs (1 + 6 * i + 1)).toNatClampNeg)) ((xs (1 + 6 * i + 2)).toNatClampNeg) (xs (1 + 6 * i + 3)))) 3 ((xs (1 + 6 * i + 1)).toNatClampNeg) (upd ((upR (upR S 0 0 (flR (S 0 0) (-1) 6)) 2 ((xs (1 + 6 * i + 1)).toNatClampNeg) (upd ((upR S 0 0 (flR (S 0 0) (-1) 6)) 2 ((xs (1 + 6 * i + 1)).toNatClampNeg)) ((xs (1 + 6 * i + 2)).toNatClampNeg) (xs (1 + 6 * i + 3)))) 3 ((xs (1 + 6 * i + 1)).toNatClampNeg)) ((xs (1 + 6 * i + 2)).toNatClampNeg) (((xs (1 + 6 * i + 3)) * (xs (1 + 6 * i + 4))) / (nI 1000)))) 5 3 (upd ((upR (upR (upR S 0 0 (flR (S 0 0) (-1) 6)) 2 ((xs (1 + 6 * i + 1)).toNatClampNeg) (upd ((upR S 0 0 (flR (S 0 0) (-1) 6)) 2 ((xs (1 + 6 * i + 1)).toNatClampNeg)) ((xs (1 + 6 * i + 2)).toNatClampNeg) (xs (1 + 6 * i + 3)))) 3 ((xs (1 + 6 * i + 1)).toNatClampNeg) (upd ((upR (upR S 0 0 (flR (S 0 0) (-1) 6)) 2 ((xs (1 + 6 * i + 1)).toNatClampNeg) (upd ((upR S 0 0 (flR (S 0 0) (-1) 6)) 2 ((xs (1 + 6 * i + 1)).toNatClampNeg)) ((xs (1 + 6 * i + 2)).toNatClampNeg) (xs (1 + 6 * i + 3)))) 3 ((xs (1 + 6 * i + 1)).toNatClampNeg)) ((xs (1 + 6 * i + 2)).toNatClampNeg) (((xs (1 + 6 * i + 3)) * (xs (1 + 6 * i + 4))) / (nI 1000)))) 5 3) (8 * ((xs (1 + 6 * i + 1)).toNatClampNeg) + ((xs (1 + 6 * i + 2)).toNatClampNeg)) (xs (1 + 6 * i + 3)))) 5 4) (8 * ((xs (1 + 6 * i + 1)).toNatClampNeg) + ((xs (1 + 6 * i + 2)).toNatClampNeg)) (xs (1 + 6 * i + 4))))) hw cW_m
    refine lv_ei (y := nI 0) rfl ?_
    refine lv_iload hx hb d_L_law_412 (lv_at hl 1 rfl) ?_
    refine lv_icmp_eq (tgt := 419) hx hb d_L_law_414 (by decide) (fun c_414 => ?_) (fun c_414 => ?_)
    · skip
      refine lv_iload hx hb d_L_law_419 (lv_at hl 1 rfl) ?_
      refine lv_if_ne (tgt := 436) hx hb d_L_law_421 (by decide) (fun c_421 => ?_) (fun c_421 => ?_)
      · skip
        first | exact absurd c_421 (by decide) | exact absurd (by decide) c_421
      · skip
        refine lv_aload_n hx hb d_L_law_424 rfl (lv_at hl 5 rfl) ?_
        refine lv_iconst (v := nI 0) hx hb d_L_law_425 (by decide) ?_
        refine nw_lald hx hb hK hw (69) 1 (cW_69) rfl (0) (rfl) (by omega) (by omega) d_L_law_426 ?_
        refine lv_iload hx hb d_L_law_427 (lv_at hl 0 rfl) ?_
        refine lv_i2l (v := (((kM (upR (upR (upR (upR (upR S 0 0 (flR (S 0 0) (-1) 6)) 2 ((xs (1 + 6 * i + 1)).toNatClampNeg) (upd ((upR S 0 0 (flR (S 0 0) (-1) 6)) 2 ((xs (1 + 6 * i + 1)).toNatClampNeg)) ((xs (1 + 6 * i + 2)).toNatClampNeg) (xs (1 + 6 * i + 3)))) 3 ((xs (1 + 6 * i + 1)).toNatClampNeg) (upd ((upR (upR S 0 0 (flR (S 0 0) (-1) 6)) 2 ((xs (1 + 6 * i + 1)).toNatClampNeg) (upd ((upR S 0 0 (flR (S 0 0) (-1) 6)) 2 ((xs (1 + 6 * i + 1)).toNatClampNeg)) ((xs (1 + 6 * i + 2)).toNatClampNeg) (xs (1 + 6 * i + 3)))) 3 ((xs (1 + 6 * i + 1)).toNatClampNeg)) ((xs (1 + 6 * i + 2)).toNatClampNeg) (((xs (1 + 6 * i + 3)) * (xs (1 + 6 * i + 4))) / (nI 1000)))) 5 3 (upd ((upR (upR (upR S 0 0 (flR (S 0 0) (-1) 6)) 2 ((xs (1 + 6 * i + 1)).toNatClampNeg) (upd ((upR S 0 0 (flR (S 0 0) (-1) 6)) 2 ((xs (1 + 6 * i + 1)).toNatClampNeg)) ((xs (1 + 6 * i + 2)).toNatClampNeg) (xs (1 + 6 * i + 3)))) 3 ((xs (1 + 6 * i + 1)).toNatClampNeg) (upd ((upR (upR S 0 0 (flR (S 0 0) (-1) 6)) 2 ((xs (1 + 6 * i + 1)).toNatClampNeg) (upd ((upR S 0 0 (flR (S 0 0) (-1) 6)) 2 ((xs (1 + 6 * i + 1)).toNatClampNeg)) ((xs (1 + 6 * i + 2)).toNatClampNeg) (xs (1 + 6 * i + 3)))) 3 ((xs (1 + 6 * i + 1)).toNatClampNeg)) ((xs (1 + 6 * i + 2)).toNatClampNeg) (((xs (1 + 6 * i + 3)) * (xs (1 + 6 * i + 4))) / (nI 1000)))) 5 3) (8 * ((xs (1 + 6 * i + 1)).toNatClampNeg) + ((xs (1 + 6 * i + 2)).toNatClampNeg)) (xs (1 + 6 * i + 3)))) 5 4 (upd ((upR (upR (upR (upR S 0 0 (flR (S 0 0) (-1) 6)) 2 ((xs (1 + 6 * i + 1)).toNatClampNeg) (upd ((upR S 0 0 (flR (S 0 0) (-1) 6)) 2 ((xs (1 + 6 * i + 1)).toNatClampNeg)) ((xs (1 + 6 * i + 2)).toNatClampNeg) (xs (1 + 6 * i + 3)))) 3 ((xs (1 + 6 * i + 1)).toNatClampNeg) (upd ((upR (upR S 0 0 (flR (S 0 0) (-1) 6)) 2 ((xs (1 + 6 * i + 1)).toNatClampNeg) (upd ((upR S 0 0 (flR (S 0 0) (-1) 6)) 2 ((xs (1 + 6 * i + 1)).toNatClampNeg)) ((xs (1 + 6 * i + 2)).toNatClampNeg) (xs (1 + 6 * i + 3)))) 3 ((xs (1 + 6 * i + 1)).toNatClampNeg)) ((xs (1 + 6 * i + 2)).toNatClampNeg) (((xs (1 + 6 * i + 3)) * (xs (1 + 6 * i + 4))) / (nI 1000)))) 5 3 (upd ((upR (upR (upR S 0 0 (flR (S 0 0) (-1) 6)) 2 ((xs (1 + 6 * i + 1)).toNatClampNeg) (upd ((upR S 0 0 (flR (S 0 0) (-1) 6)) 2 ((xs (1 + 6 * i + 1)).toNatClampNeg)) ((xs (1 + 6 * i + 2)).toNatClampNeg) (xs (1 + 6 * i + 3)))) 3 ((xs (1 + 6 * i + 1)).toNatClampNeg) (upd ((upR (upR S 0 0 (flR (S 0 0) (-1) 6)) 2 ((xs (1 + 6 * i + 1)).toNatClampNeg) (upd ((upR S 0 0 (flR (S 0 0) (-1) 6)) 2 ((xs (1 + 6 * i + 1)).toNatClampNeg)) ((xs (1 + 6 * i + 2)).toNatClampNeg) (xs (1 + 6 * i + 3)))) 3 ((xs (1 + 6 * i + 1)).toNatClampNeg)) ((xs (1 + 6 * i + 2)).toNatClampNeg) (((xs (1 + 6 * i + 3)) * (xs (1 + 6 * i + 4))) / (nI 1000)))) 5 3) (8 * ((xs (1 + 6 * i + 1)).toNatClampNeg) + ((xs (1 + 6 * i + 2)).toNatClampNeg)) (xs (1 + 6 * i + 3)))) 5 4) (8 * ((xs (1 + 6 * i + 1)).toNatClampNeg) + ((xs (1 + 6 * i + 2)).toNatClampNeg)) (xs (1 + 6 * i + 4)))) ((xs (1 + 6 * i + 1)).toNatClampNeg) ((xs (1 + 6 * i + 2)).toNatClampNeg)).toInt32).toInt64)) hx hb d_L_law_429 rfl ?_
        refine lv_el (y := ((vp_updL o 0 (((((xs (1 + 6 * i + 3)) * (xs (1 + 6 * i + 4))) / (nI 1000))).toInt64)) (0))) (congrArg Int32.toInt64 (LR_size hL (Classical.not_not.mp hnba).1 (Classical.not_not.mp hnba).2.1 (Classical.not_not.mp hnba).2.2.1 (Classical.not_not.mp hnba).2.2.2 rfl rfl).1.symm) ?_
        refine W.lcmp hx hb d_L_law_430 ?_
        refine lv_ei (y := nI 0) ((lg_cmp_eq _ _).mpr rfl) ?_
        refine lv_if_eq (tgt := 436) hx hb d_L_law_431 (by decide) (fun c_431 => ?_) (fun c_431 => ?_)
        · skip
          refine lv_goto (tgt := 1168) hx hb d_L_law_436 (by decide) ?_
          exact W.widen (by omega) (by omega) (hNext ad n I (va_up K 0 (nI 0)) bw LA (va_up (va_up J 0 (nI 0)) 3 (nI 0)) bw2 L (vp_updL o 0 (((((xs (1 + 6 * i + 3)) * (xs (1 + 6 * i + 4))) / (nI 1000))).toInt64)) (upR (upR (upR (upR (upR S 0 0 (flR (S 0 0) (-1) 6)) 2 ((xs (1 + 6 * i + 1)).toNatClampNeg) (upd ((upR S 0 0 (flR (S 0 0) (-1) 6)) 2 ((xs (1 + 6 * i + 1)).toNatClampNeg)) ((xs (1 + 6 * i + 2)).toNatClampNeg) (xs (1 + 6 * i + 3)))) 3 ((xs (1 + 6 * i + 1)).toNatClampNeg) (upd ((upR (upR S 0 0 (flR (S 0 0) (-1) 6)) 2 ((xs (1 + 6 * i + 1)).toNatClampNeg) (upd ((upR S 0 0 (flR (S 0 0) (-1) 6)) 2 ((xs (1 + 6 * i + 1)).toNatClampNeg)) ((xs (1 + 6 * i + 2)).toNatClampNeg) (xs (1 + 6 * i + 3)))) 3 ((xs (1 + 6 * i + 1)).toNatClampNeg)) ((xs (1 + 6 * i + 2)).toNatClampNeg) (((xs (1 + 6 * i + 3)) * (xs (1 + 6 * i + 4))) / (nI 1000)))) 5 3 (upd ((upR (upR (upR S 0 0 (flR (S 0 0) (-1) 6)) 2 ((xs (1 + 6 * i + 1)).toNatClampNeg) (upd ((upR S 0 0 (flR (S 0 0) (-1) 6)) 2 ((xs (1 + 6 * i + 1)).toNatClampNeg)) ((xs (1 + 6 * i + 2)).toNatClampNeg) (xs (1 + 6 * i + 3)))) 3 ((xs (1 + 6 * i + 1)).toNatClampNeg) (upd ((upR (upR S 0 0 (flR (S 0 0) (-1) 6)) 2 ((xs (1 + 6 * i + 1)).toNatClampNeg) (upd ((upR S 0 0 (flR (S 0 0) (-1) 6)) 2 ((xs (1 + 6 * i + 1)).toNatClampNeg)) ((xs (1 + 6 * i + 2)).toNatClampNeg) (xs (1 + 6 * i + 3)))) 3 ((xs (1 + 6 * i + 1)).toNatClampNeg)) ((xs (1 + 6 * i + 2)).toNatClampNeg) (((xs (1 + 6 * i + 3)) * (xs (1 + 6 * i + 4))) / (nI 1000)))) 5 3) (8 * ((xs (1 + 6 * i + 1)).toNatClampNeg) + ((xs (1 + 6 * i + 2)).toNatClampNeg)) (xs (1 + 6 * i + 3)))) 5 4 (upd ((upR (upR (upR (upR S 0 0 (flR (S 0 0) (-1) 6)) 2 ((xs (1 + 6 * i + 1)).toNatClampNeg) (upd ((upR S 0 0 (flR (S 0 0) (-1) 6)) 2 ((xs (1 + 6 * i + 1)).toNatClampNeg)) ((xs (1 + 6 * i + 2)).toNatClampNeg) (xs (1 + 6 * i + 3)))) 3 ((xs (1 + 6 * i + 1)).toNatClampNeg) (upd ((upR (upR S 0 0 (flR (S 0 0) (-1) 6)) 2 ((xs (1 + 6 * i + 1)).toNatClampNeg) (upd ((upR S 0 0 (flR (S 0 0) (-1) 6)) 2 ((xs (1 + 6 * i + 1)).toNatClampNeg)) ((xs (1 + 6 * i + 2)).toNatClampNeg) (xs (1 + 6 * i + 3)))) 3 ((xs (1 + 6 * i + 1)).toNatClampNeg)) ((xs (1 + 6 * i + 2)).toNatClampNeg) (((xs (1 + 6 * i + 3)) * (xs (1 + 6 * i + 4))) / (nI 1000)))) 5 3 (upd ((upR (upR (upR S 0 0 (flR (S 0 0) (-1) 6)) 2 ((xs (1 + 6 * i + 1)).toNatClampNeg) (upd ((upR S 0 0 (flR (S 0 0) (-1) 6)) 2 ((xs (1 + 6 * i + 1)).toNatClampNeg)) ((xs (1 + 6 * i + 2)).toNatClampNeg) (xs (1 + 6 * i + 3)))) 3 ((xs (1 + 6 * i + 1)).toNatClampNeg) (upd ((upR (upR S 0 0 (flR (S 0 0) (-1) 6)) 2 ((xs (1 + 6 * i + 1)).toNatClampNeg) (upd ((upR S 0 0 (flR (S 0 0) (-1) 6)) 2 ((xs (1 + 6 * i + 1)).toNatClampNeg)) ((xs (1 + 6 * i + 2)).toNatClampNeg) (xs (1 + 6 * i + 3)))) 3 ((xs (1 + 6 * i + 1)).toNatClampNeg)) ((xs (1 + 6 * i + 2)).toNatClampNeg) (((xs (1 + 6 * i + 3)) * (xs (1 + 6 * i + 4))) / (nI 1000)))) 5 3) (8 * ((xs (1 + 6 * i + 1)).toNatClampNeg) + ((xs (1 + 6 * i + 2)).toNatClampNeg)) (xs (1 + 6 * i + 3)))) 5 4) (8 * ((xs (1 + 6 * i + 1)).toNatClampNeg) + ((xs (1 + 6 * i + 2)).toNatClampNeg)) (xs (1 + 6 * i + 4)))) ((LR_size hL (Classical.not_not.mp hnba).1 (Classical.not_not.mp hnba).2.1 (Classical.not_not.mp hnba).2.2.1 (Classical.not_not.mp hnba).2.2.2 rfl rfl).2) _ _ ls hw hS (lv_sub hl [2, 3, 4, 5, 6] rfl))
        · skip
          first | exact absurd c_431 (by decide) | exact absurd (by decide) c_431
    · skip
      exact absurd rfl c_414

set_option maxHeartbeats 4000000 in
set_option maxRecDepth 100000 in
/-- case 6: plant -/
theorem law_6 {p : Program} {l : Launch} {e : Env} {s : State} {m : MethodId} {args : Array Value} {below : List Frame} {meth : Method} {cd : Code} {Q : State → Prop} {D : va_G} {tC : Nat → ClassId} {A : Nat → Prop} {b N : Nat} {xs : Nat → Int32} (hSx : CallFix p m cd b_L_law 8 s args nw_T "HarvestPlansLaw") (hA : ∀ q, s.heap.size ≤ q → A q) (hAs : ∀ q, A q → s.heap.size ≤ q) (hKs : nw_K D hpC (hpT tC) s) (hF : nx_F s) (hfl : l.stackTraces = false) (hX : va_X b N xs s s.heap) (hbl : b < s.heap.size) (hbA : ¬ A b) (hN3 : N ≤ 3073) {cc cs i : Nat} (hcc : cc + 12 ≤ 669896) (hcs : cs + 120 ≤ 7086383) (hi : 1 + 6 * i + 6 ≤ N) (hNext : ∀ (ad : Nat → Nat) (n : Nat → Nat) (I : Nat → Nat → Int32) (K : Nat → Int32) (bw : Int64) (LA : Nat → Int64) (J : Nat → Int32) (bw2 : Int64) (L : Nat → Nat → Int64) (o : Nat → Int64) (S : Nat → Nat → Nat → Int32), LR n I K J S → ∀ (H : Heap) (locs : List Loc) (ls : Array Slot), nw_W D hpC A (cW ad tC n I K bw LA n J bw2 L o S) ad H → va_S A s.heap H locs → lv_has ls 8 [(0, .ref (b)), (1, .ref (ad (0))), (2, .ref (ad (64))), (3, .ref (ad (69))), (4, .int (nI (1 + 6 * i)))] → W p l e room_1 s m args below meth cd H locs (cc + 12) (cs + 120) Q (F0 m 1168 ls [])) (ad : Nat → Nat) (n : Nat → Nat) (I : Nat → Nat → Int32) (K : Nat → Int32) (bw : Int64) (LA : Nat → Int64) (J : Nat → Int32) (bw2 : Int64) (L : Nat → Nat → Int64) (o : Nat → Int64) (S : Nat → Nat → Nat → Int32) (hL : LR n I K J S) (H : Heap) (locs : List Loc) (ls : Array Slot) (hw : nw_W D hpC A (cW ad tC n I K bw LA n J bw2 L o S) ad H) (hS : va_S A s.heap H locs) (hl : lv_has ls 8 [(0, .ref (b)), (1, .ref (ad (0))), (2, .ref (ad (64))), (3, .ref (ad (69))), (4, .int (nI (1 + 6 * i)))]) : W p l e room_1 s m args below meth cd H locs cc cs Q (F0 m 598 ls []) := by
  obtain ⟨hx, hb, hml, hown, hts⟩ := id hSx
  have hK := hKs.1
  have hB : nx_B s s := ⟨State.WarmedH.refl s, Nat.le_refl _, fun _ _ => rfl⟩
  obtain ⟨hm, ow, sq, hLx⟩ := id hL
  have hN : hpN n := hLx.1.1
  obtain ⟨hn0, hn0', hn1, hn2, hn3, hn4⟩ := id hN
  have hJK : J 3 = K 0 := hLx.2.2.1.1
  have hH : ∀ c, c < n 2 → I 2 c = nI (hm c) ∧ hm c < n 1 := fun c hc => ⟨hLx.2.1.1 c hc, (hLx.1.2.2.2.1 c hc).2.1⟩
  have hHm : ∀ c, c < n 2 → S 5 2 c = nI (hm c) ∧ hm c < n 1 := fun c hc => ⟨(hLx.1.2.2.2.1 c hc).1, (hLx.1.2.2.2.1 c hc).2.1⟩
  have hO : ∀ o, o < n 4 → I 4 o = nI (ow o) ∧ ow o < n 0 := fun o ho => ⟨(hLx.1.2.2.2.2.2.2.1 o ho).2.1, (hLx.1.2.2.2.2.2.2.1 o ho).2.2.1⟩
  have hSq : ∀ k, k < n 4 → S 0 1 k = nI (sq k) ∧ sq k < n 4 := fun k hk => ⟨hLx.2.1.2.1 k hk, hLx.1.2.2.2.2.2.2.2.1 k hk⟩
  have hSo : ∀ q, q < n 4 → ∃ j, j < n 4 ∧ sq j = q := hLx.1.2.2.2.2.2.2.2.2.1
  have hPl := ok_pl hLx
  obtain ⟨hz1, hz4, hz51, hz56⟩ := hLx.2.1.2.2.2
  refine lv_aload_n hx hb d_L_law_598 rfl (lv_at hl 1 rfl) ?_
  refine lv_aload_n hx hb d_L_law_599 rfl (lv_at hl 0 rfl) ?_
  refine lv_iload hx hb d_L_law_600 (lv_at hl 4 rfl) ?_
  refine lv_iconst (v := nI 1) hx hb d_L_law_602 (by decide) ?_
  refine lv_iadd hx hb d_L_law_603 ?_
  refine lv_ei (y := nI (1 + 6 * i + 1)) (nI_add _ _) ?_
  refine va_sld hx hb hX hbl hbA hS (vp_in_nI (by omega) (by omega)) d_L_law_604 ?_
  refine lv_ei (y := xs (1 + 6 * i + 1)) (by rw [nI_clamp (by omega)]) ?_
  refine lv_aload_n hx hb d_L_law_605 rfl (lv_at hl 0 rfl) ?_
  refine lv_iload hx hb d_L_law_606 (lv_at hl 4 rfl) ?_
  refine lv_iconst (v := nI 2) hx hb d_L_law_608 (by decide) ?_
  refine lv_iadd hx hb d_L_law_609 ?_
  refine lv_ei (y := nI (1 + 6 * i + 2)) (nI_add _ _) ?_
  refine va_sld hx hb hX hbl hbA hS (vp_in_nI (by omega) (by omega)) d_L_law_610 ?_
  refine lv_ei (y := xs (1 + 6 * i + 2)) (by rw [nI_clamp (by omega)]) ?_
  refine lv_aload_n hx hb d_L_law_611 rfl (lv_at hl 3 rfl) ?_
  refine nx_callC (nx_goW (n := 4) (As := [.ref (ad (0)), .int (xs (1 + 6 * i + 1)), .int (xs (1 + 6 * i + 2)), .ref (ad (69))]) (rest := []) hSx hA hKs hF hB hAs hw hS (w_plant l D tC A ad n I K bw LA n J bw2 L o S hN s hF hfl hAs (xs (1 + 6 * i + 1)) (xs (1 + 6 * i + 2)) ) kt_475 kw_473 kw_474 kw_0 rfl rfl (by decide +kernel) ⟨Nat.le_of_ble_eq_true rfl, Nat.le_of_ble_eq_true rfl⟩ rfl hl.1 (Nat.le_of_ble_eq_true rfl) d_L_law_612 ⟨by show _ ≤ 669896; omega, by show _ ≤ 7086383; omega⟩) hS (fun X wn' ad' H locs x cell hpost hw hS hcell hst hcls T' hT X0 => (lw_po_x hpost).elim) (fun rv wn' ad' H locs hpost hw hS => ?_)
  rcases lw_po_i hpost with ⟨hv, hba, hwn, had⟩ | ⟨hv, hnba, hbs, hwn, had⟩ | ⟨hv, hnba, hnbs, hG⟩
  · skip
    subst hv
    rw [hwn, had] at hw
    refine lv_istore (lv' := [(5, .int (nI 1)), (0, .ref (b)), (1, .ref (ad (0))), (2, .ref (ad (64))), (3, .ref (ad (69))), (4, .int (nI (1 + 6 * i)))]) hx hb d_L_law_615 hl (by decide) rfl (fun ls hl => ?_)
    refine lv_aload_n hx hb d_L_law_617 rfl (lv_at hl 3 rfl) ?_
    refine lv_aload_n hx hb d_L_law_618 rfl (lv_at hl 1 rfl) ?_
    refine lv_iload hx hb d_L_law_619 (lv_at hl 5 rfl) ?_
    refine lv_iconst (v := nI 1) hx hb d_L_law_621 (by decide) ?_
    refine lv_iadd hx hb d_L_law_622 ?_
    refine lv_ei (y := nI (1 + 6 * i + 1)) (nI_add _ _) ?_
    refine va_sld hx hb hX hbl hbA hS (vp_in_nI (by omega) (by omega)) d_L_law_623 ?_
    refine lv_ei (y := xs (1 + 6 * i + 1)) (by rw [nI_clamp (by omega)]) ?_
    refine lv_aload_n hx hb d_L_law_624 rfl (lv_at hl 1 rfl) ?_
    refine lv_iload hx hb d_L_law_625 (lv_at hl 5 rfl) ?_
    refine lv_iconst (v := nI 2) hx hb d_L_law_627 (by decide) ?_
    refine lv_iadd hx hb d_L_law_628 ?_
    refine lv_ei (y := nI (1 + 6 * i + 2)) (nI_add _ _) ?_
    refine va_sld hx hb hX hbl hbA hS (vp_in_nI (by omega) (by omega)) d_L_law_629 ?_
    refine lv_ei (y := xs (1 + 6 * i + 2)) (by rw [nI_clamp (by omega)]) ?_
    have hw := nw_W.as (wn' := mW ad tC n J bw2 L (obX ad tC n I K bw LA (bE tC o)) (arX tC n aE0) S) hw cW_m.symm
    refine nw_call (nw_goV (n := 2) (As := [.int (xs (1 + 6 * i + 1)), .int (xs (1 + 6 * i + 2))]) (rest := []) hSx hA hKs hw hS (c_M_plant l D tC A ad n J bw2 L (obX ad tC n I K bw LA (bE tC o)) (arX tC n aE0) S hN (xs (1 + 6 * i + 1)) (xs (1 + 6 * i + 2)) ) kw_805 kw_802 kw_803 kw_804 kw_8 rfl rfl (by decide +kernel) ⟨Nat.le_of_ble_eq_true rfl, Nat.le_of_ble_eq_true rfl⟩ (nw_recv hK hw (mW_64) rfl) rfl hl.1 (Nat.le_of_ble_eq_true rfl) d_L_law_630 ⟨by show _ ≤ 669896; omega, by show _ ≤ 7086383; omega⟩) hS (fun rv wn' ad9 H locs hpost hw hS => ?_)
    obtain ⟨had9, hmo⟩ := hpost
    rw [had9] at hw
    rcases hmo with ⟨hq1, hq2, hq3⟩ | ⟨hq1, _⟩ | ⟨hq1, _⟩
    rotate_left
    · exact absurd hba hq1
    · exact absurd hba hq1
    subst hq2
    rw [hq3] at hw
    have hw := nw_W.as (wn' := cW ad tC n I K bw LA n (va_up J 0 1) bw2 L o S) hw cW_m
    refine lv_istore (lv' := [(6, .int (nI 0)), (5, .int (nI 1)), (0, .ref (b)), (1, .ref (ad (0))), (2, .ref (ad (64))), (3, .ref (ad (69))), (4, .int (nI (1 + 6 * i)))]) hx hb d_L_law_633 hl (by decide) rfl (fun ls hl => ?_)
    refine lv_aload_n hx hb d_L_law_635 rfl (lv_at hl 4 rfl) ?_
    have hw := nw_W.as (wn' := mW ad tC n (va_up J 0 1) bw2 L (obX ad tC n I K bw LA (bE tC o)) (arX tC n aE0) S) hw cW_m.symm
    refine nw_call (nw_goV (n := 0) (As := []) (rest := []) hSx hA hKs hw hS (c_M_thrown l D tC A ad n (va_up J 0 1) bw2 L (obX ad tC n I K bw LA (bE tC o)) (arX tC n aE0) S hN  ) kw_762 kw_759 kw_760 kw_761 kw_8 rfl rfl (by decide +kernel) ⟨Nat.le_of_ble_eq_true rfl, Nat.le_of_ble_eq_true rfl⟩ (nw_recv hK hw (mW_64) rfl) rfl hl.1 (Nat.le_of_ble_eq_true rfl) d_L_law_636 ⟨by show _ ≤ 669896; omega, by show _ ≤ 7086383; omega⟩) hS (fun rv wn' ad9 H locs hpost hw hS => ?_)
    obtain ⟨hv9, hwn9, had9⟩ := hpost
    subst hv9
    rw [hwn9, had9] at hw
    have hw := nw_W.as (wn' := cW ad tC n I K bw LA n (va_up J 0 1) bw2 L o S) hw cW_m
    refine lv_ei (y := nI 1) rfl ?_
    refine lv_iload hx hb d_L_law_639 (lv_at hl 1 rfl) ?_
    refine lv_icmp_eq (tgt := 646) hx hb d_L_law_641 (by decide) (fun c_641 => ?_) (fun c_641 => ?_)
    · skip
      refine lv_iload hx hb d_L_law_646 (lv_at hl 1 rfl) ?_
      refine lv_if_ne (tgt := 663) hx hb d_L_law_648 (by decide) (fun c_648 => ?_) (fun c_648 => ?_)
      · skip
        refine lv_goto (tgt := 1168) hx hb d_L_law_663 (by decide) ?_
        exact W.widen (by omega) (by omega) (hNext ad n I K bw LA (va_up J 0 1) bw2 L o S (LR_thr hL) _ _ ls hw hS (lv_sub hl [2, 3, 4, 5, 6] rfl))
      · skip
        first | exact absurd c_648 (by decide) | exact absurd (by decide) c_648
    · skip
      exact absurd rfl c_641
  · skip
    subst hv
    exact absurd trivial hbs
  · skip
    subst hv
    obtain ⟨had, hwn⟩ := hG
    rw [hwn, had] at hw
    refine lv_istore (lv' := [(5, .int (nI 0)), (0, .ref (b)), (1, .ref (ad (0))), (2, .ref (ad (64))), (3, .ref (ad (69))), (4, .int (nI (1 + 6 * i)))]) hx hb d_L_law_615 hl (by decide) rfl (fun ls hl => ?_)
    refine lv_aload_n hx hb d_L_law_617 rfl (lv_at hl 3 rfl) ?_
    refine lv_aload_n hx hb d_L_law_618 rfl (lv_at hl 1 rfl) ?_
    refine lv_iload hx hb d_L_law_619 (lv_at hl 5 rfl) ?_
    refine lv_iconst (v := nI 1) hx hb d_L_law_621 (by decide) ?_
    refine lv_iadd hx hb d_L_law_622 ?_
    refine lv_ei (y := nI (1 + 6 * i + 1)) (nI_add _ _) ?_
    refine va_sld hx hb hX hbl hbA hS (vp_in_nI (by omega) (by omega)) d_L_law_623 ?_
    refine lv_ei (y := xs (1 + 6 * i + 1)) (by rw [nI_clamp (by omega)]) ?_
    refine lv_aload_n hx hb d_L_law_624 rfl (lv_at hl 1 rfl) ?_
    refine lv_iload hx hb d_L_law_625 (lv_at hl 5 rfl) ?_
    refine lv_iconst (v := nI 2) hx hb d_L_law_627 (by decide) ?_
    refine lv_iadd hx hb d_L_law_628 ?_
    refine lv_ei (y := nI (1 + 6 * i + 2)) (nI_add _ _) ?_
    refine va_sld hx hb hX hbl hbA hS (vp_in_nI (by omega) (by omega)) d_L_law_629 ?_
    refine lv_ei (y := xs (1 + 6 * i + 2)) (by rw [nI_clamp (by omega)]) ?_
    have hw := nw_W.as (wn' := mW ad tC n J bw2 L (obX ad tC n I (va_up K 0 (nI 0)) bw LA (bE tC (vp_updL o 0 (((upR S 0 0 (flR (S 0 0) (-1) 6)) 0 2 ((xs (1 + 6 * i + 1)).toNatClampNeg)).toInt64)))) (arX tC n aE0) (upR (upR S 0 0 (flR (S 0 0) (-1) 6)) 0 2 (upd ((upR S 0 0 (flR (S 0 0) (-1) 6)) 0 2) ((xs (1 + 6 * i + 1)).toNatClampNeg) (xs (1 + 6 * i + 2))))) hw cW_m.symm
    refine nw_call (nw_goV (n := 2) (As := [.int (xs (1 + 6 * i + 1)), .int (xs (1 + 6 * i + 2))]) (rest := []) hSx hA hKs hw hS (c_M_plant l D tC A ad n J bw2 L (obX ad tC n I (va_up K 0 (nI 0)) bw LA (bE tC (vp_updL o 0 (((upR S 0 0 (flR (S 0 0) (-1) 6)) 0 2 ((xs (1 + 6 * i + 1)).toNatClampNeg)).toInt64)))) (arX tC n aE0) (upR (upR S 0 0 (flR (S 0 0) (-1) 6)) 0 2 (upd ((upR S 0 0 (flR (S 0 0) (-1) 6)) 0 2) ((xs (1 + 6 * i + 1)).toNatClampNeg) (xs (1 + 6 * i + 2)))) hN (xs (1 + 6 * i + 1)) (xs (1 + 6 * i + 2)) ) kw_805 kw_802 kw_803 kw_804 kw_8 rfl rfl (by decide +kernel) ⟨Nat.le_of_ble_eq_true rfl, Nat.le_of_ble_eq_true rfl⟩ (nw_recv hK hw (mW_64) rfl) rfl hl.1 (Nat.le_of_ble_eq_true rfl) d_L_law_630 ⟨by show _ ≤ 669896; omega, by show _ ≤ 7086383; omega⟩) hS (fun rv wn' ad9 H locs hpost hw hS => ?_)
    obtain ⟨had9, hmo⟩ := hpost
    rw [had9] at hw
    rcases hmo with ⟨hq1, _⟩ | ⟨hq1, hq4, _⟩ | ⟨hq1, hq4, hGm⟩
    · exact absurd hq1 hnba
    · exact absurd hq4 hnbs
    obtain ⟨hv9, hw9⟩ := hGm
    subst hv9
    rw [hw9] at hw
    have hw := nw_W.as (wn' := cW ad tC n I (va_up K 0 (nI 0)) bw LA n (va_up (va_up J 0 (nI 0)) 3 (nI 0)) bw2 L (vp_updL o 0 (((upR S 0 0 (flR (S 0 0) (-1) 6)) 0 2 ((xs (1 + 6 * i + 1)).toNatClampNeg)).toInt64)) (upR (upR (upR S 0 0 (flR (S 0 0) (-1) 6)) 0 2 (upd ((upR S 0 0 (flR (S 0 0) (-1) 6)) 0 2) ((xs (1 + 6 * i + 1)).toNatClampNeg) (xs (1 + 6 * i + 2)))) 5 7 (upd ((upR (upR S 0 0 (flR (S 0 0) (-1) 6)) 0 2 (upd ((upR S 0 0 (flR (S 0 0) (-1) 6)) 0 2) ((xs (1 + 6 * i + 1)).toNatClampNeg) (xs (1 + 6 * i + 2)))) 5 7) ((xs (1 + 6 * i + 1)).toNatClampNeg) (xs (1 + 6 * i + 2))))) hw cW_m
    refine lv_istore (lv' := [(6, .int ((upR (upR S 0 0 (flR (S 0 0) (-1) 6)) 0 2 (upd ((upR S 0 0 (flR (S 0 0) (-1) 6)) 0 2) ((xs (1 + 6 * i + 1)).toNatClampNeg) (xs (1 + 6 * i + 2)))) 5 7 ((xs (1 + 6 * i + 1)).toNatClampNeg))), (5, .int (nI 0)), (0, .ref (b)), (1, .ref (ad (0))), (2, .ref (ad (64))), (3, .ref (ad (69))), (4, .int (nI (1 + 6 * i)))]) hx hb d_L_law_633 hl (by decide) rfl (fun ls hl => ?_)
    refine lv_aload_n hx hb d_L_law_635 rfl (lv_at hl 4 rfl) ?_
    have hw := nw_W.as (wn' := mW ad tC n (va_up (va_up J 0 (nI 0)) 3 (nI 0)) bw2 L (obX ad tC n I (va_up K 0 (nI 0)) bw LA (bE tC (vp_updL o 0 (((upR S 0 0 (flR (S 0 0) (-1) 6)) 0 2 ((xs (1 + 6 * i + 1)).toNatClampNeg)).toInt64)))) (arX tC n aE0) (upR (upR (upR S 0 0 (flR (S 0 0) (-1) 6)) 0 2 (upd ((upR S 0 0 (flR (S 0 0) (-1) 6)) 0 2) ((xs (1 + 6 * i + 1)).toNatClampNeg) (xs (1 + 6 * i + 2)))) 5 7 (upd ((upR (upR S 0 0 (flR (S 0 0) (-1) 6)) 0 2 (upd ((upR S 0 0 (flR (S 0 0) (-1) 6)) 0 2) ((xs (1 + 6 * i + 1)).toNatClampNeg) (xs (1 + 6 * i + 2)))) 5 7) ((xs (1 + 6 * i + 1)).toNatClampNeg) (xs (1 + 6 * i + 2))))) hw cW_m.symm
    refine nw_call (nw_goV (n := 0) (As := []) (rest := []) hSx hA hKs hw hS (c_M_thrown l D tC A ad n (va_up (va_up J 0 (nI 0)) 3 (nI 0)) bw2 L (obX ad tC n I (va_up K 0 (nI 0)) bw LA (bE tC (vp_updL o 0 (((upR S 0 0 (flR (S 0 0) (-1) 6)) 0 2 ((xs (1 + 6 * i + 1)).toNatClampNeg)).toInt64)))) (arX tC n aE0) (upR (upR (upR S 0 0 (flR (S 0 0) (-1) 6)) 0 2 (upd ((upR S 0 0 (flR (S 0 0) (-1) 6)) 0 2) ((xs (1 + 6 * i + 1)).toNatClampNeg) (xs (1 + 6 * i + 2)))) 5 7 (upd ((upR (upR S 0 0 (flR (S 0 0) (-1) 6)) 0 2 (upd ((upR S 0 0 (flR (S 0 0) (-1) 6)) 0 2) ((xs (1 + 6 * i + 1)).toNatClampNeg) (xs (1 + 6 * i + 2)))) 5 7) ((xs (1 + 6 * i + 1)).toNatClampNeg) (xs (1 + 6 * i + 2)))) hN  ) kw_762 kw_759 kw_760 kw_761 kw_8 rfl rfl (by decide +kernel) ⟨Nat.le_of_ble_eq_true rfl, Nat.le_of_ble_eq_true rfl⟩ (nw_recv hK hw (mW_64) rfl) rfl hl.1 (Nat.le_of_ble_eq_true rfl) d_L_law_636 ⟨by show _ ≤ 669896; omega, by show _ ≤ 7086383; omega⟩) hS (fun rv wn' ad9 H locs hpost hw hS => ?_)
    obtain ⟨hv9, hwn9, had9⟩ := hpost
    subst hv9
    rw [hwn9, had9] at hw
    have hw := nw_W.as (wn' := cW ad tC n I (va_up K 0 (nI 0)) bw LA n (va_up (va_up J 0 (nI 0)) 3 (nI 0)) bw2 L (vp_updL o 0 (((upR S 0 0 (flR (S 0 0) (-1) 6)) 0 2 ((xs (1 + 6 * i + 1)).toNatClampNeg)).toInt64)) (upR (upR (upR S 0 0 (flR (S 0 0) (-1) 6)) 0 2 (upd ((upR S 0 0 (flR (S 0 0) (-1) 6)) 0 2) ((xs (1 + 6 * i + 1)).toNatClampNeg) (xs (1 + 6 * i + 2)))) 5 7 (upd ((upR (upR S 0 0 (flR (S 0 0) (-1) 6)) 0 2 (upd ((upR S 0 0 (flR (S 0 0) (-1) 6)) 0 2) ((xs (1 + 6 * i + 1)).toNatClampNeg) (xs (1 + 6 * i + 2)))) 5 7) ((xs (1 + 6 * i + 1)).toNatClampNeg) (xs (1 + 6 * i + 2))))) hw cW_m
    refine lv_ei (y := nI 0) rfl ?_
    refine lv_iload hx hb d_L_law_639 (lv_at hl 1 rfl) ?_
    refine lv_icmp_eq (tgt := 646) hx hb d_L_law_641 (by decide) (fun c_641 => ?_) (fun c_641 => ?_)
    · skip
      refine lv_iload hx hb d_L_law_646 (lv_at hl 1 rfl) ?_
      refine lv_if_ne (tgt := 663) hx hb d_L_law_648 (by decide) (fun c_648 => ?_) (fun c_648 => ?_)
      · skip
        first | exact absurd c_648 (by decide) | exact absurd (by decide) c_648
      · skip
        refine lv_aload_n hx hb d_L_law_651 rfl (lv_at hl 5 rfl) ?_
        refine lv_iconst (v := nI 0) hx hb d_L_law_652 (by decide) ?_
        refine nw_lald hx hb hK hw (69) 1 (cW_69) rfl (0) (rfl) (by omega) (by omega) d_L_law_653 ?_
        refine lv_iload hx hb d_L_law_654 (lv_at hl 0 rfl) ?_
        refine lv_i2l (v := (((upR (upR S 0 0 (flR (S 0 0) (-1) 6)) 0 2 (upd ((upR S 0 0 (flR (S 0 0) (-1) 6)) 0 2) ((xs (1 + 6 * i + 1)).toNatClampNeg) (xs (1 + 6 * i + 2)))) 5 7 ((xs (1 + 6 * i + 1)).toNatClampNeg)).toInt64)) hx hb d_L_law_656 rfl ?_
        refine lv_el (y := ((vp_updL o 0 (((upR S 0 0 (flR (S 0 0) (-1) 6)) 0 2 ((xs (1 + 6 * i + 1)).toNatClampNeg)).toInt64)) (0))) (congrArg Int32.toInt64 (LR_plant hL (Classical.not_not.mp hnba).1 (Classical.not_not.mp hnba).2).1.symm) ?_
        refine W.lcmp hx hb d_L_law_657 ?_
        refine lv_ei (y := nI 0) ((lg_cmp_eq _ _).mpr rfl) ?_
        refine lv_if_eq (tgt := 663) hx hb d_L_law_658 (by decide) (fun c_658 => ?_) (fun c_658 => ?_)
        · skip
          refine lv_goto (tgt := 1168) hx hb d_L_law_663 (by decide) ?_
          exact W.widen (by omega) (by omega) (hNext ad n I (va_up K 0 (nI 0)) bw LA (va_up (va_up J 0 (nI 0)) 3 (nI 0)) bw2 L (vp_updL o 0 (((upR S 0 0 (flR (S 0 0) (-1) 6)) 0 2 ((xs (1 + 6 * i + 1)).toNatClampNeg)).toInt64)) (upR (upR (upR S 0 0 (flR (S 0 0) (-1) 6)) 0 2 (upd ((upR S 0 0 (flR (S 0 0) (-1) 6)) 0 2) ((xs (1 + 6 * i + 1)).toNatClampNeg) (xs (1 + 6 * i + 2)))) 5 7 (upd ((upR (upR S 0 0 (flR (S 0 0) (-1) 6)) 0 2 (upd ((upR S 0 0 (flR (S 0 0) (-1) 6)) 0 2) ((xs (1 + 6 * i + 1)).toNatClampNeg) (xs (1 + 6 * i + 2)))) 5 7) ((xs (1 + 6 * i + 1)).toNatClampNeg) (xs (1 + 6 * i + 2)))) ((LR_plant hL (Classical.not_not.mp hnba).1 (Classical.not_not.mp hnba).2).2) _ _ ls hw hS (lv_sub hl [2, 3, 4, 5, 6] rfl))
        · skip
          first | exact absurd c_658 (by decide) | exact absurd (by decide) c_658
    · skip
      exact absurd rfl c_641

set_option maxHeartbeats 4000000 in
set_option maxRecDepth 100000 in
/-- case 7: order -/
theorem law_7 {p : Program} {l : Launch} {e : Env} {s : State} {m : MethodId} {args : Array Value} {below : List Frame} {meth : Method} {cd : Code} {Q : State → Prop} {D : va_G} {tC : Nat → ClassId} {A : Nat → Prop} {b N : Nat} {xs : Nat → Int32} (hSx : CallFix p m cd b_L_law 8 s args nw_T "HarvestPlansLaw") (hA : ∀ q, s.heap.size ≤ q → A q) (hAs : ∀ q, A q → s.heap.size ≤ q) (hKs : nw_K D hpC (hpT tC) s) (hF : nx_F s) (hfl : l.stackTraces = false) (hX : va_X b N xs s s.heap) (hbl : b < s.heap.size) (hbA : ¬ A b) (hN3 : N ≤ 3073) {cc cs i : Nat} (hcc : cc + 12 ≤ 669896) (hcs : cs + 120 ≤ 7086383) (hi : 1 + 6 * i + 6 ≤ N) (hNext : ∀ (ad : Nat → Nat) (n : Nat → Nat) (I : Nat → Nat → Int32) (K : Nat → Int32) (bw : Int64) (LA : Nat → Int64) (J : Nat → Int32) (bw2 : Int64) (L : Nat → Nat → Int64) (o : Nat → Int64) (S : Nat → Nat → Nat → Int32), LR n I K J S → ∀ (H : Heap) (locs : List Loc) (ls : Array Slot), nw_W D hpC A (cW ad tC n I K bw LA n J bw2 L o S) ad H → va_S A s.heap H locs → lv_has ls 8 [(0, .ref (b)), (1, .ref (ad (0))), (2, .ref (ad (64))), (3, .ref (ad (69))), (4, .int (nI (1 + 6 * i)))] → W p l e room_1 s m args below meth cd H locs (cc + 12) (cs + 120) Q (F0 m 1168 ls [])) (ad : Nat → Nat) (n : Nat → Nat) (I : Nat → Nat → Int32) (K : Nat → Int32) (bw : Int64) (LA : Nat → Int64) (J : Nat → Int32) (bw2 : Int64) (L : Nat → Nat → Int64) (o : Nat → Int64) (S : Nat → Nat → Nat → Int32) (hL : LR n I K J S) (H : Heap) (locs : List Loc) (ls : Array Slot) (hw : nw_W D hpC A (cW ad tC n I K bw LA n J bw2 L o S) ad H) (hS : va_S A s.heap H locs) (hl : lv_has ls 8 [(0, .ref (b)), (1, .ref (ad (0))), (2, .ref (ad (64))), (3, .ref (ad (69))), (4, .int (nI (1 + 6 * i)))]) : W p l e room_1 s m args below meth cd H locs cc cs Q (F0 m 666 ls []) := by
  obtain ⟨hx, hb, hml, hown, hts⟩ := id hSx
  have hK := hKs.1
  have hB : nx_B s s := ⟨State.WarmedH.refl s, Nat.le_refl _, fun _ _ => rfl⟩
  obtain ⟨hm, ow, sq, hLx⟩ := id hL
  have hN : hpN n := hLx.1.1
  obtain ⟨hn0, hn0', hn1, hn2, hn3, hn4⟩ := id hN
  have hJK : J 3 = K 0 := hLx.2.2.1.1
  have hH : ∀ c, c < n 2 → I 2 c = nI (hm c) ∧ hm c < n 1 := fun c hc => ⟨hLx.2.1.1 c hc, (hLx.1.2.2.2.1 c hc).2.1⟩
  have hHm : ∀ c, c < n 2 → S 5 2 c = nI (hm c) ∧ hm c < n 1 := fun c hc => ⟨(hLx.1.2.2.2.1 c hc).1, (hLx.1.2.2.2.1 c hc).2.1⟩
  have hO : ∀ o, o < n 4 → I 4 o = nI (ow o) ∧ ow o < n 0 := fun o ho => ⟨(hLx.1.2.2.2.2.2.2.1 o ho).2.1, (hLx.1.2.2.2.2.2.2.1 o ho).2.2.1⟩
  have hSq : ∀ k, k < n 4 → S 0 1 k = nI (sq k) ∧ sq k < n 4 := fun k hk => ⟨hLx.2.1.2.1 k hk, hLx.1.2.2.2.2.2.2.2.1 k hk⟩
  have hSo : ∀ q, q < n 4 → ∃ j, j < n 4 ∧ sq j = q := hLx.1.2.2.2.2.2.2.2.2.1
  have hPl := ok_pl hLx
  obtain ⟨hz1, hz4, hz51, hz56⟩ := hLx.2.1.2.2.2
  refine lv_aload_n hx hb d_L_law_666 rfl (lv_at hl 1 rfl) ?_
  refine lv_aload_n hx hb d_L_law_667 rfl (lv_at hl 0 rfl) ?_
  refine lv_iload hx hb d_L_law_668 (lv_at hl 4 rfl) ?_
  refine lv_iconst (v := nI 1) hx hb d_L_law_670 (by decide) ?_
  refine lv_iadd hx hb d_L_law_671 ?_
  refine lv_ei (y := nI (1 + 6 * i + 1)) (nI_add _ _) ?_
  refine va_sld hx hb hX hbl hbA hS (vp_in_nI (by omega) (by omega)) d_L_law_672 ?_
  refine lv_ei (y := xs (1 + 6 * i + 1)) (by rw [nI_clamp (by omega)]) ?_
  refine lv_aload_n hx hb d_L_law_673 rfl (lv_at hl 0 rfl) ?_
  refine lv_iload hx hb d_L_law_674 (lv_at hl 4 rfl) ?_
  refine lv_iconst (v := nI 2) hx hb d_L_law_676 (by decide) ?_
  refine lv_iadd hx hb d_L_law_677 ?_
  refine lv_ei (y := nI (1 + 6 * i + 2)) (nI_add _ _) ?_
  refine va_sld hx hb hX hbl hbA hS (vp_in_nI (by omega) (by omega)) d_L_law_678 ?_
  refine lv_ei (y := xs (1 + 6 * i + 2)) (by rw [nI_clamp (by omega)]) ?_
  refine lv_aload_n hx hb d_L_law_679 rfl (lv_at hl 0 rfl) ?_
  refine lv_iload hx hb d_L_law_680 (lv_at hl 4 rfl) ?_
  refine lv_iconst (v := nI 3) hx hb d_L_law_682 (by decide) ?_
  refine lv_iadd hx hb d_L_law_683 ?_
  refine lv_ei (y := nI (1 + 6 * i + 3)) (nI_add _ _) ?_
  refine va_sld hx hb hX hbl hbA hS (vp_in_nI (by omega) (by omega)) d_L_law_684 ?_
  refine lv_ei (y := xs (1 + 6 * i + 3)) (by rw [nI_clamp (by omega)]) ?_
  refine lv_aload_n hx hb d_L_law_685 rfl (lv_at hl 0 rfl) ?_
  refine lv_iload hx hb d_L_law_686 (lv_at hl 4 rfl) ?_
  refine lv_iconst (v := nI 4) hx hb d_L_law_688 (by decide) ?_
  refine lv_iadd hx hb d_L_law_689 ?_
  refine lv_ei (y := nI (1 + 6 * i + 4)) (nI_add _ _) ?_
  refine va_sld hx hb hX hbl hbA hS (vp_in_nI (by omega) (by omega)) d_L_law_690 ?_
  refine lv_ei (y := xs (1 + 6 * i + 4)) (by rw [nI_clamp (by omega)]) ?_
  refine lv_aload_n hx hb d_L_law_691 rfl (lv_at hl 0 rfl) ?_
  refine lv_iload hx hb d_L_law_692 (lv_at hl 4 rfl) ?_
  refine lv_iconst (v := nI 5) hx hb d_L_law_694 (by decide) ?_
  refine lv_iadd hx hb d_L_law_695 ?_
  refine lv_ei (y := nI (1 + 6 * i + 5)) (nI_add _ _) ?_
  refine va_sld hx hb hX hbl hbA hS (vp_in_nI (by omega) (by omega)) d_L_law_696 ?_
  refine lv_ei (y := xs (1 + 6 * i + 5)) (by rw [nI_clamp (by omega)]) ?_
  refine lv_aload_n hx hb d_L_law_697 rfl (lv_at hl 3 rfl) ?_
  refine nx_callC (nx_goW (n := 7) (As := [.ref (ad (0)), .int (xs (1 + 6 * i + 1)), .int (xs (1 + 6 * i + 2)), .int (xs (1 + 6 * i + 3)), .int (xs (1 + 6 * i + 4)), .int (xs (1 + 6 * i + 5)), .ref (ad (69))]) (rest := []) hSx hA hKs hF hB hAs hw hS (w_order l D tC A ad n I K bw LA n J bw2 L o S hN s hF hfl hAs (xs (1 + 6 * i + 1)) (xs (1 + 6 * i + 2)) (xs (1 + 6 * i + 3)) (xs (1 + 6 * i + 4)) (xs (1 + 6 * i + 5)) sq hSq) kt_482 kw_480 kw_481 kw_0 rfl rfl (by decide +kernel) ⟨Nat.le_of_ble_eq_true rfl, Nat.le_of_ble_eq_true rfl⟩ rfl hl.1 (Nat.le_of_ble_eq_true rfl) d_L_law_698 ⟨by show _ ≤ 669896; omega, by show _ ≤ 7086383; omega⟩) hS (fun X wn' ad' H locs x cell hpost hw hS hcell hst hcls T' hT X0 => (lw_po_x hpost).elim) (fun rv wn' ad' H locs hpost hw hS => ?_)
  rcases lw_po_i hpost with ⟨hv, hba, hwn, had⟩ | ⟨hv, hnba, hbs, hwn, had⟩ | ⟨hv, hnba, hnbs, hG⟩
  · skip
    subst hv
    rw [hwn, had] at hw
    refine lv_istore (lv' := [(5, .int (nI 1)), (0, .ref (b)), (1, .ref (ad (0))), (2, .ref (ad (64))), (3, .ref (ad (69))), (4, .int (nI (1 + 6 * i)))]) hx hb d_L_law_701 hl (by decide) rfl (fun ls hl => ?_)
    refine lv_aload_n hx hb d_L_law_703 rfl (lv_at hl 3 rfl) ?_
    refine lv_aload_n hx hb d_L_law_704 rfl (lv_at hl 1 rfl) ?_
    refine lv_iload hx hb d_L_law_705 (lv_at hl 5 rfl) ?_
    refine lv_iconst (v := nI 1) hx hb d_L_law_707 (by decide) ?_
    refine lv_iadd hx hb d_L_law_708 ?_
    refine lv_ei (y := nI (1 + 6 * i + 1)) (nI_add _ _) ?_
    refine va_sld hx hb hX hbl hbA hS (vp_in_nI (by omega) (by omega)) d_L_law_709 ?_
    refine lv_ei (y := xs (1 + 6 * i + 1)) (by rw [nI_clamp (by omega)]) ?_
    refine lv_aload_n hx hb d_L_law_710 rfl (lv_at hl 1 rfl) ?_
    refine lv_iload hx hb d_L_law_711 (lv_at hl 5 rfl) ?_
    refine lv_iconst (v := nI 2) hx hb d_L_law_713 (by decide) ?_
    refine lv_iadd hx hb d_L_law_714 ?_
    refine lv_ei (y := nI (1 + 6 * i + 2)) (nI_add _ _) ?_
    refine va_sld hx hb hX hbl hbA hS (vp_in_nI (by omega) (by omega)) d_L_law_715 ?_
    refine lv_ei (y := xs (1 + 6 * i + 2)) (by rw [nI_clamp (by omega)]) ?_
    refine lv_aload_n hx hb d_L_law_716 rfl (lv_at hl 1 rfl) ?_
    refine lv_iload hx hb d_L_law_717 (lv_at hl 5 rfl) ?_
    refine lv_iconst (v := nI 3) hx hb d_L_law_719 (by decide) ?_
    refine lv_iadd hx hb d_L_law_720 ?_
    refine lv_ei (y := nI (1 + 6 * i + 3)) (nI_add _ _) ?_
    refine va_sld hx hb hX hbl hbA hS (vp_in_nI (by omega) (by omega)) d_L_law_721 ?_
    refine lv_ei (y := xs (1 + 6 * i + 3)) (by rw [nI_clamp (by omega)]) ?_
    refine lv_aload_n hx hb d_L_law_722 rfl (lv_at hl 1 rfl) ?_
    refine lv_iload hx hb d_L_law_723 (lv_at hl 5 rfl) ?_
    refine lv_iconst (v := nI 4) hx hb d_L_law_725 (by decide) ?_
    refine lv_iadd hx hb d_L_law_726 ?_
    refine lv_ei (y := nI (1 + 6 * i + 4)) (nI_add _ _) ?_
    refine va_sld hx hb hX hbl hbA hS (vp_in_nI (by omega) (by omega)) d_L_law_727 ?_
    refine lv_ei (y := xs (1 + 6 * i + 4)) (by rw [nI_clamp (by omega)]) ?_
    refine lv_aload_n hx hb d_L_law_728 rfl (lv_at hl 1 rfl) ?_
    refine lv_iload hx hb d_L_law_729 (lv_at hl 5 rfl) ?_
    refine lv_iconst (v := nI 5) hx hb d_L_law_731 (by decide) ?_
    refine lv_iadd hx hb d_L_law_732 ?_
    refine lv_ei (y := nI (1 + 6 * i + 5)) (nI_add _ _) ?_
    refine va_sld hx hb hX hbl hbA hS (vp_in_nI (by omega) (by omega)) d_L_law_733 ?_
    refine lv_ei (y := xs (1 + 6 * i + 5)) (by rw [nI_clamp (by omega)]) ?_
    have hw := nw_W.as (wn' := mW ad tC n J bw2 L (obX ad tC n I K bw LA (bE tC o)) (arX tC n aE0) S) hw cW_m.symm
    refine nw_call (nw_goV (n := 5) (As := [.int (xs (1 + 6 * i + 1)), .int (xs (1 + 6 * i + 2)), .int (xs (1 + 6 * i + 3)), .int (xs (1 + 6 * i + 4)), .int (xs (1 + 6 * i + 5))]) (rest := []) hSx hA hKs hw hS (c_M_order l D tC A ad n J bw2 L (obX ad tC n I K bw LA (bE tC o)) (arX tC n aE0) S hN (xs (1 + 6 * i + 1)) (xs (1 + 6 * i + 2)) (xs (1 + 6 * i + 3)) (xs (1 + 6 * i + 4)) (xs (1 + 6 * i + 5)) ) kw_809 kw_806 kw_807 kw_808 kw_8 rfl rfl (by decide +kernel) ⟨Nat.le_of_ble_eq_true rfl, Nat.le_of_ble_eq_true rfl⟩ (nw_recv hK hw (mW_64) rfl) rfl hl.1 (Nat.le_of_ble_eq_true rfl) d_L_law_734 ⟨by show _ ≤ 669896; omega, by show _ ≤ 7086383; omega⟩) hS (fun rv wn' ad9 H locs hpost hw hS => ?_)
    obtain ⟨had9, hmo⟩ := hpost
    rw [had9] at hw
    rcases hmo with ⟨hq1, hq2, hq3⟩ | ⟨hq1, _⟩ | ⟨hq1, _⟩
    rotate_left
    · exact absurd hba hq1
    · exact absurd hba hq1
    subst hq2
    rw [hq3] at hw
    have hw := nw_W.as (wn' := cW ad tC n I K bw LA n (va_up J 0 1) bw2 L o S) hw cW_m
    refine lv_istore (lv' := [(6, .int (nI 0)), (5, .int (nI 1)), (0, .ref (b)), (1, .ref (ad (0))), (2, .ref (ad (64))), (3, .ref (ad (69))), (4, .int (nI (1 + 6 * i)))]) hx hb d_L_law_737 hl (by decide) rfl (fun ls hl => ?_)
    refine lv_aload_n hx hb d_L_law_739 rfl (lv_at hl 4 rfl) ?_
    have hw := nw_W.as (wn' := mW ad tC n (va_up J 0 1) bw2 L (obX ad tC n I K bw LA (bE tC o)) (arX tC n aE0) S) hw cW_m.symm
    refine nw_call (nw_goV (n := 0) (As := []) (rest := []) hSx hA hKs hw hS (c_M_thrown l D tC A ad n (va_up J 0 1) bw2 L (obX ad tC n I K bw LA (bE tC o)) (arX tC n aE0) S hN  ) kw_762 kw_759 kw_760 kw_761 kw_8 rfl rfl (by decide +kernel) ⟨Nat.le_of_ble_eq_true rfl, Nat.le_of_ble_eq_true rfl⟩ (nw_recv hK hw (mW_64) rfl) rfl hl.1 (Nat.le_of_ble_eq_true rfl) d_L_law_740 ⟨by show _ ≤ 669896; omega, by show _ ≤ 7086383; omega⟩) hS (fun rv wn' ad9 H locs hpost hw hS => ?_)
    obtain ⟨hv9, hwn9, had9⟩ := hpost
    subst hv9
    rw [hwn9, had9] at hw
    have hw := nw_W.as (wn' := cW ad tC n I K bw LA n (va_up J 0 1) bw2 L o S) hw cW_m
    refine lv_ei (y := nI 1) rfl ?_
    refine lv_iload hx hb d_L_law_743 (lv_at hl 1 rfl) ?_
    refine lv_icmp_eq (tgt := 750) hx hb d_L_law_745 (by decide) (fun c_745 => ?_) (fun c_745 => ?_)
    · skip
      refine lv_iload hx hb d_L_law_750 (lv_at hl 1 rfl) ?_
      refine lv_if_ne (tgt := 767) hx hb d_L_law_752 (by decide) (fun c_752 => ?_) (fun c_752 => ?_)
      · skip
        refine lv_goto (tgt := 1168) hx hb d_L_law_767 (by decide) ?_
        exact W.widen (by omega) (by omega) (hNext ad n I K bw LA (va_up J 0 1) bw2 L o S (LR_thr hL) _ _ ls hw hS (lv_sub hl [2, 3, 4, 5, 6] rfl))
      · skip
        first | exact absurd c_752 (by decide) | exact absurd (by decide) c_752
    · skip
      exact absurd rfl c_745
  · skip
    subst hv
    rw [hwn, had] at hw
    refine lv_ei (y := nI 2) rfl ?_
    refine lv_istore (lv' := [(5, .int (nI 2)), (0, .ref (b)), (1, .ref (ad (0))), (2, .ref (ad (64))), (3, .ref (ad (69))), (4, .int (nI (1 + 6 * i)))]) hx hb d_L_law_701 hl (by decide) rfl (fun ls hl => ?_)
    refine lv_aload_n hx hb d_L_law_703 rfl (lv_at hl 3 rfl) ?_
    refine lv_aload_n hx hb d_L_law_704 rfl (lv_at hl 1 rfl) ?_
    refine lv_iload hx hb d_L_law_705 (lv_at hl 5 rfl) ?_
    refine lv_iconst (v := nI 1) hx hb d_L_law_707 (by decide) ?_
    refine lv_iadd hx hb d_L_law_708 ?_
    refine lv_ei (y := nI (1 + 6 * i + 1)) (nI_add _ _) ?_
    refine va_sld hx hb hX hbl hbA hS (vp_in_nI (by omega) (by omega)) d_L_law_709 ?_
    refine lv_ei (y := xs (1 + 6 * i + 1)) (by rw [nI_clamp (by omega)]) ?_
    refine lv_aload_n hx hb d_L_law_710 rfl (lv_at hl 1 rfl) ?_
    refine lv_iload hx hb d_L_law_711 (lv_at hl 5 rfl) ?_
    refine lv_iconst (v := nI 2) hx hb d_L_law_713 (by decide) ?_
    refine lv_iadd hx hb d_L_law_714 ?_
    refine lv_ei (y := nI (1 + 6 * i + 2)) (nI_add _ _) ?_
    refine va_sld hx hb hX hbl hbA hS (vp_in_nI (by omega) (by omega)) d_L_law_715 ?_
    refine lv_ei (y := xs (1 + 6 * i + 2)) (by rw [nI_clamp (by omega)]) ?_
    refine lv_aload_n hx hb d_L_law_716 rfl (lv_at hl 1 rfl) ?_
    refine lv_iload hx hb d_L_law_717 (lv_at hl 5 rfl) ?_
    refine lv_iconst (v := nI 3) hx hb d_L_law_719 (by decide) ?_
    refine lv_iadd hx hb d_L_law_720 ?_
    refine lv_ei (y := nI (1 + 6 * i + 3)) (nI_add _ _) ?_
    refine va_sld hx hb hX hbl hbA hS (vp_in_nI (by omega) (by omega)) d_L_law_721 ?_
    refine lv_ei (y := xs (1 + 6 * i + 3)) (by rw [nI_clamp (by omega)]) ?_
    refine lv_aload_n hx hb d_L_law_722 rfl (lv_at hl 1 rfl) ?_
    refine lv_iload hx hb d_L_law_723 (lv_at hl 5 rfl) ?_
    refine lv_iconst (v := nI 4) hx hb d_L_law_725 (by decide) ?_
    refine lv_iadd hx hb d_L_law_726 ?_
    refine lv_ei (y := nI (1 + 6 * i + 4)) (nI_add _ _) ?_
    refine va_sld hx hb hX hbl hbA hS (vp_in_nI (by omega) (by omega)) d_L_law_727 ?_
    refine lv_ei (y := xs (1 + 6 * i + 4)) (by rw [nI_clamp (by omega)]) ?_
    refine lv_aload_n hx hb d_L_law_728 rfl (lv_at hl 1 rfl) ?_
    refine lv_iload hx hb d_L_law_729 (lv_at hl 5 rfl) ?_
    refine lv_iconst (v := nI 5) hx hb d_L_law_731 (by decide) ?_
    refine lv_iadd hx hb d_L_law_732 ?_
    refine lv_ei (y := nI (1 + 6 * i + 5)) (nI_add _ _) ?_
    refine va_sld hx hb hX hbl hbA hS (vp_in_nI (by omega) (by omega)) d_L_law_733 ?_
    refine lv_ei (y := xs (1 + 6 * i + 5)) (by rw [nI_clamp (by omega)]) ?_
    have hw := nw_W.as (wn' := mW ad tC n J bw2 L (obX ad tC n I K bw LA (bE tC o)) (arX tC n aE0) S) hw cW_m.symm
    refine nw_call (nw_goV (n := 5) (As := [.int (xs (1 + 6 * i + 1)), .int (xs (1 + 6 * i + 2)), .int (xs (1 + 6 * i + 3)), .int (xs (1 + 6 * i + 4)), .int (xs (1 + 6 * i + 5))]) (rest := []) hSx hA hKs hw hS (c_M_order l D tC A ad n J bw2 L (obX ad tC n I K bw LA (bE tC o)) (arX tC n aE0) S hN (xs (1 + 6 * i + 1)) (xs (1 + 6 * i + 2)) (xs (1 + 6 * i + 3)) (xs (1 + 6 * i + 4)) (xs (1 + 6 * i + 5)) ) kw_809 kw_806 kw_807 kw_808 kw_8 rfl rfl (by decide +kernel) ⟨Nat.le_of_ble_eq_true rfl, Nat.le_of_ble_eq_true rfl⟩ (nw_recv hK hw (mW_64) rfl) rfl hl.1 (Nat.le_of_ble_eq_true rfl) d_L_law_734 ⟨by show _ ≤ 669896; omega, by show _ ≤ 7086383; omega⟩) hS (fun rv wn' ad9 H locs hpost hw hS => ?_)
    obtain ⟨had9, hmo⟩ := hpost
    rw [had9] at hw
    rcases hmo with ⟨hq1, _⟩ | ⟨hq1, hq4, hq2, hq3⟩ | ⟨hq1, hq4, _⟩
    · exact absurd hq1 hnba
    rotate_left
    · exact absurd hbs hq4
    subst hq2
    rw [hq3] at hw
    have hw := nw_W.as (wn' := cW ad tC n I K bw LA n (va_up J 0 2) bw2 L o S) hw cW_m
    refine lv_istore (lv' := [(6, .int (nI 0)), (5, .int (nI 2)), (0, .ref (b)), (1, .ref (ad (0))), (2, .ref (ad (64))), (3, .ref (ad (69))), (4, .int (nI (1 + 6 * i)))]) hx hb d_L_law_737 hl (by decide) rfl (fun ls hl => ?_)
    refine lv_aload_n hx hb d_L_law_739 rfl (lv_at hl 4 rfl) ?_
    have hw := nw_W.as (wn' := mW ad tC n (va_up J 0 2) bw2 L (obX ad tC n I K bw LA (bE tC o)) (arX tC n aE0) S) hw cW_m.symm
    refine nw_call (nw_goV (n := 0) (As := []) (rest := []) hSx hA hKs hw hS (c_M_thrown l D tC A ad n (va_up J 0 2) bw2 L (obX ad tC n I K bw LA (bE tC o)) (arX tC n aE0) S hN  ) kw_762 kw_759 kw_760 kw_761 kw_8 rfl rfl (by decide +kernel) ⟨Nat.le_of_ble_eq_true rfl, Nat.le_of_ble_eq_true rfl⟩ (nw_recv hK hw (mW_64) rfl) rfl hl.1 (Nat.le_of_ble_eq_true rfl) d_L_law_740 ⟨by show _ ≤ 669896; omega, by show _ ≤ 7086383; omega⟩) hS (fun rv wn' ad9 H locs hpost hw hS => ?_)
    obtain ⟨hv9, hwn9, had9⟩ := hpost
    subst hv9
    rw [hwn9, had9] at hw
    have hw := nw_W.as (wn' := cW ad tC n I K bw LA n (va_up J 0 2) bw2 L o S) hw cW_m
    refine lv_ei (y := nI 2) rfl ?_
    refine lv_iload hx hb d_L_law_743 (lv_at hl 1 rfl) ?_
    refine lv_icmp_eq (tgt := 750) hx hb d_L_law_745 (by decide) (fun c_745 => ?_) (fun c_745 => ?_)
    · skip
      refine lv_iload hx hb d_L_law_750 (lv_at hl 1 rfl) ?_
      refine lv_if_ne (tgt := 767) hx hb d_L_law_752 (by decide) (fun c_752 => ?_) (fun c_752 => ?_)
      · skip
        refine lv_goto (tgt := 1168) hx hb d_L_law_767 (by decide) ?_
        exact W.widen (by omega) (by omega) (hNext ad n I K bw LA (va_up J 0 2) bw2 L o S (LR_thr hL) _ _ ls hw hS (lv_sub hl [2, 3, 4, 5, 6] rfl))
      · skip
        exact absurd c_752 (by decide)
    · skip
      exact absurd rfl c_745
  · skip
    subst hv
    obtain ⟨hag, d, hd, g1, g2, hwn⟩ := hG
    rw [hwn] at hw
    obtain ⟨ha0, ha64, ha69⟩ := hag
    rw [← ha0, ← ha64, ← ha69] at hl
    refine lv_istore (lv' := [(5, .int (nI 0)), (0, .ref (b)), (1, .ref (ad' (0))), (2, .ref (ad' (64))), (3, .ref (ad' (69))), (4, .int (nI (1 + 6 * i)))]) hx hb d_L_law_701 hl (by decide) rfl (fun ls hl => ?_)
    refine lv_aload_n hx hb d_L_law_703 rfl (lv_at hl 3 rfl) ?_
    refine lv_aload_n hx hb d_L_law_704 rfl (lv_at hl 1 rfl) ?_
    refine lv_iload hx hb d_L_law_705 (lv_at hl 5 rfl) ?_
    refine lv_iconst (v := nI 1) hx hb d_L_law_707 (by decide) ?_
    refine lv_iadd hx hb d_L_law_708 ?_
    refine lv_ei (y := nI (1 + 6 * i + 1)) (nI_add _ _) ?_
    refine va_sld hx hb hX hbl hbA hS (vp_in_nI (by omega) (by omega)) d_L_law_709 ?_
    refine lv_ei (y := xs (1 + 6 * i + 1)) (by rw [nI_clamp (by omega)]) ?_
    refine lv_aload_n hx hb d_L_law_710 rfl (lv_at hl 1 rfl) ?_
    refine lv_iload hx hb d_L_law_711 (lv_at hl 5 rfl) ?_
    refine lv_iconst (v := nI 2) hx hb d_L_law_713 (by decide) ?_
    refine lv_iadd hx hb d_L_law_714 ?_
    refine lv_ei (y := nI (1 + 6 * i + 2)) (nI_add _ _) ?_
    refine va_sld hx hb hX hbl hbA hS (vp_in_nI (by omega) (by omega)) d_L_law_715 ?_
    refine lv_ei (y := xs (1 + 6 * i + 2)) (by rw [nI_clamp (by omega)]) ?_
    refine lv_aload_n hx hb d_L_law_716 rfl (lv_at hl 1 rfl) ?_
    refine lv_iload hx hb d_L_law_717 (lv_at hl 5 rfl) ?_
    refine lv_iconst (v := nI 3) hx hb d_L_law_719 (by decide) ?_
    refine lv_iadd hx hb d_L_law_720 ?_
    refine lv_ei (y := nI (1 + 6 * i + 3)) (nI_add _ _) ?_
    refine va_sld hx hb hX hbl hbA hS (vp_in_nI (by omega) (by omega)) d_L_law_721 ?_
    refine lv_ei (y := xs (1 + 6 * i + 3)) (by rw [nI_clamp (by omega)]) ?_
    refine lv_aload_n hx hb d_L_law_722 rfl (lv_at hl 1 rfl) ?_
    refine lv_iload hx hb d_L_law_723 (lv_at hl 5 rfl) ?_
    refine lv_iconst (v := nI 4) hx hb d_L_law_725 (by decide) ?_
    refine lv_iadd hx hb d_L_law_726 ?_
    refine lv_ei (y := nI (1 + 6 * i + 4)) (nI_add _ _) ?_
    refine va_sld hx hb hX hbl hbA hS (vp_in_nI (by omega) (by omega)) d_L_law_727 ?_
    refine lv_ei (y := xs (1 + 6 * i + 4)) (by rw [nI_clamp (by omega)]) ?_
    refine lv_aload_n hx hb d_L_law_728 rfl (lv_at hl 1 rfl) ?_
    refine lv_iload hx hb d_L_law_729 (lv_at hl 5 rfl) ?_
    refine lv_iconst (v := nI 5) hx hb d_L_law_731 (by decide) ?_
    refine lv_iadd hx hb d_L_law_732 ?_
    refine lv_ei (y := nI (1 + 6 * i + 5)) (nI_add _ _) ?_
    refine va_sld hx hb hX hbl hbA hS (vp_in_nI (by omega) (by omega)) d_L_law_733 ?_
    refine lv_ei (y := xs (1 + 6 * i + 5)) (by rw [nI_clamp (by omega)]) ?_
    have hw := nw_W.as (wn' := mW ad' tC n J bw2 L (obX ad' tC (va_up n 4 (n 4 + 1)) (adI I 4 8 (n 4) (v4 (xs (1 + 6 * i + 1)) (xs (1 + 6 * i + 2)) (xs (1 + 6 * i + 3)) (xs (1 + 6 * i + 4)) (xs (1 + 6 * i + 5)))) (va_up K 0 (nI 0)) bw LA (bE tC (vp_updL o 0 ((nI (n 4)).toInt64)))) (arX tC (va_up n 4 (n 4 + 1)) aE0) (upR (upR S 0 0 (flR (S 0 0) (-1) 6)) 0 1 (inF ((upR S 0 0 (flR (S 0 0) (-1) 6)) 0 1) (n 4) d))) hw cW_m.symm
    refine nw_call (nw_goV (n := 5) (As := [.int (xs (1 + 6 * i + 1)), .int (xs (1 + 6 * i + 2)), .int (xs (1 + 6 * i + 3)), .int (xs (1 + 6 * i + 4)), .int (xs (1 + 6 * i + 5))]) (rest := []) hSx hA hKs hw hS (c_M_order l D tC A ad' n J bw2 L (obX ad' tC (va_up n 4 (n 4 + 1)) (adI I 4 8 (n 4) (v4 (xs (1 + 6 * i + 1)) (xs (1 + 6 * i + 2)) (xs (1 + 6 * i + 3)) (xs (1 + 6 * i + 4)) (xs (1 + 6 * i + 5)))) (va_up K 0 (nI 0)) bw LA (bE tC (vp_updL o 0 ((nI (n 4)).toInt64)))) (arX tC (va_up n 4 (n 4 + 1)) aE0) (upR (upR S 0 0 (flR (S 0 0) (-1) 6)) 0 1 (inF ((upR S 0 0 (flR (S 0 0) (-1) 6)) 0 1) (n 4) d)) hN (xs (1 + 6 * i + 1)) (xs (1 + 6 * i + 2)) (xs (1 + 6 * i + 3)) (xs (1 + 6 * i + 4)) (xs (1 + 6 * i + 5)) ) kw_809 kw_806 kw_807 kw_808 kw_8 rfl rfl (by decide +kernel) ⟨Nat.le_of_ble_eq_true rfl, Nat.le_of_ble_eq_true rfl⟩ (nw_recv hK hw (mW_64) rfl) rfl hl.1 (Nat.le_of_ble_eq_true rfl) d_L_law_734 ⟨by show _ ≤ 669896; omega, by show _ ≤ 7086383; omega⟩) hS (fun rv wn' ad9 H locs hpost hw hS => ?_)
    obtain ⟨had9, hmo⟩ := hpost
    rw [had9] at hw
    rcases hmo with ⟨hq1, _⟩ | ⟨hq1, hq4, _⟩ | ⟨hq1, hq4, hGm⟩
    · exact absurd hq1 hnba
    · exact absurd hq4 hnbs
    obtain ⟨hv9, hw9⟩ := hGm
    subst hv9
    rw [hw9] at hw
    have hw := nw_W.as (wn' := cW ad' tC (va_up n 4 (n 4 + 1)) (adI I 4 8 (n 4) (v4 (xs (1 + 6 * i + 1)) (xs (1 + 6 * i + 2)) (xs (1 + 6 * i + 3)) (xs (1 + 6 * i + 4)) (xs (1 + 6 * i + 5)))) (va_up K 0 (nI 0)) bw LA (va_up n 4 (n 4 + 1)) (va_up (va_up J 0 (nI 0)) 3 (nI 0)) bw2 L (vp_updL o 0 ((nI (n 4)).toInt64)) (upR (upR (upR (upR (upR (upR (upR S 0 0 (flR (S 0 0) (-1) 6)) 0 1 (inF ((upR S 0 0 (flR (S 0 0) (-1) 6)) 0 1) (n 4) d)) 5 8 (upd ((upR (upR S 0 0 (flR (S 0 0) (-1) 6)) 0 1 (inF ((upR S 0 0 (flR (S 0 0) (-1) 6)) 0 1) (n 4) d)) 5 8) (n 4) (xs (1 + 6 * i + 1)))) 5 9 (upd ((upR (upR (upR S 0 0 (flR (S 0 0) (-1) 6)) 0 1 (inF ((upR S 0 0 (flR (S 0 0) (-1) 6)) 0 1) (n 4) d)) 5 8 (upd ((upR (upR S 0 0 (flR (S 0 0) (-1) 6)) 0 1 (inF ((upR S 0 0 (flR (S 0 0) (-1) 6)) 0 1) (n 4) d)) 5 8) (n 4) (xs (1 + 6 * i + 1)))) 5 9) (n 4) (xs (1 + 6 * i + 2)))) 5 10 (upd ((upR (upR (upR (upR S 0 0 (flR (S 0 0) (-1) 6)) 0 1 (inF ((upR S 0 0 (flR (S 0 0) (-1) 6)) 0 1) (n 4) d)) 5 8 (upd ((upR (upR S 0 0 (flR (S 0 0) (-1) 6)) 0 1 (inF ((upR S 0 0 (flR (S 0 0) (-1) 6)) 0 1) (n 4) d)) 5 8) (n 4) (xs (1 + 6 * i + 1)))) 5 9 (upd ((upR (upR (upR S 0 0 (flR (S 0 0) (-1) 6)) 0 1 (inF ((upR S 0 0 (flR (S 0 0) (-1) 6)) 0 1) (n 4) d)) 5 8 (upd ((upR (upR S 0 0 (flR (S 0 0) (-1) 6)) 0 1 (inF ((upR S 0 0 (flR (S 0 0) (-1) 6)) 0 1) (n 4) d)) 5 8) (n 4) (xs (1 + 6 * i + 1)))) 5 9) (n 4) (xs (1 + 6 * i + 2)))) 5 10) (n 4) (xs (1 + 6 * i + 3)))) 5 11 (upd ((upR (upR (upR (upR (upR S 0 0 (flR (S 0 0) (-1) 6)) 0 1 (inF ((upR S 0 0 (flR (S 0 0) (-1) 6)) 0 1) (n 4) d)) 5 8 (upd ((upR (upR S 0 0 (flR (S 0 0) (-1) 6)) 0 1 (inF ((upR S 0 0 (flR (S 0 0) (-1) 6)) 0 1) (n 4) d)) 5 8) (n 4) (xs (1 + 6 * i + 1)))) 5 9 (upd ((upR (upR (upR S 0 0 (flR (S 0 0) (-1) 6)) 0 1 (inF ((upR S 0 0 (flR (S 0 0) (-1) 6)) 0 1) (n 4) d)) 5 8 (upd ((upR (upR S 0 0 (flR (S 0 0) (-1) 6)) 0 1 (inF ((upR S 0 0 (flR (S 0 0) (-1) 6)) 0 1) (n 4) d)) 5 8) (n 4) (xs (1 + 6 * i + 1)))) 5 9) (n 4) (xs (1 + 6 * i + 2)))) 5 10 (upd ((upR (upR (upR (upR S 0 0 (flR (S 0 0) (-1) 6)) 0 1 (inF ((upR S 0 0 (flR (S 0 0) (-1) 6)) 0 1) (n 4) d)) 5 8 (upd ((upR (upR S 0 0 (flR (S 0 0) (-1) 6)) 0 1 (inF ((upR S 0 0 (flR (S 0 0) (-1) 6)) 0 1) (n 4) d)) 5 8) (n 4) (xs (1 + 6 * i + 1)))) 5 9 (upd ((upR (upR (upR S 0 0 (flR (S 0 0) (-1) 6)) 0 1 (inF ((upR S 0 0 (flR (S 0 0) (-1) 6)) 0 1) (n 4) d)) 5 8 (upd ((upR (upR S 0 0 (flR (S 0 0) (-1) 6)) 0 1 (inF ((upR S 0 0 (flR (S 0 0) (-1) 6)) 0 1) (n 4) d)) 5 8) (n 4) (xs (1 + 6 * i + 1)))) 5 9) (n 4) (xs (1 + 6 * i + 2)))) 5 10) (n 4) (xs (1 + 6 * i + 3)))) 5 11) (n 4) (xs (1 + 6 * i + 4)))) 5 12 (upd ((upR (upR (upR (upR (upR (upR S 0 0 (flR (S 0 0) (-1) 6)) 0 1 (inF ((upR S 0 0 (flR (S 0 0) (-1) 6)) 0 1) (n 4) d)) 5 8 (upd ((upR (upR S 0 0 (flR (S 0 0) (-1) 6)) 0 1 (inF ((upR S 0 0 (flR (S 0 0) (-1) 6)) 0 1) (n 4) d)) 5 8) (n 4) (xs (1 + 6 * i + 1)))) 5 9 (upd ((upR (upR (upR S 0 0 (flR (S 0 0) (-1) 6)) 0 1 (inF ((upR S 0 0 (flR (S 0 0) (-1) 6)) 0 1) (n 4) d)) 5 8 (upd ((upR (upR S 0 0 (flR (S 0 0) (-1) 6)) 0 1 (inF ((upR S 0 0 (flR (S 0 0) (-1) 6)) 0 1) (n 4) d)) 5 8) (n 4) (xs (1 + 6 * i + 1)))) 5 9) (n 4) (xs (1 + 6 * i + 2)))) 5 10 (upd ((upR (upR (upR (upR S 0 0 (flR (S 0 0) (-1) 6)) 0 1 (inF ((upR S 0 0 (flR (S 0 0) (-1) 6)) 0 1) (n 4) d)) 5 8 (upd ((upR (upR S 0 0 (flR (S 0 0) (-1) 6)) 0 1 (inF ((upR S 0 0 (flR (S 0 0) (-1) 6)) 0 1) (n 4) d)) 5 8) (n 4) (xs (1 + 6 * i + 1)))) 5 9 (upd ((upR (upR (upR S 0 0 (flR (S 0 0) (-1) 6)) 0 1 (inF ((upR S 0 0 (flR (S 0 0) (-1) 6)) 0 1) (n 4) d)) 5 8 (upd ((upR (upR S 0 0 (flR (S 0 0) (-1) 6)) 0 1 (inF ((upR S 0 0 (flR (S 0 0) (-1) 6)) 0 1) (n 4) d)) 5 8) (n 4) (xs (1 + 6 * i + 1)))) 5 9) (n 4) (xs (1 + 6 * i + 2)))) 5 10) (n 4) (xs (1 + 6 * i + 3)))) 5 11 (upd ((upR (upR (upR (upR (upR S 0 0 (flR (S 0 0) (-1) 6)) 0 1 (inF ((upR S 0 0 (flR (S 0 0) (-1) 6)) 0 1) (n 4) d)) 5 8 (upd ((upR (upR S 0 0 (flR (S 0 0) (-1) 6)) 0 1 (inF ((upR S 0 0 (flR (S 0 0) (-1) 6)) 0 1) (n 4) d)) 5 8) (n 4) (xs (1 + 6 * i + 1)))) 5 9 (upd ((upR (upR (upR S 0 0 (flR (S 0 0) (-1) 6)) 0 1 (inF ((upR S 0 0 (flR (S 0 0) (-1) 6)) 0 1) (n 4) d)) 5 8 (upd ((upR (upR S 0 0 (flR (S 0 0) (-1) 6)) 0 1 (inF ((upR S 0 0 (flR (S 0 0) (-1) 6)) 0 1) (n 4) d)) 5 8) (n 4) (xs (1 + 6 * i + 1)))) 5 9) (n 4) (xs (1 + 6 * i + 2)))) 5 10 (upd ((upR (upR (upR (upR S 0 0 (flR (S 0 0) (-1) 6)) 0 1 (inF ((upR S 0 0 (flR (S 0 0) (-1) 6)) 0 1) (n 4) d)) 5 8 (upd ((upR (upR S 0 0 (flR (S 0 0) (-1) 6)) 0 1 (inF ((upR S 0 0 (flR (S 0 0) (-1) 6)) 0 1) (n 4) d)) 5 8) (n 4) (xs (1 + 6 * i + 1)))) 5 9 (upd ((upR (upR (upR S 0 0 (flR (S 0 0) (-1) 6)) 0 1 (inF ((upR S 0 0 (flR (S 0 0) (-1) 6)) 0 1) (n 4) d)) 5 8 (upd ((upR (upR S 0 0 (flR (S 0 0) (-1) 6)) 0 1 (inF ((upR S 0 0 (flR (S 0 0) (-1) 6)) 0 1) (n 4) d)) 5 8) (n 4) (xs (1 + 6 * i + 1)))) 5 9) (n 4) (xs (1 + 6 * i + 2)))) 5 10) (n 4) (xs (1 + 6 * i + 3)))) 5 11) (n 4) (xs (1 + 6 * i + 4)))) 5 12) (n 4) (xs (1 + 6 * i + 5))))) hw cW_m
    have hLR9 := LR_order hLx (Classical.not_not.mp hnba).1 (Classical.not_not.mp hnba).2.1 (Classical.not_not.mp hnba).2.2.1 (Classical.not_not.mp hnba).2.2.2.1 (Classical.not_not.mp hnba).2.2.2.2 ((nI_ltI (by omega) (by omega)).mp (Classical.not_not.mp hnbs)) hd g1 g2 rfl rfl
    have hN2 : hpN (va_up n 4 (n 4 + 1)) := LR_N hLR9
    refine lv_istore (lv' := [(6, .int (nI (n 4))), (5, .int (nI 0)), (0, .ref (b)), (1, .ref (ad' (0))), (2, .ref (ad' (64))), (3, .ref (ad' (69))), (4, .int (nI (1 + 6 * i)))]) hx hb d_L_law_737 hl (by decide) rfl (fun ls hl => ?_)
    refine lv_aload_n hx hb d_L_law_739 rfl (lv_at hl 4 rfl) ?_
    have hw := nw_W.as (wn' := mW ad' tC (va_up n 4 (n 4 + 1)) (va_up (va_up J 0 (nI 0)) 3 (nI 0)) bw2 L (obX ad' tC (va_up n 4 (n 4 + 1)) (adI I 4 8 (n 4) (v4 (xs (1 + 6 * i + 1)) (xs (1 + 6 * i + 2)) (xs (1 + 6 * i + 3)) (xs (1 + 6 * i + 4)) (xs (1 + 6 * i + 5)))) (va_up K 0 (nI 0)) bw LA (bE tC (vp_updL o 0 ((nI (n 4)).toInt64)))) (arX tC (va_up n 4 (n 4 + 1)) aE0) (upR (upR (upR (upR (upR (upR (upR S 0 0 (flR (S 0 0) (-1) 6)) 0 1 (inF ((upR S 0 0 (flR (S 0 0) (-1) 6)) 0 1) (n 4) d)) 5 8 (upd ((upR (upR S 0 0 (flR (S 0 0) (-1) 6)) 0 1 (inF ((upR S 0 0 (flR (S 0 0) (-1) 6)) 0 1) (n 4) d)) 5 8) (n 4) (xs (1 + 6 * i + 1)))) 5 9 (upd ((upR (upR (upR S 0 0 (flR (S 0 0) (-1) 6)) 0 1 (inF ((upR S 0 0 (flR (S 0 0) (-1) 6)) 0 1) (n 4) d)) 5 8 (upd ((upR (upR S 0 0 (flR (S 0 0) (-1) 6)) 0 1 (inF ((upR S 0 0 (flR (S 0 0) (-1) 6)) 0 1) (n 4) d)) 5 8) (n 4) (xs (1 + 6 * i + 1)))) 5 9) (n 4) (xs (1 + 6 * i + 2)))) 5 10 (upd ((upR (upR (upR (upR S 0 0 (flR (S 0 0) (-1) 6)) 0 1 (inF ((upR S 0 0 (flR (S 0 0) (-1) 6)) 0 1) (n 4) d)) 5 8 (upd ((upR (upR S 0 0 (flR (S 0 0) (-1) 6)) 0 1 (inF ((upR S 0 0 (flR (S 0 0) (-1) 6)) 0 1) (n 4) d)) 5 8) (n 4) (xs (1 + 6 * i + 1)))) 5 9 (upd ((upR (upR (upR S 0 0 (flR (S 0 0) (-1) 6)) 0 1 (inF ((upR S 0 0 (flR (S 0 0) (-1) 6)) 0 1) (n 4) d)) 5 8 (upd ((upR (upR S 0 0 (flR (S 0 0) (-1) 6)) 0 1 (inF ((upR S 0 0 (flR (S 0 0) (-1) 6)) 0 1) (n 4) d)) 5 8) (n 4) (xs (1 + 6 * i + 1)))) 5 9) (n 4) (xs (1 + 6 * i + 2)))) 5 10) (n 4) (xs (1 + 6 * i + 3)))) 5 11 (upd ((upR (upR (upR (upR (upR S 0 0 (flR (S 0 0) (-1) 6)) 0 1 (inF ((upR S 0 0 (flR (S 0 0) (-1) 6)) 0 1) (n 4) d)) 5 8 (upd ((upR (upR S 0 0 (flR (S 0 0) (-1) 6)) 0 1 (inF ((upR S 0 0 (flR (S 0 0) (-1) 6)) 0 1) (n 4) d)) 5 8) (n 4) (xs (1 + 6 * i + 1)))) 5 9 (upd ((upR (upR (upR S 0 0 (flR (S 0 0) (-1) 6)) 0 1 (inF ((upR S 0 0 (flR (S 0 0) (-1) 6)) 0 1) (n 4) d)) 5 8 (upd ((upR (upR S 0 0 (flR (S 0 0) (-1) 6)) 0 1 (inF ((upR S 0 0 (flR (S 0 0) (-1) 6)) 0 1) (n 4) d)) 5 8) (n 4) (xs (1 + 6 * i + 1)))) 5 9) (n 4) (xs (1 + 6 * i + 2)))) 5 10 (upd ((upR (upR (upR (upR S 0 0 (flR (S 0 0) (-1) 6)) 0 1 (inF ((upR S 0 0 (flR (S 0 0) (-1) 6)) 0 1) (n 4) d)) 5 8 (upd ((upR (upR S 0 0 (flR (S 0 0) (-1) 6)) 0 1 (inF ((upR S 0 0 (flR (S 0 0) (-1) 6)) 0 1) (n 4) d)) 5 8) (n 4) (xs (1 + 6 * i + 1)))) 5 9 (upd ((upR (upR (upR S 0 0 (flR (S 0 0) (-1) 6)) 0 1 (inF ((upR S 0 0 (flR (S 0 0) (-1) 6)) 0 1) (n 4) d)) 5 8 (upd ((upR (upR S 0 0 (flR (S 0 0) (-1) 6)) 0 1 (inF ((upR S 0 0 (flR (S 0 0) (-1) 6)) 0 1) (n 4) d)) 5 8) (n 4) (xs (1 + 6 * i + 1)))) 5 9) (n 4) (xs (1 + 6 * i + 2)))) 5 10) (n 4) (xs (1 + 6 * i + 3)))) 5 11) (n 4) (xs (1 + 6 * i + 4)))) 5 12 (upd ((upR (upR (upR (upR (upR (upR S 0 0 (flR (S 0 0) (-1) 6)) 0 1 (inF ((upR S 0 0 (flR (S 0 0) (-1) 6)) 0 1) (n 4) d)) 5 8 (upd ((upR (upR S 0 0 (flR (S 0 0) (-1) 6)) 0 1 (inF ((upR S 0 0 (flR (S 0 0) (-1) 6)) 0 1) (n 4) d)) 5 8) (n 4) (xs (1 + 6 * i + 1)))) 5 9 (upd ((upR (upR (upR S 0 0 (flR (S 0 0) (-1) 6)) 0 1 (inF ((upR S 0 0 (flR (S 0 0) (-1) 6)) 0 1) (n 4) d)) 5 8 (upd ((upR (upR S 0 0 (flR (S 0 0) (-1) 6)) 0 1 (inF ((upR S 0 0 (flR (S 0 0) (-1) 6)) 0 1) (n 4) d)) 5 8) (n 4) (xs (1 + 6 * i + 1)))) 5 9) (n 4) (xs (1 + 6 * i + 2)))) 5 10 (upd ((upR (upR (upR (upR S 0 0 (flR (S 0 0) (-1) 6)) 0 1 (inF ((upR S 0 0 (flR (S 0 0) (-1) 6)) 0 1) (n 4) d)) 5 8 (upd ((upR (upR S 0 0 (flR (S 0 0) (-1) 6)) 0 1 (inF ((upR S 0 0 (flR (S 0 0) (-1) 6)) 0 1) (n 4) d)) 5 8) (n 4) (xs (1 + 6 * i + 1)))) 5 9 (upd ((upR (upR (upR S 0 0 (flR (S 0 0) (-1) 6)) 0 1 (inF ((upR S 0 0 (flR (S 0 0) (-1) 6)) 0 1) (n 4) d)) 5 8 (upd ((upR (upR S 0 0 (flR (S 0 0) (-1) 6)) 0 1 (inF ((upR S 0 0 (flR (S 0 0) (-1) 6)) 0 1) (n 4) d)) 5 8) (n 4) (xs (1 + 6 * i + 1)))) 5 9) (n 4) (xs (1 + 6 * i + 2)))) 5 10) (n 4) (xs (1 + 6 * i + 3)))) 5 11 (upd ((upR (upR (upR (upR (upR S 0 0 (flR (S 0 0) (-1) 6)) 0 1 (inF ((upR S 0 0 (flR (S 0 0) (-1) 6)) 0 1) (n 4) d)) 5 8 (upd ((upR (upR S 0 0 (flR (S 0 0) (-1) 6)) 0 1 (inF ((upR S 0 0 (flR (S 0 0) (-1) 6)) 0 1) (n 4) d)) 5 8) (n 4) (xs (1 + 6 * i + 1)))) 5 9 (upd ((upR (upR (upR S 0 0 (flR (S 0 0) (-1) 6)) 0 1 (inF ((upR S 0 0 (flR (S 0 0) (-1) 6)) 0 1) (n 4) d)) 5 8 (upd ((upR (upR S 0 0 (flR (S 0 0) (-1) 6)) 0 1 (inF ((upR S 0 0 (flR (S 0 0) (-1) 6)) 0 1) (n 4) d)) 5 8) (n 4) (xs (1 + 6 * i + 1)))) 5 9) (n 4) (xs (1 + 6 * i + 2)))) 5 10 (upd ((upR (upR (upR (upR S 0 0 (flR (S 0 0) (-1) 6)) 0 1 (inF ((upR S 0 0 (flR (S 0 0) (-1) 6)) 0 1) (n 4) d)) 5 8 (upd ((upR (upR S 0 0 (flR (S 0 0) (-1) 6)) 0 1 (inF ((upR S 0 0 (flR (S 0 0) (-1) 6)) 0 1) (n 4) d)) 5 8) (n 4) (xs (1 + 6 * i + 1)))) 5 9 (upd ((upR (upR (upR S 0 0 (flR (S 0 0) (-1) 6)) 0 1 (inF ((upR S 0 0 (flR (S 0 0) (-1) 6)) 0 1) (n 4) d)) 5 8 (upd ((upR (upR S 0 0 (flR (S 0 0) (-1) 6)) 0 1 (inF ((upR S 0 0 (flR (S 0 0) (-1) 6)) 0 1) (n 4) d)) 5 8) (n 4) (xs (1 + 6 * i + 1)))) 5 9) (n 4) (xs (1 + 6 * i + 2)))) 5 10) (n 4) (xs (1 + 6 * i + 3)))) 5 11) (n 4) (xs (1 + 6 * i + 4)))) 5 12) (n 4) (xs (1 + 6 * i + 5))))) hw cW_m.symm
    refine nw_call (nw_goV (n := 0) (As := []) (rest := []) hSx hA hKs hw hS (c_M_thrown l D tC A ad' (va_up n 4 (n 4 + 1)) (va_up (va_up J 0 (nI 0)) 3 (nI 0)) bw2 L (obX ad' tC (va_up n 4 (n 4 + 1)) (adI I 4 8 (n 4) (v4 (xs (1 + 6 * i + 1)) (xs (1 + 6 * i + 2)) (xs (1 + 6 * i + 3)) (xs (1 + 6 * i + 4)) (xs (1 + 6 * i + 5)))) (va_up K 0 (nI 0)) bw LA (bE tC (vp_updL o 0 ((nI (n 4)).toInt64)))) (arX tC (va_up n 4 (n 4 + 1)) aE0) (upR (upR (upR (upR (upR (upR (upR S 0 0 (flR (S 0 0) (-1) 6)) 0 1 (inF ((upR S 0 0 (flR (S 0 0) (-1) 6)) 0 1) (n 4) d)) 5 8 (upd ((upR (upR S 0 0 (flR (S 0 0) (-1) 6)) 0 1 (inF ((upR S 0 0 (flR (S 0 0) (-1) 6)) 0 1) (n 4) d)) 5 8) (n 4) (xs (1 + 6 * i + 1)))) 5 9 (upd ((upR (upR (upR S 0 0 (flR (S 0 0) (-1) 6)) 0 1 (inF ((upR S 0 0 (flR (S 0 0) (-1) 6)) 0 1) (n 4) d)) 5 8 (upd ((upR (upR S 0 0 (flR (S 0 0) (-1) 6)) 0 1 (inF ((upR S 0 0 (flR (S 0 0) (-1) 6)) 0 1) (n 4) d)) 5 8) (n 4) (xs (1 + 6 * i + 1)))) 5 9) (n 4) (xs (1 + 6 * i + 2)))) 5 10 (upd ((upR (upR (upR (upR S 0 0 (flR (S 0 0) (-1) 6)) 0 1 (inF ((upR S 0 0 (flR (S 0 0) (-1) 6)) 0 1) (n 4) d)) 5 8 (upd ((upR (upR S 0 0 (flR (S 0 0) (-1) 6)) 0 1 (inF ((upR S 0 0 (flR (S 0 0) (-1) 6)) 0 1) (n 4) d)) 5 8) (n 4) (xs (1 + 6 * i + 1)))) 5 9 (upd ((upR (upR (upR S 0 0 (flR (S 0 0) (-1) 6)) 0 1 (inF ((upR S 0 0 (flR (S 0 0) (-1) 6)) 0 1) (n 4) d)) 5 8 (upd ((upR (upR S 0 0 (flR (S 0 0) (-1) 6)) 0 1 (inF ((upR S 0 0 (flR (S 0 0) (-1) 6)) 0 1) (n 4) d)) 5 8) (n 4) (xs (1 + 6 * i + 1)))) 5 9) (n 4) (xs (1 + 6 * i + 2)))) 5 10) (n 4) (xs (1 + 6 * i + 3)))) 5 11 (upd ((upR (upR (upR (upR (upR S 0 0 (flR (S 0 0) (-1) 6)) 0 1 (inF ((upR S 0 0 (flR (S 0 0) (-1) 6)) 0 1) (n 4) d)) 5 8 (upd ((upR (upR S 0 0 (flR (S 0 0) (-1) 6)) 0 1 (inF ((upR S 0 0 (flR (S 0 0) (-1) 6)) 0 1) (n 4) d)) 5 8) (n 4) (xs (1 + 6 * i + 1)))) 5 9 (upd ((upR (upR (upR S 0 0 (flR (S 0 0) (-1) 6)) 0 1 (inF ((upR S 0 0 (flR (S 0 0) (-1) 6)) 0 1) (n 4) d)) 5 8 (upd ((upR (upR S 0 0 (flR (S 0 0) (-1) 6)) 0 1 (inF ((upR S 0 0 (flR (S 0 0) (-1) 6)) 0 1) (n 4) d)) 5 8) (n 4) (xs (1 + 6 * i + 1)))) 5 9) (n 4) (xs (1 + 6 * i + 2)))) 5 10 (upd ((upR (upR (upR (upR S 0 0 (flR (S 0 0) (-1) 6)) 0 1 (inF ((upR S 0 0 (flR (S 0 0) (-1) 6)) 0 1) (n 4) d)) 5 8 (upd ((upR (upR S 0 0 (flR (S 0 0) (-1) 6)) 0 1 (inF ((upR S 0 0 (flR (S 0 0) (-1) 6)) 0 1) (n 4) d)) 5 8) (n 4) (xs (1 + 6 * i + 1)))) 5 9 (upd ((upR (upR (upR S 0 0 (flR (S 0 0) (-1) 6)) 0 1 (inF ((upR S 0 0 (flR (S 0 0) (-1) 6)) 0 1) (n 4) d)) 5 8 (upd ((upR (upR S 0 0 (flR (S 0 0) (-1) 6)) 0 1 (inF ((upR S 0 0 (flR (S 0 0) (-1) 6)) 0 1) (n 4) d)) 5 8) (n 4) (xs (1 + 6 * i + 1)))) 5 9) (n 4) (xs (1 + 6 * i + 2)))) 5 10) (n 4) (xs (1 + 6 * i + 3)))) 5 11) (n 4) (xs (1 + 6 * i + 4)))) 5 12 (upd ((upR (upR (upR (upR (upR (upR S 0 0 (flR (S 0 0) (-1) 6)) 0 1 (inF ((upR S 0 0 (flR (S 0 0) (-1) 6)) 0 1) (n 4) d)) 5 8 (upd ((upR (upR S 0 0 (flR (S 0 0) (-1) 6)) 0 1 (inF ((upR S 0 0 (flR (S 0 0) (-1) 6)) 0 1) (n 4) d)) 5 8) (n 4) (xs (1 + 6 * i + 1)))) 5 9 (upd ((upR (upR (upR S 0 0 (flR (S 0 0) (-1) 6)) 0 1 (inF ((upR S 0 0 (flR (S 0 0) (-1) 6)) 0 1) (n 4) d)) 5 8 (upd ((upR (upR S 0 0 (flR (S 0 0) (-1) 6)) 0 1 (inF ((upR S 0 0 (flR (S 0 0) (-1) 6)) 0 1) (n 4) d)) 5 8) (n 4) (xs (1 + 6 * i + 1)))) 5 9) (n 4) (xs (1 + 6 * i + 2)))) 5 10 (upd ((upR (upR (upR (upR S 0 0 (flR (S 0 0) (-1) 6)) 0 1 (inF ((upR S 0 0 (flR (S 0 0) (-1) 6)) 0 1) (n 4) d)) 5 8 (upd ((upR (upR S 0 0 (flR (S 0 0) (-1) 6)) 0 1 (inF ((upR S 0 0 (flR (S 0 0) (-1) 6)) 0 1) (n 4) d)) 5 8) (n 4) (xs (1 + 6 * i + 1)))) 5 9 (upd ((upR (upR (upR S 0 0 (flR (S 0 0) (-1) 6)) 0 1 (inF ((upR S 0 0 (flR (S 0 0) (-1) 6)) 0 1) (n 4) d)) 5 8 (upd ((upR (upR S 0 0 (flR (S 0 0) (-1) 6)) 0 1 (inF ((upR S 0 0 (flR (S 0 0) (-1) 6)) 0 1) (n 4) d)) 5 8) (n 4) (xs (1 + 6 * i + 1)))) 5 9) (n 4) (xs (1 + 6 * i + 2)))) 5 10) (n 4) (xs (1 + 6 * i + 3)))) 5 11 (upd ((upR (upR (upR (upR (upR S 0 0 (flR (S 0 0) (-1) 6)) 0 1 (inF ((upR S 0 0 (flR (S 0 0) (-1) 6)) 0 1) (n 4) d)) 5 8 (upd ((upR (upR S 0 0 (flR (S 0 0) (-1) 6)) 0 1 (inF ((upR S 0 0 (flR (S 0 0) (-1) 6)) 0 1) (n 4) d)) 5 8) (n 4) (xs (1 + 6 * i + 1)))) 5 9 (upd ((upR (upR (upR S 0 0 (flR (S 0 0) (-1) 6)) 0 1 (inF ((upR S 0 0 (flR (S 0 0) (-1) 6)) 0 1) (n 4) d)) 5 8 (upd ((upR (upR S 0 0 (flR (S 0 0) (-1) 6)) 0 1 (inF ((upR S 0 0 (flR (S 0 0) (-1) 6)) 0 1) (n 4) d)) 5 8) (n 4) (xs (1 + 6 * i + 1)))) 5 9) (n 4) (xs (1 + 6 * i + 2)))) 5 10 (upd ((upR (upR (upR (upR S 0 0 (flR (S 0 0) (-1) 6)) 0 1 (inF ((upR S 0 0 (flR (S 0 0) (-1) 6)) 0 1) (n 4) d)) 5 8 (upd ((upR (upR S 0 0 (flR (S 0 0) (-1) 6)) 0 1 (inF ((upR S 0 0 (flR (S 0 0) (-1) 6)) 0 1) (n 4) d)) 5 8) (n 4) (xs (1 + 6 * i + 1)))) 5 9 (upd ((upR (upR (upR S 0 0 (flR (S 0 0) (-1) 6)) 0 1 (inF ((upR S 0 0 (flR (S 0 0) (-1) 6)) 0 1) (n 4) d)) 5 8 (upd ((upR (upR S 0 0 (flR (S 0 0) (-1) 6)) 0 1 (inF ((upR S 0 0 (flR (S 0 0) (-1) 6)) 0 1) (n 4) d)) 5 8) (n 4) (xs (1 + 6 * i + 1)))) 5 9) (n 4) (xs (1 + 6 * i + 2)))) 5 10) (n 4) (xs (1 + 6 * i + 3)))) 5 11) (n 4) (xs (1 + 6 * i + 4)))) 5 12) (n 4) (xs (1 + 6 * i + 5)))) hN2  ) kw_762 kw_759 kw_760 kw_761 kw_8 rfl rfl (by decide +kernel) ⟨Nat.le_of_ble_eq_true rfl, Nat.le_of_ble_eq_true rfl⟩ (nw_recv hK hw (mW_64) rfl) rfl hl.1 (Nat.le_of_ble_eq_true rfl) d_L_law_740 ⟨by show _ ≤ 669896; omega, by show _ ≤ 7086383; omega⟩) hS (fun rv wn' ad9 H locs hpost hw hS => ?_)
    obtain ⟨hv9, hwn9, had9⟩ := hpost
    subst hv9
    rw [hwn9, had9] at hw
    have hw := nw_W.as (wn' := cW ad' tC (va_up n 4 (n 4 + 1)) (adI I 4 8 (n 4) (v4 (xs (1 + 6 * i + 1)) (xs (1 + 6 * i + 2)) (xs (1 + 6 * i + 3)) (xs (1 + 6 * i + 4)) (xs (1 + 6 * i + 5)))) (va_up K 0 (nI 0)) bw LA (va_up n 4 (n 4 + 1)) (va_up (va_up J 0 (nI 0)) 3 (nI 0)) bw2 L (vp_updL o 0 ((nI (n 4)).toInt64)) (upR (upR (upR (upR (upR (upR (upR S 0 0 (flR (S 0 0) (-1) 6)) 0 1 (inF ((upR S 0 0 (flR (S 0 0) (-1) 6)) 0 1) (n 4) d)) 5 8 (upd ((upR (upR S 0 0 (flR (S 0 0) (-1) 6)) 0 1 (inF ((upR S 0 0 (flR (S 0 0) (-1) 6)) 0 1) (n 4) d)) 5 8) (n 4) (xs (1 + 6 * i + 1)))) 5 9 (upd ((upR (upR (upR S 0 0 (flR (S 0 0) (-1) 6)) 0 1 (inF ((upR S 0 0 (flR (S 0 0) (-1) 6)) 0 1) (n 4) d)) 5 8 (upd ((upR (upR S 0 0 (flR (S 0 0) (-1) 6)) 0 1 (inF ((upR S 0 0 (flR (S 0 0) (-1) 6)) 0 1) (n 4) d)) 5 8) (n 4) (xs (1 + 6 * i + 1)))) 5 9) (n 4) (xs (1 + 6 * i + 2)))) 5 10 (upd ((upR (upR (upR (upR S 0 0 (flR (S 0 0) (-1) 6)) 0 1 (inF ((upR S 0 0 (flR (S 0 0) (-1) 6)) 0 1) (n 4) d)) 5 8 (upd ((upR (upR S 0 0 (flR (S 0 0) (-1) 6)) 0 1 (inF ((upR S 0 0 (flR (S 0 0) (-1) 6)) 0 1) (n 4) d)) 5 8) (n 4) (xs (1 + 6 * i + 1)))) 5 9 (upd ((upR (upR (upR S 0 0 (flR (S 0 0) (-1) 6)) 0 1 (inF ((upR S 0 0 (flR (S 0 0) (-1) 6)) 0 1) (n 4) d)) 5 8 (upd ((upR (upR S 0 0 (flR (S 0 0) (-1) 6)) 0 1 (inF ((upR S 0 0 (flR (S 0 0) (-1) 6)) 0 1) (n 4) d)) 5 8) (n 4) (xs (1 + 6 * i + 1)))) 5 9) (n 4) (xs (1 + 6 * i + 2)))) 5 10) (n 4) (xs (1 + 6 * i + 3)))) 5 11 (upd ((upR (upR (upR (upR (upR S 0 0 (flR (S 0 0) (-1) 6)) 0 1 (inF ((upR S 0 0 (flR (S 0 0) (-1) 6)) 0 1) (n 4) d)) 5 8 (upd ((upR (upR S 0 0 (flR (S 0 0) (-1) 6)) 0 1 (inF ((upR S 0 0 (flR (S 0 0) (-1) 6)) 0 1) (n 4) d)) 5 8) (n 4) (xs (1 + 6 * i + 1)))) 5 9 (upd ((upR (upR (upR S 0 0 (flR (S 0 0) (-1) 6)) 0 1 (inF ((upR S 0 0 (flR (S 0 0) (-1) 6)) 0 1) (n 4) d)) 5 8 (upd ((upR (upR S 0 0 (flR (S 0 0) (-1) 6)) 0 1 (inF ((upR S 0 0 (flR (S 0 0) (-1) 6)) 0 1) (n 4) d)) 5 8) (n 4) (xs (1 + 6 * i + 1)))) 5 9) (n 4) (xs (1 + 6 * i + 2)))) 5 10 (upd ((upR (upR (upR (upR S 0 0 (flR (S 0 0) (-1) 6)) 0 1 (inF ((upR S 0 0 (flR (S 0 0) (-1) 6)) 0 1) (n 4) d)) 5 8 (upd ((upR (upR S 0 0 (flR (S 0 0) (-1) 6)) 0 1 (inF ((upR S 0 0 (flR (S 0 0) (-1) 6)) 0 1) (n 4) d)) 5 8) (n 4) (xs (1 + 6 * i + 1)))) 5 9 (upd ((upR (upR (upR S 0 0 (flR (S 0 0) (-1) 6)) 0 1 (inF ((upR S 0 0 (flR (S 0 0) (-1) 6)) 0 1) (n 4) d)) 5 8 (upd ((upR (upR S 0 0 (flR (S 0 0) (-1) 6)) 0 1 (inF ((upR S 0 0 (flR (S 0 0) (-1) 6)) 0 1) (n 4) d)) 5 8) (n 4) (xs (1 + 6 * i + 1)))) 5 9) (n 4) (xs (1 + 6 * i + 2)))) 5 10) (n 4) (xs (1 + 6 * i + 3)))) 5 11) (n 4) (xs (1 + 6 * i + 4)))) 5 12 (upd ((upR (upR (upR (upR (upR (upR S 0 0 (flR (S 0 0) (-1) 6)) 0 1 (inF ((upR S 0 0 (flR (S 0 0) (-1) 6)) 0 1) (n 4) d)) 5 8 (upd ((upR (upR S 0 0 (flR (S 0 0) (-1) 6)) 0 1 (inF ((upR S 0 0 (flR (S 0 0) (-1) 6)) 0 1) (n 4) d)) 5 8) (n 4) (xs (1 + 6 * i + 1)))) 5 9 (upd ((upR (upR (upR S 0 0 (flR (S 0 0) (-1) 6)) 0 1 (inF ((upR S 0 0 (flR (S 0 0) (-1) 6)) 0 1) (n 4) d)) 5 8 (upd ((upR (upR S 0 0 (flR (S 0 0) (-1) 6)) 0 1 (inF ((upR S 0 0 (flR (S 0 0) (-1) 6)) 0 1) (n 4) d)) 5 8) (n 4) (xs (1 + 6 * i + 1)))) 5 9) (n 4) (xs (1 + 6 * i + 2)))) 5 10 (upd ((upR (upR (upR (upR S 0 0 (flR (S 0 0) (-1) 6)) 0 1 (inF ((upR S 0 0 (flR (S 0 0) (-1) 6)) 0 1) (n 4) d)) 5 8 (upd ((upR (upR S 0 0 (flR (S 0 0) (-1) 6)) 0 1 (inF ((upR S 0 0 (flR (S 0 0) (-1) 6)) 0 1) (n 4) d)) 5 8) (n 4) (xs (1 + 6 * i + 1)))) 5 9 (upd ((upR (upR (upR S 0 0 (flR (S 0 0) (-1) 6)) 0 1 (inF ((upR S 0 0 (flR (S 0 0) (-1) 6)) 0 1) (n 4) d)) 5 8 (upd ((upR (upR S 0 0 (flR (S 0 0) (-1) 6)) 0 1 (inF ((upR S 0 0 (flR (S 0 0) (-1) 6)) 0 1) (n 4) d)) 5 8) (n 4) (xs (1 + 6 * i + 1)))) 5 9) (n 4) (xs (1 + 6 * i + 2)))) 5 10) (n 4) (xs (1 + 6 * i + 3)))) 5 11 (upd ((upR (upR (upR (upR (upR S 0 0 (flR (S 0 0) (-1) 6)) 0 1 (inF ((upR S 0 0 (flR (S 0 0) (-1) 6)) 0 1) (n 4) d)) 5 8 (upd ((upR (upR S 0 0 (flR (S 0 0) (-1) 6)) 0 1 (inF ((upR S 0 0 (flR (S 0 0) (-1) 6)) 0 1) (n 4) d)) 5 8) (n 4) (xs (1 + 6 * i + 1)))) 5 9 (upd ((upR (upR (upR S 0 0 (flR (S 0 0) (-1) 6)) 0 1 (inF ((upR S 0 0 (flR (S 0 0) (-1) 6)) 0 1) (n 4) d)) 5 8 (upd ((upR (upR S 0 0 (flR (S 0 0) (-1) 6)) 0 1 (inF ((upR S 0 0 (flR (S 0 0) (-1) 6)) 0 1) (n 4) d)) 5 8) (n 4) (xs (1 + 6 * i + 1)))) 5 9) (n 4) (xs (1 + 6 * i + 2)))) 5 10 (upd ((upR (upR (upR (upR S 0 0 (flR (S 0 0) (-1) 6)) 0 1 (inF ((upR S 0 0 (flR (S 0 0) (-1) 6)) 0 1) (n 4) d)) 5 8 (upd ((upR (upR S 0 0 (flR (S 0 0) (-1) 6)) 0 1 (inF ((upR S 0 0 (flR (S 0 0) (-1) 6)) 0 1) (n 4) d)) 5 8) (n 4) (xs (1 + 6 * i + 1)))) 5 9 (upd ((upR (upR (upR S 0 0 (flR (S 0 0) (-1) 6)) 0 1 (inF ((upR S 0 0 (flR (S 0 0) (-1) 6)) 0 1) (n 4) d)) 5 8 (upd ((upR (upR S 0 0 (flR (S 0 0) (-1) 6)) 0 1 (inF ((upR S 0 0 (flR (S 0 0) (-1) 6)) 0 1) (n 4) d)) 5 8) (n 4) (xs (1 + 6 * i + 1)))) 5 9) (n 4) (xs (1 + 6 * i + 2)))) 5 10) (n 4) (xs (1 + 6 * i + 3)))) 5 11) (n 4) (xs (1 + 6 * i + 4)))) 5 12) (n 4) (xs (1 + 6 * i + 5))))) hw cW_m
    refine lv_ei (y := nI 0) rfl ?_
    refine lv_iload hx hb d_L_law_743 (lv_at hl 1 rfl) ?_
    refine lv_icmp_eq (tgt := 750) hx hb d_L_law_745 (by decide) (fun c_745 => ?_) (fun c_745 => ?_)
    · skip
      refine lv_iload hx hb d_L_law_750 (lv_at hl 1 rfl) ?_
      refine lv_if_ne (tgt := 767) hx hb d_L_law_752 (by decide) (fun c_752 => ?_) (fun c_752 => ?_)
      · skip
        first | exact absurd c_752 (by decide) | exact absurd (by decide) c_752
      · skip
        refine lv_aload_n hx hb d_L_law_755 rfl (lv_at hl 5 rfl) ?_
        refine lv_iconst (v := nI 0) hx hb d_L_law_756 (by decide) ?_
        refine nw_lald hx hb hK hw (69) 1 (cW_69) rfl (0) (rfl) (by omega) (by omega) d_L_law_757 ?_
        refine lv_iload hx hb d_L_law_758 (lv_at hl 0 rfl) ?_
        refine lv_i2l (v := ((nI (n 4)).toInt64)) hx hb d_L_law_760 rfl ?_
        refine lv_el (y := ((vp_updL o 0 ((nI (n 4)).toInt64)) (0))) (rfl) ?_
        refine W.lcmp hx hb d_L_law_761 ?_
        refine lv_ei (y := nI 0) ((lg_cmp_eq _ _).mpr rfl) ?_
        refine lv_if_eq (tgt := 767) hx hb d_L_law_762 (by decide) (fun c_762 => ?_) (fun c_762 => ?_)
        · skip
          refine lv_goto (tgt := 1168) hx hb d_L_law_767 (by decide) ?_
          exact W.widen (by omega) (by omega) (hNext ad' (va_up n 4 (n 4 + 1)) (adI I 4 8 (n 4) (v4 (xs (1 + 6 * i + 1)) (xs (1 + 6 * i + 2)) (xs (1 + 6 * i + 3)) (xs (1 + 6 * i + 4)) (xs (1 + 6 * i + 5)))) (va_up K 0 (nI 0)) bw LA (va_up (va_up J 0 (nI 0)) 3 (nI 0)) bw2 L (vp_updL o 0 ((nI (n 4)).toInt64)) (upR (upR (upR (upR (upR (upR (upR S 0 0 (flR (S 0 0) (-1) 6)) 0 1 (inF ((upR S 0 0 (flR (S 0 0) (-1) 6)) 0 1) (n 4) d)) 5 8 (upd ((upR (upR S 0 0 (flR (S 0 0) (-1) 6)) 0 1 (inF ((upR S 0 0 (flR (S 0 0) (-1) 6)) 0 1) (n 4) d)) 5 8) (n 4) (xs (1 + 6 * i + 1)))) 5 9 (upd ((upR (upR (upR S 0 0 (flR (S 0 0) (-1) 6)) 0 1 (inF ((upR S 0 0 (flR (S 0 0) (-1) 6)) 0 1) (n 4) d)) 5 8 (upd ((upR (upR S 0 0 (flR (S 0 0) (-1) 6)) 0 1 (inF ((upR S 0 0 (flR (S 0 0) (-1) 6)) 0 1) (n 4) d)) 5 8) (n 4) (xs (1 + 6 * i + 1)))) 5 9) (n 4) (xs (1 + 6 * i + 2)))) 5 10 (upd ((upR (upR (upR (upR S 0 0 (flR (S 0 0) (-1) 6)) 0 1 (inF ((upR S 0 0 (flR (S 0 0) (-1) 6)) 0 1) (n 4) d)) 5 8 (upd ((upR (upR S 0 0 (flR (S 0 0) (-1) 6)) 0 1 (inF ((upR S 0 0 (flR (S 0 0) (-1) 6)) 0 1) (n 4) d)) 5 8) (n 4) (xs (1 + 6 * i + 1)))) 5 9 (upd ((upR (upR (upR S 0 0 (flR (S 0 0) (-1) 6)) 0 1 (inF ((upR S 0 0 (flR (S 0 0) (-1) 6)) 0 1) (n 4) d)) 5 8 (upd ((upR (upR S 0 0 (flR (S 0 0) (-1) 6)) 0 1 (inF ((upR S 0 0 (flR (S 0 0) (-1) 6)) 0 1) (n 4) d)) 5 8) (n 4) (xs (1 + 6 * i + 1)))) 5 9) (n 4) (xs (1 + 6 * i + 2)))) 5 10) (n 4) (xs (1 + 6 * i + 3)))) 5 11 (upd ((upR (upR (upR (upR (upR S 0 0 (flR (S 0 0) (-1) 6)) 0 1 (inF ((upR S 0 0 (flR (S 0 0) (-1) 6)) 0 1) (n 4) d)) 5 8 (upd ((upR (upR S 0 0 (flR (S 0 0) (-1) 6)) 0 1 (inF ((upR S 0 0 (flR (S 0 0) (-1) 6)) 0 1) (n 4) d)) 5 8) (n 4) (xs (1 + 6 * i + 1)))) 5 9 (upd ((upR (upR (upR S 0 0 (flR (S 0 0) (-1) 6)) 0 1 (inF ((upR S 0 0 (flR (S 0 0) (-1) 6)) 0 1) (n 4) d)) 5 8 (upd ((upR (upR S 0 0 (flR (S 0 0) (-1) 6)) 0 1 (inF ((upR S 0 0 (flR (S 0 0) (-1) 6)) 0 1) (n 4) d)) 5 8) (n 4) (xs (1 + 6 * i + 1)))) 5 9) (n 4) (xs (1 + 6 * i + 2)))) 5 10 (upd ((upR (upR (upR (upR S 0 0 (flR (S 0 0) (-1) 6)) 0 1 (inF ((upR S 0 0 (flR (S 0 0) (-1) 6)) 0 1) (n 4) d)) 5 8 (upd ((upR (upR S 0 0 (flR (S 0 0) (-1) 6)) 0 1 (inF ((upR S 0 0 (flR (S 0 0) (-1) 6)) 0 1) (n 4) d)) 5 8) (n 4) (xs (1 + 6 * i + 1)))) 5 9 (upd ((upR (upR (upR S 0 0 (flR (S 0 0) (-1) 6)) 0 1 (inF ((upR S 0 0 (flR (S 0 0) (-1) 6)) 0 1) (n 4) d)) 5 8 (upd ((upR (upR S 0 0 (flR (S 0 0) (-1) 6)) 0 1 (inF ((upR S 0 0 (flR (S 0 0) (-1) 6)) 0 1) (n 4) d)) 5 8) (n 4) (xs (1 + 6 * i + 1)))) 5 9) (n 4) (xs (1 + 6 * i + 2)))) 5 10) (n 4) (xs (1 + 6 * i + 3)))) 5 11) (n 4) (xs (1 + 6 * i + 4)))) 5 12 (upd ((upR (upR (upR (upR (upR (upR S 0 0 (flR (S 0 0) (-1) 6)) 0 1 (inF ((upR S 0 0 (flR (S 0 0) (-1) 6)) 0 1) (n 4) d)) 5 8 (upd ((upR (upR S 0 0 (flR (S 0 0) (-1) 6)) 0 1 (inF ((upR S 0 0 (flR (S 0 0) (-1) 6)) 0 1) (n 4) d)) 5 8) (n 4) (xs (1 + 6 * i + 1)))) 5 9 (upd ((upR (upR (upR S 0 0 (flR (S 0 0) (-1) 6)) 0 1 (inF ((upR S 0 0 (flR (S 0 0) (-1) 6)) 0 1) (n 4) d)) 5 8 (upd ((upR (upR S 0 0 (flR (S 0 0) (-1) 6)) 0 1 (inF ((upR S 0 0 (flR (S 0 0) (-1) 6)) 0 1) (n 4) d)) 5 8) (n 4) (xs (1 + 6 * i + 1)))) 5 9) (n 4) (xs (1 + 6 * i + 2)))) 5 10 (upd ((upR (upR (upR (upR S 0 0 (flR (S 0 0) (-1) 6)) 0 1 (inF ((upR S 0 0 (flR (S 0 0) (-1) 6)) 0 1) (n 4) d)) 5 8 (upd ((upR (upR S 0 0 (flR (S 0 0) (-1) 6)) 0 1 (inF ((upR S 0 0 (flR (S 0 0) (-1) 6)) 0 1) (n 4) d)) 5 8) (n 4) (xs (1 + 6 * i + 1)))) 5 9 (upd ((upR (upR (upR S 0 0 (flR (S 0 0) (-1) 6)) 0 1 (inF ((upR S 0 0 (flR (S 0 0) (-1) 6)) 0 1) (n 4) d)) 5 8 (upd ((upR (upR S 0 0 (flR (S 0 0) (-1) 6)) 0 1 (inF ((upR S 0 0 (flR (S 0 0) (-1) 6)) 0 1) (n 4) d)) 5 8) (n 4) (xs (1 + 6 * i + 1)))) 5 9) (n 4) (xs (1 + 6 * i + 2)))) 5 10) (n 4) (xs (1 + 6 * i + 3)))) 5 11 (upd ((upR (upR (upR (upR (upR S 0 0 (flR (S 0 0) (-1) 6)) 0 1 (inF ((upR S 0 0 (flR (S 0 0) (-1) 6)) 0 1) (n 4) d)) 5 8 (upd ((upR (upR S 0 0 (flR (S 0 0) (-1) 6)) 0 1 (inF ((upR S 0 0 (flR (S 0 0) (-1) 6)) 0 1) (n 4) d)) 5 8) (n 4) (xs (1 + 6 * i + 1)))) 5 9 (upd ((upR (upR (upR S 0 0 (flR (S 0 0) (-1) 6)) 0 1 (inF ((upR S 0 0 (flR (S 0 0) (-1) 6)) 0 1) (n 4) d)) 5 8 (upd ((upR (upR S 0 0 (flR (S 0 0) (-1) 6)) 0 1 (inF ((upR S 0 0 (flR (S 0 0) (-1) 6)) 0 1) (n 4) d)) 5 8) (n 4) (xs (1 + 6 * i + 1)))) 5 9) (n 4) (xs (1 + 6 * i + 2)))) 5 10 (upd ((upR (upR (upR (upR S 0 0 (flR (S 0 0) (-1) 6)) 0 1 (inF ((upR S 0 0 (flR (S 0 0) (-1) 6)) 0 1) (n 4) d)) 5 8 (upd ((upR (upR S 0 0 (flR (S 0 0) (-1) 6)) 0 1 (inF ((upR S 0 0 (flR (S 0 0) (-1) 6)) 0 1) (n 4) d)) 5 8) (n 4) (xs (1 + 6 * i + 1)))) 5 9 (upd ((upR (upR (upR S 0 0 (flR (S 0 0) (-1) 6)) 0 1 (inF ((upR S 0 0 (flR (S 0 0) (-1) 6)) 0 1) (n 4) d)) 5 8 (upd ((upR (upR S 0 0 (flR (S 0 0) (-1) 6)) 0 1 (inF ((upR S 0 0 (flR (S 0 0) (-1) 6)) 0 1) (n 4) d)) 5 8) (n 4) (xs (1 + 6 * i + 1)))) 5 9) (n 4) (xs (1 + 6 * i + 2)))) 5 10) (n 4) (xs (1 + 6 * i + 3)))) 5 11) (n 4) (xs (1 + 6 * i + 4)))) 5 12) (n 4) (xs (1 + 6 * i + 5)))) (hLR9) _ _ ls hw hS (lv_sub hl [2, 3, 4, 5, 6] rfl))
        · skip
          first | exact absurd c_762 (by decide) | exact absurd (by decide) c_762
    · skip
      exact absurd rfl c_745

set_option maxHeartbeats 4000000 in
set_option maxRecDepth 100000 in
/-- case 8: prices -/
theorem law_8 {p : Program} {l : Launch} {e : Env} {s : State} {m : MethodId} {args : Array Value} {below : List Frame} {meth : Method} {cd : Code} {Q : State → Prop} {D : va_G} {tC : Nat → ClassId} {A : Nat → Prop} {b N : Nat} {xs : Nat → Int32} (hSx : CallFix p m cd b_L_law 8 s args nw_T "HarvestPlansLaw") (hA : ∀ q, s.heap.size ≤ q → A q) (hAs : ∀ q, A q → s.heap.size ≤ q) (hKs : nw_K D hpC (hpT tC) s) (hF : nx_F s) (hfl : l.stackTraces = false) (hX : va_X b N xs s s.heap) (hbl : b < s.heap.size) (hbA : ¬ A b) (hN3 : N ≤ 3073) {cc cs i : Nat} (hcc : cc + 12 ≤ 669896) (hcs : cs + 120 ≤ 7086383) (hi : 1 + 6 * i + 6 ≤ N) (hNext : ∀ (ad : Nat → Nat) (n : Nat → Nat) (I : Nat → Nat → Int32) (K : Nat → Int32) (bw : Int64) (LA : Nat → Int64) (J : Nat → Int32) (bw2 : Int64) (L : Nat → Nat → Int64) (o : Nat → Int64) (S : Nat → Nat → Nat → Int32), LR n I K J S → ∀ (H : Heap) (locs : List Loc) (ls : Array Slot), nw_W D hpC A (cW ad tC n I K bw LA n J bw2 L o S) ad H → va_S A s.heap H locs → lv_has ls 8 [(0, .ref (b)), (1, .ref (ad (0))), (2, .ref (ad (64))), (3, .ref (ad (69))), (4, .int (nI (1 + 6 * i)))] → W p l e room_1 s m args below meth cd H locs (cc + 12) (cs + 120) Q (F0 m 1168 ls [])) (ad : Nat → Nat) (n : Nat → Nat) (I : Nat → Nat → Int32) (K : Nat → Int32) (bw : Int64) (LA : Nat → Int64) (J : Nat → Int32) (bw2 : Int64) (L : Nat → Nat → Int64) (o : Nat → Int64) (S : Nat → Nat → Nat → Int32) (hL : LR n I K J S) (H : Heap) (locs : List Loc) (ls : Array Slot) (hw : nw_W D hpC A (cW ad tC n I K bw LA n J bw2 L o S) ad H) (hS : va_S A s.heap H locs) (hl : lv_has ls 8 [(0, .ref (b)), (1, .ref (ad (0))), (2, .ref (ad (64))), (3, .ref (ad (69))), (4, .int (nI (1 + 6 * i)))]) : W p l e room_1 s m args below meth cd H locs cc cs Q (F0 m 770 ls []) := by
  obtain ⟨hx, hb, hml, hown, hts⟩ := id hSx
  have hK := hKs.1
  have hB : nx_B s s := ⟨State.WarmedH.refl s, Nat.le_refl _, fun _ _ => rfl⟩
  obtain ⟨hm, ow, sq, hLx⟩ := id hL
  have hN : hpN n := hLx.1.1
  obtain ⟨hn0, hn0', hn1, hn2, hn3, hn4⟩ := id hN
  have hJK : J 3 = K 0 := hLx.2.2.1.1
  have hH : ∀ c, c < n 2 → I 2 c = nI (hm c) ∧ hm c < n 1 := fun c hc => ⟨hLx.2.1.1 c hc, (hLx.1.2.2.2.1 c hc).2.1⟩
  have hHm : ∀ c, c < n 2 → S 5 2 c = nI (hm c) ∧ hm c < n 1 := fun c hc => ⟨(hLx.1.2.2.2.1 c hc).1, (hLx.1.2.2.2.1 c hc).2.1⟩
  have hO : ∀ o, o < n 4 → I 4 o = nI (ow o) ∧ ow o < n 0 := fun o ho => ⟨(hLx.1.2.2.2.2.2.2.1 o ho).2.1, (hLx.1.2.2.2.2.2.2.1 o ho).2.2.1⟩
  have hSq : ∀ k, k < n 4 → S 0 1 k = nI (sq k) ∧ sq k < n 4 := fun k hk => ⟨hLx.2.1.2.1 k hk, hLx.1.2.2.2.2.2.2.2.1 k hk⟩
  have hSo : ∀ q, q < n 4 → ∃ j, j < n 4 ∧ sq j = q := hLx.1.2.2.2.2.2.2.2.2.1
  have hPl := ok_pl hLx
  obtain ⟨hz1, hz4, hz51, hz56⟩ := hLx.2.1.2.2.2
  refine lv_aload_n hx hb d_L_law_770 rfl (lv_at hl 1 rfl) ?_
  refine lv_aload_n hx hb d_L_law_771 rfl (lv_at hl 0 rfl) ?_
  refine lv_iload hx hb d_L_law_772 (lv_at hl 4 rfl) ?_
  refine lv_iconst (v := nI 1) hx hb d_L_law_774 (by decide) ?_
  refine lv_iadd hx hb d_L_law_775 ?_
  refine lv_ei (y := nI (1 + 6 * i + 1)) (nI_add _ _) ?_
  refine va_sld hx hb hX hbl hbA hS (vp_in_nI (by omega) (by omega)) d_L_law_776 ?_
  refine lv_ei (y := xs (1 + 6 * i + 1)) (by rw [nI_clamp (by omega)]) ?_
  refine lv_aload_n hx hb d_L_law_777 rfl (lv_at hl 0 rfl) ?_
  refine lv_iload hx hb d_L_law_778 (lv_at hl 4 rfl) ?_
  refine lv_iconst (v := nI 2) hx hb d_L_law_780 (by decide) ?_
  refine lv_iadd hx hb d_L_law_781 ?_
  refine lv_ei (y := nI (1 + 6 * i + 2)) (nI_add _ _) ?_
  refine va_sld hx hb hX hbl hbA hS (vp_in_nI (by omega) (by omega)) d_L_law_782 ?_
  refine lv_ei (y := xs (1 + 6 * i + 2)) (by rw [nI_clamp (by omega)]) ?_
  refine nx_callC (nx_goW (n := 3) (As := [.ref (ad (0)), .int (xs (1 + 6 * i + 1)), .int (xs (1 + 6 * i + 2))]) (rest := []) hSx hA hKs hF hB hAs hw hS (w_prices l D tC A ad n I K bw LA n J bw2 L o S hN s hF hfl hAs (xs (1 + 6 * i + 1)) (xs (1 + 6 * i + 2)) ) kt_517 kw_515 kw_516 kw_0 rfl rfl (by decide +kernel) ⟨Nat.le_of_ble_eq_true rfl, Nat.le_of_ble_eq_true rfl⟩ rfl hl.1 (Nat.le_of_ble_eq_true rfl) d_L_law_783 ⟨by show _ ≤ 669896; omega, by show _ ≤ 7086383; omega⟩) hS (fun X wn' ad' H locs x cell hpost hw hS hcell hst hcls T' hT X0 => (lw_po_x hpost).elim) (fun rv wn' ad' H locs hpost hw hS => ?_)
  rcases lw_po_i hpost with ⟨hv, hba, hwn, had⟩ | ⟨hv, hnba, hbs, hwn, had⟩ | ⟨hv, hnba, hnbs, hG⟩
  · skip
    subst hv
    rw [hwn, had] at hw
    refine lv_istore (lv' := [(5, .int (nI 1)), (0, .ref (b)), (1, .ref (ad (0))), (2, .ref (ad (64))), (3, .ref (ad (69))), (4, .int (nI (1 + 6 * i)))]) hx hb d_L_law_786 hl (by decide) rfl (fun ls hl => ?_)
    refine lv_aload_n hx hb d_L_law_788 rfl (lv_at hl 3 rfl) ?_
    refine lv_aload_n hx hb d_L_law_789 rfl (lv_at hl 1 rfl) ?_
    refine lv_iload hx hb d_L_law_790 (lv_at hl 5 rfl) ?_
    refine lv_iconst (v := nI 1) hx hb d_L_law_792 (by decide) ?_
    refine lv_iadd hx hb d_L_law_793 ?_
    refine lv_ei (y := nI (1 + 6 * i + 1)) (nI_add _ _) ?_
    refine va_sld hx hb hX hbl hbA hS (vp_in_nI (by omega) (by omega)) d_L_law_794 ?_
    refine lv_ei (y := xs (1 + 6 * i + 1)) (by rw [nI_clamp (by omega)]) ?_
    refine lv_aload_n hx hb d_L_law_795 rfl (lv_at hl 1 rfl) ?_
    refine lv_iload hx hb d_L_law_796 (lv_at hl 5 rfl) ?_
    refine lv_iconst (v := nI 2) hx hb d_L_law_798 (by decide) ?_
    refine lv_iadd hx hb d_L_law_799 ?_
    refine lv_ei (y := nI (1 + 6 * i + 2)) (nI_add _ _) ?_
    refine va_sld hx hb hX hbl hbA hS (vp_in_nI (by omega) (by omega)) d_L_law_800 ?_
    refine lv_ei (y := xs (1 + 6 * i + 2)) (by rw [nI_clamp (by omega)]) ?_
    have hw := nw_W.as (wn' := mW ad tC n J bw2 L (obX ad tC n I K bw LA (bE tC o)) (arX tC n aE0) S) hw cW_m.symm
    refine nw_call (nw_goV (n := 2) (As := [.int (xs (1 + 6 * i + 1)), .int (xs (1 + 6 * i + 2))]) (rest := []) hSx hA hKs hw hS (c_M_prices l D tC A ad n J bw2 L (obX ad tC n I K bw LA (bE tC o)) (arX tC n aE0) S hN (xs (1 + 6 * i + 1)) (xs (1 + 6 * i + 2)) ) kw_814 kw_811 kw_812 kw_813 kw_8 rfl rfl (by decide +kernel) ⟨Nat.le_of_ble_eq_true rfl, Nat.le_of_ble_eq_true rfl⟩ (nw_recv hK hw (mW_64) rfl) rfl hl.1 (Nat.le_of_ble_eq_true rfl) d_L_law_801 ⟨by show _ ≤ 669896; omega, by show _ ≤ 7086383; omega⟩) hS (fun rv wn' ad9 H locs hpost hw hS => ?_)
    obtain ⟨had9, hmo⟩ := hpost
    rw [had9] at hw
    rcases hmo with ⟨hq1, hq2, hq3⟩ | ⟨hq1, _⟩ | ⟨hq1, _⟩
    rotate_left
    · exact absurd hba hq1
    · exact absurd hba hq1
    subst hq2
    rw [hq3] at hw
    have hw := nw_W.as (wn' := cW ad tC n I K bw LA n (va_up J 0 1) bw2 L o S) hw cW_m
    refine lv_aload_n hx hb d_L_law_804 rfl (lv_at hl 3 rfl) ?_
    have hw := nw_W.as (wn' := mW ad tC n (va_up J 0 1) bw2 L (obX ad tC n I K bw LA (bE tC o)) (arX tC n aE0) S) hw cW_m.symm
    refine nw_call (nw_goV (n := 0) (As := []) (rest := []) hSx hA hKs hw hS (c_M_thrown l D tC A ad n (va_up J 0 1) bw2 L (obX ad tC n I K bw LA (bE tC o)) (arX tC n aE0) S hN  ) kw_762 kw_759 kw_760 kw_761 kw_8 rfl rfl (by decide +kernel) ⟨Nat.le_of_ble_eq_true rfl, Nat.le_of_ble_eq_true rfl⟩ (nw_recv hK hw (mW_64) rfl) rfl hl.1 (Nat.le_of_ble_eq_true rfl) d_L_law_805 ⟨by show _ ≤ 669896; omega, by show _ ≤ 7086383; omega⟩) hS (fun rv wn' ad9 H locs hpost hw hS => ?_)
    obtain ⟨hv9, hwn9, had9⟩ := hpost
    subst hv9
    rw [hwn9, had9] at hw
    have hw := nw_W.as (wn' := cW ad tC n I K bw LA n (va_up J 0 1) bw2 L o S) hw cW_m
    refine lv_ei (y := nI 1) rfl ?_
    refine lv_iload hx hb d_L_law_808 (lv_at hl 0 rfl) ?_
    refine lv_icmp_eq (tgt := 815) hx hb d_L_law_810 (by decide) (fun c_810 => ?_) (fun c_810 => ?_)
    · skip
      refine lv_goto (tgt := 1168) hx hb d_L_law_815 (by decide) ?_
      exact W.widen (by omega) (by omega) (hNext ad n I K bw LA (va_up J 0 1) bw2 L o S (LR_thr hL) _ _ ls hw hS (lv_sub hl [1, 2, 3, 4, 5] rfl))
    · skip
      exact absurd rfl c_810
  · skip
    subst hv
    exact absurd trivial hbs
  · skip
    subst hv
    obtain ⟨had, hwn⟩ := hG
    rw [hwn, had] at hw
    refine lv_istore (lv' := [(5, .int (nI 0)), (0, .ref (b)), (1, .ref (ad (0))), (2, .ref (ad (64))), (3, .ref (ad (69))), (4, .int (nI (1 + 6 * i)))]) hx hb d_L_law_786 hl (by decide) rfl (fun ls hl => ?_)
    refine lv_aload_n hx hb d_L_law_788 rfl (lv_at hl 3 rfl) ?_
    refine lv_aload_n hx hb d_L_law_789 rfl (lv_at hl 1 rfl) ?_
    refine lv_iload hx hb d_L_law_790 (lv_at hl 5 rfl) ?_
    refine lv_iconst (v := nI 1) hx hb d_L_law_792 (by decide) ?_
    refine lv_iadd hx hb d_L_law_793 ?_
    refine lv_ei (y := nI (1 + 6 * i + 1)) (nI_add _ _) ?_
    refine va_sld hx hb hX hbl hbA hS (vp_in_nI (by omega) (by omega)) d_L_law_794 ?_
    refine lv_ei (y := xs (1 + 6 * i + 1)) (by rw [nI_clamp (by omega)]) ?_
    refine lv_aload_n hx hb d_L_law_795 rfl (lv_at hl 1 rfl) ?_
    refine lv_iload hx hb d_L_law_796 (lv_at hl 5 rfl) ?_
    refine lv_iconst (v := nI 2) hx hb d_L_law_798 (by decide) ?_
    refine lv_iadd hx hb d_L_law_799 ?_
    refine lv_ei (y := nI (1 + 6 * i + 2)) (nI_add _ _) ?_
    refine va_sld hx hb hX hbl hbA hS (vp_in_nI (by omega) (by omega)) d_L_law_800 ?_
    refine lv_ei (y := xs (1 + 6 * i + 2)) (by rw [nI_clamp (by omega)]) ?_
    have hw := nw_W.as (wn' := mW ad tC n J bw2 L (obX ad tC n (up2 (up2 I 0 1 (xs (1 + 6 * i + 1))) 0 2 (xs (1 + 6 * i + 2))) (va_up K 0 (nI 0)) bw LA (bE tC o)) (arX tC n aE0) (upR S 0 0 (flR (S 0 0) (-1) 6))) hw cW_m.symm
    refine nw_call (nw_goV (n := 2) (As := [.int (xs (1 + 6 * i + 1)), .int (xs (1 + 6 * i + 2))]) (rest := []) hSx hA hKs hw hS (c_M_prices l D tC A ad n J bw2 L (obX ad tC n (up2 (up2 I 0 1 (xs (1 + 6 * i + 1))) 0 2 (xs (1 + 6 * i + 2))) (va_up K 0 (nI 0)) bw LA (bE tC o)) (arX tC n aE0) (upR S 0 0 (flR (S 0 0) (-1) 6)) hN (xs (1 + 6 * i + 1)) (xs (1 + 6 * i + 2)) ) kw_814 kw_811 kw_812 kw_813 kw_8 rfl rfl (by decide +kernel) ⟨Nat.le_of_ble_eq_true rfl, Nat.le_of_ble_eq_true rfl⟩ (nw_recv hK hw (mW_64) rfl) rfl hl.1 (Nat.le_of_ble_eq_true rfl) d_L_law_801 ⟨by show _ ≤ 669896; omega, by show _ ≤ 7086383; omega⟩) hS (fun rv wn' ad9 H locs hpost hw hS => ?_)
    obtain ⟨had9, hmo⟩ := hpost
    rw [had9] at hw
    rcases hmo with ⟨hq1, _⟩ | ⟨hq1, hq4, _⟩ | ⟨hq1, hq4, hGm⟩
    · exact absurd hq1 hnba
    · exact absurd hq4 hnbs
    obtain ⟨hv9, hw9⟩ := hGm
    subst hv9
    rw [hw9] at hw
    have hw := nw_W.as (wn' := cW ad tC n (up2 (up2 I 0 1 (xs (1 + 6 * i + 1))) 0 2 (xs (1 + 6 * i + 2))) (va_up K 0 (nI 0)) bw LA n (va_up (va_up (va_up (va_up J 0 (nI 0)) 3 (nI 0)) 1 (xs (1 + 6 * i + 1))) 2 (xs (1 + 6 * i + 2))) bw2 L o (upR S 0 0 (flR (S 0 0) (-1) 6))) hw cW_m
    refine lv_aload_n hx hb d_L_law_804 rfl (lv_at hl 3 rfl) ?_
    have hw := nw_W.as (wn' := mW ad tC n (va_up (va_up (va_up (va_up J 0 (nI 0)) 3 (nI 0)) 1 (xs (1 + 6 * i + 1))) 2 (xs (1 + 6 * i + 2))) bw2 L (obX ad tC n (up2 (up2 I 0 1 (xs (1 + 6 * i + 1))) 0 2 (xs (1 + 6 * i + 2))) (va_up K 0 (nI 0)) bw LA (bE tC o)) (arX tC n aE0) (upR S 0 0 (flR (S 0 0) (-1) 6))) hw cW_m.symm
    refine nw_call (nw_goV (n := 0) (As := []) (rest := []) hSx hA hKs hw hS (c_M_thrown l D tC A ad n (va_up (va_up (va_up (va_up J 0 (nI 0)) 3 (nI 0)) 1 (xs (1 + 6 * i + 1))) 2 (xs (1 + 6 * i + 2))) bw2 L (obX ad tC n (up2 (up2 I 0 1 (xs (1 + 6 * i + 1))) 0 2 (xs (1 + 6 * i + 2))) (va_up K 0 (nI 0)) bw LA (bE tC o)) (arX tC n aE0) (upR S 0 0 (flR (S 0 0) (-1) 6)) hN  ) kw_762 kw_759 kw_760 kw_761 kw_8 rfl rfl (by decide +kernel) ⟨Nat.le_of_ble_eq_true rfl, Nat.le_of_ble_eq_true rfl⟩ (nw_recv hK hw (mW_64) rfl) rfl hl.1 (Nat.le_of_ble_eq_true rfl) d_L_law_805 ⟨by show _ ≤ 669896; omega, by show _ ≤ 7086383; omega⟩) hS (fun rv wn' ad9 H locs hpost hw hS => ?_)
    obtain ⟨hv9, hwn9, had9⟩ := hpost
    subst hv9
    rw [hwn9, had9] at hw
    have hw := nw_W.as (wn' := cW ad tC n (up2 (up2 I 0 1 (xs (1 + 6 * i + 1))) 0 2 (xs (1 + 6 * i + 2))) (va_up K 0 (nI 0)) bw LA n (va_up (va_up (va_up (va_up J 0 (nI 0)) 3 (nI 0)) 1 (xs (1 + 6 * i + 1))) 2 (xs (1 + 6 * i + 2))) bw2 L o (upR S 0 0 (flR (S 0 0) (-1) 6))) hw cW_m
    refine lv_ei (y := nI 0) rfl ?_
    refine lv_iload hx hb d_L_law_808 (lv_at hl 0 rfl) ?_
    refine lv_icmp_eq (tgt := 815) hx hb d_L_law_810 (by decide) (fun c_810 => ?_) (fun c_810 => ?_)
    · skip
      refine lv_goto (tgt := 1168) hx hb d_L_law_815 (by decide) ?_
      exact W.widen (by omega) (by omega) (hNext ad n (up2 (up2 I 0 1 (xs (1 + 6 * i + 1))) 0 2 (xs (1 + 6 * i + 2))) (va_up K 0 (nI 0)) bw LA (va_up (va_up (va_up (va_up J 0 (nI 0)) 3 (nI 0)) 1 (xs (1 + 6 * i + 1))) 2 (xs (1 + 6 * i + 2))) bw2 L o (upR S 0 0 (flR (S 0 0) (-1) 6)) (LR_prices hL (Classical.not_not.mp hnba)) _ _ ls hw hS (lv_sub hl [1, 2, 3, 4, 5] rfl))
    · skip
      exact absurd rfl c_810

set_option maxHeartbeats 4000000 in
set_option maxRecDepth 100000 in
/-- case 12: move -/
theorem law_12 {p : Program} {l : Launch} {e : Env} {s : State} {m : MethodId} {args : Array Value} {below : List Frame} {meth : Method} {cd : Code} {Q : State → Prop} {D : va_G} {tC : Nat → ClassId} {A : Nat → Prop} {b N : Nat} {xs : Nat → Int32} (hSx : CallFix p m cd b_L_law 8 s args nw_T "HarvestPlansLaw") (hA : ∀ q, s.heap.size ≤ q → A q) (hAs : ∀ q, A q → s.heap.size ≤ q) (hKs : nw_K D hpC (hpT tC) s) (hF : nx_F s) (hfl : l.stackTraces = false) (hX : va_X b N xs s s.heap) (hbl : b < s.heap.size) (hbA : ¬ A b) (hN3 : N ≤ 3073) {cc cs i : Nat} (hcc : cc + 12 ≤ 669896) (hcs : cs + 120 ≤ 7086383) (hi : 1 + 6 * i + 6 ≤ N) (hNext : ∀ (ad : Nat → Nat) (n : Nat → Nat) (I : Nat → Nat → Int32) (K : Nat → Int32) (bw : Int64) (LA : Nat → Int64) (J : Nat → Int32) (bw2 : Int64) (L : Nat → Nat → Int64) (o : Nat → Int64) (S : Nat → Nat → Nat → Int32), LR n I K J S → ∀ (H : Heap) (locs : List Loc) (ls : Array Slot), nw_W D hpC A (cW ad tC n I K bw LA n J bw2 L o S) ad H → va_S A s.heap H locs → lv_has ls 8 [(0, .ref (b)), (1, .ref (ad (0))), (2, .ref (ad (64))), (3, .ref (ad (69))), (4, .int (nI (1 + 6 * i)))] → W p l e room_1 s m args below meth cd H locs (cc + 12) (cs + 120) Q (F0 m 1168 ls [])) (ad : Nat → Nat) (n : Nat → Nat) (I : Nat → Nat → Int32) (K : Nat → Int32) (bw : Int64) (LA : Nat → Int64) (J : Nat → Int32) (bw2 : Int64) (L : Nat → Nat → Int64) (o : Nat → Int64) (S : Nat → Nat → Nat → Int32) (hL : LR n I K J S) (H : Heap) (locs : List Loc) (ls : Array Slot) (hw : nw_W D hpC A (cW ad tC n I K bw LA n J bw2 L o S) ad H) (hS : va_S A s.heap H locs) (hl : lv_has ls 8 [(0, .ref (b)), (1, .ref (ad (0))), (2, .ref (ad (64))), (3, .ref (ad (69))), (4, .int (nI (1 + 6 * i)))]) : W p l e room_1 s m args below meth cd H locs cc cs Q (F0 m 901 ls []) := by
  obtain ⟨hx, hb, hml, hown, hts⟩ := id hSx
  have hK := hKs.1
  have hB : nx_B s s := ⟨State.WarmedH.refl s, Nat.le_refl _, fun _ _ => rfl⟩
  obtain ⟨hm, ow, sq, hLx⟩ := id hL
  have hN : hpN n := hLx.1.1
  obtain ⟨hn0, hn0', hn1, hn2, hn3, hn4⟩ := id hN
  have hJK : J 3 = K 0 := hLx.2.2.1.1
  have hH : ∀ c, c < n 2 → I 2 c = nI (hm c) ∧ hm c < n 1 := fun c hc => ⟨hLx.2.1.1 c hc, (hLx.1.2.2.2.1 c hc).2.1⟩
  have hHm : ∀ c, c < n 2 → S 5 2 c = nI (hm c) ∧ hm c < n 1 := fun c hc => ⟨(hLx.1.2.2.2.1 c hc).1, (hLx.1.2.2.2.1 c hc).2.1⟩
  have hO : ∀ o, o < n 4 → I 4 o = nI (ow o) ∧ ow o < n 0 := fun o ho => ⟨(hLx.1.2.2.2.2.2.2.1 o ho).2.1, (hLx.1.2.2.2.2.2.2.1 o ho).2.2.1⟩
  have hSq : ∀ k, k < n 4 → S 0 1 k = nI (sq k) ∧ sq k < n 4 := fun k hk => ⟨hLx.2.1.2.1 k hk, hLx.1.2.2.2.2.2.2.2.1 k hk⟩
  have hSo : ∀ q, q < n 4 → ∃ j, j < n 4 ∧ sq j = q := hLx.1.2.2.2.2.2.2.2.2.1
  have hPl := ok_pl hLx
  obtain ⟨hz1, hz4, hz51, hz56⟩ := hLx.2.1.2.2.2
  refine lv_aload_n hx hb d_L_law_901 rfl (lv_at hl 1 rfl) ?_
  refine lv_aload_n hx hb d_L_law_902 rfl (lv_at hl 0 rfl) ?_
  refine lv_iload hx hb d_L_law_903 (lv_at hl 4 rfl) ?_
  refine lv_iconst (v := nI 1) hx hb d_L_law_905 (by decide) ?_
  refine lv_iadd hx hb d_L_law_906 ?_
  refine lv_ei (y := nI (1 + 6 * i + 1)) (nI_add _ _) ?_
  refine va_sld hx hb hX hbl hbA hS (vp_in_nI (by omega) (by omega)) d_L_law_907 ?_
  refine lv_ei (y := xs (1 + 6 * i + 1)) (by rw [nI_clamp (by omega)]) ?_
  refine lv_aload_n hx hb d_L_law_908 rfl (lv_at hl 0 rfl) ?_
  refine lv_iload hx hb d_L_law_909 (lv_at hl 4 rfl) ?_
  refine lv_iconst (v := nI 2) hx hb d_L_law_911 (by decide) ?_
  refine lv_iadd hx hb d_L_law_912 ?_
  refine lv_ei (y := nI (1 + 6 * i + 2)) (nI_add _ _) ?_
  refine va_sld hx hb hX hbl hbA hS (vp_in_nI (by omega) (by omega)) d_L_law_913 ?_
  refine lv_ei (y := xs (1 + 6 * i + 2)) (by rw [nI_clamp (by omega)]) ?_
  refine lv_aload_n hx hb d_L_law_914 rfl (lv_at hl 3 rfl) ?_
  refine nx_callC (nx_goW (n := 4) (As := [.ref (ad (0)), .int (xs (1 + 6 * i + 1)), .int (xs (1 + 6 * i + 2)), .ref (ad (69))]) (rest := []) hSx hA hKs hF hB hAs hw hS (w_move l D tC A ad n I K bw LA n J bw2 L o S hN s hF hfl hAs (xs (1 + 6 * i + 1)) (xs (1 + 6 * i + 2)) ) kt_610 kw_608 kw_609 kw_0 rfl rfl (by decide +kernel) ⟨Nat.le_of_ble_eq_true rfl, Nat.le_of_ble_eq_true rfl⟩ rfl hl.1 (Nat.le_of_ble_eq_true rfl) d_L_law_915 ⟨by show _ ≤ 669896; omega, by show _ ≤ 7086383; omega⟩) hS (fun X wn' ad' H locs x cell hpost hw hS hcell hst hcls T' hT X0 => (lw_po_x hpost).elim) (fun rv wn' ad' H locs hpost hw hS => ?_)
  rcases lw_po_i hpost with ⟨hv, hba, hwn, had⟩ | ⟨hv, hnba, hbs, hwn, had⟩ | ⟨hv, hnba, hnbs, hG⟩
  · skip
    subst hv
    rw [hwn, had] at hw
    refine lv_istore (lv' := [(5, .int (nI 1)), (0, .ref (b)), (1, .ref (ad (0))), (2, .ref (ad (64))), (3, .ref (ad (69))), (4, .int (nI (1 + 6 * i)))]) hx hb d_L_law_918 hl (by decide) rfl (fun ls hl => ?_)
    refine lv_aload_n hx hb d_L_law_920 rfl (lv_at hl 3 rfl) ?_
    refine lv_aload_n hx hb d_L_law_921 rfl (lv_at hl 1 rfl) ?_
    refine lv_iload hx hb d_L_law_922 (lv_at hl 5 rfl) ?_
    refine lv_iconst (v := nI 1) hx hb d_L_law_924 (by decide) ?_
    refine lv_iadd hx hb d_L_law_925 ?_
    refine lv_ei (y := nI (1 + 6 * i + 1)) (nI_add _ _) ?_
    refine va_sld hx hb hX hbl hbA hS (vp_in_nI (by omega) (by omega)) d_L_law_926 ?_
    refine lv_ei (y := xs (1 + 6 * i + 1)) (by rw [nI_clamp (by omega)]) ?_
    refine lv_aload_n hx hb d_L_law_927 rfl (lv_at hl 1 rfl) ?_
    refine lv_iload hx hb d_L_law_928 (lv_at hl 5 rfl) ?_
    refine lv_iconst (v := nI 2) hx hb d_L_law_930 (by decide) ?_
    refine lv_iadd hx hb d_L_law_931 ?_
    refine lv_ei (y := nI (1 + 6 * i + 2)) (nI_add _ _) ?_
    refine va_sld hx hb hX hbl hbA hS (vp_in_nI (by omega) (by omega)) d_L_law_932 ?_
    refine lv_ei (y := xs (1 + 6 * i + 2)) (by rw [nI_clamp (by omega)]) ?_
    have hw := nw_W.as (wn' := mW ad tC n J bw2 L (obX ad tC n I K bw LA (bE tC o)) (arX tC n aE0) S) hw cW_m.symm
    refine nw_call (nw_goV (n := 2) (As := [.int (xs (1 + 6 * i + 1)), .int (xs (1 + 6 * i + 2))]) (rest := []) hSx hA hKs hw hS (c_M_move l D tC A ad n J bw2 L (obX ad tC n I K bw LA (bE tC o)) (arX tC n aE0) S hN (xs (1 + 6 * i + 1)) (xs (1 + 6 * i + 2)) ) kw_891 kw_888 kw_889 kw_890 kw_8 rfl rfl (by decide +kernel) ⟨Nat.le_of_ble_eq_true rfl, Nat.le_of_ble_eq_true rfl⟩ (nw_recv hK hw (mW_64) rfl) rfl hl.1 (Nat.le_of_ble_eq_true rfl) d_L_law_933 ⟨by show _ ≤ 669896; omega, by show _ ≤ 7086383; omega⟩) hS (fun rv wn' ad9 H locs hpost hw hS => ?_)
    obtain ⟨had9, hmo⟩ := hpost
    rw [had9] at hw
    rcases hmo with ⟨hq1, hq2, hq3⟩ | ⟨hq1, _⟩ | ⟨hq1, _⟩
    rotate_left
    · exact absurd hba hq1
    · exact absurd hba hq1
    subst hq2
    rw [hq3] at hw
    have hw := nw_W.as (wn' := cW ad tC n I K bw LA n (va_up J 0 1) bw2 L o S) hw cW_m
    refine lv_istore (lv' := [(6, .int (nI 0)), (5, .int (nI 1)), (0, .ref (b)), (1, .ref (ad (0))), (2, .ref (ad (64))), (3, .ref (ad (69))), (4, .int (nI (1 + 6 * i)))]) hx hb d_L_law_936 hl (by decide) rfl (fun ls hl => ?_)
    refine lv_aload_n hx hb d_L_law_938 rfl (lv_at hl 4 rfl) ?_
    have hw := nw_W.as (wn' := mW ad tC n (va_up J 0 1) bw2 L (obX ad tC n I K bw LA (bE tC o)) (arX tC n aE0) S) hw cW_m.symm
    refine nw_call (nw_goV (n := 0) (As := []) (rest := []) hSx hA hKs hw hS (c_M_thrown l D tC A ad n (va_up J 0 1) bw2 L (obX ad tC n I K bw LA (bE tC o)) (arX tC n aE0) S hN  ) kw_762 kw_759 kw_760 kw_761 kw_8 rfl rfl (by decide +kernel) ⟨Nat.le_of_ble_eq_true rfl, Nat.le_of_ble_eq_true rfl⟩ (nw_recv hK hw (mW_64) rfl) rfl hl.1 (Nat.le_of_ble_eq_true rfl) d_L_law_939 ⟨by show _ ≤ 669896; omega, by show _ ≤ 7086383; omega⟩) hS (fun rv wn' ad9 H locs hpost hw hS => ?_)
    obtain ⟨hv9, hwn9, had9⟩ := hpost
    subst hv9
    rw [hwn9, had9] at hw
    have hw := nw_W.as (wn' := cW ad tC n I K bw LA n (va_up J 0 1) bw2 L o S) hw cW_m
    refine lv_ei (y := nI 1) rfl ?_
    refine lv_iload hx hb d_L_law_942 (lv_at hl 1 rfl) ?_
    refine lv_icmp_eq (tgt := 949) hx hb d_L_law_944 (by decide) (fun c_944 => ?_) (fun c_944 => ?_)
    · skip
      refine lv_iload hx hb d_L_law_949 (lv_at hl 1 rfl) ?_
      refine lv_if_ne (tgt := 966) hx hb d_L_law_951 (by decide) (fun c_951 => ?_) (fun c_951 => ?_)
      · skip
        refine lv_goto (tgt := 1168) hx hb d_L_law_966 (by decide) ?_
        exact W.widen (by omega) (by omega) (hNext ad n I K bw LA (va_up J 0 1) bw2 L o S (LR_thr hL) _ _ ls hw hS (lv_sub hl [2, 3, 4, 5, 6] rfl))
      · skip
        first | exact absurd c_951 (by decide) | exact absurd (by decide) c_951
    · skip
      exact absurd rfl c_944
  · skip
    subst hv
    exact absurd trivial hbs
  · skip
    subst hv
    obtain ⟨had, hwn⟩ := hG
    rw [hwn, had] at hw
    refine lv_istore (lv' := [(5, .int (nI 0)), (0, .ref (b)), (1, .ref (ad (0))), (2, .ref (ad (64))), (3, .ref (ad (69))), (4, .int (nI (1 + 6 * i)))]) hx hb d_L_law_918 hl (by decide) rfl (fun ls hl => ?_)
    refine lv_aload_n hx hb d_L_law_920 rfl (lv_at hl 3 rfl) ?_
    refine lv_aload_n hx hb d_L_law_921 rfl (lv_at hl 1 rfl) ?_
    refine lv_iload hx hb d_L_law_922 (lv_at hl 5 rfl) ?_
    refine lv_iconst (v := nI 1) hx hb d_L_law_924 (by decide) ?_
    refine lv_iadd hx hb d_L_law_925 ?_
    refine lv_ei (y := nI (1 + 6 * i + 1)) (nI_add _ _) ?_
    refine va_sld hx hb hX hbl hbA hS (vp_in_nI (by omega) (by omega)) d_L_law_926 ?_
    refine lv_ei (y := xs (1 + 6 * i + 1)) (by rw [nI_clamp (by omega)]) ?_
    refine lv_aload_n hx hb d_L_law_927 rfl (lv_at hl 1 rfl) ?_
    refine lv_iload hx hb d_L_law_928 (lv_at hl 5 rfl) ?_
    refine lv_iconst (v := nI 2) hx hb d_L_law_930 (by decide) ?_
    refine lv_iadd hx hb d_L_law_931 ?_
    refine lv_ei (y := nI (1 + 6 * i + 2)) (nI_add _ _) ?_
    refine va_sld hx hb hX hbl hbA hS (vp_in_nI (by omega) (by omega)) d_L_law_932 ?_
    refine lv_ei (y := xs (1 + 6 * i + 2)) (by rw [nI_clamp (by omega)]) ?_
    have hw := nw_W.as (wn' := mW ad tC n J bw2 L (obX ad tC n I (va_up K 0 (nI 1)) bw LA (bE tC (vp_updL o 0 ((S 0 0 ((xs (1 + 6 * i + 1)).toNatClampNeg)).toInt64)))) (arX tC n aE0) (upR S 0 0 (upd (S 0 0) ((xs (1 + 6 * i + 1)).toNatClampNeg) (xs (1 + 6 * i + 2))))) hw cW_m.symm
    refine nw_call (nw_goV (n := 2) (As := [.int (xs (1 + 6 * i + 1)), .int (xs (1 + 6 * i + 2))]) (rest := []) hSx hA hKs hw hS (c_M_move l D tC A ad n J bw2 L (obX ad tC n I (va_up K 0 (nI 1)) bw LA (bE tC (vp_updL o 0 ((S 0 0 ((xs (1 + 6 * i + 1)).toNatClampNeg)).toInt64)))) (arX tC n aE0) (upR S 0 0 (upd (S 0 0) ((xs (1 + 6 * i + 1)).toNatClampNeg) (xs (1 + 6 * i + 2)))) hN (xs (1 + 6 * i + 1)) (xs (1 + 6 * i + 2)) ) kw_891 kw_888 kw_889 kw_890 kw_8 rfl rfl (by decide +kernel) ⟨Nat.le_of_ble_eq_true rfl, Nat.le_of_ble_eq_true rfl⟩ (nw_recv hK hw (mW_64) rfl) rfl hl.1 (Nat.le_of_ble_eq_true rfl) d_L_law_933 ⟨by show _ ≤ 669896; omega, by show _ ≤ 7086383; omega⟩) hS (fun rv wn' ad9 H locs hpost hw hS => ?_)
    obtain ⟨had9, hmo⟩ := hpost
    rw [had9] at hw
    rcases hmo with ⟨hq1, _⟩ | ⟨hq1, hq4, _⟩ | ⟨hq1, hq4, hGm⟩
    · exact absurd hq1 hnba
    · exact absurd hq4 hnbs
    obtain ⟨hv9, hw9⟩ := hGm
    subst hv9
    rw [hw9] at hw
    have hw := nw_W.as (wn' := cW ad tC n I (va_up K 0 (nI 1)) bw LA n (va_up (va_up J 0 (nI 0)) 3 (nI 1)) bw2 L (vp_updL o 0 ((S 0 0 ((xs (1 + 6 * i + 1)).toNatClampNeg)).toInt64)) (upR (upR S 0 0 (upd (S 0 0) ((xs (1 + 6 * i + 1)).toNatClampNeg) (xs (1 + 6 * i + 2)))) 5 13 (upd (mvP n J (upR S 0 0 (upd (S 0 0) ((xs (1 + 6 * i + 1)).toNatClampNeg) (xs (1 + 6 * i + 2))))) ((xs (1 + 6 * i + 1)).toNatClampNeg) (if (xs (1 + 6 * i + 2)) = -1 then nI (n 0) else (xs (1 + 6 * i + 2)))))) hw cW_m
    refine lv_istore (lv' := [(6, .int ((if (mvP n J (upR S 0 0 (upd (S 0 0) ((xs (1 + 6 * i + 1)).toNatClampNeg) (xs (1 + 6 * i + 2))))) ((xs (1 + 6 * i + 1)).toNatClampNeg) = nI (n 0) then -1 else (mvP n J (upR S 0 0 (upd (S 0 0) ((xs (1 + 6 * i + 1)).toNatClampNeg) (xs (1 + 6 * i + 2))))) ((xs (1 + 6 * i + 1)).toNatClampNeg)))), (5, .int (nI 0)), (0, .ref (b)), (1, .ref (ad (0))), (2, .ref (ad (64))), (3, .ref (ad (69))), (4, .int (nI (1 + 6 * i)))]) hx hb d_L_law_936 hl (by decide) rfl (fun ls hl => ?_)
    refine lv_aload_n hx hb d_L_law_938 rfl (lv_at hl 4 rfl) ?_
    have hw := nw_W.as (wn' := mW ad tC n (va_up (va_up J 0 (nI 0)) 3 (nI 1)) bw2 L (obX ad tC n I (va_up K 0 (nI 1)) bw LA (bE tC (vp_updL o 0 ((S 0 0 ((xs (1 + 6 * i + 1)).toNatClampNeg)).toInt64)))) (arX tC n aE0) (upR (upR S 0 0 (upd (S 0 0) ((xs (1 + 6 * i + 1)).toNatClampNeg) (xs (1 + 6 * i + 2)))) 5 13 (upd (mvP n J (upR S 0 0 (upd (S 0 0) ((xs (1 + 6 * i + 1)).toNatClampNeg) (xs (1 + 6 * i + 2))))) ((xs (1 + 6 * i + 1)).toNatClampNeg) (if (xs (1 + 6 * i + 2)) = -1 then nI (n 0) else (xs (1 + 6 * i + 2)))))) hw cW_m.symm
    refine nw_call (nw_goV (n := 0) (As := []) (rest := []) hSx hA hKs hw hS (c_M_thrown l D tC A ad n (va_up (va_up J 0 (nI 0)) 3 (nI 1)) bw2 L (obX ad tC n I (va_up K 0 (nI 1)) bw LA (bE tC (vp_updL o 0 ((S 0 0 ((xs (1 + 6 * i + 1)).toNatClampNeg)).toInt64)))) (arX tC n aE0) (upR (upR S 0 0 (upd (S 0 0) ((xs (1 + 6 * i + 1)).toNatClampNeg) (xs (1 + 6 * i + 2)))) 5 13 (upd (mvP n J (upR S 0 0 (upd (S 0 0) ((xs (1 + 6 * i + 1)).toNatClampNeg) (xs (1 + 6 * i + 2))))) ((xs (1 + 6 * i + 1)).toNatClampNeg) (if (xs (1 + 6 * i + 2)) = -1 then nI (n 0) else (xs (1 + 6 * i + 2))))) hN  ) kw_762 kw_759 kw_760 kw_761 kw_8 rfl rfl (by decide +kernel) ⟨Nat.le_of_ble_eq_true rfl, Nat.le_of_ble_eq_true rfl⟩ (nw_recv hK hw (mW_64) rfl) rfl hl.1 (Nat.le_of_ble_eq_true rfl) d_L_law_939 ⟨by show _ ≤ 669896; omega, by show _ ≤ 7086383; omega⟩) hS (fun rv wn' ad9 H locs hpost hw hS => ?_)
    obtain ⟨hv9, hwn9, had9⟩ := hpost
    subst hv9
    rw [hwn9, had9] at hw
    have hw := nw_W.as (wn' := cW ad tC n I (va_up K 0 (nI 1)) bw LA n (va_up (va_up J 0 (nI 0)) 3 (nI 1)) bw2 L (vp_updL o 0 ((S 0 0 ((xs (1 + 6 * i + 1)).toNatClampNeg)).toInt64)) (upR (upR S 0 0 (upd (S 0 0) ((xs (1 + 6 * i + 1)).toNatClampNeg) (xs (1 + 6 * i + 2)))) 5 13 (upd (mvP n J (upR S 0 0 (upd (S 0 0) ((xs (1 + 6 * i + 1)).toNatClampNeg) (xs (1 + 6 * i + 2))))) ((xs (1 + 6 * i + 1)).toNatClampNeg) (if (xs (1 + 6 * i + 2)) = -1 then nI (n 0) else (xs (1 + 6 * i + 2)))))) hw cW_m
    refine lv_ei (y := nI 0) rfl ?_
    refine lv_iload hx hb d_L_law_942 (lv_at hl 1 rfl) ?_
    refine lv_icmp_eq (tgt := 949) hx hb d_L_law_944 (by decide) (fun c_944 => ?_) (fun c_944 => ?_)
    · skip
      refine lv_iload hx hb d_L_law_949 (lv_at hl 1 rfl) ?_
      refine lv_if_ne (tgt := 966) hx hb d_L_law_951 (by decide) (fun c_951 => ?_) (fun c_951 => ?_)
      · skip
        first | exact absurd c_951 (by decide) | exact absurd (by decide) c_951
      · skip
        refine lv_aload_n hx hb d_L_law_954 rfl (lv_at hl 5 rfl) ?_
        refine lv_iconst (v := nI 0) hx hb d_L_law_955 (by decide) ?_
        refine nw_lald hx hb hK hw (69) 1 (cW_69) rfl (0) (rfl) (by omega) (by omega) d_L_law_956 ?_
        refine lv_iload hx hb d_L_law_957 (lv_at hl 0 rfl) ?_
        refine lv_i2l (v := (((if (mvP n J (upR S 0 0 (upd (S 0 0) ((xs (1 + 6 * i + 1)).toNatClampNeg) (xs (1 + 6 * i + 2))))) ((xs (1 + 6 * i + 1)).toNatClampNeg) = nI (n 0) then -1 else (mvP n J (upR S 0 0 (upd (S 0 0) ((xs (1 + 6 * i + 1)).toNatClampNeg) (xs (1 + 6 * i + 2))))) ((xs (1 + 6 * i + 1)).toNatClampNeg))).toInt64)) hx hb d_L_law_959 rfl ?_
        refine lv_el (y := ((vp_updL o 0 ((S 0 0 ((xs (1 + 6 * i + 1)).toNatClampNeg)).toInt64)) (0))) (congrArg Int32.toInt64 (LR_move hLx (Classical.not_not.mp hnba).1 (Classical.not_not.mp hnba).2 rfl rfl).1.symm) ?_
        refine W.lcmp hx hb d_L_law_960 ?_
        refine lv_ei (y := nI 0) ((lg_cmp_eq _ _).mpr rfl) ?_
        refine lv_if_eq (tgt := 966) hx hb d_L_law_961 (by decide) (fun c_961 => ?_) (fun c_961 => ?_)
        · skip
          refine lv_goto (tgt := 1168) hx hb d_L_law_966 (by decide) ?_
          exact W.widen (by omega) (by omega) (hNext ad n I (va_up K 0 (nI 1)) bw LA (va_up (va_up J 0 (nI 0)) 3 (nI 1)) bw2 L (vp_updL o 0 ((S 0 0 ((xs (1 + 6 * i + 1)).toNatClampNeg)).toInt64)) (upR (upR S 0 0 (upd (S 0 0) ((xs (1 + 6 * i + 1)).toNatClampNeg) (xs (1 + 6 * i + 2)))) 5 13 (upd (mvP n J (upR S 0 0 (upd (S 0 0) ((xs (1 + 6 * i + 1)).toNatClampNeg) (xs (1 + 6 * i + 2))))) ((xs (1 + 6 * i + 1)).toNatClampNeg) (if (xs (1 + 6 * i + 2)) = -1 then nI (n 0) else (xs (1 + 6 * i + 2))))) ((LR_move hLx (Classical.not_not.mp hnba).1 (Classical.not_not.mp hnba).2 rfl rfl).2) _ _ ls hw hS (lv_sub hl [2, 3, 4, 5, 6] rfl))
        · skip
          first | exact absurd c_961 (by decide) | exact absurd (by decide) c_961
    · skip
      exact absurd rfl c_944

set_option maxHeartbeats 4000000 in
set_option maxRecDepth 100000 in
/-- case 13: taken -/
theorem law_13 {p : Program} {l : Launch} {e : Env} {s : State} {m : MethodId} {args : Array Value} {below : List Frame} {meth : Method} {cd : Code} {Q : State → Prop} {D : va_G} {tC : Nat → ClassId} {A : Nat → Prop} {b N : Nat} {xs : Nat → Int32} (hSx : CallFix p m cd b_L_law 8 s args nw_T "HarvestPlansLaw") (hA : ∀ q, s.heap.size ≤ q → A q) (hAs : ∀ q, A q → s.heap.size ≤ q) (hKs : nw_K D hpC (hpT tC) s) (hF : nx_F s) (hfl : l.stackTraces = false) (hX : va_X b N xs s s.heap) (hbl : b < s.heap.size) (hbA : ¬ A b) (hN3 : N ≤ 3073) {cc cs i : Nat} (hcc : cc + 12 ≤ 669896) (hcs : cs + 120 ≤ 7086383) (hi : 1 + 6 * i + 6 ≤ N) (hNext : ∀ (ad : Nat → Nat) (n : Nat → Nat) (I : Nat → Nat → Int32) (K : Nat → Int32) (bw : Int64) (LA : Nat → Int64) (J : Nat → Int32) (bw2 : Int64) (L : Nat → Nat → Int64) (o : Nat → Int64) (S : Nat → Nat → Nat → Int32), LR n I K J S → ∀ (H : Heap) (locs : List Loc) (ls : Array Slot), nw_W D hpC A (cW ad tC n I K bw LA n J bw2 L o S) ad H → va_S A s.heap H locs → lv_has ls 8 [(0, .ref (b)), (1, .ref (ad (0))), (2, .ref (ad (64))), (3, .ref (ad (69))), (4, .int (nI (1 + 6 * i)))] → W p l e room_1 s m args below meth cd H locs (cc + 12) (cs + 120) Q (F0 m 1168 ls [])) (ad : Nat → Nat) (n : Nat → Nat) (I : Nat → Nat → Int32) (K : Nat → Int32) (bw : Int64) (LA : Nat → Int64) (J : Nat → Int32) (bw2 : Int64) (L : Nat → Nat → Int64) (o : Nat → Int64) (S : Nat → Nat → Nat → Int32) (hL : LR n I K J S) (H : Heap) (locs : List Loc) (ls : Array Slot) (hw : nw_W D hpC A (cW ad tC n I K bw LA n J bw2 L o S) ad H) (hS : va_S A s.heap H locs) (hl : lv_has ls 8 [(0, .ref (b)), (1, .ref (ad (0))), (2, .ref (ad (64))), (3, .ref (ad (69))), (4, .int (nI (1 + 6 * i)))]) : W p l e room_1 s m args below meth cd H locs cc cs Q (F0 m 969 ls []) := by
  obtain ⟨hx, hb, hml, hown, hts⟩ := id hSx
  have hK := hKs.1
  have hB : nx_B s s := ⟨State.WarmedH.refl s, Nat.le_refl _, fun _ _ => rfl⟩
  obtain ⟨hm, ow, sq, hLx⟩ := id hL
  have hN : hpN n := hLx.1.1
  obtain ⟨hn0, hn0', hn1, hn2, hn3, hn4⟩ := id hN
  have hJK : J 3 = K 0 := hLx.2.2.1.1
  have hH : ∀ c, c < n 2 → I 2 c = nI (hm c) ∧ hm c < n 1 := fun c hc => ⟨hLx.2.1.1 c hc, (hLx.1.2.2.2.1 c hc).2.1⟩
  have hHm : ∀ c, c < n 2 → S 5 2 c = nI (hm c) ∧ hm c < n 1 := fun c hc => ⟨(hLx.1.2.2.2.1 c hc).1, (hLx.1.2.2.2.1 c hc).2.1⟩
  have hO : ∀ o, o < n 4 → I 4 o = nI (ow o) ∧ ow o < n 0 := fun o ho => ⟨(hLx.1.2.2.2.2.2.2.1 o ho).2.1, (hLx.1.2.2.2.2.2.2.1 o ho).2.2.1⟩
  have hSq : ∀ k, k < n 4 → S 0 1 k = nI (sq k) ∧ sq k < n 4 := fun k hk => ⟨hLx.2.1.2.1 k hk, hLx.1.2.2.2.2.2.2.2.1 k hk⟩
  have hSo : ∀ q, q < n 4 → ∃ j, j < n 4 ∧ sq j = q := hLx.1.2.2.2.2.2.2.2.2.1
  have hPl := ok_pl hLx
  obtain ⟨hz1, hz4, hz51, hz56⟩ := hLx.2.1.2.2.2
  refine lv_aload_n hx hb d_L_law_969 rfl (lv_at hl 1 rfl) ?_
  refine lv_aload_n hx hb d_L_law_970 rfl (lv_at hl 0 rfl) ?_
  refine lv_iload hx hb d_L_law_971 (lv_at hl 4 rfl) ?_
  refine lv_iconst (v := nI 1) hx hb d_L_law_973 (by decide) ?_
  refine lv_iadd hx hb d_L_law_974 ?_
  refine lv_ei (y := nI (1 + 6 * i + 1)) (nI_add _ _) ?_
  refine va_sld hx hb hX hbl hbA hS (vp_in_nI (by omega) (by omega)) d_L_law_975 ?_
  refine lv_ei (y := xs (1 + 6 * i + 1)) (by rw [nI_clamp (by omega)]) ?_
  refine lv_aload_n hx hb d_L_law_976 rfl (lv_at hl 3 rfl) ?_
  refine nx_callC (nx_goW (n := 3) (As := [.ref (ad (0)), .int (xs (1 + 6 * i + 1)), .ref (ad (69))]) (rest := []) hSx hA hKs hF hB hAs hw hS (w_taken l D tC A ad n I K bw LA n J bw2 L o S hN s hF hfl hAs (xs (1 + 6 * i + 1)) ) kt_617 kw_615 kw_616 kw_0 rfl rfl (by decide +kernel) ⟨Nat.le_of_ble_eq_true rfl, Nat.le_of_ble_eq_true rfl⟩ rfl hl.1 (Nat.le_of_ble_eq_true rfl) d_L_law_977 ⟨by show _ ≤ 669896; omega, by show _ ≤ 7086383; omega⟩) hS (fun X wn' ad' H locs x cell hpost hw hS hcell hst hcls T' hT X0 => (lw_po_x hpost).elim) (fun rv wn' ad' H locs hpost hw hS => ?_)
  rcases lw_po_i hpost with ⟨hv, hba, hwn, had⟩ | ⟨hv, hnba, hbs, hwn, had⟩ | ⟨hv, hnba, hnbs, hG⟩
  · skip
    subst hv
    rw [hwn, had] at hw
    refine lv_istore (lv' := [(5, .int (nI 1)), (0, .ref (b)), (1, .ref (ad (0))), (2, .ref (ad (64))), (3, .ref (ad (69))), (4, .int (nI (1 + 6 * i)))]) hx hb d_L_law_980 hl (by decide) rfl (fun ls hl => ?_)
    refine lv_aload_n hx hb d_L_law_982 rfl (lv_at hl 3 rfl) ?_
    refine lv_aload_n hx hb d_L_law_983 rfl (lv_at hl 1 rfl) ?_
    refine lv_iload hx hb d_L_law_984 (lv_at hl 5 rfl) ?_
    refine lv_iconst (v := nI 1) hx hb d_L_law_986 (by decide) ?_
    refine lv_iadd hx hb d_L_law_987 ?_
    refine lv_ei (y := nI (1 + 6 * i + 1)) (nI_add _ _) ?_
    refine va_sld hx hb hX hbl hbA hS (vp_in_nI (by omega) (by omega)) d_L_law_988 ?_
    refine lv_ei (y := xs (1 + 6 * i + 1)) (by rw [nI_clamp (by omega)]) ?_
    have hw := nw_W.as (wn' := mW ad tC n J bw2 L (obX ad tC n I K bw LA (bE tC o)) (arX tC n aE0) S) hw cW_m.symm
    refine nw_call (nw_goV (n := 1) (As := [.int (xs (1 + 6 * i + 1))]) (rest := []) hSx hA hKs hw hS (c_M_taken l D tC A ad n J bw2 L (obX ad tC n I K bw LA (bE tC o)) (arX tC n aE0) S hN (xs (1 + 6 * i + 1)) ) kw_896 kw_893 kw_894 kw_895 kw_8 rfl rfl (by decide +kernel) ⟨Nat.le_of_ble_eq_true rfl, Nat.le_of_ble_eq_true rfl⟩ (nw_recv hK hw (mW_64) rfl) rfl hl.1 (Nat.le_of_ble_eq_true rfl) d_L_law_989 ⟨by show _ ≤ 669896; omega, by show _ ≤ 7086383; omega⟩) hS (fun rv wn' ad9 H locs hpost hw hS => ?_)
    obtain ⟨had9, hmo⟩ := hpost
    rw [had9] at hw
    rcases hmo with ⟨hq1, hq2, hq3⟩ | ⟨hq1, _⟩ | ⟨hq1, _⟩
    rotate_left
    · exact absurd hba hq1
    · exact absurd hba hq1
    subst hq2
    rw [hq3] at hw
    have hw := nw_W.as (wn' := cW ad tC n I K bw LA n (va_up J 0 1) bw2 L o S) hw cW_m
    refine lv_istore (lv' := [(6, .int (nI 0)), (5, .int (nI 1)), (0, .ref (b)), (1, .ref (ad (0))), (2, .ref (ad (64))), (3, .ref (ad (69))), (4, .int (nI (1 + 6 * i)))]) hx hb d_L_law_992 hl (by decide) rfl (fun ls hl => ?_)
    refine lv_aload_n hx hb d_L_law_994 rfl (lv_at hl 4 rfl) ?_
    have hw := nw_W.as (wn' := mW ad tC n (va_up J 0 1) bw2 L (obX ad tC n I K bw LA (bE tC o)) (arX tC n aE0) S) hw cW_m.symm
    refine nw_call (nw_goV (n := 0) (As := []) (rest := []) hSx hA hKs hw hS (c_M_thrown l D tC A ad n (va_up J 0 1) bw2 L (obX ad tC n I K bw LA (bE tC o)) (arX tC n aE0) S hN  ) kw_762 kw_759 kw_760 kw_761 kw_8 rfl rfl (by decide +kernel) ⟨Nat.le_of_ble_eq_true rfl, Nat.le_of_ble_eq_true rfl⟩ (nw_recv hK hw (mW_64) rfl) rfl hl.1 (Nat.le_of_ble_eq_true rfl) d_L_law_995 ⟨by show _ ≤ 669896; omega, by show _ ≤ 7086383; omega⟩) hS (fun rv wn' ad9 H locs hpost hw hS => ?_)
    obtain ⟨hv9, hwn9, had9⟩ := hpost
    subst hv9
    rw [hwn9, had9] at hw
    have hw := nw_W.as (wn' := cW ad tC n I K bw LA n (va_up J 0 1) bw2 L o S) hw cW_m
    refine lv_ei (y := nI 1) rfl ?_
    refine lv_iload hx hb d_L_law_998 (lv_at hl 1 rfl) ?_
    refine lv_icmp_eq (tgt := 1005) hx hb d_L_law_1000 (by decide) (fun c_1000 => ?_) (fun c_1000 => ?_)
    · skip
      refine lv_iload hx hb d_L_law_1005 (lv_at hl 1 rfl) ?_
      refine lv_if_ne (tgt := 1022) hx hb d_L_law_1007 (by decide) (fun c_1007 => ?_) (fun c_1007 => ?_)
      · skip
        refine lv_goto (tgt := 1168) hx hb d_L_law_1022 (by decide) ?_
        exact W.widen (by omega) (by omega) (hNext ad n I K bw LA (va_up J 0 1) bw2 L o S (LR_thr hL) _ _ ls hw hS (lv_sub hl [2, 3, 4, 5, 6] rfl))
      · skip
        first | exact absurd c_1007 (by decide) | exact absurd (by decide) c_1007
    · skip
      exact absurd rfl c_1000
  · skip
    subst hv
    exact absurd trivial hbs
  · skip
    subst hv
    obtain ⟨had, hwn⟩ := hG
    rw [hwn, had] at hw
    refine lv_istore (lv' := [(5, .int (nI 0)), (0, .ref (b)), (1, .ref (ad (0))), (2, .ref (ad (64))), (3, .ref (ad (69))), (4, .int (nI (1 + 6 * i)))]) hx hb d_L_law_980 hl (by decide) rfl (fun ls hl => ?_)
    refine lv_aload_n hx hb d_L_law_982 rfl (lv_at hl 3 rfl) ?_
    refine lv_aload_n hx hb d_L_law_983 rfl (lv_at hl 1 rfl) ?_
    refine lv_iload hx hb d_L_law_984 (lv_at hl 5 rfl) ?_
    refine lv_iconst (v := nI 1) hx hb d_L_law_986 (by decide) ?_
    refine lv_iadd hx hb d_L_law_987 ?_
    refine lv_ei (y := nI (1 + 6 * i + 1)) (nI_add _ _) ?_
    refine va_sld hx hb hX hbl hbA hS (vp_in_nI (by omega) (by omega)) d_L_law_988 ?_
    refine lv_ei (y := xs (1 + 6 * i + 1)) (by rw [nI_clamp (by omega)]) ?_
    have hw := nw_W.as (wn' := mW ad tC n J bw2 L (obX ad tC n I K bw LA (bE tC (vp_updL o 0 ((S 0 0 ((xs (1 + 6 * i + 1)).toNatClampNeg)).toInt64)))) (arX tC n aE0) S) hw cW_m.symm
    refine nw_call (nw_goV (n := 1) (As := [.int (xs (1 + 6 * i + 1))]) (rest := []) hSx hA hKs hw hS (c_M_taken l D tC A ad n J bw2 L (obX ad tC n I K bw LA (bE tC (vp_updL o 0 ((S 0 0 ((xs (1 + 6 * i + 1)).toNatClampNeg)).toInt64)))) (arX tC n aE0) S hN (xs (1 + 6 * i + 1)) ) kw_896 kw_893 kw_894 kw_895 kw_8 rfl rfl (by decide +kernel) ⟨Nat.le_of_ble_eq_true rfl, Nat.le_of_ble_eq_true rfl⟩ (nw_recv hK hw (mW_64) rfl) rfl hl.1 (Nat.le_of_ble_eq_true rfl) d_L_law_989 ⟨by show _ ≤ 669896; omega, by show _ ≤ 7086383; omega⟩) hS (fun rv wn' ad9 H locs hpost hw hS => ?_)
    obtain ⟨had9, hmo⟩ := hpost
    rw [had9] at hw
    rcases hmo with ⟨hq1, _⟩ | ⟨hq1, hq4, _⟩ | ⟨hq1, hq4, hGm⟩
    · exact absurd hq1 hnba
    · exact absurd hq4 hnbs
    obtain ⟨hv9, hw9⟩ := hGm
    subst hv9
    rw [hw9] at hw
    have hw := nw_W.as (wn' := cW ad tC n I K bw LA n (va_up J 0 (nI 0)) bw2 L (vp_updL o 0 ((S 0 0 ((xs (1 + 6 * i + 1)).toNatClampNeg)).toInt64)) S) hw cW_m
    refine lv_istore (lv' := [(6, .int ((if J 3 = 0 ∨ S 5 13 ((xs (1 + 6 * i + 1)).toNatClampNeg) = nI (n 0) then -1 else S 5 13 ((xs (1 + 6 * i + 1)).toNatClampNeg)))), (5, .int (nI 0)), (0, .ref (b)), (1, .ref (ad (0))), (2, .ref (ad (64))), (3, .ref (ad (69))), (4, .int (nI (1 + 6 * i)))]) hx hb d_L_law_992 hl (by decide) rfl (fun ls hl => ?_)
    refine lv_aload_n hx hb d_L_law_994 rfl (lv_at hl 4 rfl) ?_
    have hw := nw_W.as (wn' := mW ad tC n (va_up J 0 (nI 0)) bw2 L (obX ad tC n I K bw LA (bE tC (vp_updL o 0 ((S 0 0 ((xs (1 + 6 * i + 1)).toNatClampNeg)).toInt64)))) (arX tC n aE0) S) hw cW_m.symm
    refine nw_call (nw_goV (n := 0) (As := []) (rest := []) hSx hA hKs hw hS (c_M_thrown l D tC A ad n (va_up J 0 (nI 0)) bw2 L (obX ad tC n I K bw LA (bE tC (vp_updL o 0 ((S 0 0 ((xs (1 + 6 * i + 1)).toNatClampNeg)).toInt64)))) (arX tC n aE0) S hN  ) kw_762 kw_759 kw_760 kw_761 kw_8 rfl rfl (by decide +kernel) ⟨Nat.le_of_ble_eq_true rfl, Nat.le_of_ble_eq_true rfl⟩ (nw_recv hK hw (mW_64) rfl) rfl hl.1 (Nat.le_of_ble_eq_true rfl) d_L_law_995 ⟨by show _ ≤ 669896; omega, by show _ ≤ 7086383; omega⟩) hS (fun rv wn' ad9 H locs hpost hw hS => ?_)
    obtain ⟨hv9, hwn9, had9⟩ := hpost
    subst hv9
    rw [hwn9, had9] at hw
    have hw := nw_W.as (wn' := cW ad tC n I K bw LA n (va_up J 0 (nI 0)) bw2 L (vp_updL o 0 ((S 0 0 ((xs (1 + 6 * i + 1)).toNatClampNeg)).toInt64)) S) hw cW_m
    refine lv_ei (y := nI 0) rfl ?_
    refine lv_iload hx hb d_L_law_998 (lv_at hl 1 rfl) ?_
    refine lv_icmp_eq (tgt := 1005) hx hb d_L_law_1000 (by decide) (fun c_1000 => ?_) (fun c_1000 => ?_)
    · skip
      refine lv_iload hx hb d_L_law_1005 (lv_at hl 1 rfl) ?_
      refine lv_if_ne (tgt := 1022) hx hb d_L_law_1007 (by decide) (fun c_1007 => ?_) (fun c_1007 => ?_)
      · skip
        first | exact absurd c_1007 (by decide) | exact absurd (by decide) c_1007
      · skip
        refine lv_aload_n hx hb d_L_law_1010 rfl (lv_at hl 5 rfl) ?_
        refine lv_iconst (v := nI 0) hx hb d_L_law_1011 (by decide) ?_
        refine nw_lald hx hb hK hw (69) 1 (cW_69) rfl (0) (rfl) (by omega) (by omega) d_L_law_1012 ?_
        refine lv_iload hx hb d_L_law_1013 (lv_at hl 0 rfl) ?_
        refine lv_i2l (v := (((if J 3 = 0 ∨ S 5 13 ((xs (1 + 6 * i + 1)).toNatClampNeg) = nI (n 0) then -1 else S 5 13 ((xs (1 + 6 * i + 1)).toNatClampNeg))).toInt64)) hx hb d_L_law_1015 rfl ?_
        refine lv_el (y := ((vp_updL o 0 ((S 0 0 ((xs (1 + 6 * i + 1)).toNatClampNeg)).toInt64)) (0))) (congrArg Int32.toInt64 (eq_taken hLx (Classical.not_not.mp hnba)).symm) ?_
        refine W.lcmp hx hb d_L_law_1016 ?_
        refine lv_ei (y := nI 0) ((lg_cmp_eq _ _).mpr rfl) ?_
        refine lv_if_eq (tgt := 1022) hx hb d_L_law_1017 (by decide) (fun c_1017 => ?_) (fun c_1017 => ?_)
        · skip
          refine lv_goto (tgt := 1168) hx hb d_L_law_1022 (by decide) ?_
          exact W.widen (by omega) (by omega) (hNext ad n I K bw LA (va_up J 0 (nI 0)) bw2 L (vp_updL o 0 ((S 0 0 ((xs (1 + 6 * i + 1)).toNatClampNeg)).toInt64)) S (LR_thr hL) _ _ ls hw hS (lv_sub hl [2, 3, 4, 5, 6] rfl))
        · skip
          first | exact absurd c_1017 (by decide) | exact absurd (by decide) c_1017
    · skip
      exact absurd rfl c_1000

set_option maxHeartbeats 4000000 in
set_option maxRecDepth 100000 in
/-- case 14: check -/
theorem law_14 {p : Program} {l : Launch} {e : Env} {s : State} {m : MethodId} {args : Array Value} {below : List Frame} {meth : Method} {cd : Code} {Q : State → Prop} {D : va_G} {tC : Nat → ClassId} {A : Nat → Prop} {b N : Nat} {xs : Nat → Int32} (hSx : CallFix p m cd b_L_law 8 s args nw_T "HarvestPlansLaw") (hA : ∀ q, s.heap.size ≤ q → A q) (hAs : ∀ q, A q → s.heap.size ≤ q) (hKs : nw_K D hpC (hpT tC) s) (hF : nx_F s) (hfl : l.stackTraces = false) (hX : va_X b N xs s s.heap) (hbl : b < s.heap.size) (hbA : ¬ A b) (hN3 : N ≤ 3073) {cc cs i : Nat} (hcc : cc + 12 ≤ 669896) (hcs : cs + 120 ≤ 7086383) (hi : 1 + 6 * i + 6 ≤ N) (hNext : ∀ (ad : Nat → Nat) (n : Nat → Nat) (I : Nat → Nat → Int32) (K : Nat → Int32) (bw : Int64) (LA : Nat → Int64) (J : Nat → Int32) (bw2 : Int64) (L : Nat → Nat → Int64) (o : Nat → Int64) (S : Nat → Nat → Nat → Int32), LR n I K J S → ∀ (H : Heap) (locs : List Loc) (ls : Array Slot), nw_W D hpC A (cW ad tC n I K bw LA n J bw2 L o S) ad H → va_S A s.heap H locs → lv_has ls 8 [(0, .ref (b)), (1, .ref (ad (0))), (2, .ref (ad (64))), (3, .ref (ad (69))), (4, .int (nI (1 + 6 * i)))] → W p l e room_1 s m args below meth cd H locs (cc + 12) (cs + 120) Q (F0 m 1168 ls [])) (ad : Nat → Nat) (n : Nat → Nat) (I : Nat → Nat → Int32) (K : Nat → Int32) (bw : Int64) (LA : Nat → Int64) (J : Nat → Int32) (bw2 : Int64) (L : Nat → Nat → Int64) (o : Nat → Int64) (S : Nat → Nat → Nat → Int32) (hL : LR n I K J S) (H : Heap) (locs : List Loc) (ls : Array Slot) (hw : nw_W D hpC A (cW ad tC n I K bw LA n J bw2 L o S) ad H) (hS : va_S A s.heap H locs) (hl : lv_has ls 8 [(0, .ref (b)), (1, .ref (ad (0))), (2, .ref (ad (64))), (3, .ref (ad (69))), (4, .int (nI (1 + 6 * i)))]) : W p l e room_1 s m args below meth cd H locs cc cs Q (F0 m 1025 ls []) := by
  obtain ⟨hx, hb, hml, hown, hts⟩ := id hSx
  have hK := hKs.1
  have hB : nx_B s s := ⟨State.WarmedH.refl s, Nat.le_refl _, fun _ _ => rfl⟩
  obtain ⟨hm, ow, sq, hLx⟩ := id hL
  have hN : hpN n := hLx.1.1
  obtain ⟨hn0, hn0', hn1, hn2, hn3, hn4⟩ := id hN
  have hJK : J 3 = K 0 := hLx.2.2.1.1
  have hH : ∀ c, c < n 2 → I 2 c = nI (hm c) ∧ hm c < n 1 := fun c hc => ⟨hLx.2.1.1 c hc, (hLx.1.2.2.2.1 c hc).2.1⟩
  have hHm : ∀ c, c < n 2 → S 5 2 c = nI (hm c) ∧ hm c < n 1 := fun c hc => ⟨(hLx.1.2.2.2.1 c hc).1, (hLx.1.2.2.2.1 c hc).2.1⟩
  have hO : ∀ o, o < n 4 → I 4 o = nI (ow o) ∧ ow o < n 0 := fun o ho => ⟨(hLx.1.2.2.2.2.2.2.1 o ho).2.1, (hLx.1.2.2.2.2.2.2.1 o ho).2.2.1⟩
  have hSq : ∀ k, k < n 4 → S 0 1 k = nI (sq k) ∧ sq k < n 4 := fun k hk => ⟨hLx.2.1.2.1 k hk, hLx.1.2.2.2.2.2.2.2.1 k hk⟩
  have hSo : ∀ q, q < n 4 → ∃ j, j < n 4 ∧ sq j = q := hLx.1.2.2.2.2.2.2.2.2.1
  have hPl := ok_pl hLx
  obtain ⟨hz1, hz4, hz51, hz56⟩ := hLx.2.1.2.2.2
  refine lv_aload_n hx hb d_L_law_1025 rfl (lv_at hl 1 rfl) ?_
  refine lv_aload_n hx hb d_L_law_1026 rfl (lv_at hl 3 rfl) ?_
  refine nx_callC (nx_goW (n := 2) (As := [.ref (ad (0)), .ref (ad (69))]) (rest := []) hSx hA hKs hF hB hAs hw hS (w_check l D tC A ad n I K bw LA n J bw2 L o S hN s hF hfl hAs  hm hH) kt_624 kw_622 kw_623 kw_0 rfl rfl (by decide +kernel) ⟨Nat.le_of_ble_eq_true rfl, Nat.le_of_ble_eq_true rfl⟩ rfl hl.1 (Nat.le_of_ble_eq_true rfl) d_L_law_1027 ⟨by show _ ≤ 669896; omega, by show _ ≤ 7086383; omega⟩) hS (fun X wn' ad' H locs x cell hpost hw hS hcell hst hcls T' hT X0 => (lw_po_x hpost).elim) (fun rv wn' ad' H locs hpost hw hS => ?_)
  rcases lw_po_i hpost with ⟨hv, hba, hwn, had⟩ | ⟨hv, hnba, hbs, hwn, had⟩ | ⟨hv, hnba, hnbs, hG⟩
  · skip
    subst hv
    exact absurd trivial hba
  · skip
    subst hv
    rw [hwn, had] at hw
    refine lv_ei (y := nI 1) rfl ?_
    refine lv_istore (lv' := [(5, .int (nI 1)), (0, .ref (b)), (1, .ref (ad (0))), (2, .ref (ad (64))), (3, .ref (ad (69))), (4, .int (nI (1 + 6 * i)))]) hx hb d_L_law_1030 hl (by decide) rfl (fun ls hl => ?_)
    refine lv_aload_n hx hb d_L_law_1032 rfl (lv_at hl 3 rfl) ?_
    have hw := nw_W.as (wn' := mW ad tC n J bw2 L (obX ad tC n I K bw LA (bE tC o)) (arX tC n aE0) S) hw cW_m.symm
    refine nw_call (nw_goV (n := 0) (As := []) (rest := []) hSx hA hKs hw hS (c_M_check l D tC A ad n J bw2 L (obX ad tC n I K bw LA (bE tC o)) (arX tC n aE0) S hN  hm hHm) kw_900 kw_897 kw_898 kw_899 kw_8 rfl rfl (by decide +kernel) ⟨Nat.le_of_ble_eq_true rfl, Nat.le_of_ble_eq_true rfl⟩ (nw_recv hK hw (mW_64) rfl) rfl hl.1 (Nat.le_of_ble_eq_true rfl) d_L_law_1033 ⟨by show _ ≤ 669896; omega, by show _ ≤ 7086383; omega⟩) hS (fun rv wn' ad9 H locs hpost hw hS => ?_)
    obtain ⟨had9, hmo⟩ := hpost
    rw [had9] at hw
    rcases hmo with ⟨hq1, _⟩ | ⟨hq1, hq4, hq2, hq3⟩ | ⟨hq1, hq4, _⟩
    · exact absurd hq1 hnba
    rotate_left
    · exact absurd (fun h => hbs (fun h9 => h (hJK.trans h9))) hq4
    subst hq2
    rw [hq3] at hw
    have hw := nw_W.as (wn' := cW ad tC n I K bw LA n (va_up J 0 1) bw2 L o S) hw cW_m
    refine lv_istore (lv' := [(6, .int (nI 0)), (5, .int (nI 1)), (0, .ref (b)), (1, .ref (ad (0))), (2, .ref (ad (64))), (3, .ref (ad (69))), (4, .int (nI (1 + 6 * i)))]) hx hb d_L_law_1036 hl (by decide) rfl (fun ls hl => ?_)
    refine lv_aload_n hx hb d_L_law_1038 rfl (lv_at hl 4 rfl) ?_
    have hw := nw_W.as (wn' := mW ad tC n (va_up J 0 1) bw2 L (obX ad tC n I K bw LA (bE tC o)) (arX tC n aE0) S) hw cW_m.symm
    refine nw_call (nw_goV (n := 0) (As := []) (rest := []) hSx hA hKs hw hS (c_M_thrown l D tC A ad n (va_up J 0 1) bw2 L (obX ad tC n I K bw LA (bE tC o)) (arX tC n aE0) S hN  ) kw_762 kw_759 kw_760 kw_761 kw_8 rfl rfl (by decide +kernel) ⟨Nat.le_of_ble_eq_true rfl, Nat.le_of_ble_eq_true rfl⟩ (nw_recv hK hw (mW_64) rfl) rfl hl.1 (Nat.le_of_ble_eq_true rfl) d_L_law_1039 ⟨by show _ ≤ 669896; omega, by show _ ≤ 7086383; omega⟩) hS (fun rv wn' ad9 H locs hpost hw hS => ?_)
    obtain ⟨hv9, hwn9, had9⟩ := hpost
    subst hv9
    rw [hwn9, had9] at hw
    have hw := nw_W.as (wn' := cW ad tC n I K bw LA n (va_up J 0 1) bw2 L o S) hw cW_m
    refine lv_ei (y := nI 1) rfl ?_
    refine lv_iload hx hb d_L_law_1042 (lv_at hl 1 rfl) ?_
    refine lv_icmp_eq (tgt := 1049) hx hb d_L_law_1044 (by decide) (fun c_1044 => ?_) (fun c_1044 => ?_)
    · skip
      refine lv_iload hx hb d_L_law_1049 (lv_at hl 1 rfl) ?_
      refine lv_if_ne (tgt := 1066) hx hb d_L_law_1051 (by decide) (fun c_1051 => ?_) (fun c_1051 => ?_)
      · skip
        refine lv_goto (tgt := 1168) hx hb d_L_law_1066 (by decide) ?_
        exact W.widen (by omega) (by omega) (hNext ad n I K bw LA (va_up J 0 1) bw2 L o S (LR_thr hL) _ _ ls hw hS (lv_sub hl [2, 3, 4, 5, 6] rfl))
      · skip
        first | exact absurd c_1051 (by decide) | exact absurd (by decide) c_1051
    · skip
      exact absurd rfl c_1044
  · skip
    subst hv
    obtain ⟨had, S1, hsc, hwn⟩ := hG
    rw [hwn, had] at hw
    have hS52 : S1 5 2 = S 5 2 := hsc 5 2 (by omega)
    have hHm1 : ∀ c, c < n 2 → S1 5 2 c = nI (hm c) ∧ hm c < n 1 := fun c hc => by rw [hS52]; exact hHm c hc
    refine lv_istore (lv' := [(5, .int (nI 0)), (0, .ref (b)), (1, .ref (ad (0))), (2, .ref (ad (64))), (3, .ref (ad (69))), (4, .int (nI (1 + 6 * i)))]) hx hb d_L_law_1030 hl (by decide) rfl (fun ls hl => ?_)
    refine lv_aload_n hx hb d_L_law_1032 rfl (lv_at hl 3 rfl) ?_
    have hw := nw_W.as (wn' := mW ad tC n J bw2 L (obX ad tC n I K bw LA (bE tC (vp_updL o 0 ((ckV (fun w => lbI (pPlant n S (S 0 0) w) (pBoats n I S (S 0 0) w) (pClosed n hm S (S 0 0) w) (pHeld n I hm S (S 0 0) w)) (n 0)).toInt64)))) (arX tC n aE0) S1) hw cW_m.symm
    refine nw_call (nw_goV (n := 0) (As := []) (rest := []) hSx hA hKs hw hS (c_M_check l D tC A ad n J bw2 L (obX ad tC n I K bw LA (bE tC (vp_updL o 0 ((ckV (fun w => lbI (pPlant n S (S 0 0) w) (pBoats n I S (S 0 0) w) (pClosed n hm S (S 0 0) w) (pHeld n I hm S (S 0 0) w)) (n 0)).toInt64)))) (arX tC n aE0) S1 hN  hm hHm1) kw_900 kw_897 kw_898 kw_899 kw_8 rfl rfl (by decide +kernel) ⟨Nat.le_of_ble_eq_true rfl, Nat.le_of_ble_eq_true rfl⟩ (nw_recv hK hw (mW_64) rfl) rfl hl.1 (Nat.le_of_ble_eq_true rfl) d_L_law_1033 ⟨by show _ ≤ 669896; omega, by show _ ≤ 7086383; omega⟩) hS (fun rv wn' ad9 H locs hpost hw hS => ?_)
    obtain ⟨had9, hmo⟩ := hpost
    rw [had9] at hw
    rcases hmo with ⟨hq1, _⟩ | ⟨hq1, hq4, _⟩ | ⟨hq1, hq4, hGm⟩
    · exact absurd hq1 hnba
    · exact absurd hq4 (fun h => hnbs (fun h9 => h (fun h8 => h9 (hJK.symm.trans h8))))
    obtain ⟨hv9, L9, S9, hsm, hw9⟩ := hGm
    subst hv9
    rw [hw9] at hw
    have hw := nw_W.as (wn' := cW ad tC n I K bw LA n (va_up J 0 (nI 0)) bw2 L9 (vp_updL o 0 ((ckV (fun w => lbI (pPlant n S (S 0 0) w) (pBoats n I S (S 0 0) w) (pClosed n hm S (S 0 0) w) (pHeld n I hm S (S 0 0) w)) (n 0)).toInt64)) S9) hw cW_m
    refine lv_istore (lv' := [(6, .int (ckV (fun w => lbI (qPlant (upR S1 5 14 (cpR (S1 5 13) (S1 5 14) (n 2))) w (n 2)) (qBoats n (upR S1 5 14 (cpR (S1 5 13) (S1 5 14) (n 2))) w (n 2)) (qOpen (upR S1 5 14 (cpR (S1 5 13) (S1 5 14) (n 2))) hm w (n 2)) (true = true → qHeld n (upR S1 5 14 (cpR (S1 5 13) (S1 5 14) (n 2))) w)) (n 0))), (5, .int (nI 0)), (0, .ref (b)), (1, .ref (ad (0))), (2, .ref (ad (64))), (3, .ref (ad (69))), (4, .int (nI (1 + 6 * i)))]) hx hb d_L_law_1036 hl (by decide) rfl (fun ls hl => ?_)
    refine lv_aload_n hx hb d_L_law_1038 rfl (lv_at hl 4 rfl) ?_
    have hw := nw_W.as (wn' := mW ad tC n (va_up J 0 (nI 0)) bw2 L9 (obX ad tC n I K bw LA (bE tC (vp_updL o 0 ((ckV (fun w => lbI (pPlant n S (S 0 0) w) (pBoats n I S (S 0 0) w) (pClosed n hm S (S 0 0) w) (pHeld n I hm S (S 0 0) w)) (n 0)).toInt64)))) (arX tC n aE0) S9) hw cW_m.symm
    refine nw_call (nw_goV (n := 0) (As := []) (rest := []) hSx hA hKs hw hS (c_M_thrown l D tC A ad n (va_up J 0 (nI 0)) bw2 L9 (obX ad tC n I K bw LA (bE tC (vp_updL o 0 ((ckV (fun w => lbI (pPlant n S (S 0 0) w) (pBoats n I S (S 0 0) w) (pClosed n hm S (S 0 0) w) (pHeld n I hm S (S 0 0) w)) (n 0)).toInt64)))) (arX tC n aE0) S9 hN  ) kw_762 kw_759 kw_760 kw_761 kw_8 rfl rfl (by decide +kernel) ⟨Nat.le_of_ble_eq_true rfl, Nat.le_of_ble_eq_true rfl⟩ (nw_recv hK hw (mW_64) rfl) rfl hl.1 (Nat.le_of_ble_eq_true rfl) d_L_law_1039 ⟨by show _ ≤ 669896; omega, by show _ ≤ 7086383; omega⟩) hS (fun rv wn' ad9 H locs hpost hw hS => ?_)
    obtain ⟨hv9, hwn9, had9⟩ := hpost
    subst hv9
    rw [hwn9, had9] at hw
    have hw := nw_W.as (wn' := cW ad tC n I K bw LA n (va_up J 0 (nI 0)) bw2 L9 (vp_updL o 0 ((ckV (fun w => lbI (pPlant n S (S 0 0) w) (pBoats n I S (S 0 0) w) (pClosed n hm S (S 0 0) w) (pHeld n I hm S (S 0 0) w)) (n 0)).toInt64)) S9) hw cW_m
    refine lv_ei (y := nI 0) rfl ?_
    refine lv_iload hx hb d_L_law_1042 (lv_at hl 1 rfl) ?_
    refine lv_icmp_eq (tgt := 1049) hx hb d_L_law_1044 (by decide) (fun c_1044 => ?_) (fun c_1044 => ?_)
    · skip
      refine lv_iload hx hb d_L_law_1049 (lv_at hl 1 rfl) ?_
      refine lv_if_ne (tgt := 1066) hx hb d_L_law_1051 (by decide) (fun c_1051 => ?_) (fun c_1051 => ?_)
      · skip
        first | exact absurd c_1051 (by decide) | exact absurd (by decide) c_1051
      · skip
        refine lv_aload_n hx hb d_L_law_1054 rfl (lv_at hl 5 rfl) ?_
        refine lv_iconst (v := nI 0) hx hb d_L_law_1055 (by decide) ?_
        refine nw_lald hx hb hK hw (69) 1 (cW_69) rfl (0) (rfl) (by omega) (by omega) d_L_law_1056 ?_
        refine lv_iload hx hb d_L_law_1057 (lv_at hl 0 rfl) ?_
        refine lv_i2l (v := ((ckV (fun w => lbI (qPlant (upR S1 5 14 (cpR (S1 5 13) (S1 5 14) (n 2))) w (n 2)) (qBoats n (upR S1 5 14 (cpR (S1 5 13) (S1 5 14) (n 2))) w (n 2)) (qOpen (upR S1 5 14 (cpR (S1 5 13) (S1 5 14) (n 2))) hm w (n 2)) (true = true → qHeld n (upR S1 5 14 (cpR (S1 5 13) (S1 5 14) (n 2))) w)) (n 0)).toInt64)) hx hb d_L_law_1059 rfl ?_
        refine lv_el (y := ((vp_updL o 0 ((ckV (fun w => lbI (pPlant n S (S 0 0) w) (pBoats n I S (S 0 0) w) (pClosed n hm S (S 0 0) w) (pHeld n I hm S (S 0 0) w)) (n 0)).toInt64)) (0))) (congrArg Int32.toInt64 (eq_check hLx (Classical.not_not.mp hnbs) (cR_scr hsc) rfl).symm) ?_
        refine W.lcmp hx hb d_L_law_1060 ?_
        refine lv_ei (y := nI 0) ((lg_cmp_eq _ _).mpr rfl) ?_
        refine lv_if_eq (tgt := 1066) hx hb d_L_law_1061 (by decide) (fun c_1061 => ?_) (fun c_1061 => ?_)
        · skip
          refine lv_goto (tgt := 1168) hx hb d_L_law_1066 (by decide) ?_
          exact W.widen (by omega) (by omega) (hNext ad n I K bw LA (va_up J 0 (nI 0)) bw2 L9 (vp_updL o 0 ((ckV (fun w => lbI (pPlant n S (S 0 0) w) (pBoats n I S (S 0 0) w) (pClosed n hm S (S 0 0) w) (pHeld n I hm S (S 0 0) w)) (n 0)).toInt64)) S9 (LR_thr (LR_cR (cR_tr (cR_scr hsc) (cR_tr (cR_up (Or.inr (Or.inl ⟨rfl, Nat.le_refl _⟩))) (cR_scm hsm))) hL)) _ _ ls hw hS (lv_sub hl [2, 3, 4, 5, 6] rfl))
        · skip
          first | exact absurd c_1061 (by decide) | exact absurd (by decide) c_1061
    · skip
      exact absurd rfl c_1044

set_option maxHeartbeats 4000000 in
set_option maxRecDepth 100000 in
/-- case 15: worth -/
theorem law_15 {p : Program} {l : Launch} {e : Env} {s : State} {m : MethodId} {args : Array Value} {below : List Frame} {meth : Method} {cd : Code} {Q : State → Prop} {D : va_G} {tC : Nat → ClassId} {A : Nat → Prop} {b N : Nat} {xs : Nat → Int32} (hSx : CallFix p m cd b_L_law 8 s args nw_T "HarvestPlansLaw") (hA : ∀ q, s.heap.size ≤ q → A q) (hAs : ∀ q, A q → s.heap.size ≤ q) (hKs : nw_K D hpC (hpT tC) s) (hF : nx_F s) (hfl : l.stackTraces = false) (hX : va_X b N xs s s.heap) (hbl : b < s.heap.size) (hbA : ¬ A b) (hN3 : N ≤ 3073) {cc cs i : Nat} (hcc : cc + 12 ≤ 669896) (hcs : cs + 120 ≤ 7086383) (hi : 1 + 6 * i + 6 ≤ N) (hNext : ∀ (ad : Nat → Nat) (n : Nat → Nat) (I : Nat → Nat → Int32) (K : Nat → Int32) (bw : Int64) (LA : Nat → Int64) (J : Nat → Int32) (bw2 : Int64) (L : Nat → Nat → Int64) (o : Nat → Int64) (S : Nat → Nat → Nat → Int32), LR n I K J S → ∀ (H : Heap) (locs : List Loc) (ls : Array Slot), nw_W D hpC A (cW ad tC n I K bw LA n J bw2 L o S) ad H → va_S A s.heap H locs → lv_has ls 8 [(0, .ref (b)), (1, .ref (ad (0))), (2, .ref (ad (64))), (3, .ref (ad (69))), (4, .int (nI (1 + 6 * i)))] → W p l e room_1 s m args below meth cd H locs (cc + 12) (cs + 120) Q (F0 m 1168 ls [])) (ad : Nat → Nat) (n : Nat → Nat) (I : Nat → Nat → Int32) (K : Nat → Int32) (bw : Int64) (LA : Nat → Int64) (J : Nat → Int32) (bw2 : Int64) (L : Nat → Nat → Int64) (o : Nat → Int64) (S : Nat → Nat → Nat → Int32) (hL : LR n I K J S) (H : Heap) (locs : List Loc) (ls : Array Slot) (hw : nw_W D hpC A (cW ad tC n I K bw LA n J bw2 L o S) ad H) (hS : va_S A s.heap H locs) (hl : lv_has ls 8 [(0, .ref (b)), (1, .ref (ad (0))), (2, .ref (ad (64))), (3, .ref (ad (69))), (4, .int (nI (1 + 6 * i)))]) : W p l e room_1 s m args below meth cd H locs cc cs Q (F0 m 1069 ls []) := by
  obtain ⟨hx, hb, hml, hown, hts⟩ := id hSx
  have hK := hKs.1
  have hB : nx_B s s := ⟨State.WarmedH.refl s, Nat.le_refl _, fun _ _ => rfl⟩
  obtain ⟨hm, ow, sq, hLx⟩ := id hL
  have hN : hpN n := hLx.1.1
  obtain ⟨hn0, hn0', hn1, hn2, hn3, hn4⟩ := id hN
  have hJK : J 3 = K 0 := hLx.2.2.1.1
  have hH : ∀ c, c < n 2 → I 2 c = nI (hm c) ∧ hm c < n 1 := fun c hc => ⟨hLx.2.1.1 c hc, (hLx.1.2.2.2.1 c hc).2.1⟩
  have hHm : ∀ c, c < n 2 → S 5 2 c = nI (hm c) ∧ hm c < n 1 := fun c hc => ⟨(hLx.1.2.2.2.1 c hc).1, (hLx.1.2.2.2.1 c hc).2.1⟩
  have hO : ∀ o, o < n 4 → I 4 o = nI (ow o) ∧ ow o < n 0 := fun o ho => ⟨(hLx.1.2.2.2.2.2.2.1 o ho).2.1, (hLx.1.2.2.2.2.2.2.1 o ho).2.2.1⟩
  have hSq : ∀ k, k < n 4 → S 0 1 k = nI (sq k) ∧ sq k < n 4 := fun k hk => ⟨hLx.2.1.2.1 k hk, hLx.1.2.2.2.2.2.2.2.1 k hk⟩
  have hSo : ∀ q, q < n 4 → ∃ j, j < n 4 ∧ sq j = q := hLx.1.2.2.2.2.2.2.2.2.1
  have hPl := ok_pl hLx
  obtain ⟨hz1, hz4, hz51, hz56⟩ := hLx.2.1.2.2.2
  refine lv_aload_n hx hb d_L_law_1069 rfl (lv_at hl 1 rfl) ?_
  refine lv_aload_n hx hb d_L_law_1070 rfl (lv_at hl 3 rfl) ?_
  refine nx_callC (nx_goW (n := 2) (As := [.ref (ad (0)), .ref (ad (69))]) (rest := []) hSx hA hKs hF hB hAs hw hS (w_worth l D tC A ad n I K bw LA n J bw2 L o S hN s hF hfl hAs  ow hO hPl sq hSq hSo) kt_640 kw_638 kw_639 kw_0 rfl rfl (by decide +kernel) ⟨Nat.le_of_ble_eq_true rfl, Nat.le_of_ble_eq_true rfl⟩ rfl hl.1 (Nat.le_of_ble_eq_true rfl) d_L_law_1071 ⟨by show _ ≤ 669896; omega, by show _ ≤ 7086383; omega⟩) hS (fun X wn' ad' H locs x cell hpost hw hS hcell hst hcls T' hT X0 => (lw_po_x hpost).elim) (fun rv wn' ad' H locs hpost hw hS => ?_)
  rcases lw_po_i hpost with ⟨hv, hba, hwn, had⟩ | ⟨hv, hnba, hbs, hwn, had⟩ | ⟨hv, hnba, hnbs, hG⟩
  · skip
    subst hv
    exact absurd trivial hba
  · skip
    subst hv
    rw [hwn, had] at hw
    refine lv_ei (y := nI 1) rfl ?_
    refine lv_istore (lv' := [(5, .int (nI 1)), (0, .ref (b)), (1, .ref (ad (0))), (2, .ref (ad (64))), (3, .ref (ad (69))), (4, .int (nI (1 + 6 * i)))]) hx hb d_L_law_1074 hl (by decide) rfl (fun ls hl => ?_)
    refine lv_aload_n hx hb d_L_law_1076 rfl (lv_at hl 3 rfl) ?_
    have hw := nw_W.as (wn' := mW ad tC n J bw2 L (obX ad tC n I K bw LA (bE tC o)) (arX tC n aE0) S) hw cW_m.symm
    refine nw_call (nw_goV (n := 0) (As := []) (rest := []) hSx hA hKs hw hS (c_M_worth l D tC A ad n J bw2 L (obX ad tC n I K bw LA (bE tC o)) (arX tC n aE0) S hN  ) kw_908 kw_905 kw_906 kw_907 kw_8 rfl rfl (by decide +kernel) ⟨Nat.le_of_ble_eq_true rfl, Nat.le_of_ble_eq_true rfl⟩ (nw_recv hK hw (mW_64) rfl) rfl hl.1 (Nat.le_of_ble_eq_true rfl) d_L_law_1077 ⟨by show _ ≤ 669896; omega, by show _ ≤ 7086383; omega⟩) hS (fun rv wn' ad9 H locs hpost hw hS => ?_)
    obtain ⟨had9, hmo⟩ := hpost
    rw [had9] at hw
    rcases hmo with ⟨hq1, _⟩ | ⟨hq1, hq4, hq2, hq3⟩ | ⟨hq1, hq4, _⟩
    · exact absurd hq1 hnba
    rotate_left
    · exact absurd (fun h => hbs (fun h9 => h (hJK.trans h9))) hq4
    subst hq2
    rw [hq3] at hw
    have hw := nw_W.as (wn' := cW ad tC n I K bw LA n (va_up J 0 1) bw2 L o S) hw cW_m
    refine lv_lstore (lv' := [(6, .long (0)), (5, .int (nI 1)), (0, .ref (b)), (1, .ref (ad (0))), (2, .ref (ad (64))), (3, .ref (ad (69))), (4, .int (nI (1 + 6 * i)))]) hx hb d_L_law_1080 hl (by decide) rfl (fun ls hl => ?_)
    refine lv_aload_n hx hb d_L_law_1082 rfl (lv_at hl 4 rfl) ?_
    have hw := nw_W.as (wn' := mW ad tC n (va_up J 0 1) bw2 L (obX ad tC n I K bw LA (bE tC o)) (arX tC n aE0) S) hw cW_m.symm
    refine nw_call (nw_goV (n := 0) (As := []) (rest := []) hSx hA hKs hw hS (c_M_thrown l D tC A ad n (va_up J 0 1) bw2 L (obX ad tC n I K bw LA (bE tC o)) (arX tC n aE0) S hN  ) kw_762 kw_759 kw_760 kw_761 kw_8 rfl rfl (by decide +kernel) ⟨Nat.le_of_ble_eq_true rfl, Nat.le_of_ble_eq_true rfl⟩ (nw_recv hK hw (mW_64) rfl) rfl hl.1 (Nat.le_of_ble_eq_true rfl) d_L_law_1083 ⟨by show _ ≤ 669896; omega, by show _ ≤ 7086383; omega⟩) hS (fun rv wn' ad9 H locs hpost hw hS => ?_)
    obtain ⟨hv9, hwn9, had9⟩ := hpost
    subst hv9
    rw [hwn9, had9] at hw
    have hw := nw_W.as (wn' := cW ad tC n I K bw LA n (va_up J 0 1) bw2 L o S) hw cW_m
    refine lv_ei (y := nI 1) rfl ?_
    refine lv_iload hx hb d_L_law_1086 (lv_at hl 1 rfl) ?_
    refine lv_icmp_eq (tgt := 1093) hx hb d_L_law_1088 (by decide) (fun c_1088 => ?_) (fun c_1088 => ?_)
    · skip
      refine lv_iload hx hb d_L_law_1093 (lv_at hl 1 rfl) ?_
      refine lv_if_ne (tgt := 1109) hx hb d_L_law_1095 (by decide) (fun c_1095 => ?_) (fun c_1095 => ?_)
      · skip
        refine lv_goto (tgt := 1168) hx hb d_L_law_1109 (by decide) ?_
        exact W.widen (by omega) (by omega) (hNext ad n I K bw LA (va_up J 0 1) bw2 L o S (LR_thr hL) _ _ ls hw hS (lv_sub hl [2, 3, 4, 5, 6] rfl))
      · skip
        first | exact absurd c_1095 (by decide) | exact absurd (by decide) c_1095
    · skip
      exact absurd rfl c_1088
  · skip
    subst hv
    obtain ⟨had, S1, hsc, hwn⟩ := hG
    rw [hwn, had] at hw
    have hS52 : S1 5 2 = S 5 2 := hsc 5 2 (by omega)
    have hHm1 : ∀ c, c < n 2 → S1 5 2 c = nI (hm c) ∧ hm c < n 1 := fun c hc => by rw [hS52]; exact hHm c hc
    refine lv_istore (lv' := [(5, .int (nI 0)), (0, .ref (b)), (1, .ref (ad (0))), (2, .ref (ad (64))), (3, .ref (ad (69))), (4, .int (nI (1 + 6 * i)))]) hx hb d_L_law_1074 hl (by decide) rfl (fun ls hl => ?_)
    refine lv_aload_n hx hb d_L_law_1076 rfl (lv_at hl 3 rfl) ?_
    have hw := nw_W.as (wn' := mW ad tC n J bw2 L (obX ad tC n I K bw LA (bE tC (vp_updL o 0 (wrL n I ow sq S (S 0 0))))) (arX tC n aE0) S1) hw cW_m.symm
    refine nw_call (nw_goV (n := 0) (As := []) (rest := []) hSx hA hKs hw hS (c_M_worth l D tC A ad n J bw2 L (obX ad tC n I K bw LA (bE tC (vp_updL o 0 (wrL n I ow sq S (S 0 0))))) (arX tC n aE0) S1 hN  ) kw_908 kw_905 kw_906 kw_907 kw_8 rfl rfl (by decide +kernel) ⟨Nat.le_of_ble_eq_true rfl, Nat.le_of_ble_eq_true rfl⟩ (nw_recv hK hw (mW_64) rfl) rfl hl.1 (Nat.le_of_ble_eq_true rfl) d_L_law_1077 ⟨by show _ ≤ 669896; omega, by show _ ≤ 7086383; omega⟩) hS (fun rv wn' ad9 H locs hpost hw hS => ?_)
    obtain ⟨had9, hmo⟩ := hpost
    rw [had9] at hw
    rcases hmo with ⟨hq1, _⟩ | ⟨hq1, hq4, _⟩ | ⟨hq1, hq4, hGm⟩
    · exact absurd hq1 hnba
    · exact absurd hq4 (fun h => hnbs (fun h9 => h (fun h8 => h9 (hJK.symm.trans h8))))
    obtain ⟨hv9, L9, S9, hsm, hw9⟩ := hGm
    subst hv9
    rw [hw9] at hw
    have hw := nw_W.as (wn' := cW ad tC n I K bw LA n (va_up J 0 (nI 0)) bw2 L9 (vp_updL o 0 (wrL n I ow sq S (S 0 0))) S9) hw cW_m
    refine lv_lstore (lv' := [(6, .long (vlL n (upR S1 5 14 (cpR (S1 5 13) (S1 5 14) (n 2))) (va_up J 0 (nI 0)))), (5, .int (nI 0)), (0, .ref (b)), (1, .ref (ad (0))), (2, .ref (ad (64))), (3, .ref (ad (69))), (4, .int (nI (1 + 6 * i)))]) hx hb d_L_law_1080 hl (by decide) rfl (fun ls hl => ?_)
    refine lv_aload_n hx hb d_L_law_1082 rfl (lv_at hl 4 rfl) ?_
    have hw := nw_W.as (wn' := mW ad tC n (va_up J 0 (nI 0)) bw2 L9 (obX ad tC n I K bw LA (bE tC (vp_updL o 0 (wrL n I ow sq S (S 0 0))))) (arX tC n aE0) S9) hw cW_m.symm
    refine nw_call (nw_goV (n := 0) (As := []) (rest := []) hSx hA hKs hw hS (c_M_thrown l D tC A ad n (va_up J 0 (nI 0)) bw2 L9 (obX ad tC n I K bw LA (bE tC (vp_updL o 0 (wrL n I ow sq S (S 0 0))))) (arX tC n aE0) S9 hN  ) kw_762 kw_759 kw_760 kw_761 kw_8 rfl rfl (by decide +kernel) ⟨Nat.le_of_ble_eq_true rfl, Nat.le_of_ble_eq_true rfl⟩ (nw_recv hK hw (mW_64) rfl) rfl hl.1 (Nat.le_of_ble_eq_true rfl) d_L_law_1083 ⟨by show _ ≤ 669896; omega, by show _ ≤ 7086383; omega⟩) hS (fun rv wn' ad9 H locs hpost hw hS => ?_)
    obtain ⟨hv9, hwn9, had9⟩ := hpost
    subst hv9
    rw [hwn9, had9] at hw
    have hw := nw_W.as (wn' := cW ad tC n I K bw LA n (va_up J 0 (nI 0)) bw2 L9 (vp_updL o 0 (wrL n I ow sq S (S 0 0))) S9) hw cW_m
    refine lv_ei (y := nI 0) rfl ?_
    refine lv_iload hx hb d_L_law_1086 (lv_at hl 1 rfl) ?_
    refine lv_icmp_eq (tgt := 1093) hx hb d_L_law_1088 (by decide) (fun c_1088 => ?_) (fun c_1088 => ?_)
    · skip
      refine lv_iload hx hb d_L_law_1093 (lv_at hl 1 rfl) ?_
      refine lv_if_ne (tgt := 1109) hx hb d_L_law_1095 (by decide) (fun c_1095 => ?_) (fun c_1095 => ?_)
      · skip
        first | exact absurd c_1095 (by decide) | exact absurd (by decide) c_1095
      · skip
        refine lv_aload_n hx hb d_L_law_1098 rfl (lv_at hl 5 rfl) ?_
        refine lv_iconst (v := nI 0) hx hb d_L_law_1099 (by decide) ?_
        refine nw_lald hx hb hK hw (69) 1 (cW_69) rfl (0) (rfl) (by omega) (by omega) d_L_law_1100 ?_
        refine lv_lload hx hb d_L_law_1101 (lv_at hl 0 rfl) ?_
        refine lv_el (y := ((vp_updL o 0 (wrL n I ow sq S (S 0 0))) (0))) ((eq_worths hLx (Classical.not_not.mp hnbs) (cR_scr hsc) rfl).symm) ?_
        refine W.lcmp hx hb d_L_law_1103 ?_
        refine lv_ei (y := nI 0) ((lg_cmp_eq _ _).mpr rfl) ?_
        refine lv_if_eq (tgt := 1109) hx hb d_L_law_1104 (by decide) (fun c_1104 => ?_) (fun c_1104 => ?_)
        · skip
          refine lv_goto (tgt := 1168) hx hb d_L_law_1109 (by decide) ?_
          exact W.widen (by omega) (by omega) (hNext ad n I K bw LA (va_up J 0 (nI 0)) bw2 L9 (vp_updL o 0 (wrL n I ow sq S (S 0 0))) S9 (LR_thr (LR_cR (cR_tr (cR_scr hsc) (cR_tr (cR_up (Or.inr (Or.inl ⟨rfl, Nat.le_refl _⟩))) (cR_scm hsm))) hL)) _ _ ls hw hS (lv_sub hl [2, 3, 4, 5, 6] rfl))
        · skip
          first | exact absurd c_1104 (by decide) | exact absurd (by decide) c_1104
    · skip
      exact absurd rfl c_1088

set_option maxHeartbeats 4000000 in
set_option maxRecDepth 100000 in
/-- case 16: sold -/
theorem law_16 {p : Program} {l : Launch} {e : Env} {s : State} {m : MethodId} {args : Array Value} {below : List Frame} {meth : Method} {cd : Code} {Q : State → Prop} {D : va_G} {tC : Nat → ClassId} {A : Nat → Prop} {b N : Nat} {xs : Nat → Int32} (hSx : CallFix p m cd b_L_law 8 s args nw_T "HarvestPlansLaw") (hA : ∀ q, s.heap.size ≤ q → A q) (hAs : ∀ q, A q → s.heap.size ≤ q) (hKs : nw_K D hpC (hpT tC) s) (hF : nx_F s) (hfl : l.stackTraces = false) (hX : va_X b N xs s s.heap) (hbl : b < s.heap.size) (hbA : ¬ A b) (hN3 : N ≤ 3073) {cc cs i : Nat} (hcc : cc + 12 ≤ 669896) (hcs : cs + 120 ≤ 7086383) (hi : 1 + 6 * i + 6 ≤ N) (hNext : ∀ (ad : Nat → Nat) (n : Nat → Nat) (I : Nat → Nat → Int32) (K : Nat → Int32) (bw : Int64) (LA : Nat → Int64) (J : Nat → Int32) (bw2 : Int64) (L : Nat → Nat → Int64) (o : Nat → Int64) (S : Nat → Nat → Nat → Int32), LR n I K J S → ∀ (H : Heap) (locs : List Loc) (ls : Array Slot), nw_W D hpC A (cW ad tC n I K bw LA n J bw2 L o S) ad H → va_S A s.heap H locs → lv_has ls 8 [(0, .ref (b)), (1, .ref (ad (0))), (2, .ref (ad (64))), (3, .ref (ad (69))), (4, .int (nI (1 + 6 * i)))] → W p l e room_1 s m args below meth cd H locs (cc + 12) (cs + 120) Q (F0 m 1168 ls [])) (ad : Nat → Nat) (n : Nat → Nat) (I : Nat → Nat → Int32) (K : Nat → Int32) (bw : Int64) (LA : Nat → Int64) (J : Nat → Int32) (bw2 : Int64) (L : Nat → Nat → Int64) (o : Nat → Int64) (S : Nat → Nat → Nat → Int32) (hL : LR n I K J S) (H : Heap) (locs : List Loc) (ls : Array Slot) (hw : nw_W D hpC A (cW ad tC n I K bw LA n J bw2 L o S) ad H) (hS : va_S A s.heap H locs) (hl : lv_has ls 8 [(0, .ref (b)), (1, .ref (ad (0))), (2, .ref (ad (64))), (3, .ref (ad (69))), (4, .int (nI (1 + 6 * i)))]) : W p l e room_1 s m args below meth cd H locs cc cs Q (F0 m 1112 ls []) := by
  obtain ⟨hx, hb, hml, hown, hts⟩ := id hSx
  have hK := hKs.1
  have hB : nx_B s s := ⟨State.WarmedH.refl s, Nat.le_refl _, fun _ _ => rfl⟩
  obtain ⟨hm, ow, sq, hLx⟩ := id hL
  have hN : hpN n := hLx.1.1
  obtain ⟨hn0, hn0', hn1, hn2, hn3, hn4⟩ := id hN
  have hJK : J 3 = K 0 := hLx.2.2.1.1
  have hH : ∀ c, c < n 2 → I 2 c = nI (hm c) ∧ hm c < n 1 := fun c hc => ⟨hLx.2.1.1 c hc, (hLx.1.2.2.2.1 c hc).2.1⟩
  have hHm : ∀ c, c < n 2 → S 5 2 c = nI (hm c) ∧ hm c < n 1 := fun c hc => ⟨(hLx.1.2.2.2.1 c hc).1, (hLx.1.2.2.2.1 c hc).2.1⟩
  have hO : ∀ o, o < n 4 → I 4 o = nI (ow o) ∧ ow o < n 0 := fun o ho => ⟨(hLx.1.2.2.2.2.2.2.1 o ho).2.1, (hLx.1.2.2.2.2.2.2.1 o ho).2.2.1⟩
  have hSq : ∀ k, k < n 4 → S 0 1 k = nI (sq k) ∧ sq k < n 4 := fun k hk => ⟨hLx.2.1.2.1 k hk, hLx.1.2.2.2.2.2.2.2.1 k hk⟩
  have hSo : ∀ q, q < n 4 → ∃ j, j < n 4 ∧ sq j = q := hLx.1.2.2.2.2.2.2.2.2.1
  have hPl := ok_pl hLx
  obtain ⟨hz1, hz4, hz51, hz56⟩ := hLx.2.1.2.2.2
  refine lv_aload_n hx hb d_L_law_1112 rfl (lv_at hl 1 rfl) ?_
  refine lv_aload_n hx hb d_L_law_1113 rfl (lv_at hl 0 rfl) ?_
  refine lv_iload hx hb d_L_law_1114 (lv_at hl 4 rfl) ?_
  refine lv_iconst (v := nI 1) hx hb d_L_law_1116 (by decide) ?_
  refine lv_iadd hx hb d_L_law_1117 ?_
  refine lv_ei (y := nI (1 + 6 * i + 1)) (nI_add _ _) ?_
  refine va_sld hx hb hX hbl hbA hS (vp_in_nI (by omega) (by omega)) d_L_law_1118 ?_
  refine lv_ei (y := xs (1 + 6 * i + 1)) (by rw [nI_clamp (by omega)]) ?_
  refine lv_aload_n hx hb d_L_law_1119 rfl (lv_at hl 3 rfl) ?_
  refine nx_callC (nx_goW (n := 3) (As := [.ref (ad (0)), .int (xs (1 + 6 * i + 1)), .ref (ad (69))]) (rest := []) hSx hA hKs hF hB hAs hw hS (w_sold l D tC A ad n I K bw LA n J bw2 L o S hN s hF hfl hAs (xs (1 + 6 * i + 1)) ow hO hPl sq hSq hSo) kt_648 kw_646 kw_647 kw_0 rfl rfl (by decide +kernel) ⟨Nat.le_of_ble_eq_true rfl, Nat.le_of_ble_eq_true rfl⟩ rfl hl.1 (Nat.le_of_ble_eq_true rfl) d_L_law_1120 ⟨by show _ ≤ 669896; omega, by show _ ≤ 7086383; omega⟩) hS (fun X wn' ad' H locs x cell hpost hw hS hcell hst hcls T' hT X0 => (lw_po_x hpost).elim) (fun rv wn' ad' H locs hpost hw hS => ?_)
  rcases lw_po_i hpost with ⟨hv, hba, hwn, had⟩ | ⟨hv, hnba, hbs, hwn, had⟩ | ⟨hv, hnba, hnbs, hG⟩
  · skip
    subst hv
    rw [hwn, had] at hw
    refine lv_istore (lv' := [(5, .int (nI 1)), (0, .ref (b)), (1, .ref (ad (0))), (2, .ref (ad (64))), (3, .ref (ad (69))), (4, .int (nI (1 + 6 * i)))]) hx hb d_L_law_1123 hl (by decide) rfl (fun ls hl => ?_)
    refine lv_aload_n hx hb d_L_law_1125 rfl (lv_at hl 3 rfl) ?_
    refine lv_aload_n hx hb d_L_law_1126 rfl (lv_at hl 1 rfl) ?_
    refine lv_iload hx hb d_L_law_1127 (lv_at hl 5 rfl) ?_
    refine lv_iconst (v := nI 1) hx hb d_L_law_1129 (by decide) ?_
    refine lv_iadd hx hb d_L_law_1130 ?_
    refine lv_ei (y := nI (1 + 6 * i + 1)) (nI_add _ _) ?_
    refine va_sld hx hb hX hbl hbA hS (vp_in_nI (by omega) (by omega)) d_L_law_1131 ?_
    refine lv_ei (y := xs (1 + 6 * i + 1)) (by rw [nI_clamp (by omega)]) ?_
    have hw := nw_W.as (wn' := mW ad tC n J bw2 L (obX ad tC n I K bw LA (bE tC o)) (arX tC n aE0) S) hw cW_m.symm
    refine nw_call (nw_goV (n := 1) (As := [.int (xs (1 + 6 * i + 1))]) (rest := []) hSx hA hKs hw hS (c_M_sold l D tC A ad n J bw2 L (obX ad tC n I K bw LA (bE tC o)) (arX tC n aE0) S hN (xs (1 + 6 * i + 1)) ) kw_912 kw_909 kw_910 kw_911 kw_8 rfl rfl (by decide +kernel) ⟨Nat.le_of_ble_eq_true rfl, Nat.le_of_ble_eq_true rfl⟩ (nw_recv hK hw (mW_64) rfl) rfl hl.1 (Nat.le_of_ble_eq_true rfl) d_L_law_1132 ⟨by show _ ≤ 669896; omega, by show _ ≤ 7086383; omega⟩) hS (fun rv wn' ad9 H locs hpost hw hS => ?_)
    obtain ⟨had9, hmo⟩ := hpost
    rw [had9] at hw
    rcases hmo with ⟨hq1, hq2, hq3⟩ | ⟨hq1, _⟩ | ⟨hq1, _⟩
    rotate_left
    · exact absurd hba hq1
    · exact absurd hba hq1
    subst hq2
    rw [hq3] at hw
    have hw := nw_W.as (wn' := cW ad tC n I K bw LA n (va_up J 0 1) bw2 L o S) hw cW_m
    refine lv_istore (lv' := [(6, .int (nI 0)), (5, .int (nI 1)), (0, .ref (b)), (1, .ref (ad (0))), (2, .ref (ad (64))), (3, .ref (ad (69))), (4, .int (nI (1 + 6 * i)))]) hx hb d_L_law_1135 hl (by decide) rfl (fun ls hl => ?_)
    refine lv_aload_n hx hb d_L_law_1137 rfl (lv_at hl 4 rfl) ?_
    have hw := nw_W.as (wn' := mW ad tC n (va_up J 0 1) bw2 L (obX ad tC n I K bw LA (bE tC o)) (arX tC n aE0) S) hw cW_m.symm
    refine nw_call (nw_goV (n := 0) (As := []) (rest := []) hSx hA hKs hw hS (c_M_thrown l D tC A ad n (va_up J 0 1) bw2 L (obX ad tC n I K bw LA (bE tC o)) (arX tC n aE0) S hN  ) kw_762 kw_759 kw_760 kw_761 kw_8 rfl rfl (by decide +kernel) ⟨Nat.le_of_ble_eq_true rfl, Nat.le_of_ble_eq_true rfl⟩ (nw_recv hK hw (mW_64) rfl) rfl hl.1 (Nat.le_of_ble_eq_true rfl) d_L_law_1138 ⟨by show _ ≤ 669896; omega, by show _ ≤ 7086383; omega⟩) hS (fun rv wn' ad9 H locs hpost hw hS => ?_)
    obtain ⟨hv9, hwn9, had9⟩ := hpost
    subst hv9
    rw [hwn9, had9] at hw
    have hw := nw_W.as (wn' := cW ad tC n I K bw LA n (va_up J 0 1) bw2 L o S) hw cW_m
    refine lv_ei (y := nI 1) rfl ?_
    refine lv_iload hx hb d_L_law_1141 (lv_at hl 1 rfl) ?_
    refine lv_icmp_eq (tgt := 1148) hx hb d_L_law_1143 (by decide) (fun c_1143 => ?_) (fun c_1143 => ?_)
    · skip
      refine lv_iload hx hb d_L_law_1148 (lv_at hl 1 rfl) ?_
      refine lv_if_ne (tgt := 1165) hx hb d_L_law_1150 (by decide) (fun c_1150 => ?_) (fun c_1150 => ?_)
      · skip
        refine lv_goto (tgt := 1168) hx hb d_L_law_1165 (by decide) ?_
        exact W.widen (by omega) (by omega) (hNext ad n I K bw LA (va_up J 0 1) bw2 L o S (LR_thr hL) _ _ ls hw hS (lv_sub hl [2, 3, 4, 5, 6] rfl))
      · skip
        first | exact absurd c_1150 (by decide) | exact absurd (by decide) c_1150
    · skip
      exact absurd rfl c_1143
  · skip
    subst hv
    rw [hwn, had] at hw
    refine lv_ei (y := nI 2) rfl ?_
    refine lv_istore (lv' := [(5, .int (nI 2)), (0, .ref (b)), (1, .ref (ad (0))), (2, .ref (ad (64))), (3, .ref (ad (69))), (4, .int (nI (1 + 6 * i)))]) hx hb d_L_law_1123 hl (by decide) rfl (fun ls hl => ?_)
    refine lv_aload_n hx hb d_L_law_1125 rfl (lv_at hl 3 rfl) ?_
    refine lv_aload_n hx hb d_L_law_1126 rfl (lv_at hl 1 rfl) ?_
    refine lv_iload hx hb d_L_law_1127 (lv_at hl 5 rfl) ?_
    refine lv_iconst (v := nI 1) hx hb d_L_law_1129 (by decide) ?_
    refine lv_iadd hx hb d_L_law_1130 ?_
    refine lv_ei (y := nI (1 + 6 * i + 1)) (nI_add _ _) ?_
    refine va_sld hx hb hX hbl hbA hS (vp_in_nI (by omega) (by omega)) d_L_law_1131 ?_
    refine lv_ei (y := xs (1 + 6 * i + 1)) (by rw [nI_clamp (by omega)]) ?_
    have hw := nw_W.as (wn' := mW ad tC n J bw2 L (obX ad tC n I K bw LA (bE tC o)) (arX tC n aE0) S) hw cW_m.symm
    refine nw_call (nw_goV (n := 1) (As := [.int (xs (1 + 6 * i + 1))]) (rest := []) hSx hA hKs hw hS (c_M_sold l D tC A ad n J bw2 L (obX ad tC n I K bw LA (bE tC o)) (arX tC n aE0) S hN (xs (1 + 6 * i + 1)) ) kw_912 kw_909 kw_910 kw_911 kw_8 rfl rfl (by decide +kernel) ⟨Nat.le_of_ble_eq_true rfl, Nat.le_of_ble_eq_true rfl⟩ (nw_recv hK hw (mW_64) rfl) rfl hl.1 (Nat.le_of_ble_eq_true rfl) d_L_law_1132 ⟨by show _ ≤ 669896; omega, by show _ ≤ 7086383; omega⟩) hS (fun rv wn' ad9 H locs hpost hw hS => ?_)
    obtain ⟨had9, hmo⟩ := hpost
    rw [had9] at hw
    rcases hmo with ⟨hq1, _⟩ | ⟨hq1, hq4, hq2, hq3⟩ | ⟨hq1, hq4, _⟩
    · exact absurd hq1 hnba
    rotate_left
    · exact absurd (fun h => hbs (fun h9 => h (hJK.trans h9))) hq4
    subst hq2
    rw [hq3] at hw
    have hw := nw_W.as (wn' := cW ad tC n I K bw LA n (va_up J 0 2) bw2 L o S) hw cW_m
    refine lv_istore (lv' := [(6, .int (nI 0)), (5, .int (nI 2)), (0, .ref (b)), (1, .ref (ad (0))), (2, .ref (ad (64))), (3, .ref (ad (69))), (4, .int (nI (1 + 6 * i)))]) hx hb d_L_law_1135 hl (by decide) rfl (fun ls hl => ?_)
    refine lv_aload_n hx hb d_L_law_1137 rfl (lv_at hl 4 rfl) ?_
    have hw := nw_W.as (wn' := mW ad tC n (va_up J 0 2) bw2 L (obX ad tC n I K bw LA (bE tC o)) (arX tC n aE0) S) hw cW_m.symm
    refine nw_call (nw_goV (n := 0) (As := []) (rest := []) hSx hA hKs hw hS (c_M_thrown l D tC A ad n (va_up J 0 2) bw2 L (obX ad tC n I K bw LA (bE tC o)) (arX tC n aE0) S hN  ) kw_762 kw_759 kw_760 kw_761 kw_8 rfl rfl (by decide +kernel) ⟨Nat.le_of_ble_eq_true rfl, Nat.le_of_ble_eq_true rfl⟩ (nw_recv hK hw (mW_64) rfl) rfl hl.1 (Nat.le_of_ble_eq_true rfl) d_L_law_1138 ⟨by show _ ≤ 669896; omega, by show _ ≤ 7086383; omega⟩) hS (fun rv wn' ad9 H locs hpost hw hS => ?_)
    obtain ⟨hv9, hwn9, had9⟩ := hpost
    subst hv9
    rw [hwn9, had9] at hw
    have hw := nw_W.as (wn' := cW ad tC n I K bw LA n (va_up J 0 2) bw2 L o S) hw cW_m
    refine lv_ei (y := nI 2) rfl ?_
    refine lv_iload hx hb d_L_law_1141 (lv_at hl 1 rfl) ?_
    refine lv_icmp_eq (tgt := 1148) hx hb d_L_law_1143 (by decide) (fun c_1143 => ?_) (fun c_1143 => ?_)
    · skip
      refine lv_iload hx hb d_L_law_1148 (lv_at hl 1 rfl) ?_
      refine lv_if_ne (tgt := 1165) hx hb d_L_law_1150 (by decide) (fun c_1150 => ?_) (fun c_1150 => ?_)
      · skip
        refine lv_goto (tgt := 1168) hx hb d_L_law_1165 (by decide) ?_
        exact W.widen (by omega) (by omega) (hNext ad n I K bw LA (va_up J 0 2) bw2 L o S (LR_thr hL) _ _ ls hw hS (lv_sub hl [2, 3, 4, 5, 6] rfl))
      · skip
        exact absurd c_1150 (by decide)
    · skip
      exact absurd rfl c_1143
  · skip
    subst hv
    obtain ⟨had, S1, hsc, hwn⟩ := hG
    rw [hwn, had] at hw
    have hS52 : S1 5 2 = S 5 2 := hsc 5 2 (by omega)
    have hHm1 : ∀ c, c < n 2 → S1 5 2 c = nI (hm c) ∧ hm c < n 1 := fun c hc => by rw [hS52]; exact hHm c hc
    refine lv_istore (lv' := [(5, .int (nI 0)), (0, .ref (b)), (1, .ref (ad (0))), (2, .ref (ad (64))), (3, .ref (ad (69))), (4, .int (nI (1 + 6 * i)))]) hx hb d_L_law_1123 hl (by decide) rfl (fun ls hl => ?_)
    refine lv_aload_n hx hb d_L_law_1125 rfl (lv_at hl 3 rfl) ?_
    refine lv_aload_n hx hb d_L_law_1126 rfl (lv_at hl 1 rfl) ?_
    refine lv_iload hx hb d_L_law_1127 (lv_at hl 5 rfl) ?_
    refine lv_iconst (v := nI 1) hx hb d_L_law_1129 (by decide) ?_
    refine lv_iadd hx hb d_L_law_1130 ?_
    refine lv_ei (y := nI (1 + 6 * i + 1)) (nI_add _ _) ?_
    refine va_sld hx hb hX hbl hbA hS (vp_in_nI (by omega) (by omega)) d_L_law_1131 ?_
    refine lv_ei (y := xs (1 + 6 * i + 1)) (by rw [nI_clamp (by omega)]) ?_
    have hw := nw_W.as (wn' := mW ad tC n J bw2 L (obX ad tC n I K bw LA (bE tC (vp_updL o 0 (((saF n I ow sq S (S 0 0)).2.1 ((xs (1 + 6 * i + 1)).toNatClampNeg)).toInt64)))) (arX tC n aE0) S1) hw cW_m.symm
    refine nw_call (nw_goV (n := 1) (As := [.int (xs (1 + 6 * i + 1))]) (rest := []) hSx hA hKs hw hS (c_M_sold l D tC A ad n J bw2 L (obX ad tC n I K bw LA (bE tC (vp_updL o 0 (((saF n I ow sq S (S 0 0)).2.1 ((xs (1 + 6 * i + 1)).toNatClampNeg)).toInt64)))) (arX tC n aE0) S1 hN (xs (1 + 6 * i + 1)) ) kw_912 kw_909 kw_910 kw_911 kw_8 rfl rfl (by decide +kernel) ⟨Nat.le_of_ble_eq_true rfl, Nat.le_of_ble_eq_true rfl⟩ (nw_recv hK hw (mW_64) rfl) rfl hl.1 (Nat.le_of_ble_eq_true rfl) d_L_law_1132 ⟨by show _ ≤ 669896; omega, by show _ ≤ 7086383; omega⟩) hS (fun rv wn' ad9 H locs hpost hw hS => ?_)
    obtain ⟨had9, hmo⟩ := hpost
    rw [had9] at hw
    rcases hmo with ⟨hq1, _⟩ | ⟨hq1, hq4, _⟩ | ⟨hq1, hq4, hGm⟩
    · exact absurd hq1 hnba
    · exact absurd hq4 (fun h => hnbs (fun h9 => h (fun h8 => h9 (hJK.symm.trans h8))))
    obtain ⟨hv9, L9, S9, hsm, hw9⟩ := hGm
    subst hv9
    rw [hw9] at hw
    have hw := nw_W.as (wn' := cW ad tC n I K bw LA n (va_up J 0 (nI 0)) bw2 L9 (vp_updL o 0 (((saF n I ow sq S (S 0 0)).2.1 ((xs (1 + 6 * i + 1)).toNatClampNeg)).toInt64)) S9) hw cW_m
    refine lv_istore (lv' := [(6, .int (((wkF n (upR S1 5 14 (cpR (S1 5 13) (S1 5 14) (n 2))) (va_up J 0 (nI 0))).2.2.1 ((xs (1 + 6 * i + 1)).toNatClampNeg)).toInt32)), (5, .int (nI 0)), (0, .ref (b)), (1, .ref (ad (0))), (2, .ref (ad (64))), (3, .ref (ad (69))), (4, .int (nI (1 + 6 * i)))]) hx hb d_L_law_1135 hl (by decide) rfl (fun ls hl => ?_)
    refine lv_aload_n hx hb d_L_law_1137 rfl (lv_at hl 4 rfl) ?_
    have hw := nw_W.as (wn' := mW ad tC n (va_up J 0 (nI 0)) bw2 L9 (obX ad tC n I K bw LA (bE tC (vp_updL o 0 (((saF n I ow sq S (S 0 0)).2.1 ((xs (1 + 6 * i + 1)).toNatClampNeg)).toInt64)))) (arX tC n aE0) S9) hw cW_m.symm
    refine nw_call (nw_goV (n := 0) (As := []) (rest := []) hSx hA hKs hw hS (c_M_thrown l D tC A ad n (va_up J 0 (nI 0)) bw2 L9 (obX ad tC n I K bw LA (bE tC (vp_updL o 0 (((saF n I ow sq S (S 0 0)).2.1 ((xs (1 + 6 * i + 1)).toNatClampNeg)).toInt64)))) (arX tC n aE0) S9 hN  ) kw_762 kw_759 kw_760 kw_761 kw_8 rfl rfl (by decide +kernel) ⟨Nat.le_of_ble_eq_true rfl, Nat.le_of_ble_eq_true rfl⟩ (nw_recv hK hw (mW_64) rfl) rfl hl.1 (Nat.le_of_ble_eq_true rfl) d_L_law_1138 ⟨by show _ ≤ 669896; omega, by show _ ≤ 7086383; omega⟩) hS (fun rv wn' ad9 H locs hpost hw hS => ?_)
    obtain ⟨hv9, hwn9, had9⟩ := hpost
    subst hv9
    rw [hwn9, had9] at hw
    have hw := nw_W.as (wn' := cW ad tC n I K bw LA n (va_up J 0 (nI 0)) bw2 L9 (vp_updL o 0 (((saF n I ow sq S (S 0 0)).2.1 ((xs (1 + 6 * i + 1)).toNatClampNeg)).toInt64)) S9) hw cW_m
    refine lv_ei (y := nI 0) rfl ?_
    refine lv_iload hx hb d_L_law_1141 (lv_at hl 1 rfl) ?_
    refine lv_icmp_eq (tgt := 1148) hx hb d_L_law_1143 (by decide) (fun c_1143 => ?_) (fun c_1143 => ?_)
    · skip
      refine lv_iload hx hb d_L_law_1148 (lv_at hl 1 rfl) ?_
      refine lv_if_ne (tgt := 1165) hx hb d_L_law_1150 (by decide) (fun c_1150 => ?_) (fun c_1150 => ?_)
      · skip
        first | exact absurd c_1150 (by decide) | exact absurd (by decide) c_1150
      · skip
        refine lv_aload_n hx hb d_L_law_1153 rfl (lv_at hl 5 rfl) ?_
        refine lv_iconst (v := nI 0) hx hb d_L_law_1154 (by decide) ?_
        refine nw_lald hx hb hK hw (69) 1 (cW_69) rfl (0) (rfl) (by omega) (by omega) d_L_law_1155 ?_
        refine lv_iload hx hb d_L_law_1156 (lv_at hl 0 rfl) ?_
        refine lv_i2l (v := ((((wkF n (upR S1 5 14 (cpR (S1 5 13) (S1 5 14) (n 2))) (va_up J 0 (nI 0))).2.2.1 ((xs (1 + 6 * i + 1)).toNatClampNeg)).toInt32).toInt64)) hx hb d_L_law_1158 rfl ?_
        refine lv_el (y := ((vp_updL o 0 (((saF n I ow sq S (S 0 0)).2.1 ((xs (1 + 6 * i + 1)).toNatClampNeg)).toInt64)) (0))) (congrArg Int32.toInt64 (eq_solds hLx (Classical.not_not.mp hnbs) (cR_scr hsc) rfl (Classical.not_not.mp hnba)).symm) ?_
        refine W.lcmp hx hb d_L_law_1159 ?_
        refine lv_ei (y := nI 0) ((lg_cmp_eq _ _).mpr rfl) ?_
        refine lv_if_eq (tgt := 1165) hx hb d_L_law_1160 (by decide) (fun c_1160 => ?_) (fun c_1160 => ?_)
        · skip
          refine lv_goto (tgt := 1168) hx hb d_L_law_1165 (by decide) ?_
          exact W.widen (by omega) (by omega) (hNext ad n I K bw LA (va_up J 0 (nI 0)) bw2 L9 (vp_updL o 0 (((saF n I ow sq S (S 0 0)).2.1 ((xs (1 + 6 * i + 1)).toNatClampNeg)).toInt64)) S9 (LR_thr (LR_cR (cR_tr (cR_scr hsc) (cR_tr (cR_up (Or.inr (Or.inl ⟨rfl, Nat.le_refl _⟩))) (cR_scm hsm))) hL)) _ _ ls hw hS (lv_sub hl [2, 3, 4, 5, 6] rfl))
        · skip
          first | exact absurd c_1160 (by decide) | exact absurd (by decide) c_1160
    · skip
      exact absurd rfl c_1143

set_option maxHeartbeats 4000000 in
set_option maxRecDepth 100000 in
/-- case 9: run -/
theorem law_9 {p : Program} {l : Launch} {e : Env} {s : State} {m : MethodId} {args : Array Value} {below : List Frame} {meth : Method} {cd : Code} {Q : State → Prop} {D : va_G} {tC : Nat → ClassId} {A : Nat → Prop} {b N : Nat} {xs : Nat → Int32} (hSx : CallFix p m cd b_L_law 8 s args nw_T "HarvestPlansLaw") (hA : ∀ q, s.heap.size ≤ q → A q) (hAs : ∀ q, A q → s.heap.size ≤ q) (hKs : nw_K D hpC (hpT tC) s) (hF : nx_F s) (hfl : l.stackTraces = false) (hX : va_X b N xs s s.heap) (hbl : b < s.heap.size) (hbA : ¬ A b) (hN3 : N ≤ 3073) {cc cs i : Nat} (hcc : cc + 12 ≤ 669896) (hcs : cs + 120 ≤ 7086383) (hi : 1 + 6 * i + 6 ≤ N) (hNext : ∀ (ad : Nat → Nat) (n : Nat → Nat) (I : Nat → Nat → Int32) (K : Nat → Int32) (bw : Int64) (LA : Nat → Int64) (J : Nat → Int32) (bw2 : Int64) (L : Nat → Nat → Int64) (o : Nat → Int64) (S : Nat → Nat → Nat → Int32), LR n I K J S → ∀ (H : Heap) (locs : List Loc) (ls : Array Slot), nw_W D hpC A (cW ad tC n I K bw LA n J bw2 L o S) ad H → va_S A s.heap H locs → lv_has ls 8 [(0, .ref (b)), (1, .ref (ad (0))), (2, .ref (ad (64))), (3, .ref (ad (69))), (4, .int (nI (1 + 6 * i)))] → W p l e room_1 s m args below meth cd H locs (cc + 12) (cs + 120) Q (F0 m 1168 ls [])) (ad : Nat → Nat) (n : Nat → Nat) (I : Nat → Nat → Int32) (K : Nat → Int32) (bw : Int64) (LA : Nat → Int64) (J : Nat → Int32) (bw2 : Int64) (L : Nat → Nat → Int64) (o : Nat → Int64) (S : Nat → Nat → Nat → Int32) (hL : LR n I K J S) (H : Heap) (locs : List Loc) (ls : Array Slot) (hw : nw_W D hpC A (cW ad tC n I K bw LA n J bw2 L o S) ad H) (hS : va_S A s.heap H locs) (hl : lv_has ls 8 [(0, .ref (b)), (1, .ref (ad (0))), (2, .ref (ad (64))), (3, .ref (ad (69))), (4, .int (nI (1 + 6 * i)))]) : W p l e room_1 s m args below meth cd H locs cc cs Q (F0 m 818 ls []) := by
  obtain ⟨hx, hb, hml, hown, hts⟩ := id hSx
  have hK := hKs.1
  have hB : nx_B s s := ⟨State.WarmedH.refl s, Nat.le_refl _, fun _ _ => rfl⟩
  obtain ⟨hm, ow, sq, hLx⟩ := id hL
  have hN : hpN n := hLx.1.1
  obtain ⟨hn0, hn0', hn1, hn2, hn3, hn4⟩ := id hN
  have hJK : J 3 = K 0 := hLx.2.2.1.1
  have hH : ∀ c, c < n 2 → I 2 c = nI (hm c) ∧ hm c < n 1 := fun c hc => ⟨hLx.2.1.1 c hc, (hLx.1.2.2.2.1 c hc).2.1⟩
  have hHm : ∀ c, c < n 2 → S 5 2 c = nI (hm c) ∧ hm c < n 1 := fun c hc => ⟨(hLx.1.2.2.2.1 c hc).1, (hLx.1.2.2.2.1 c hc).2.1⟩
  have hO : ∀ o, o < n 4 → I 4 o = nI (ow o) ∧ ow o < n 0 := fun o ho => ⟨(hLx.1.2.2.2.2.2.2.1 o ho).2.1, (hLx.1.2.2.2.2.2.2.1 o ho).2.2.1⟩
  have hSq : ∀ k, k < n 4 → S 0 1 k = nI (sq k) ∧ sq k < n 4 := fun k hk => ⟨hLx.2.1.2.1 k hk, hLx.1.2.2.2.2.2.2.2.1 k hk⟩
  have hSo : ∀ q, q < n 4 → ∃ j, j < n 4 ∧ sq j = q := hLx.1.2.2.2.2.2.2.2.2.1
  have hPl := ok_pl hLx
  obtain ⟨hz1, hz4, hz51, hz56⟩ := hLx.2.1.2.2.2
  refine lv_aload_n hx hb d_L_law_818 rfl (lv_at hl 1 rfl) ?_
  refine lv_aload_n hx hb d_L_law_819 rfl (lv_at hl 0 rfl) ?_
  refine lv_iload hx hb d_L_law_820 (lv_at hl 4 rfl) ?_
  refine lv_iconst (v := nI 1) hx hb d_L_law_822 (by decide) ?_
  refine lv_iadd hx hb d_L_law_823 ?_
  refine lv_ei (y := nI (1 + 6 * i + 1)) (nI_add _ _) ?_
  refine va_sld hx hb hX hbl hbA hS (vp_in_nI (by omega) (by omega)) d_L_law_824 ?_
  refine lv_ei (y := xs (1 + 6 * i + 1)) (by rw [nI_clamp (by omega)]) ?_
  refine lv_aload_n hx hb d_L_law_825 rfl (lv_at hl 3 rfl) ?_
  refine nx_callC (nx_goW (n := 3) (As := [.ref (ad (0)), .int (xs (1 + 6 * i + 1)), .ref (ad (69))]) (rest := []) hSx hA hKs hF hB hAs hw hS (w_run l D tC A ad n I K bw LA n J bw2 L o S hN s hF hfl hAs (xs (1 + 6 * i + 1)) hm hH ow hO sq hSq hSo) kt_524 kw_522 kw_523 kw_0 rfl rfl (by decide +kernel) ⟨Nat.le_of_ble_eq_true rfl, Nat.le_of_ble_eq_true rfl⟩ rfl hl.1 (Nat.le_of_ble_eq_true rfl) d_L_law_826 ⟨by show _ ≤ 669896; omega, by show _ ≤ 7086383; omega⟩) hS (fun X wn' ad' H locs x cell hpost hw hS hcell hst hcls T' hT X0 => (lw_po_x hpost).elim) (fun rv wn' ad' H locs hpost hw hS => ?_)
  rcases lw_po_i hpost with ⟨hv, hba, hwn, had⟩ | ⟨hv, hnba, hbs, hwn, had⟩ | ⟨hv, hnba, hnbs, hG⟩
  · skip
    subst hv
    rw [hwn, had] at hw
    refine lv_istore (lv' := [(5, .int (nI 1)), (0, .ref (b)), (1, .ref (ad (0))), (2, .ref (ad (64))), (3, .ref (ad (69))), (4, .int (nI (1 + 6 * i)))]) hx hb d_L_law_829 hl (by decide) rfl (fun ls hl => ?_)
    refine lv_aload_n hx hb d_L_law_831 rfl (lv_at hl 3 rfl) ?_
    refine lv_aload_n hx hb d_L_law_832 rfl (lv_at hl 1 rfl) ?_
    refine lv_iload hx hb d_L_law_833 (lv_at hl 5 rfl) ?_
    refine lv_iconst (v := nI 1) hx hb d_L_law_835 (by decide) ?_
    refine lv_iadd hx hb d_L_law_836 ?_
    refine lv_ei (y := nI (1 + 6 * i + 1)) (nI_add _ _) ?_
    refine va_sld hx hb hX hbl hbA hS (vp_in_nI (by omega) (by omega)) d_L_law_837 ?_
    refine lv_ei (y := xs (1 + 6 * i + 1)) (by rw [nI_clamp (by omega)]) ?_
    have hw := nw_W.as (wn' := mW ad tC n J bw2 L (obX ad tC n I K bw LA (bE tC o)) (arX tC n aE0) S) hw cW_m.symm
    refine nw_call (nw_goV (n := 1) (As := [.int (xs (1 + 6 * i + 1))]) (rest := []) hSx hA hKs hw hS (c_M_run l D tC A ad n J bw2 L (obX ad tC n I K bw LA (bE tC o)) (arX tC n aE0) S hN (xs (1 + 6 * i + 1)) hm hHm) kw_818 kw_815 kw_816 kw_817 kw_8 rfl rfl (by decide +kernel) ⟨Nat.le_of_ble_eq_true rfl, Nat.le_of_ble_eq_true rfl⟩ (nw_recv hK hw (mW_64) rfl) rfl hl.1 (Nat.le_of_ble_eq_true rfl) d_L_law_838 ⟨by show _ ≤ 669896; omega, by show _ ≤ 7086383; omega⟩) hS (fun rv wn' ad9 H locs hpost hw hS => ?_)
    obtain ⟨had9, hmo⟩ := hpost
    rw [had9] at hw
    rcases hmo with ⟨hq1, hq2, hq3⟩ | ⟨hq1, _⟩ | ⟨hq1, _⟩
    rotate_left
    · exact absurd hba hq1
    · exact absurd hba hq1
    subst hq2
    rw [hq3] at hw
    have hw := nw_W.as (wn' := cW ad tC n I K bw LA n (va_up J 0 1) bw2 L o S) hw cW_m
    refine lv_istore (lv' := [(6, .int (nI 0)), (5, .int (nI 1)), (0, .ref (b)), (1, .ref (ad (0))), (2, .ref (ad (64))), (3, .ref (ad (69))), (4, .int (nI (1 + 6 * i)))]) hx hb d_L_law_841 hl (by decide) rfl (fun ls hl => ?_)
    refine lv_aload_n hx hb d_L_law_843 rfl (lv_at hl 4 rfl) ?_
    have hw := nw_W.as (wn' := mW ad tC n (va_up J 0 1) bw2 L (obX ad tC n I K bw LA (bE tC o)) (arX tC n aE0) S) hw cW_m.symm
    refine nw_call (nw_goV (n := 0) (As := []) (rest := []) hSx hA hKs hw hS (c_M_thrown l D tC A ad n (va_up J 0 1) bw2 L (obX ad tC n I K bw LA (bE tC o)) (arX tC n aE0) S hN  ) kw_762 kw_759 kw_760 kw_761 kw_8 rfl rfl (by decide +kernel) ⟨Nat.le_of_ble_eq_true rfl, Nat.le_of_ble_eq_true rfl⟩ (nw_recv hK hw (mW_64) rfl) rfl hl.1 (Nat.le_of_ble_eq_true rfl) d_L_law_844 ⟨by show _ ≤ 669896; omega, by show _ ≤ 7086383; omega⟩) hS (fun rv wn' ad9 H locs hpost hw hS => ?_)
    obtain ⟨hv9, hwn9, had9⟩ := hpost
    subst hv9
    rw [hwn9, had9] at hw
    have hw := nw_W.as (wn' := cW ad tC n I K bw LA n (va_up J 0 1) bw2 L o S) hw cW_m
    refine lv_ei (y := nI 1) rfl ?_
    refine lv_iload hx hb d_L_law_847 (lv_at hl 1 rfl) ?_
    refine lv_icmp_eq (tgt := 854) hx hb d_L_law_849 (by decide) (fun c_849 => ?_) (fun c_849 => ?_)
    · skip
      refine lv_iload hx hb d_L_law_854 (lv_at hl 1 rfl) ?_
      refine lv_if_ne (tgt := 871) hx hb d_L_law_856 (by decide) (fun c_856 => ?_) (fun c_856 => ?_)
      · skip
        refine lv_goto (tgt := 1168) hx hb d_L_law_871 (by decide) ?_
        exact W.widen (by omega) (by omega) (hNext ad n I K bw LA (va_up J 0 1) bw2 L o S (LR_thr hL) _ _ ls hw hS (lv_sub hl [2, 3, 4, 5, 6] rfl))
      · skip
        first | exact absurd c_856 (by decide) | exact absurd (by decide) c_856
    · skip
      exact absurd rfl c_849
  · skip
    subst hv
    exact absurd trivial hbs
  · skip
    subst hv
    obtain ⟨had, rv9, K9, L9, S9, hwn, hR9⟩ := hG
    rw [hwn, had] at hw
    have hR8 : ∃ pl : Nat → Int32, scr (upR (upR (upR (upR S 0 0 (flR (S 0 0) (-1) 6)) 0 9 (stX n I hm ow sq (upR S 0 0 (flR (S 0 0) (-1) 6)) (((xs (1 + 6 * i + 1)).toNatClampNeg))).2.2.2.1) 0 10 (stX n I hm ow sq (upR S 0 0 (flR (S 0 0) (-1) 6)) (((xs (1 + 6 * i + 1)).toNatClampNeg))).2.2.2.2) 0 0 pl) S9 ∧ (((stX n I hm ow sq (upR S 0 0 (flR (S 0 0) (-1) 6)) (((xs (1 + 6 * i + 1)).toNatClampNeg))).2.2.1 = -1 ∧ pl = (upR S 0 0 (flR (S 0 0) (-1) 6)) 0 0) ∨ (¬ (stX n I hm ow sq (upR S 0 0 (flR (S 0 0) (-1) 6)) (((xs (1 + 6 * i + 1)).toNatClampNeg))).2.2.1 = -1 ∧ pl = va_cpy (stX n I hm ow sq (upR S 0 0 (flR (S 0 0) (-1) 6)) (((xs (1 + 6 * i + 1)).toNatClampNeg))).2.2.2.2 ((upR S 0 0 (flR (S 0 0) (-1) 6)) 0 0) 0 0 6)) ∧ K9 2 = nI (stX n I hm ow sq (upR S 0 0 (flR (S 0 0) (-1) 6)) (((xs (1 + 6 * i + 1)).toNatClampNeg))).1 ∧ (K9 0 = if (stX n I hm ow sq (upR S 0 0 (flR (S 0 0) (-1) 6)) (((xs (1 + 6 * i + 1)).toNatClampNeg))).2.2.1 = -1 then 0 else 1) ∧ (((stX n I hm ow sq (upR S 0 0 (flR (S 0 0) (-1) 6)) (((xs (1 + 6 * i + 1)).toNatClampNeg))).2.2.1 = -1 → rv9 = if (stX n I hm ow sq (upR S 0 0 (flR (S 0 0) (-1) 6)) (((xs (1 + 6 * i + 1)).toNatClampNeg))).2.1 = true then nI 3 else nI 2) ∧ (¬ (stX n I hm ow sq (upR S 0 0 (flR (S 0 0) (-1) 6)) (((xs (1 + 6 * i + 1)).toNatClampNeg))).2.2.1 = -1 → rv9 = if (stX n I hm ow sq (upR S 0 0 (flR (S 0 0) (-1) 6)) (((xs (1 + 6 * i + 1)).toNatClampNeg))).2.1 = true then nI 1 else nI 0)) := by
      rcases hR9 with ⟨a, b9, d, e⟩ | ⟨a, b9, d, e⟩
      · exact ⟨(upR S 0 0 (flR (S 0 0) (-1) 6)) 0 0, by rw [upR_same2 (show (upR S 0 0 (flR (S 0 0) (-1) 6)) 0 0 = upR (upR (upR S 0 0 (flR (S 0 0) (-1) 6)) 0 9 (stX n I hm ow sq (upR S 0 0 (flR (S 0 0) (-1) 6)) (((xs (1 + 6 * i + 1)).toNatClampNeg))).2.2.2.1) 0 10 (stX n I hm ow sq (upR S 0 0 (flR (S 0 0) (-1) 6)) (((xs (1 + 6 * i + 1)).toNatClampNeg))).2.2.2.2 0 0 from rfl)]; exact e, Or.inl ⟨a, rfl⟩, by rw [d]; rfl, by rw [if_pos a, d]; rfl, fun _ => b9, fun h => absurd a h⟩
      · exact ⟨_, e, Or.inr ⟨a, rfl⟩, by rw [d]; rfl, by rw [if_neg a, d]; rfl, fun h => absurd h a, fun _ => b9⟩
    obtain ⟨pl, hr1, hr2, hr3, hr4, hr5, hr6⟩ := hR8
    have hS52 : S9 5 2 = S 5 2 := (hr1 5 2 (by omega)).trans rfl
    have hHm1 : ∀ c, c < n 2 → S9 5 2 c = nI (hm c) ∧ hm c < n 1 := fun c hc => by rw [hS52]; exact hHm c hc
    refine lv_istore (lv' := [(5, .int (nI 0)), (0, .ref (b)), (1, .ref (ad (0))), (2, .ref (ad (64))), (3, .ref (ad (69))), (4, .int (nI (1 + 6 * i)))]) hx hb d_L_law_829 hl (by decide) rfl (fun ls hl => ?_)
    refine lv_aload_n hx hb d_L_law_831 rfl (lv_at hl 3 rfl) ?_
    refine lv_aload_n hx hb d_L_law_832 rfl (lv_at hl 1 rfl) ?_
    refine lv_iload hx hb d_L_law_833 (lv_at hl 5 rfl) ?_
    refine lv_iconst (v := nI 1) hx hb d_L_law_835 (by decide) ?_
    refine lv_iadd hx hb d_L_law_836 ?_
    refine lv_ei (y := nI (1 + 6 * i + 1)) (nI_add _ _) ?_
    refine va_sld hx hb hX hbl hbA hS (vp_in_nI (by omega) (by omega)) d_L_law_837 ?_
    refine lv_ei (y := xs (1 + 6 * i + 1)) (by rw [nI_clamp (by omega)]) ?_
    have hw := nw_W.as (wn' := mW ad tC n J bw2 L (obX ad tC n I K9 ((stX n I hm ow sq (upR S 0 0 (flR (S 0 0) (-1) 6)) (((xs (1 + 6 * i + 1)).toNatClampNeg))).2.2.1) L9 (bE tC (vp_updL o 0 rv9.toInt64))) (arX tC n aE0) S9) hw cW_m.symm
    refine nw_call (nw_goV (n := 1) (As := [.int (xs (1 + 6 * i + 1))]) (rest := []) hSx hA hKs hw hS (c_M_run l D tC A ad n J bw2 L (obX ad tC n I K9 ((stX n I hm ow sq (upR S 0 0 (flR (S 0 0) (-1) 6)) (((xs (1 + 6 * i + 1)).toNatClampNeg))).2.2.1) L9 (bE tC (vp_updL o 0 rv9.toInt64))) (arX tC n aE0) S9 hN (xs (1 + 6 * i + 1)) hm hHm1) kw_818 kw_815 kw_816 kw_817 kw_8 rfl rfl (by decide +kernel) ⟨Nat.le_of_ble_eq_true rfl, Nat.le_of_ble_eq_true rfl⟩ (nw_recv hK hw (mW_64) rfl) rfl hl.1 (Nat.le_of_ble_eq_true rfl) d_L_law_838 ⟨by show _ ≤ 669896; omega, by show _ ≤ 7086383; omega⟩) hS (fun rv wn' ad9 H locs hpost hw hS => ?_)
    obtain ⟨had9, hmo⟩ := hpost
    rw [had9] at hw
    rcases hmo with ⟨hq1, _⟩ | ⟨hq1, hq4, _⟩ | ⟨hq1, hq4, hGm⟩
    · exact absurd hq1 hnba
    · exact absurd hq4 hnbs
    obtain ⟨hv9, L8, S8, hsm, hw9⟩ := hGm
    subst hv9
    rw [hw9] at hw
    have hw := nw_W.as (wn' := cW ad tC n I K9 ((stX n I hm ow sq (upR S 0 0 (flR (S 0 0) (-1) 6)) (((xs (1 + 6 * i + 1)).toNatClampNeg))).2.2.1) L9 n (mJ (va_up (va_up J 0 (nI 0)) 3 (bI (rnM n (va_up J 0 (nI 0)) hm S9 ((xs (1 + 6 * i + 1)).toNatClampNeg) bw2).2.2.1)) (rnM n (va_up J 0 (nI 0)) hm S9 ((xs (1 + 6 * i + 1)).toNatClampNeg) bw2)) ((rnM n (va_up J 0 (nI 0)) hm S9 ((xs (1 + 6 * i + 1)).toNatClampNeg) bw2).2.2.2.1) L8 (vp_updL o 0 rv9.toInt64) S8) hw cW_m
    obtain ⟨hq5, hq6, hq7⟩ := LR_run hLx rfl hr1 hr2 (Y := (rnM n (va_up J 0 (nI 0)) hm S9 ((xs (1 + 6 * i + 1)).toNatClampNeg) bw2)) rfl hsm hr3 hr4
    have hrv : rv9 = rvM (rnM n (va_up J 0 (nI 0)) hm S9 ((xs (1 + 6 * i + 1)).toNatClampNeg) bw2) := by
      by_cases h9 : (stX n I hm ow sq (upR S 0 0 (flR (S 0 0) (-1) 6)) (((xs (1 + 6 * i + 1)).toNatClampNeg))).2.2.1 = -1
      · exact (hr5 h9).trans (hq5 h9)
      · exact (hr6 h9).trans (hq6 h9)
    refine lv_istore (lv' := [(6, .int (rvM (rnM n (va_up J 0 (nI 0)) hm S9 ((xs (1 + 6 * i + 1)).toNatClampNeg) bw2))), (5, .int (nI 0)), (0, .ref (b)), (1, .ref (ad (0))), (2, .ref (ad (64))), (3, .ref (ad (69))), (4, .int (nI (1 + 6 * i)))]) hx hb d_L_law_841 hl (by decide) rfl (fun ls hl => ?_)
    refine lv_aload_n hx hb d_L_law_843 rfl (lv_at hl 4 rfl) ?_
    have hw := nw_W.as (wn' := mW ad tC n (mJ (va_up (va_up J 0 (nI 0)) 3 (bI (rnM n (va_up J 0 (nI 0)) hm S9 ((xs (1 + 6 * i + 1)).toNatClampNeg) bw2).2.2.1)) (rnM n (va_up J 0 (nI 0)) hm S9 ((xs (1 + 6 * i + 1)).toNatClampNeg) bw2)) ((rnM n (va_up J 0 (nI 0)) hm S9 ((xs (1 + 6 * i + 1)).toNatClampNeg) bw2).2.2.2.1) L8 (obX ad tC n I K9 ((stX n I hm ow sq (upR S 0 0 (flR (S 0 0) (-1) 6)) (((xs (1 + 6 * i + 1)).toNatClampNeg))).2.2.1) L9 (bE tC (vp_updL o 0 rv9.toInt64))) (arX tC n aE0) S8) hw cW_m.symm
    refine nw_call (nw_goV (n := 0) (As := []) (rest := []) hSx hA hKs hw hS (c_M_thrown l D tC A ad n (mJ (va_up (va_up J 0 (nI 0)) 3 (bI (rnM n (va_up J 0 (nI 0)) hm S9 ((xs (1 + 6 * i + 1)).toNatClampNeg) bw2).2.2.1)) (rnM n (va_up J 0 (nI 0)) hm S9 ((xs (1 + 6 * i + 1)).toNatClampNeg) bw2)) ((rnM n (va_up J 0 (nI 0)) hm S9 ((xs (1 + 6 * i + 1)).toNatClampNeg) bw2).2.2.2.1) L8 (obX ad tC n I K9 ((stX n I hm ow sq (upR S 0 0 (flR (S 0 0) (-1) 6)) (((xs (1 + 6 * i + 1)).toNatClampNeg))).2.2.1) L9 (bE tC (vp_updL o 0 rv9.toInt64))) (arX tC n aE0) S8 hN  ) kw_762 kw_759 kw_760 kw_761 kw_8 rfl rfl (by decide +kernel) ⟨Nat.le_of_ble_eq_true rfl, Nat.le_of_ble_eq_true rfl⟩ (nw_recv hK hw (mW_64) rfl) rfl hl.1 (Nat.le_of_ble_eq_true rfl) d_L_law_844 ⟨by show _ ≤ 669896; omega, by show _ ≤ 7086383; omega⟩) hS (fun rv wn' ad9 H locs hpost hw hS => ?_)
    obtain ⟨hv9, hwn9, had9⟩ := hpost
    subst hv9
    rw [hwn9, had9] at hw
    have hw := nw_W.as (wn' := cW ad tC n I K9 ((stX n I hm ow sq (upR S 0 0 (flR (S 0 0) (-1) 6)) (((xs (1 + 6 * i + 1)).toNatClampNeg))).2.2.1) L9 n (mJ (va_up (va_up J 0 (nI 0)) 3 (bI (rnM n (va_up J 0 (nI 0)) hm S9 ((xs (1 + 6 * i + 1)).toNatClampNeg) bw2).2.2.1)) (rnM n (va_up J 0 (nI 0)) hm S9 ((xs (1 + 6 * i + 1)).toNatClampNeg) bw2)) ((rnM n (va_up J 0 (nI 0)) hm S9 ((xs (1 + 6 * i + 1)).toNatClampNeg) bw2).2.2.2.1) L8 (vp_updL o 0 rv9.toInt64) S8) hw cW_m
    refine lv_ei (y := nI 0) rfl ?_
    refine lv_iload hx hb d_L_law_847 (lv_at hl 1 rfl) ?_
    refine lv_icmp_eq (tgt := 854) hx hb d_L_law_849 (by decide) (fun c_849 => ?_) (fun c_849 => ?_)
    · skip
      refine lv_iload hx hb d_L_law_854 (lv_at hl 1 rfl) ?_
      refine lv_if_ne (tgt := 871) hx hb d_L_law_856 (by decide) (fun c_856 => ?_) (fun c_856 => ?_)
      · skip
        first | exact absurd c_856 (by decide) | exact absurd (by decide) c_856
      · skip
        refine lv_aload_n hx hb d_L_law_859 rfl (lv_at hl 5 rfl) ?_
        refine lv_iconst (v := nI 0) hx hb d_L_law_860 (by decide) ?_
        refine nw_lald hx hb hK hw (69) 1 (cW_69) rfl (0) (rfl) (by omega) (by omega) d_L_law_861 ?_
        refine lv_iload hx hb d_L_law_862 (lv_at hl 0 rfl) ?_
        refine lv_i2l (v := ((rvM (rnM n (va_up J 0 (nI 0)) hm S9 ((xs (1 + 6 * i + 1)).toNatClampNeg) bw2)).toInt64)) hx hb d_L_law_864 rfl ?_
        refine lv_el (y := ((vp_updL o 0 rv9.toInt64) (0))) (congrArg Int32.toInt64 hrv.symm) ?_
        refine W.lcmp hx hb d_L_law_865 ?_
        refine lv_ei (y := nI 0) ((lg_cmp_eq _ _).mpr rfl) ?_
        refine lv_if_eq (tgt := 871) hx hb d_L_law_866 (by decide) (fun c_866 => ?_) (fun c_866 => ?_)
        · skip
          refine lv_goto (tgt := 1168) hx hb d_L_law_871 (by decide) ?_
          exact W.widen (by omega) (by omega) (hNext ad n I K9 ((stX n I hm ow sq (upR S 0 0 (flR (S 0 0) (-1) 6)) (((xs (1 + 6 * i + 1)).toNatClampNeg))).2.2.1) L9 (mJ (va_up (va_up J 0 (nI 0)) 3 (bI (rnM n (va_up J 0 (nI 0)) hm S9 ((xs (1 + 6 * i + 1)).toNatClampNeg) bw2).2.2.1)) (rnM n (va_up J 0 (nI 0)) hm S9 ((xs (1 + 6 * i + 1)).toNatClampNeg) bw2)) ((rnM n (va_up J 0 (nI 0)) hm S9 ((xs (1 + 6 * i + 1)).toNatClampNeg) bw2).2.2.2.1) L8 (vp_updL o 0 rv9.toInt64) S8 (hq7) _ _ ls hw hS (lv_sub hl [2, 3, 4, 5, 6] rfl))
        · skip
          first | exact absurd c_866 (by decide) | exact absurd (by decide) c_866
    · skip
      exact absurd rfl c_849

set_option maxHeartbeats 4000000 in
set_option maxRecDepth 100000 in
/-- case 10: nodes -/
theorem law_10 {p : Program} {l : Launch} {e : Env} {s : State} {m : MethodId} {args : Array Value} {below : List Frame} {meth : Method} {cd : Code} {Q : State → Prop} {D : va_G} {tC : Nat → ClassId} {A : Nat → Prop} {b N : Nat} {xs : Nat → Int32} (hSx : CallFix p m cd b_L_law 8 s args nw_T "HarvestPlansLaw") (hA : ∀ q, s.heap.size ≤ q → A q) (hAs : ∀ q, A q → s.heap.size ≤ q) (hKs : nw_K D hpC (hpT tC) s) (hF : nx_F s) (hfl : l.stackTraces = false) (hX : va_X b N xs s s.heap) (hbl : b < s.heap.size) (hbA : ¬ A b) (hN3 : N ≤ 3073) {cc cs i : Nat} (hcc : cc + 12 ≤ 669896) (hcs : cs + 120 ≤ 7086383) (hi : 1 + 6 * i + 6 ≤ N) (hNext : ∀ (ad : Nat → Nat) (n : Nat → Nat) (I : Nat → Nat → Int32) (K : Nat → Int32) (bw : Int64) (LA : Nat → Int64) (J : Nat → Int32) (bw2 : Int64) (L : Nat → Nat → Int64) (o : Nat → Int64) (S : Nat → Nat → Nat → Int32), LR n I K J S → ∀ (H : Heap) (locs : List Loc) (ls : Array Slot), nw_W D hpC A (cW ad tC n I K bw LA n J bw2 L o S) ad H → va_S A s.heap H locs → lv_has ls 8 [(0, .ref (b)), (1, .ref (ad (0))), (2, .ref (ad (64))), (3, .ref (ad (69))), (4, .int (nI (1 + 6 * i)))] → W p l e room_1 s m args below meth cd H locs (cc + 12) (cs + 120) Q (F0 m 1168 ls [])) (ad : Nat → Nat) (n : Nat → Nat) (I : Nat → Nat → Int32) (K : Nat → Int32) (bw : Int64) (LA : Nat → Int64) (J : Nat → Int32) (bw2 : Int64) (L : Nat → Nat → Int64) (o : Nat → Int64) (S : Nat → Nat → Nat → Int32) (hL : LR n I K J S) (H : Heap) (locs : List Loc) (ls : Array Slot) (hw : nw_W D hpC A (cW ad tC n I K bw LA n J bw2 L o S) ad H) (hS : va_S A s.heap H locs) (hl : lv_has ls 8 [(0, .ref (b)), (1, .ref (ad (0))), (2, .ref (ad (64))), (3, .ref (ad (69))), (4, .int (nI (1 + 6 * i)))]) : W p l e room_1 s m args below meth cd H locs cc cs Q (F0 m 874 ls []) := by
  obtain ⟨hx, hb, hml, hown, hts⟩ := id hSx
  have hK := hKs.1
  have hB : nx_B s s := ⟨State.WarmedH.refl s, Nat.le_refl _, fun _ _ => rfl⟩
  obtain ⟨hm, ow, sq, hLx⟩ := id hL
  have hN : hpN n := hLx.1.1
  obtain ⟨hn0, hn0', hn1, hn2, hn3, hn4⟩ := id hN
  have hJK : J 3 = K 0 := hLx.2.2.1.1
  have hH : ∀ c, c < n 2 → I 2 c = nI (hm c) ∧ hm c < n 1 := fun c hc => ⟨hLx.2.1.1 c hc, (hLx.1.2.2.2.1 c hc).2.1⟩
  have hHm : ∀ c, c < n 2 → S 5 2 c = nI (hm c) ∧ hm c < n 1 := fun c hc => ⟨(hLx.1.2.2.2.1 c hc).1, (hLx.1.2.2.2.1 c hc).2.1⟩
  have hO : ∀ o, o < n 4 → I 4 o = nI (ow o) ∧ ow o < n 0 := fun o ho => ⟨(hLx.1.2.2.2.2.2.2.1 o ho).2.1, (hLx.1.2.2.2.2.2.2.1 o ho).2.2.1⟩
  have hSq : ∀ k, k < n 4 → S 0 1 k = nI (sq k) ∧ sq k < n 4 := fun k hk => ⟨hLx.2.1.2.1 k hk, hLx.1.2.2.2.2.2.2.2.1 k hk⟩
  have hSo : ∀ q, q < n 4 → ∃ j, j < n 4 ∧ sq j = q := hLx.1.2.2.2.2.2.2.2.2.1
  have hPl := ok_pl hLx
  obtain ⟨hz1, hz4, hz51, hz56⟩ := hLx.2.1.2.2.2
  refine lv_aload_n hx hb d_L_law_874 rfl (lv_at hl 1 rfl) ?_
  have hw := nw_W.as (wn' := hW ad tC n I K bw LA (obM ad tC n J bw2 L (bE tC o)) (arM tC aE0) S) hw rfl
  refine nw_call (nw_goV (n := 0) (As := []) (rest := []) hSx hA hKs hw hS (c_X_nodes l D tC A ad n I K bw LA (obM ad tC n J bw2 L (bE tC o)) (arM tC aE0) S hN ) kw_221 kw_218 kw_219 kw_220 kw_1 rfl rfl (by decide +kernel) ⟨Nat.le_of_ble_eq_true rfl, Nat.le_of_ble_eq_true rfl⟩ (nw_recv hK hw (hW_0) rfl) rfl hl.1 (Nat.le_of_ble_eq_true rfl) d_L_law_875 ⟨by show _ ≤ 669896; omega, by show _ ≤ 7086383; omega⟩) hS (fun rv wn' ad9 H locs hpost hw hS => ?_)
  obtain ⟨hv9, hwn9, had9⟩ := hpost
  subst hv9
  rw [hwn9, had9] at hw
  have hw := nw_W.as (wn' := cW ad tC n I K bw LA n J bw2 L o S) hw rfl
  refine lv_aload_n hx hb d_L_law_878 rfl (lv_at hl 2 rfl) ?_
  have hw := nw_W.as (wn' := mW ad tC n J bw2 L (obX ad tC n I K bw LA (bE tC o)) (arX tC n aE0) S) hw cW_m.symm
  refine nw_call (nw_goV (n := 0) (As := []) (rest := [.int (K 2)]) hSx hA hKs hw hS (c_M_nodes l D tC A ad n J bw2 L (obX ad tC n I K bw LA (bE tC o)) (arX tC n aE0) S hN  ) kw_883 kw_880 kw_881 kw_882 kw_8 rfl rfl (by decide +kernel) ⟨Nat.le_of_ble_eq_true rfl, Nat.le_of_ble_eq_true rfl⟩ (nw_recv hK hw (mW_64) rfl) rfl hl.1 (Nat.le_of_ble_eq_true rfl) d_L_law_879 ⟨by show _ ≤ 669896; omega, by show _ ≤ 7086383; omega⟩) hS (fun rv wn' ad9 H locs hpost hw hS => ?_)
  obtain ⟨hv9, hwn9, had9⟩ := hpost
  subst hv9
  rw [hwn9, had9] at hw
  have hw := nw_W.as (wn' := cW ad tC n I K bw LA n (va_up J 0 (nI 0)) bw2 L o S) hw cW_m
  refine lv_icmp_eq (tgt := 1168) hx hb d_L_law_882 (by decide) (fun c_882 => ?_) (fun c_882 => ?_)
  · skip
    exact W.widen (by omega) (by omega) (hNext ad n I K bw LA (va_up J 0 (nI 0)) bw2 L o S (LR_thr hL) _ _ ls hw hS (lv_sub hl [0, 1, 2, 3, 4] rfl))
  · skip
    exact absurd (hLx.2.2.1.2.symm) c_882

set_option maxHeartbeats 4000000 in
set_option maxRecDepth 100000 in
/-- case 11: hope -/
theorem law_11 {p : Program} {l : Launch} {e : Env} {s : State} {m : MethodId} {args : Array Value} {below : List Frame} {meth : Method} {cd : Code} {Q : State → Prop} {D : va_G} {tC : Nat → ClassId} {A : Nat → Prop} {b N : Nat} {xs : Nat → Int32} (hSx : CallFix p m cd b_L_law 8 s args nw_T "HarvestPlansLaw") (hA : ∀ q, s.heap.size ≤ q → A q) (hAs : ∀ q, A q → s.heap.size ≤ q) (hKs : nw_K D hpC (hpT tC) s) (hF : nx_F s) (hfl : l.stackTraces = false) (hX : va_X b N xs s s.heap) (hbl : b < s.heap.size) (hbA : ¬ A b) (hN3 : N ≤ 3073) {cc cs i : Nat} (hcc : cc + 12 ≤ 669896) (hcs : cs + 120 ≤ 7086383) (hi : 1 + 6 * i + 6 ≤ N) (hNext : ∀ (ad : Nat → Nat) (n : Nat → Nat) (I : Nat → Nat → Int32) (K : Nat → Int32) (bw : Int64) (LA : Nat → Int64) (J : Nat → Int32) (bw2 : Int64) (L : Nat → Nat → Int64) (o : Nat → Int64) (S : Nat → Nat → Nat → Int32), LR n I K J S → ∀ (H : Heap) (locs : List Loc) (ls : Array Slot), nw_W D hpC A (cW ad tC n I K bw LA n J bw2 L o S) ad H → va_S A s.heap H locs → lv_has ls 8 [(0, .ref (b)), (1, .ref (ad (0))), (2, .ref (ad (64))), (3, .ref (ad (69))), (4, .int (nI (1 + 6 * i)))] → W p l e room_1 s m args below meth cd H locs (cc + 12) (cs + 120) Q (F0 m 1168 ls [])) (ad : Nat → Nat) (n : Nat → Nat) (I : Nat → Nat → Int32) (K : Nat → Int32) (bw : Int64) (LA : Nat → Int64) (J : Nat → Int32) (bw2 : Int64) (L : Nat → Nat → Int64) (o : Nat → Int64) (S : Nat → Nat → Nat → Int32) (hL : LR n I K J S) (H : Heap) (locs : List Loc) (ls : Array Slot) (hw : nw_W D hpC A (cW ad tC n I K bw LA n J bw2 L o S) ad H) (hS : va_S A s.heap H locs) (hl : lv_has ls 8 [(0, .ref (b)), (1, .ref (ad (0))), (2, .ref (ad (64))), (3, .ref (ad (69))), (4, .int (nI (1 + 6 * i)))]) : W p l e room_1 s m args below meth cd H locs cc cs Q (F0 m 887 ls []) := by
  obtain ⟨hx, hb, hml, hown, hts⟩ := id hSx
  have hK := hKs.1
  have hB : nx_B s s := ⟨State.WarmedH.refl s, Nat.le_refl _, fun _ _ => rfl⟩
  obtain ⟨hm, ow, sq, hLx⟩ := id hL
  have hN : hpN n := hLx.1.1
  obtain ⟨hn0, hn0', hn1, hn2, hn3, hn4⟩ := id hN
  have hJK : J 3 = K 0 := hLx.2.2.1.1
  have hH : ∀ c, c < n 2 → I 2 c = nI (hm c) ∧ hm c < n 1 := fun c hc => ⟨hLx.2.1.1 c hc, (hLx.1.2.2.2.1 c hc).2.1⟩
  have hHm : ∀ c, c < n 2 → S 5 2 c = nI (hm c) ∧ hm c < n 1 := fun c hc => ⟨(hLx.1.2.2.2.1 c hc).1, (hLx.1.2.2.2.1 c hc).2.1⟩
  have hO : ∀ o, o < n 4 → I 4 o = nI (ow o) ∧ ow o < n 0 := fun o ho => ⟨(hLx.1.2.2.2.2.2.2.1 o ho).2.1, (hLx.1.2.2.2.2.2.2.1 o ho).2.2.1⟩
  have hSq : ∀ k, k < n 4 → S 0 1 k = nI (sq k) ∧ sq k < n 4 := fun k hk => ⟨hLx.2.1.2.1 k hk, hLx.1.2.2.2.2.2.2.2.1 k hk⟩
  have hSo : ∀ q, q < n 4 → ∃ j, j < n 4 ∧ sq j = q := hLx.1.2.2.2.2.2.2.2.2.1
  have hPl := ok_pl hLx
  obtain ⟨hz1, hz4, hz51, hz56⟩ := hLx.2.1.2.2.2
  refine lv_aload_n hx hb d_L_law_887 rfl (lv_at hl 1 rfl) ?_
  have hw := nw_W.as (wn' := hW ad tC n I K bw LA (obM ad tC n J bw2 L (bE tC o)) (arM tC aE0) S) hw rfl
  refine nw_call (nw_goV (n := 0) (As := []) (rest := []) hSx hA hKs hw hS (c_X_hope l D tC A ad n I K bw LA (obM ad tC n J bw2 L (bE tC o)) (arM tC aE0) S hN ow hO) kw_225 kw_222 kw_223 kw_224 kw_1 rfl rfl (by decide +kernel) ⟨Nat.le_of_ble_eq_true rfl, Nat.le_of_ble_eq_true rfl⟩ (nw_recv hK hw (hW_0) rfl) rfl hl.1 (Nat.le_of_ble_eq_true rfl) d_L_law_888 ⟨by show _ ≤ 669896; omega, by show _ ≤ 7086383; omega⟩) hS (fun rv wn' ad9 H locs hpost hw hS => ?_)
  obtain ⟨hv9, L9, -, hw⟩ := nw_fo_out hpost hw
  subst hv9
  have hw := nw_W.as (wn' := cW ad tC n I K bw L9 n J bw2 L o S) hw rfl
  refine lv_aload_n hx hb d_L_law_891 rfl (lv_at hl 2 rfl) ?_
  have hw := nw_W.as (wn' := mW ad tC n J bw2 L (obX ad tC n I K bw L9 (bE tC o)) (arX tC n aE0) S) hw cW_m.symm
  refine nw_call (nw_goV (n := 0) (As := []) (rest := [.long (hpS n I ow S (n 2))]) hSx hA hKs hw hS (c_M_hope l D tC A ad n J bw2 L (obX ad tC n I K bw L9 (bE tC o)) (arX tC n aE0) S hN  ) kw_887 kw_884 kw_885 kw_886 kw_8 rfl rfl (by decide +kernel) ⟨Nat.le_of_ble_eq_true rfl, Nat.le_of_ble_eq_true rfl⟩ (nw_recv hK hw (mW_64) rfl) rfl hl.1 (Nat.le_of_ble_eq_true rfl) d_L_law_892 ⟨by show _ ≤ 669896; omega, by show _ ≤ 7086383; omega⟩) hS (fun rv wn' ad9 H locs hpost hw hS => ?_)
  obtain ⟨hv9, hwn9, had9⟩ := hpost
  subst hv9
  rw [hwn9, had9] at hw
  have hw := nw_W.as (wn' := cW ad tC n I K bw L9 n (va_up J 0 (nI 0)) bw2 L o S) hw cW_m
  refine lv_el (y := hpS n I ow S (n 2)) ((eq_hopes hLx).symm) ?_
  refine W.lcmp hx hb d_L_law_895 ?_
  refine lv_ei (y := nI 0) ((lg_cmp_eq _ _).mpr rfl) ?_
  refine lv_if_eq (tgt := 1168) hx hb d_L_law_896 (by decide) (fun c_896 => ?_) (fun c_896 => ?_)
  · skip
    exact W.widen (by omega) (by omega) (hNext ad n I K bw L9 (va_up J 0 (nI 0)) bw2 L o S (LR_thr hL) _ _ ls hw hS (lv_sub hl [0, 1, 2, 3, 4] rfl))
  · skip
    first | exact absurd c_896 (by decide) | exact absurd (by decide) c_896
