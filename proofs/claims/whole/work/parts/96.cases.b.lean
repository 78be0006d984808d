set_option maxHeartbeats 4000000 in
set_option maxRecDepth 100000 in
/-- case 1: closed -/
theorem law_1 {p : Program} {l : Launch} {e : Env} {s : State} {m : MethodId} {args : Array Value} {below : List Frame} {meth : Method} {cd : Code} {Q : State → Prop} {D : va_G} {tC : Nat → ClassId} {A : Nat → Prop} {b N : Nat} {xs : Nat → Int32} (hSx : CallFix p m cd b_L_law 8 s args nw_T "HarvestPlansLaw") (hA : ∀ q, s.heap.size ≤ q → A q) (hAs : ∀ q, A q → s.heap.size ≤ q) (hKs : nw_K D hpC (hpT tC) s) (hF : nx_F s) (hfl : l.stackTraces = false) (hX : va_X b N xs s s.heap) (hbl : b < s.heap.size) (hbA : ¬ A b) (hN3 : N ≤ 3073) {cc cs i : Nat} (hcc : cc + 12 ≤ 669896) (hcs : cs + 120 ≤ 7086383) (hi : 1 + 6 * i + 6 ≤ N) (hNext : ∀ (ad : Nat → Nat) (n : Nat → Nat) (I : Nat → Nat → Int32) (K : Nat → Int32) (bw : Int64) (LA : Nat → Int64) (J : Nat → Int32) (bw2 : Int64) (L : Nat → Nat → Int64) (o : Nat → Int64) (S : Nat → Nat → Nat → Int32), LR n I K J S → ∀ (H : Heap) (locs : List Loc) (ls : Array Slot), nw_W D hpC A (cW ad tC n I K bw LA n J bw2 L o S) ad H → va_S A s.heap H locs → lv_has ls 8 [(0, .ref (b)), (1, .ref (ad (0))), (2, .ref (ad (64))), (3, .ref (ad (69))), (4, .int (nI (1 + 6 * i)))] → W p l e room_1 s m args below meth cd H locs (cc + 12) (cs + 120) Q (F0 m 1168 ls [])) (ad : Nat → Nat) (n : Nat → Nat) (I : Nat → Nat → Int32) (K : Nat → Int32) (bw : Int64) (LA : Nat → Int64) (J : Nat → Int32) (bw2 : Int64) (L : Nat → Nat → Int64) (o : Nat → Int64) (S : Nat → Nat → Nat → Int32) (hL : LR n I K J S) (H : Heap) (locs : List Loc) (ls : Array Slot) (hw : nw_W D hpC A (cW ad tC n I K bw LA n J bw2 L o S) ad H) (hS : va_S A s.heap H locs) (hl : lv_has ls 8 [(0, .ref (b)), (1, .ref (ad (0))), (2, .ref (ad (64))), (3, .ref (ad (69))), (4, .int (nI (1 + 6 * i)))]) : W p l e room_1 s m args below meth cd H locs cc cs Q (F0 m 188 ls []) := by
  obtain ⟨hx, hb, hml, hown, hts⟩ := id hSx
  have hK := hKs.1
  have hB : nx_B s s := ⟨State.WarmedH.refl s, Nat.le_refl _, fun _ _ => rfl⟩
  obtain ⟨hm, ow, sq, hLx⟩ := id hL
  have hN : hpN n := hLx.1.1
  obtain ⟨hn0, hn0', hn1, hn2, hn3, hn4⟩ := id hN
  have hJK : J 3 = K 0 := hLx.2.2.1.1
  have hH : ∀ c, c < n 2 → I 2 c = nI (hm c) ∧ hm c < n 1 := fun c hc => ⟨hLx.2.1.1 c hc, (hLx.1.2.2.2.1 c hc).2.1⟩
  have hHm : ∀ c, c < n 2 → S 5 2 c = nI (hm c) ∧ hm c < n 1 := fun c hc => ⟨(hLx.1.2.2.2.1 c hc).1, (hLx.1.2.2.2.1 c hc).2.1⟩
  have hO : ∀ o, o < n 4 → I 4 o = nI (ow o) ∧ ow o < n 0 := fun o ho => ⟨(hLx.1.2.2.2.2.2.2.1 o ho).2.1, (hLx.1.2.2.2.2.2.2.1 o ho).2.2.1⟩
  have hSq : ∀ k, k < n 4 → S 0 1 k = nI (sq k) ∧ sq k < n 4 := fun k hk => ⟨hLx.2.1.2.1 k hk, hLx.1.2.2.2.2.2.2.2.1 k hk⟩
  have hSo : ∀ q, q < n 4 → ∃ j, j < n 4 ∧ sq j = q := hLx.1.2.2.2.2.2.2.2.2.1
  have hPl := ok_pl hLx
  obtain ⟨hz1, hz4, hz51, hz56⟩ := hLx.2.1.2.2.2
  refine lv_aload_n hx hb d_L_law_188 rfl (lv_at hl 1 rfl) ?_
  refine lv_aload_n hx hb d_L_law_189 rfl (lv_at hl 0 rfl) ?_
  refine lv_iload hx hb d_L_law_190 (lv_at hl 4 rfl) ?_
  refine lv_iconst (v := nI 1) hx hb d_L_law_192 (by decide) ?_
  refine lv_iadd hx hb d_L_law_193 ?_
  refine lv_ei (y := nI (1 + 6 * i + 1)) (nI_add _ _) ?_
  refine va_sld hx hb hX hbl hbA hS (vp_in_nI (by omega) (by omega)) d_L_law_194 ?_
  refine lv_ei (y := xs (1 + 6 * i + 1)) (by rw [nI_clamp (by omega)]) ?_
  refine lv_aload_n hx hb d_L_law_195 rfl (lv_at hl 0 rfl) ?_
  refine lv_iload hx hb d_L_law_196 (lv_at hl 4 rfl) ?_
  refine lv_iconst (v := nI 2) hx hb d_L_law_198 (by decide) ?_
  refine lv_iadd hx hb d_L_law_199 ?_
  refine lv_ei (y := nI (1 + 6 * i + 2)) (nI_add _ _) ?_
  refine va_sld hx hb hX hbl hbA hS (vp_in_nI (by omega) (by omega)) d_L_law_200 ?_
  refine lv_ei (y := xs (1 + 6 * i + 2)) (by rw [nI_clamp (by omega)]) ?_
  refine lv_aload_n hx hb d_L_law_201 rfl (lv_at hl 0 rfl) ?_
  refine lv_iload hx hb d_L_law_202 (lv_at hl 4 rfl) ?_
  refine lv_iconst (v := nI 3) hx hb d_L_law_204 (by decide) ?_
  refine lv_iadd hx hb d_L_law_205 ?_
  refine lv_ei (y := nI (1 + 6 * i + 3)) (nI_add _ _) ?_
  refine va_sld hx hb hX hbl hbA hS (vp_in_nI (by omega) (by omega)) d_L_law_206 ?_
  refine lv_ei (y := xs (1 + 6 * i + 3)) (by rw [nI_clamp (by omega)]) ?_
  refine lv_if_eq (tgt := 214) hx hb d_L_law_207 (by decide) (fun c_207 => ?_) (fun c_207 => ?_)
  · skip
    refine lv_iconst (v := nI 0) hx hb d_L_law_214 (by decide) ?_
    refine lv_aload_n hx hb d_L_law_215 rfl (lv_at hl 3 rfl) ?_
    refine nx_callC (nx_goW (n := 5) (As := [.ref (ad (0)), .int (xs (1 + 6 * i + 1)), .int (xs (1 + 6 * i + 2)), .int (nI 0), .ref (ad (69))]) (rest := []) hSx hA hKs hF hB hAs hw hS (w_closed l D tC A ad n I K bw LA n J bw2 L o S hN s hF hfl hAs (xs (1 + 6 * i + 1)) (xs (1 + 6 * i + 2)) (nI 0) (by decide) hz1) kt_384 kw_382 kw_383 kw_0 rfl rfl (by decide +kernel) ⟨Nat.le_of_ble_eq_true rfl, Nat.le_of_ble_eq_true rfl⟩ rfl hl.1 (Nat.le_of_ble_eq_true rfl) d_L_law_216 ⟨by show _ ≤ 669896; omega, by show _ ≤ 7086383; omega⟩) hS (fun X wn' ad' H locs x cell hpost hw hS hcell hst hcls T' hT X0 => (lw_po_x hpost).elim) (fun rv wn' ad' H locs hpost hw hS => ?_)
    rcases lw_po_i hpost with ⟨hv, hba, hwn, had⟩ | ⟨hv, hnba, hbs, hwn, had⟩ | ⟨hv, hnba, hnbs, hG⟩
    · skip
      subst hv
      rw [hwn, had] at hw
      refine lv_istore (lv' := [(5, .int (nI 1)), (0, .ref (b)), (1, .ref (ad (0))), (2, .ref (ad (64))), (3, .ref (ad (69))), (4, .int (nI (1 + 6 * i)))]) hx hb d_L_law_219 hl (by decide) rfl (fun ls hl => ?_)
      refine lv_aload_n hx hb d_L_law_221 rfl (lv_at hl 3 rfl) ?_
      refine lv_aload_n hx hb d_L_law_222 rfl (lv_at hl 1 rfl) ?_
      refine lv_iload hx hb d_L_law_223 (lv_at hl 5 rfl) ?_
      refine lv_iconst (v := nI 1) hx hb d_L_law_225 (by decide) ?_
      refine lv_iadd hx hb d_L_law_226 ?_
      refine lv_ei (y := nI (1 + 6 * i + 1)) (nI_add _ _) ?_
      refine va_sld hx hb hX hbl hbA hS (vp_in_nI (by omega) (by omega)) d_L_law_227 ?_
      refine lv_ei (y := xs (1 + 6 * i + 1)) (by rw [nI_clamp (by omega)]) ?_
      refine lv_aload_n hx hb d_L_law_228 rfl (lv_at hl 1 rfl) ?_
      refine lv_iload hx hb d_L_law_229 (lv_at hl 5 rfl) ?_
      refine lv_iconst (v := nI 2) hx hb d_L_law_231 (by decide) ?_
      refine lv_iadd hx hb d_L_law_232 ?_
      refine lv_ei (y := nI (1 + 6 * i + 2)) (nI_add _ _) ?_
      refine va_sld hx hb hX hbl hbA hS (vp_in_nI (by omega) (by omega)) d_L_law_233 ?_
      refine lv_ei (y := xs (1 + 6 * i + 2)) (by rw [nI_clamp (by omega)]) ?_
      refine lv_aload_n hx hb d_L_law_234 rfl (lv_at hl 1 rfl) ?_
      refine lv_iload hx hb d_L_law_235 (lv_at hl 5 rfl) ?_
      refine lv_iconst (v := nI 3) hx hb d_L_law_237 (by decide) ?_
      refine lv_iadd hx hb d_L_law_238 ?_
      refine lv_ei (y := nI (1 + 6 * i + 3)) (nI_add _ _) ?_
      refine va_sld hx hb hX hbl hbA hS (vp_in_nI (by omega) (by omega)) d_L_law_239 ?_
      refine lv_ei (y := xs (1 + 6 * i + 3)) (by rw [nI_clamp (by omega)]) ?_
      refine lv_if_eq (tgt := 247) hx hb d_L_law_240 (by decide) (fun c_240 => ?_) (fun c_240 => ?_)
      · skip
        refine lv_iconst (v := nI 0) hx hb d_L_law_247 (by decide) ?_
        have hw := nw_W.as (wn' := mW ad tC n J bw2 L (obX ad tC n I K bw LA (bE tC o)) (arX tC n aE0) S) hw cW_m.symm
        refine nw_call (nw_goV (n := 3) (As := [.int (xs (1 + 6 * i + 1)), .int (xs (1 + 6 * i + 2)), .int (nI 0)]) (rest := []) hSx hA hKs hw hS (c_M_closed l D tC A ad n J bw2 L (obX ad tC n I K bw LA (bE tC o)) (arX tC n aE0) S hN (xs (1 + 6 * i + 1)) (xs (1 + 6 * i + 2)) (nI 0) (by decide) hz51) kw_778 kw_775 kw_776 kw_777 kw_8 rfl rfl (by decide +kernel) ⟨Nat.le_of_ble_eq_true rfl, Nat.le_of_ble_eq_true rfl⟩ (nw_recv hK hw (mW_64) rfl) rfl hl.1 (Nat.le_of_ble_eq_true rfl) d_L_law_248 ⟨by show _ ≤ 669896; omega, by show _ ≤ 7086383; omega⟩) hS (fun rv wn' ad9 H locs hpost hw hS => ?_)
        obtain ⟨had9, hmo⟩ := hpost
        rw [had9] at hw
        rcases hmo with ⟨hq1, hq2, hq3⟩ | ⟨hq1, _⟩ | ⟨hq1, _⟩
        rotate_left
        · exact absurd hba hq1
        · exact absurd hba hq1
        subst hq2
        rw [hq3] at hw
        have hw := nw_W.as (wn' := cW ad tC n I K bw LA n (va_up J 0 1) bw2 L o S) hw cW_m
        refine lv_istore (lv' := [(6, .int (nI 0)), (5, .int (nI 1)), (0, .ref (b)), (1, .ref (ad (0))), (2, .ref (ad (64))), (3, .ref (ad (69))), (4, .int (nI (1 + 6 * i)))]) hx hb d_L_law_251 hl (by decide) rfl (fun ls hl => ?_)
        refine lv_aload_n hx hb d_L_law_253 rfl (lv_at hl 4 rfl) ?_
        have hw := nw_W.as (wn' := mW ad tC n (va_up J 0 1) bw2 L (obX ad tC n I K bw LA (bE tC o)) (arX tC n aE0) S) hw cW_m.symm
        refine nw_call (nw_goV (n := 0) (As := []) (rest := []) hSx hA hKs hw hS (c_M_thrown l D tC A ad n (va_up J 0 1) bw2 L (obX ad tC n I K bw LA (bE tC o)) (arX tC n aE0) S hN  ) kw_762 kw_759 kw_760 kw_761 kw_8 rfl rfl (by decide +kernel) ⟨Nat.le_of_ble_eq_true rfl, Nat.le_of_ble_eq_true rfl⟩ (nw_recv hK hw (mW_64) rfl) rfl hl.1 (Nat.le_of_ble_eq_true rfl) d_L_law_254 ⟨by show _ ≤ 669896; omega, by show _ ≤ 7086383; omega⟩) hS (fun rv wn' ad9 H locs hpost hw hS => ?_)
        obtain ⟨hv9, hwn9, had9⟩ := hpost
        subst hv9
        rw [hwn9, had9] at hw
        have hw := nw_W.as (wn' := cW ad tC n I K bw LA n (va_up J 0 1) bw2 L o S) hw cW_m
        refine lv_ei (y := nI 1) rfl ?_
        refine lv_iload hx hb d_L_law_257 (lv_at hl 1 rfl) ?_
        refine lv_icmp_eq (tgt := 264) hx hb d_L_law_259 (by decide) (fun c_259 => ?_) (fun c_259 => ?_)
        · skip
          refine lv_iload hx hb d_L_law_264 (lv_at hl 1 rfl) ?_
          refine lv_if_ne (tgt := 288) hx hb d_L_law_266 (by decide) (fun c_266 => ?_) (fun c_266 => ?_)
          · skip
            refine lv_goto (tgt := 1168) hx hb d_L_law_288 (by decide) ?_
            exact W.widen (by omega) (by omega) (hNext ad n I K bw LA (va_up J 0 1) bw2 L o S (LR_thr hL) _ _ ls hw hS (lv_sub hl [2, 3, 4, 5, 6] rfl))
          · skip
            first | exact absurd c_266 (by decide) | exact absurd (by decide) c_266
        · skip
          exact absurd rfl c_259
      · skip
        exact absurd c_207 c_240
    · skip
      subst hv
      exact absurd trivial hbs
    · skip
      subst hv
      obtain ⟨had, hwn⟩ := hG
      rw [hwn, had] at hw
      refine lv_istore (lv' := [(5, .int (nI 0)), (0, .ref (b)), (1, .ref (ad (0))), (2, .ref (ad (64))), (3, .ref (ad (69))), (4, .int (nI (1 + 6 * i)))]) hx hb d_L_law_219 hl (by decide) rfl (fun ls hl => ?_)
      refine lv_aload_n hx hb d_L_law_221 rfl (lv_at hl 3 rfl) ?_
      refine lv_aload_n hx hb d_L_law_222 rfl (lv_at hl 1 rfl) ?_
      refine lv_iload hx hb d_L_law_223 (lv_at hl 5 rfl) ?_
      refine lv_iconst (v := nI 1) hx hb d_L_law_225 (by decide) ?_
      refine lv_iadd hx hb d_L_law_226 ?_
      refine lv_ei (y := nI (1 + 6 * i + 1)) (nI_add _ _) ?_
      refine va_sld hx hb hX hbl hbA hS (vp_in_nI (by omega) (by omega)) d_L_law_227 ?_
      refine lv_ei (y := xs (1 + 6 * i + 1)) (by rw [nI_clamp (by omega)]) ?_
      refine lv_aload_n hx hb d_L_law_228 rfl (lv_at hl 1 rfl) ?_
      refine lv_iload hx hb d_L_law_229 (lv_at hl 5 rfl) ?_
      refine lv_iconst (v := nI 2) hx hb d_L_law_231 (by decide) ?_
      refine lv_iadd hx hb d_L_law_232 ?_
      refine lv_ei (y := nI (1 + 6 * i + 2)) (nI_add _ _) ?_
      refine va_sld hx hb hX hbl hbA hS (vp_in_nI (by omega) (by omega)) d_L_law_233 ?_
      refine lv_ei (y := xs (1 + 6 * i + 2)) (by rw [nI_clamp (by omega)]) ?_
      refine lv_aload_n hx hb d_L_law_234 rfl (lv_at hl 1 rfl) ?_
      refine lv_iload hx hb d_L_law_235 (lv_at hl 5 rfl) ?_
      refine lv_iconst (v := nI 3) hx hb d_L_law_237 (by decide) ?_
      refine lv_iadd hx hb d_L_law_238 ?_
      refine lv_ei (y := nI (1 + 6 * i + 3)) (nI_add _ _) ?_
      refine va_sld hx hb hX hbl hbA hS (vp_in_nI (by omega) (by omega)) d_L_law_239 ?_
      refine lv_ei (y := xs (1 + 6 * i + 3)) (by rw [nI_clamp (by omega)]) ?_
      refine lv_if_eq (tgt := 247) hx hb d_L_law_240 (by decide) (fun c_240 => ?_) (fun c_240 => ?_)
      · skip
        refine lv_iconst (v := nI 0) hx hb d_L_law_247 (by decide) ?_
        have hw := nw_W.as (wn' := mW ad tC n J bw2 L (obX ad tC n I (va_up K 0 (nI 0)) bw LA (bE tC (vp_updL o 0 (if (upR S 0 0 (flR (S 0 0) (-1) 6)) 1 ((xs (1 + 6 * i + 1)).toNatClampNeg) ((xs (1 + 6 * i + 2)).toNatClampNeg) = 0 then (0 : Int64) else 1)))) (arX tC n aE0) (upR (upR S 0 0 (flR (S 0 0) (-1) 6)) 1 ((xs (1 + 6 * i + 1)).toNatClampNeg) (upd ((upR S 0 0 (flR (S 0 0) (-1) 6)) 1 ((xs (1 + 6 * i + 1)).toNatClampNeg)) ((xs (1 + 6 * i + 2)).toNatClampNeg) (nI 0)))) hw cW_m.symm
        refine nw_call (nw_goV (n := 3) (As := [.int (xs (1 + 6 * i + 1)), .int (xs (1 + 6 * i + 2)), .int (nI 0)]) (rest := []) hSx hA hKs hw hS (c_M_closed l D tC A ad n J bw2 L (obX ad tC n I (va_up K 0 (nI 0)) bw LA (bE tC (vp_updL o 0 (if (upR S 0 0 (flR (S 0 0) (-1) 6)) 1 ((xs (1 + 6 * i + 1)).toNatClampNeg) ((xs (1 + 6 * i + 2)).toNatClampNeg) = 0 then (0 : Int64) else 1)))) (arX tC n aE0) (upR (upR S 0 0 (flR (S 0 0) (-1) 6)) 1 ((xs (1 + 6 * i + 1)).toNatClampNeg) (upd ((upR S 0 0 (flR (S 0 0) (-1) 6)) 1 ((xs (1 + 6 * i + 1)).toNatClampNeg)) ((xs (1 + 6 * i + 2)).toNatClampNeg) (nI 0))) hN (xs (1 + 6 * i + 1)) (xs (1 + 6 * i + 2)) (nI 0) (by decide) hz51) kw_778 kw_775 kw_776 kw_777 kw_8 rfl rfl (by decide +kernel) ⟨Nat.le_of_ble_eq_true rfl, Nat.le_of_ble_eq_true rfl⟩ (nw_recv hK hw (mW_64) rfl) rfl hl.1 (Nat.le_of_ble_eq_true rfl) d_L_law_248 ⟨by show _ ≤ 669896; omega, by show _ ≤ 7086383; omega⟩) hS (fun rv wn' ad9 H locs hpost hw hS => ?_)
        obtain ⟨had9, hmo⟩ := hpost
        rw [had9] at hw
        rcases hmo with ⟨hq1, _⟩ | ⟨hq1, hq4, _⟩ | ⟨hq1, hq4, hGm⟩
        · exact absurd hq1 hnba
        · exact absurd hq4 hnbs
        obtain ⟨hv9, hw9⟩ := hGm
        subst hv9
        rw [hw9] at hw
        have hw := nw_W.as (wn' := cW ad tC n I (va_up K 0 (nI 0)) bw LA n (va_up (va_up J 0 (nI 0)) 3 (nI 0)) bw2 L (vp_updL o 0 (if (upR S 0 0 (flR (S 0 0) (-1) 6)) 1 ((xs (1 + 6 * i + 1)).toNatClampNeg) ((xs (1 + 6 * i + 2)).toNatClampNeg) = 0 then (0 : Int64) else 1)) (upR (upR (upR S 0 0 (flR (S 0 0) (-1) 6)) 1 ((xs (1 + 6 * i + 1)).toNatClampNeg) (upd ((upR S 0 0 (flR (S 0 0) (-1) 6)) 1 ((xs (1 + 6 * i + 1)).toNatClampNeg)) ((xs (1 + 6 * i + 2)).toNatClampNeg) (nI 0))) 5 1 (upd ((upR (upR S 0 0 (flR (S 0 0) (-1) 6)) 1 ((xs (1 + 6 * i + 1)).toNatClampNeg) (upd ((upR S 0 0 (flR (S 0 0) (-1) 6)) 1 ((xs (1 + 6 * i + 1)).toNatClampNeg)) ((xs (1 + 6 * i + 2)).toNatClampNeg) (nI 0))) 5 1) (8 * ((xs (1 + 6 * i + 1)).toNatClampNeg) + ((xs (1 + 6 * i + 2)).toNatClampNeg)) (nI 0)))) hw cW_m
        refine lv_istore (lv' := [(6, .int ((upR (upR S 0 0 (flR (S 0 0) (-1) 6)) 1 ((xs (1 + 6 * i + 1)).toNatClampNeg) (upd ((upR S 0 0 (flR (S 0 0) (-1) 6)) 1 ((xs (1 + 6 * i + 1)).toNatClampNeg)) ((xs (1 + 6 * i + 2)).toNatClampNeg) (nI 0))) 5 1 (8 * ((xs (1 + 6 * i + 1)).toNatClampNeg) + ((xs (1 + 6 * i + 2)).toNatClampNeg)))), (5, .int (nI 0)), (0, .ref (b)), (1, .ref (ad (0))), (2, .ref (ad (64))), (3, .ref (ad (69))), (4, .int (nI (1 + 6 * i)))]) hx hb d_L_law_251 hl (by decide) rfl (fun ls hl => ?_)
        refine lv_aload_n hx hb d_L_law_253 rfl (lv_at hl 4 rfl) ?_
        have hw := nw_W.as (wn' := mW ad tC n (va_up (va_up J 0 (nI 0)) 3 (nI 0)) bw2 L (obX ad tC n I (va_up K 0 (nI 0)) bw LA (bE tC (vp_updL o 0 (if (upR S 0 0 (flR (S 0 0) (-1) 6)) 1 ((xs (1 + 6 * i + 1)).toNatClampNeg) ((xs (1 + 6 * i + 2)).toNatClampNeg) = 0 then (0 : Int64) else 1)))) (arX tC n aE0) (upR (upR (upR S 0 0 (flR (S 0 0) (-1) 6)) 1 ((xs (1 + 6 * i + 1)).toNatClampNeg) (upd ((upR S 0 0 (flR (S 0 0) (-1) 6)) 1 ((xs (1 + 6 * i + 1)).toNatClampNeg)) ((xs (1 + 6 * i + 2)).toNatClampNeg) (nI 0))) 5 1 (upd ((upR (upR S 0 0 (flR (S 0 0) (-1) 6)) 1 ((xs (1 + 6 * i + 1)).toNatClampNeg) (upd ((upR S 0 0 (flR (S 0 0) (-1) 6)) 1 ((xs (1 + 6 * i + 1)).toNatClampNeg)) ((xs (1 + 6 * i + 2)).toNatClampNeg) (nI 0))) 5 1) (8 * ((xs (1 + 6 * i + 1)).toNatClampNeg) + ((xs (1 + 6 * i + 2)).toNatClampNeg)) (nI 0)))) hw cW_m.symm
        refine nw_call (nw_goV (n := 0) (As := []) (rest := []) hSx hA hKs hw hS (c_M_thrown l D tC A ad n (va_up (va_up J 0 (nI 0)) 3 (nI 0)) bw2 L (obX ad tC n I (va_up K 0 (nI 0)) bw LA (bE tC (vp_updL o 0 (if (upR S 0 0 (flR (S 0 0) (-1) 6)) 1 ((xs (1 + 6 * i + 1)).toNatClampNeg) ((xs (1 + 6 * i + 2)).toNatClampNeg) = 0 then (0 : Int64) else 1)))) (arX tC n aE0) (upR (upR (upR S 0 0 (flR (S 0 0) (-1) 6)) 1 ((xs (1 + 6 * i + 1)).toNatClampNeg) (upd ((upR S 0 0 (flR (S 0 0) (-1) 6)) 1 ((xs (1 + 6 * i + 1)).toNatClampNeg)) ((xs (1 + 6 * i + 2)).toNatClampNeg) (nI 0))) 5 1 (upd ((upR (upR S 0 0 (flR (S 0 0) (-1) 6)) 1 ((xs (1 + 6 * i + 1)).toNatClampNeg) (upd ((upR S 0 0 (flR (S 0 0) (-1) 6)) 1 ((xs (1 + 6 * i + 1)).toNatClampNeg)) ((xs (1 + 6 * i + 2)).toNatClampNeg) (nI 0))) 5 1) (8 * ((xs (1 + 6 * i + 1)).toNatClampNeg) + ((xs (1 + 6 * i + 2)).toNatClampNeg)) (nI 0))) hN  ) kw_762 kw_759 kw_760 kw_761 kw_8 rfl rfl (by decide +kernel) ⟨Nat.le_of_ble_eq_true rfl, Nat.le_of_ble_eq_true rfl⟩ (nw_recv hK hw (mW_64) rfl) rfl hl.1 (Nat.le_of_ble_eq_true rfl) d_L_law_254 ⟨by show _ ≤ 669896; omega, by show _ ≤ 7086383; omega⟩) hS (fun rv wn' ad9 H locs hpost hw hS => ?_)
        obtain ⟨hv9, hwn9, had9⟩ := hpost
        subst hv9
        rw [hwn9, had9] at hw
        have hw := nw_W.as (wn' := cW ad tC n I (va_up K 0 (nI 0)) bw LA n (va_up (va_up J 0 (nI 0)) 3 (nI 0)) bw2 L (vp_updL o 0 (if (upR S 0 0 (flR (S 0 0) (-1) 6)) 1 ((xs (1 + 6 * i + 1)).toNatClampNeg) ((xs (1 + 6 * i + 2)).toNatClampNeg) = 0 then (0 : Int64) else 1)) (upR (upR (upR S 0 0 (flR (S 0 0) (-1) 6)) 1 ((xs (1 + 6 * i + 1)).toNatClampNeg) (upd ((upR S 0 0 (flR (S 0 0) (-1) 6)) 1 ((xs (1 + 6 * i + 1)).toNatClampNeg)) ((xs (1 + 6 * i + 2)).toNatClampNeg) (nI 0))) 5 1 (upd ((upR (upR S 0 0 (flR (S 0 0) (-1) 6)) 1 ((xs (1 + 6 * i + 1)).toNatClampNeg) (upd ((upR S 0 0 (flR (S 0 0) (-1) 6)) 1 ((xs (1 + 6 * i + 1)).toNatClampNeg)) ((xs (1 + 6 * i + 2)).toNatClampNeg) (nI 0))) 5 1) (8 * ((xs (1 + 6 * i + 1)).toNatClampNeg) + ((xs (1 + 6 * i + 2)).toNatClampNeg)) (nI 0)))) hw cW_m
        refine lv_ei (y := nI 0) rfl ?_
        refine lv_iload hx hb d_L_law_257 (lv_at hl 1 rfl) ?_
        refine lv_icmp_eq (tgt := 264) hx hb d_L_law_259 (by decide) (fun c_259 => ?_) (fun c_259 => ?_)
        · skip
          refine lv_iload hx hb d_L_law_264 (lv_at hl 1 rfl) ?_
          refine lv_if_ne (tgt := 288) hx hb d_L_law_266 (by decide) (fun c_266 => ?_) (fun c_266 => ?_)
          · skip
            first | exact absurd c_266 (by decide) | exact absurd (by decide) c_266
          · skip
            refine lv_aload_n hx hb d_L_law_269 rfl (lv_at hl 5 rfl) ?_
            refine lv_iconst (v := nI 0) hx hb d_L_law_270 (by decide) ?_
            refine nw_lald hx hb hK hw (69) 1 (cW_69) rfl (0) (rfl) (by omega) (by omega) d_L_law_271 ?_
            refine lv_iload hx hb d_L_law_272 (lv_at hl 0 rfl) ?_
            refine lv_if_eq (tgt := 281) hx hb d_L_law_274 (by decide) (fun c_274 => ?_) (fun c_274 => ?_)
            · skip
              have hbb : (0 : Int64) = (if (upR (upR S 0 0 (flR (S 0 0) (-1) 6)) 1 ((xs (1 + 6 * i + 1)).toNatClampNeg) (upd ((upR S 0 0 (flR (S 0 0) (-1) 6)) 1 ((xs (1 + 6 * i + 1)).toNatClampNeg)) ((xs (1 + 6 * i + 2)).toNatClampNeg) (nI 0))) 5 1 (8 * ((xs (1 + 6 * i + 1)).toNatClampNeg) + ((xs (1 + 6 * i + 2)).toNatClampNeg)) = 0 then (0 : Int64) else 1) := (if_pos c_274).symm
              refine lv_lconst (v := 0) hx hb d_L_law_281 (by decide) ?_
              refine lv_el (y := ((vp_updL o 0 (if (upR S 0 0 (flR (S 0 0) (-1) 6)) 1 ((xs (1 + 6 * i + 1)).toNatClampNeg) ((xs (1 + 6 * i + 2)).toNatClampNeg) = 0 then (0 : Int64) else 1)) (0))) (hbb.trans (congrArg (fun z : Int32 => if z = 0 then (0 : Int64) else 1) (LR_closed (x3 := nI 0) hL (Classical.not_not.mp hnba).1 (Classical.not_not.mp hnba).2 (by decide)).1.symm)) ?_
              refine W.lcmp hx hb d_L_law_282 ?_
              refine lv_ei (y := nI 0) ((lg_cmp_eq _ _).mpr rfl) ?_
              refine lv_if_eq (tgt := 288) hx hb d_L_law_283 (by decide) (fun c_283 => ?_) (fun c_283 => ?_)
              · skip
                refine lv_goto (tgt := 1168) hx hb d_L_law_288 (by decide) ?_
                exact W.widen (by omega) (by omega) (hNext ad n I (va_up K 0 (nI 0)) bw LA (va_up (va_up J 0 (nI 0)) 3 (nI 0)) bw2 L (vp_updL o 0 (if (upR S 0 0 (flR (S 0 0) (-1) 6)) 1 ((xs (1 + 6 * i + 1)).toNatClampNeg) ((xs (1 + 6 * i + 2)).toNatClampNeg) = 0 then (0 : Int64) else 1)) (upR (upR (upR S 0 0 (flR (S 0 0) (-1) 6)) 1 ((xs (1 + 6 * i + 1)).toNatClampNeg) (upd ((upR S 0 0 (flR (S 0 0) (-1) 6)) 1 ((xs (1 + 6 * i + 1)).toNatClampNeg)) ((xs (1 + 6 * i + 2)).toNatClampNeg) (nI 0))) 5 1 (upd ((upR (upR S 0 0 (flR (S 0 0) (-1) 6)) 1 ((xs (1 + 6 * i + 1)).toNatClampNeg) (upd ((upR S 0 0 (flR (S 0 0) (-1) 6)) 1 ((xs (1 + 6 * i + 1)).toNatClampNeg)) ((xs (1 + 6 * i + 2)).toNatClampNeg) (nI 0))) 5 1) (8 * ((xs (1 + 6 * i + 1)).toNatClampNeg) + ((xs (1 + 6 * i + 2)).toNatClampNeg)) (nI 0))) ((LR_closed (x3 := nI 0) hL (Classical.not_not.mp hnba).1 (Classical.not_not.mp hnba).2 (by decide)).2) _ _ ls hw hS (lv_sub hl [2, 3, 4, 5, 6] rfl))
              · skip
                first | exact absurd c_283 (by decide) | exact absurd (by decide) c_283
            · skip
              have hbb : (1 : Int64) = (if (upR (upR S 0 0 (flR (S 0 0) (-1) 6)) 1 ((xs (1 + 6 * i + 1)).toNatClampNeg) (upd ((upR S 0 0 (flR (S 0 0) (-1) 6)) 1 ((xs (1 + 6 * i + 1)).toNatClampNeg)) ((xs (1 + 6 * i + 2)).toNatClampNeg) (nI 0))) 5 1 (8 * ((xs (1 + 6 * i + 1)).toNatClampNeg) + ((xs (1 + 6 * i + 2)).toNatClampNeg)) = 0 then (0 : Int64) else 1) := (if_neg c_274).symm
              refine lv_lconst (v := 1) hx hb d_L_law_277 (by decide) ?_
              refine lv_goto (tgt := 282) hx hb d_L_law_278 (by decide) ?_
              refine lv_el (y := ((vp_updL o 0 (if (upR S 0 0 (flR (S 0 0) (-1) 6)) 1 ((xs (1 + 6 * i + 1)).toNatClampNeg) ((xs (1 + 6 * i + 2)).toNatClampNeg) = 0 then (0 : Int64) else 1)) (0))) (hbb.trans (congrArg (fun z : Int32 => if z = 0 then (0 : Int64) else 1) (LR_closed (x3 := nI 0) hL (Classical.not_not.mp hnba).1 (Classical.not_not.mp hnba).2 (by decide)).1.symm)) ?_
              refine W.lcmp hx hb d_L_law_282 ?_
              refine lv_ei (y := nI 0) ((lg_cmp_eq _ _).mpr rfl) ?_
              refine lv_if_eq (tgt := 288) hx hb d_L_law_283 (by decide) (fun c_283 => ?_) (fun c_283 => ?_)
              · skip
                refine lv_goto (tgt := 1168) hx hb d_L_law_288 (by decide) ?_
                exact W.widen (by omega) (by omega) (hNext ad n I (va_up K 0 (nI 0)) bw LA (va_up (va_up J 0 (nI 0)) 3 (nI 0)) bw2 L (vp_updL o 0 (if (upR S 0 0 (flR (S 0 0) (-1) 6)) 1 ((xs (1 + 6 * i + 1)).toNatClampNeg) ((xs (1 + 6 * i + 2)).toNatClampNeg) = 0 then (0 : Int64) else 1)) (upR (upR (upR S 0 0 (flR (S 0 0) (-1) 6)) 1 ((xs (1 + 6 * i + 1)).toNatClampNeg) (upd ((upR S 0 0 (flR (S 0 0) (-1) 6)) 1 ((xs (1 + 6 * i + 1)).toNatClampNeg)) ((xs (1 + 6 * i + 2)).toNatClampNeg) (nI 0))) 5 1 (upd ((upR (upR S 0 0 (flR (S 0 0) (-1) 6)) 1 ((xs (1 + 6 * i + 1)).toNatClampNeg) (upd ((upR S 0 0 (flR (S 0 0) (-1) 6)) 1 ((xs (1 + 6 * i + 1)).toNatClampNeg)) ((xs (1 + 6 * i + 2)).toNatClampNeg) (nI 0))) 5 1) (8 * ((xs (1 + 6 * i + 1)).toNatClampNeg) + ((xs (1 + 6 * i + 2)).toNatClampNeg)) (nI 0))) ((LR_closed (x3 := nI 0) hL (Classical.not_not.mp hnba).1 (Classical.not_not.mp hnba).2 (by decide)).2) _ _ ls hw hS (lv_sub hl [2, 3, 4, 5, 6] rfl))
              · skip
                first | exact absurd c_283 (by decide) | exact absurd (by decide) c_283
        · skip
          exact absurd rfl c_259
      · skip
        exact absurd c_207 c_240
  · skip
    refine lv_iconst (v := nI 1) hx hb d_L_law_210 (by decide) ?_
    refine lv_goto (tgt := 215) hx hb d_L_law_211 (by decide) ?_
    refine lv_aload_n hx hb d_L_law_215 rfl (lv_at hl 3 rfl) ?_
    refine nx_callC (nx_goW (n := 5) (As := [.ref (ad (0)), .int (xs (1 + 6 * i + 1)), .int (xs (1 + 6 * i + 2)), .int (nI 1), .ref (ad (69))]) (rest := []) hSx hA hKs hF hB hAs hw hS (w_closed l D tC A ad n I K bw LA n J bw2 L o S hN s hF hfl hAs (xs (1 + 6 * i + 1)) (xs (1 + 6 * i + 2)) (nI 1) (by decide) hz1) kt_384 kw_382 kw_383 kw_0 rfl rfl (by decide +kernel) ⟨Nat.le_of_ble_eq_true rfl, Nat.le_of_ble_eq_true rfl⟩ rfl hl.1 (Nat.le_of_ble_eq_true rfl) d_L_law_216 ⟨by show _ ≤ 669896; omega, by show _ ≤ 7086383; omega⟩) hS (fun X wn' ad' H locs x cell hpost hw hS hcell hst hcls T' hT X0 => (lw_po_x hpost).elim) (fun rv wn' ad' H locs hpost hw hS => ?_)
    rcases lw_po_i hpost with ⟨hv, hba, hwn, had⟩ | ⟨hv, hnba, hbs, hwn, had⟩ | ⟨hv, hnba, hnbs, hG⟩
    · skip
      subst hv
      rw [hwn, had] at hw
      refine lv_istore (lv' := [(5, .int (nI 1)), (0, .ref (b)), (1, .ref (ad (0))), (2, .ref (ad (64))), (3, .ref (ad (69))), (4, .int (nI (1 + 6 * i)))]) hx hb d_L_law_219 hl (by decide) rfl (fun ls hl => ?_)
      refine lv_aload_n hx hb d_L_law_221 rfl (lv_at hl 3 rfl) ?_
      refine lv_aload_n hx hb d_L_law_222 rfl (lv_at hl 1 rfl) ?_
      refine lv_iload hx hb d_L_law_223 (lv_at hl 5 rfl) ?_
      refine lv_iconst (v := nI 1) hx hb d_L_law_225 (by decide) ?_
      refine lv_iadd hx hb d_L_law_226 ?_
      refine lv_ei (y := nI (1 + 6 * i + 1)) (nI_add _ _) ?_
      refine va_sld hx hb hX hbl hbA hS (vp_in_nI (by omega) (by omega)) d_L_law_227 ?_
      refine lv_ei (y := xs (1 + 6 * i + 1)) (by rw [nI_clamp (by omega)]) ?_
      refine lv_aload_n hx hb d_L_law_228 rfl (lv_at hl 1 rfl) ?_
      refine lv_iload hx hb d_L_law_229 (lv_at hl 5 rfl) ?_
      refine lv_iconst (v := nI 2) hx hb d_L_law_231 (by decide) ?_
      refine lv_iadd hx hb d_L_law_232 ?_
      refine lv_ei (y := nI (1 + 6 * i + 2)) (nI_add _ _) ?_
      refine va_sld hx hb hX hbl hbA hS (vp_in_nI (by omega) (by omega)) d_L_law_233 ?_
      refine lv_ei (y := xs (1 + 6 * i + 2)) (by rw [nI_clamp (by omega)]) ?_
      refine lv_aload_n hx hb d_L_law_234 rfl (lv_at hl 1 rfl) ?_
      refine lv_iload hx hb d_L_law_235 (lv_at hl 5 rfl) ?_
      refine lv_iconst (v := nI 3) hx hb d_L_law_237 (by decide) ?_
      refine lv_iadd hx hb d_L_law_238 ?_
      refine lv_ei (y := nI (1 + 6 * i + 3)) (nI_add _ _) ?_
      refine va_sld hx hb hX hbl hbA hS (vp_in_nI (by omega) (by omega)) d_L_law_239 ?_
      refine lv_ei (y := xs (1 + 6 * i + 3)) (by rw [nI_clamp (by omega)]) ?_
      refine lv_if_eq (tgt := 247) hx hb d_L_law_240 (by decide) (fun c_240 => ?_) (fun c_240 => ?_)
      · skip
        exact absurd c_240 c_207
      · skip
        refine lv_iconst (v := nI 1) hx hb d_L_law_243 (by decide) ?_
        refine lv_goto (tgt := 248) hx hb d_L_law_244 (by decide) ?_
        have hw := nw_W.as (wn' := mW ad tC n J bw2 L (obX ad tC n I K bw LA (bE tC o)) (arX tC n aE0) S) hw cW_m.symm
        refine nw_call (nw_goV (n := 3) (As := [.int (xs (1 + 6 * i + 1)), .int (xs (1 + 6 * i + 2)), .int (nI 1)]) (rest := []) hSx hA hKs hw hS (c_M_closed l D tC A ad n J bw2 L (obX ad tC n I K bw LA (bE tC o)) (arX tC n aE0) S hN (xs (1 + 6 * i + 1)) (xs (1 + 6 * i + 2)) (nI 1) (by decide) hz51) kw_778 kw_775 kw_776 kw_777 kw_8 rfl rfl (by decide +kernel) ⟨Nat.le_of_ble_eq_true rfl, Nat.le_of_ble_eq_true rfl⟩ (nw_recv hK hw (mW_64) rfl) rfl hl.1 (Nat.le_of_ble_eq_true rfl) d_L_law_248 ⟨by show _ ≤ 669896; omega, by show _ ≤ 7086383; omega⟩) hS (fun rv wn' ad9 H locs hpost hw hS => ?_)
        obtain ⟨had9, hmo⟩ := hpost
        rw [had9] at hw
        rcases hmo with ⟨hq1, hq2, hq3⟩ | ⟨hq1, _⟩ | ⟨hq1, _⟩
        rotate_left
        · exact absurd hba hq1
        · exact absurd hba hq1
        subst hq2
        rw [hq3] at hw
        have hw := nw_W.as (wn' := cW ad tC n I K bw LA n (va_up J 0 1) bw2 L o S) hw cW_m
        refine lv_istore (lv' := [(6, .int (nI 0)), (5, .int (nI 1)), (0, .ref (b)), (1, .ref (ad (0))), (2, .ref (ad (64))), (3, .ref (ad (69))), (4, .int (nI (1 + 6 * i)))]) hx hb d_L_law_251 hl (by decide) rfl (fun ls hl => ?_)
        refine lv_aload_n hx hb d_L_law_253 rfl (lv_at hl 4 rfl) ?_
        have hw := nw_W.as (wn' := mW ad tC n (va_up J 0 1) bw2 L (obX ad tC n I K bw LA (bE tC o)) (arX tC n aE0) S) hw cW_m.symm
        refine nw_call (nw_goV (n := 0) (As := []) (rest := []) hSx hA hKs hw hS (c_M_thrown l D tC A ad n (va_up J 0 1) bw2 L (obX ad tC n I K bw LA (bE tC o)) (arX tC n aE0) S hN  ) kw_762 kw_759 kw_760 kw_761 kw_8 rfl rfl (by decide +kernel) ⟨Nat.le_of_ble_eq_true rfl, Nat.le_of_ble_eq_true rfl⟩ (nw_recv hK hw (mW_64) rfl) rfl hl.1 (Nat.le_of_ble_eq_true rfl) d_L_law_254 ⟨by show _ ≤ 669896; omega, by show _ ≤ 7086383; omega⟩) hS (fun rv wn' ad9 H locs hpost hw hS => ?_)
        obtain ⟨hv9, hwn9, had9⟩ := hpost
        subst hv9
        rw [hwn9, had9] at hw
        have hw := nw_W.as (wn' := cW ad tC n I K bw LA n (va_up J 0 1) bw2 L o S) hw cW_m
        refine lv_ei (y := nI 1) rfl ?_
        refine lv_iload hx hb d_L_law_257 (lv_at hl 1 rfl) ?_
        refine lv_icmp_eq (tgt := 264) hx hb d_L_law_259 (by decide) (fun c_259 => ?_) (fun c_259 => ?_)
        · skip
          refine lv_iload hx hb d_L_law_264 (lv_at hl 1 rfl) ?_
          refine lv_if_ne (tgt := 288) hx hb d_L_law_266 (by decide) (fun c_266 => ?_) (fun c_266 => ?_)
          · skip
            refine lv_goto (tgt := 1168) hx hb d_L_law_288 (by decide) ?_
            exact W.widen (by omega) (by omega) (hNext ad n I K bw LA (va_up J 0 1) bw2 L o S (LR_thr hL) _ _ ls hw hS (lv_sub hl [2, 3, 4, 5, 6] rfl))
          · skip
            first | exact absurd c_266 (by decide) | exact absurd (by decide) c_266
        · skip
          exact absurd rfl c_259
    · skip
      subst hv
      exact absurd trivial hbs
    · skip
      subst hv
      obtain ⟨had, hwn⟩ := hG
      rw [hwn, had] at hw
      refine lv_istore (lv' := [(5, .int (nI 0)), (0, .ref (b)), (1, .ref (ad (0))), (2, .ref (ad (64))), (3, .ref (ad (69))), (4, .int (nI (1 + 6 * i)))]) hx hb d_L_law_219 hl (by decide) rfl (fun ls hl => ?_)
      refine lv_aload_n hx hb d_L_law_221 rfl (lv_at hl 3 rfl) ?_
      refine lv_aload_n hx hb d_L_law_222 rfl (lv_at hl 1 rfl) ?_
      refine lv_iload hx hb d_L_law_223 (lv_at hl 5 rfl) ?_
      refine lv_iconst (v := nI 1) hx hb d_L_law_225 (by decide) ?_
      refine lv_iadd hx hb d_L_law_226 ?_
      refine lv_ei (y := nI (1 + 6 * i + 1)) (nI_add _ _) ?_
      refine va_sld hx hb hX hbl hbA hS (vp_in_nI (by omega) (by omega)) d_L_law_227 ?_
      refine lv_ei (y := xs (1 + 6 * i + 1)) (by rw [nI_clamp (by omega)]) ?_
      refine lv_aload_n hx hb d_L_law_228 rfl (lv_at hl 1 rfl) ?_
      refine lv_iload hx hb d_L_law_229 (lv_at hl 5 rfl) ?_
      refine lv_iconst (v := nI 2) hx hb d_L_law_231 (by decide) ?_
      refine lv_iadd hx hb d_L_law_232 ?_
      refine lv_ei (y := nI (1 + 6 * i + 2)) (nI_add _ _) ?_
      refine va_sld hx hb hX hbl hbA hS (vp_in_nI (by omega) (by omega)) d_L_law_233 ?_
      refine lv_ei (y := xs (1 + 6 * i + 2)) (by rw [nI_clamp (by omega)]) ?_
      refine lv_aload_n hx hb d_L_law_234 rfl (lv_at hl 1 rfl) ?_
      refine lv_iload hx hb d_L_law_235 (lv_at hl 5 rfl) ?_
      refine lv_iconst (v := nI 3) hx hb d_L_law_237 (by decide) ?_
      refine lv_iadd hx hb d_L_law_238 ?_
      refine lv_ei (y := nI (1 + 6 * i + 3)) (nI_add _ _) ?_
      refine va_sld hx hb hX hbl hbA hS (vp_in_nI (by omega) (by omega)) d_L_law_239 ?_
      refine lv_ei (y := xs (1 + 6 * i + 3)) (by rw [nI_clamp (by omega)]) ?_
      refine lv_if_eq (tgt := 247) hx hb d_L_law_240 (by decide) (fun c_240 => ?_) (fun c_240 => ?_)
      · skip
        exact absurd c_240 c_207
      · skip
        refine lv_iconst (v := nI 1) hx hb d_L_law_243 (by decide) ?_
        refine lv_goto (tgt := 248) hx hb d_L_law_244 (by decide) ?_
        have hw := nw_W.as (wn' := mW ad tC n J bw2 L (obX ad tC n I (va_up K 0 (nI 0)) bw LA (bE tC (vp_updL o 0 (if (upR S 0 0 (flR (S 0 0) (-1) 6)) 1 ((xs (1 + 6 * i + 1)).toNatClampNeg) ((xs (1 + 6 * i + 2)).toNatClampNeg) = 0 then (0 : Int64) else 1)))) (arX tC n aE0) (upR (upR S 0 0 (flR (S 0 0) (-1) 6)) 1 ((xs (1 + 6 * i + 1)).toNatClampNeg) (upd ((upR S 0 0 (flR (S 0 0) (-1) 6)) 1 ((xs (1 + 6 * i + 1)).toNatClampNeg)) ((xs (1 + 6 * i + 2)).toNatClampNeg) (nI 1)))) hw cW_m.symm
        refine nw_call (nw_goV (n := 3) (As := [.int (xs (1 + 6 * i + 1)), .int (xs (1 + 6 * i + 2)), .int (nI 1)]) (rest := []) hSx hA hKs hw hS (c_M_closed l D tC A ad n J bw2 L (obX ad tC n I (va_up K 0 (nI 0)) bw LA (bE tC (vp_updL o 0 (if (upR S 0 0 (flR (S 0 0) (-1) 6)) 1 ((xs (1 + 6 * i + 1)).toNatClampNeg) ((xs (1 + 6 * i + 2)).toNatClampNeg) = 0 then (0 : Int64) else 1)))) (arX tC n aE0) (upR (upR S 0 0 (flR (S 0 0) (-1) 6)) 1 ((xs (1 + 6 * i + 1)).toNatClampNeg) (upd ((upR S 0 0 (flR (S 0 0) (-1) 6)) 1 ((xs (1 + 6 * i + 1)).toNatClampNeg)) ((xs (1 + 6 * i + 2)).toNatClampNeg) (nI 1))) hN (xs (1 + 6 * i + 1)) (xs (1 + 6 * i + 2)) (nI 1) (by decide) hz51) kw_778 kw_775 kw_776 kw_777 kw_8 rfl rfl (by decide +kernel) ⟨Nat.le_of_ble_eq_true rfl, Nat.le_of_ble_eq_true rfl⟩ (nw_recv hK hw (mW_64) rfl) rfl hl.1 (Nat.le_of_ble_eq_true rfl) d_L_law_248 ⟨by show _ ≤ 669896; omega, by show _ ≤ 7086383; omega⟩) hS (fun rv wn' ad9 H locs hpost hw hS => ?_)
        obtain ⟨had9, hmo⟩ := hpost
        rw [had9] at hw
        rcases hmo with ⟨hq1, _⟩ | ⟨hq1, hq4, _⟩ | ⟨hq1, hq4, hGm⟩
        · exact absurd hq1 hnba
        · exact absurd hq4 hnbs
        obtain ⟨hv9, hw9⟩ := hGm
        subst hv9
        rw [hw9] at hw
        have hw := nw_W.as (wn' := cW ad tC n I (va_up K 0 (nI 0)) bw LA n (va_up (va_up J 0 (nI 0)) 3 (nI 0)) bw2 L (vp_updL o 0 (if (upR S 0 0 (flR (S 0 0) (-1) 6)) 1 ((xs (1 + 6 * i + 1)).toNatClampNeg) ((xs (1 + 6 * i + 2)).toNatClampNeg) = 0 then (0 : Int64) else 1)) (upR (upR (upR S 0 0 (flR (S 0 0) (-1) 6)) 1 ((xs (1 + 6 * i + 1)).toNatClampNeg) (upd ((upR S 0 0 (flR (S 0 0) (-1) 6)) 1 ((xs (1 + 6 * i + 1)).toNatClampNeg)) ((xs (1 + 6 * i + 2)).toNatClampNeg) (nI 1))) 5 1 (upd ((upR (upR S 0 0 (flR (S 0 0) (-1) 6)) 1 ((xs (1 + 6 * i + 1)).toNatClampNeg) (upd ((upR S 0 0 (flR (S 0 0) (-1) 6)) 1 ((xs (1 + 6 * i + 1)).toNatClampNeg)) ((xs (1 + 6 * i + 2)).toNatClampNeg) (nI 1))) 5 1) (8 * ((xs (1 + 6 * i + 1)).toNatClampNeg) + ((xs (1 + 6 * i + 2)).toNatClampNeg)) (nI 1)))) hw cW_m
        refine lv_istore (lv' := [(6, .int ((upR (upR S 0 0 (flR (S 0 0) (-1) 6)) 1 ((xs (1 + 6 * i + 1)).toNatClampNeg) (upd ((upR S 0 0 (flR (S 0 0) (-1) 6)) 1 ((xs (1 + 6 * i + 1)).toNatClampNeg)) ((xs (1 + 6 * i + 2)).toNatClampNeg) (nI 1))) 5 1 (8 * ((xs (1 + 6 * i + 1)).toNatClampNeg) + ((xs (1 + 6 * i + 2)).toNatClampNeg)))), (5, .int (nI 0)), (0, .ref (b)), (1, .ref (ad (0))), (2, .ref (ad (64))), (3, .ref (ad (69))), (4, .int (nI (1 + 6 * i)))]) hx hb d_L_law_251 hl (by decide) rfl (fun ls hl => ?_)
        refine lv_aload_n hx hb d_L_law_253 rfl (lv_at hl 4 rfl) ?_
        have hw := nw_W.as (wn' := mW ad tC n (va_up (va_up J 0 (nI 0)) 3 (nI 0)) bw2 L (obX ad tC n I (va_up K 0 (nI 0)) bw LA (bE tC (vp_updL o 0 (if (upR S 0 0 (flR (S 0 0) (-1) 6)) 1 ((xs (1 + 6 * i + 1)).toNatClampNeg) ((xs (1 + 6 * i + 2)).toNatClampNeg) = 0 then (0 : Int64) else 1)))) (arX tC n aE0) (upR (upR (upR S 0 0 (flR (S 0 0) (-1) 6)) 1 ((xs (1 + 6 * i + 1)).toNatClampNeg) (upd ((upR S 0 0 (flR (S 0 0) (-1) 6)) 1 ((xs (1 + 6 * i + 1)).toNatClampNeg)) ((xs (1 + 6 * i + 2)).toNatClampNeg) (nI 1))) 5 1 (upd ((upR (upR S 0 0 (flR (S 0 0) (-1) 6)) 1 ((xs (1 + 6 * i + 1)).toNatClampNeg) (upd ((upR S 0 0 (flR (S 0 0) (-1) 6)) 1 ((xs (1 + 6 * i + 1)).toNatClampNeg)) ((xs (1 + 6 * i + 2)).toNatClampNeg) (nI 1))) 5 1) (8 * ((xs (1 + 6 * i + 1)).toNatClampNeg) + ((xs (1 + 6 * i + 2)).toNatClampNeg)) (nI 1)))) hw cW_m.symm
        refine nw_call (nw_goV (n := 0) (As := []) (rest := []) hSx hA hKs hw hS (c_M_thrown l D tC A ad n (va_up (va_up J 0 (nI 0)) 3 (nI 0)) bw2 L (obX ad tC n I (va_up K 0 (nI 0)) bw LA (bE tC (vp_updL o 0 (if (upR S 0 0 (flR (S 0 0) (-1) 6)) 1 ((xs (1 + 6 * i + 1)).toNatClampNeg) ((xs (1 + 6 * i + 2)).toNatClampNeg) = 0 then (0 : Int64) else 1)))) (arX tC n aE0) (upR (upR (upR S 0 0 (flR (S 0 0) (-1) 6)) 1 ((xs (1 + 6 * i + 1)).toNatClampNeg) (upd ((upR S 0 0 (flR (S 0 0) (-1) 6)) 1 ((xs (1 + 6 * i + 1)).toNatClampNeg)) ((xs (1 + 6 * i + 2)).toNatClampNeg) (nI 1))) 5 1 (upd ((upR (upR S 0 0 (flR (S 0 0) (-1) 6)) 1 ((xs (1 + 6 * i + 1)).toNatClampNeg) (upd ((upR S 0 0 (flR (S 0 0) (-1) 6)) 1 ((xs (1 + 6 * i + 1)).toNatClampNeg)) ((xs (1 + 6 * i + 2)).toNatClampNeg) (nI 1))) 5 1) (8 * ((xs (1 + 6 * i + 1)).toNatClampNeg) + ((xs (1 + 6 * i + 2)).toNatClampNeg)) (nI 1))) hN  ) kw_762 kw_759 kw_760 kw_761 kw_8 rfl rfl (by decide +kernel) ⟨Nat.le_of_ble_eq_true rfl, Nat.le_of_ble_eq_true rfl⟩ (nw_recv hK hw (mW_64) rfl) rfl hl.1 (Nat.le_of_ble_eq_true rfl) d_L_law_254 ⟨by show _ ≤ 669896; omega, by show _ ≤ 7086383; omega⟩) hS (fun rv wn' ad9 H locs hpost hw hS => ?_)
        obtain ⟨hv9, hwn9, had9⟩ := hpost
        subst hv9
        rw [hwn9, had9] at hw
        have hw := nw_W.as (wn' := cW ad tC n I (va_up K 0 (nI 0)) bw LA n (va_up (va_up J 0 (nI 0)) 3 (nI 0)) bw2 L (vp_updL o 0 (if (upR S 0 0 (flR (S 0 0) (-1) 6)) 1 ((xs (1 + 6 * i + 1)).toNatClampNeg) ((xs (1 + 6 * i + 2)).toNatClampNeg) = 0 then (0 : Int64) else 1)) (upR (upR (upR S 0 0 (flR (S 0 0) (-1) 6)) 1 ((xs (1 + 6 * i + 1)).toNatClampNeg) (upd ((upR S 0 0 (flR (S 0 0) (-1) 6)) 1 ((xs (1 + 6 * i + 1)).toNatClampNeg)) ((xs (1 + 6 * i + 2)).toNatClampNeg) (nI 1))) 5 1 (upd ((upR (upR S 0 0 (flR (S 0 0) (-1) 6)) 1 ((xs (1 + 6 * i + 1)).toNatClampNeg) (upd ((upR S 0 0 (flR (S 0 0) (-1) 6)) 1 ((xs (1 + 6 * i + 1)).toNatClampNeg)) ((xs (1 + 6 * i + 2)).toNatClampNeg) (nI 1))) 5 1) (8 * ((xs (1 + 6 * i + 1)).toNatClampNeg) + ((xs (1 + 6 * i + 2)).toNatClampNeg)) (nI 1)))) hw cW_m
        refine lv_ei (y := nI 0) rfl ?_
        refine lv_iload hx hb d_L_law_257 (lv_at hl 1 rfl) ?_
        refine lv_icmp_eq (tgt := 264) hx hb d_L_law_259 (by decide) (fun c_259 => ?_) (fun c_259 => ?_)
        · skip
          refine lv_iload hx hb d_L_law_264 (lv_at hl 1 rfl) ?_
          refine lv_if_ne (tgt := 288) hx hb d_L_law_266 (by decide) (fun c_266 => ?_) (fun c_266 => ?_)
          · skip
            first | exact absurd c_266 (by decide) | exact absurd (by decide) c_266
          · skip
            refine lv_aload_n hx hb d_L_law_269 rfl (lv_at hl 5 rfl) ?_
            refine lv_iconst (v := nI 0) hx hb d_L_law_270 (by decide) ?_
            refine nw_lald hx hb hK hw (69) 1 (cW_69) rfl (0) (rfl) (by omega) (by omega) d_L_law_271 ?_
            refine lv_iload hx hb d_L_law_272 (lv_at hl 0 rfl) ?_
            refine lv_if_eq (tgt := 281) hx hb d_L_law_274 (by decide) (fun c_274 => ?_) (fun c_274 => ?_)
            · skip
              have hbb : (0 : Int64) = (if (upR (upR S 0 0 (flR (S 0 0) (-1) 6)) 1 ((xs (1 + 6 * i + 1)).toNatClampNeg) (upd ((upR S 0 0 (flR (S 0 0) (-1) 6)) 1 ((xs (1 + 6 * i + 1)).toNatClampNeg)) ((xs (1 + 6 * i + 2)).toNatClampNeg) (nI 1))) 5 1 (8 * ((xs (1 + 6 * i + 1)).toNatClampNeg) + ((xs (1 + 6 * i + 2)).toNatClampNeg)) = 0 then (0 : Int64) else 1) := (if_pos c_274).symm
              refine lv_lconst (v := 0) hx hb d_L_law_281 (by decide) ?_
              refine lv_el (y := ((vp_updL o 0 (if (upR S 0 0 (flR (S 0 0) (-1) 6)) 1 ((xs (1 + 6 * i + 1)).toNatClampNeg) ((xs (1 + 6 * i + 2)).toNatClampNeg) = 0 then (0 : Int64) else 1)) (0))) (hbb.trans (congrArg (fun z : Int32 => if z = 0 then (0 : Int64) else 1) (LR_closed (x3 := nI 1) hL (Classical.not_not.mp hnba).1 (Classical.not_not.mp hnba).2 (by decide)).1.symm)) ?_
              refine W.lcmp hx hb d_L_law_282 ?_
              refine lv_ei (y := nI 0) ((lg_cmp_eq _ _).mpr rfl) ?_
              refine lv_if_eq (tgt := 288) hx hb d_L_law_283 (by decide) (fun c_283 => ?_) (fun c_283 => ?_)
              · skip
                refine lv_goto (tgt := 1168) hx hb d_L_law_288 (by decide) ?_
                exact W.widen (by omega) (by omega) (hNext ad n I (va_up K 0 (nI 0)) bw LA (va_up (va_up J 0 (nI 0)) 3 (nI 0)) bw2 L (vp_updL o 0 (if (upR S 0 0 (flR (S 0 0) (-1) 6)) 1 ((xs (1 + 6 * i + 1)).toNatClampNeg) ((xs (1 + 6 * i + 2)).toNatClampNeg) = 0 then (0 : Int64) else 1)) (upR (upR (upR S 0 0 (flR (S 0 0) (-1) 6)) 1 ((xs (1 + 6 * i + 1)).toNatClampNeg) (upd ((upR S 0 0 (flR (S 0 0) (-1) 6)) 1 ((xs (1 + 6 * i + 1)).toNatClampNeg)) ((xs (1 + 6 * i + 2)).toNatClampNeg) (nI 1))) 5 1 (upd ((upR (upR S 0 0 (flR (S 0 0) (-1) 6)) 1 ((xs (1 + 6 * i + 1)).toNatClampNeg) (upd ((upR S 0 0 (flR (S 0 0) (-1) 6)) 1 ((xs (1 + 6 * i + 1)).toNatClampNeg)) ((xs (1 + 6 * i + 2)).toNatClampNeg) (nI 1))) 5 1) (8 * ((xs (1 + 6 * i + 1)).toNatClampNeg) + ((xs (1 + 6 * i + 2)).toNatClampNeg)) (nI 1))) ((LR_closed (x3 := nI 1) hL (Classical.not_not.mp hnba).1 (Classical.not_not.mp hnba).2 (by decide)).2) _ _ ls hw hS (lv_sub hl [2, 3, 4, 5, 6] rfl))
              · skip
                first | exact absurd c_283 (by decide) | exact absurd (by decide) c_283
            · skip
              have hbb : (1 : Int64) = (if (upR (upR S 0 0 (flR (S 0 0) (-1) 6)) 1 ((xs (1 + 6 * i + 1)).toNatClampNeg) (upd ((upR S 0 0 (flR (S 0 0) (-1) 6)) 1 ((xs (1 + 6 * i + 1)).toNatClampNeg)) ((xs (1 + 6 * i + 2)).toNatClampNeg) (nI 1))) 5 1 (8 * ((xs (1 + 6 * i + 1)).toNatClampNeg) + ((xs (1 + 6 * i + 2)).toNatClampNeg)) = 0 then (0 : Int64) else 1) := (if_neg c_274).symm
              refine lv_lconst (v := 1) hx hb d_L_law_277 (by decide) ?_
              refine lv_goto (tgt := 282) hx hb d_L_law_278 (by decide) ?_
              refine lv_el (y := ((vp_updL o 0 (if (upR S 0 0 (flR (S 0 0) (-1) 6)) 1 ((xs (1 + 6 * i + 1)).toNatClampNeg) ((xs (1 + 6 * i + 2)).toNatClampNeg) = 0 then (0 : Int64) else 1)) (0))) (hbb.trans (congrArg (fun z : Int32 => if z = 0 then (0 : Int64) else 1) (LR_closed (x3 := nI 1) hL (Classical.not_not.mp hnba).1 (Classical.not_not.mp hnba).2 (by decide)).1.symm)) ?_
              refine W.lcmp hx hb d_L_law_282 ?_
              refine lv_ei (y := nI 0) ((lg_cmp_eq _ _).mpr rfl) ?_
              refine lv_if_eq (tgt := 288) hx hb d_L_law_283 (by decide) (fun c_283 => ?_) (fun c_283 => ?_)
              · skip
                refine lv_goto (tgt := 1168) hx hb d_L_law_288 (by decide) ?_
                exact W.widen (by omega) (by omega) (hNext ad n I (va_up K 0 (nI 0)) bw LA (va_up (va_up J 0 (nI 0)) 3 (nI 0)) bw2 L (vp_updL o 0 (if (upR S 0 0 (flR (S 0 0) (-1) 6)) 1 ((xs (1 + 6 * i + 1)).toNatClampNeg) ((xs (1 + 6 * i + 2)).toNatClampNeg) = 0 then (0 : Int64) else 1)) (upR (upR (upR S 0 0 (flR (S 0 0) (-1) 6)) 1 ((xs (1 + 6 * i + 1)).toNatClampNeg) (upd ((upR S 0 0 (flR (S 0 0) (-1) 6)) 1 ((xs (1 + 6 * i + 1)).toNatClampNeg)) ((xs (1 + 6 * i + 2)).toNatClampNeg) (nI 1))) 5 1 (upd ((upR (upR S 0 0 (flR (S 0 0) (-1) 6)) 1 ((xs (1 + 6 * i + 1)).toNatClampNeg) (upd ((upR S 0 0 (flR (S 0 0) (-1) 6)) 1 ((xs (1 + 6 * i + 1)).toNatClampNeg)) ((xs (1 + 6 * i + 2)).toNatClampNeg) (nI 1))) 5 1) (8 * ((xs (1 + 6 * i + 1)).toNatClampNeg) + ((xs (1 + 6 * i + 2)).toNatClampNeg)) (nI 1))) ((LR_closed (x3 := nI 1) hL (Classical.not_not.mp hnba).1 (Classical.not_not.mp hnba).2 (by decide)).2) _ _ ls hw hS (lv_sub hl [2, 3, 4, 5, 6] rfl))
              · skip
                first | exact absurd c_283 (by decide) | exact absurd (by decide) c_283
        · skip
          exact absurd rfl c_259
