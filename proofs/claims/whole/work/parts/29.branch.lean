set_option maxHeartbeats 4000000 in
set_option maxRecDepth 100000 in
/-- branching at a cage, over makeNode -/
theorem c_Search_branch_of (l : Launch) (D : va_G) (tC : Nat → ClassId) (A : Nat → Prop) (ad : Nat → Nat) (n : Nat → Nat) (I : Nat → Nat → Int32) (K : Nat → Int32) (LA : Nat → Int64) (bM : Nat → Option va_E) (aM : Nat → Nat → Option (ClassId × Nat)) (F : Nat → Nat → Nat → Int32) (hN : hpN n) (hm : Nat → Nat) (hH : ∀ c, c < n 2 → I 2 c = nI (hm c) ∧ hm c < n 1) (ow : Nat → Nat) (hO : ∀ o, o < n 4 → I 4 o = nI (ow o) ∧ ow o < n 0) (sq : Nat → Nat) (hSq : ∀ k, k < n 4 → F 0 1 k = nI (sq k) ∧ sq k < n 4) (hSo : ∀ q, q < n 4 → ∃ j, j < n 4 ∧ sq j = q) (lim : Nat) (hLim : K 1 = nI lim) (hlim : lim ≤ 5000) (hLA : ∀ c, c ≤ n 2 → LA c = hpS n I ow F (n 2 - c)) (d cg : Nat) (hcg : cg + 1 + d = n 2) (hMk : ∀ (tops : Int64) (mk : Nat) (sp : Bool) (bw : Int64) (tr be : Nat → Int32) (S : Nat → Nat → Nat → Int32) (hsc : scr (upR (upR F 0 9 tr) 0 10 be) S) (hmk : mk ≤ lim) (hT : okT n tr), nw_Met l y_Search_makeNode [Cond.code y_Search_makeNode b_Search_makeNode 6 none] ({ frames := 31 + 2 * d, cells := 0, slots := 0, locals := 930 + 60 * d } : Room) D hpC A [.ref (ad 4), .int (nI cg), .long tops] (nw_pre D hpC (hpT tC) A (hWx ad tC n I K LA bM aM (mk, sp, bw, tr, be) S) ad) (nw_xs ad tC n I K LA bM aM F (mkF n I ow F lim (brF n I hm ow sq F lim d (cg + 1)) cg tops (mk, sp, bw, tr, be))) 0 0) (tops : Int64) (mk : Nat) (sp : Bool) (bw : Int64) (tr be : Nat → Int32) (S : Nat → Nat → Nat → Int32) (hsc : scr (upR (upR F 0 9 tr) 0 10 be) S) (hmk : mk ≤ lim) (hT : okT n tr) : nw_Met l y_Search_branch [Cond.code y_Search_branch b_Search_branch 5 none] ({ frames := 30 + 2 * (d + 1), cells := 0, slots := 0, locals := 900 + 60 * (d + 1) } : Room) D hpC A [.ref (ad (4)), .int (nI cg), .long (tops)] (nw_pre D hpC (hpT tC) A (hW ad tC n I (va_up (va_up K 2 (nI mk)) 3 (bI sp)) bw LA bM aM S) ad) (nw_xs ad tC n I K LA bM aM F (brF n I hm ow sq F lim (d + 1) cg tops (mk, sp, bw, tr, be))) 0 0 := by
  refine nw_bodyK (by decide) (Nat.le_of_ble_eq_true rfl) ?_
  intro p e s m below meth cd ls args Q hSx hr hlocks hname hA hKs hw hS hl hQ
  obtain ⟨hx, hb, hml, hown, hts⟩ := id hSx
  have hK := hKs.1
  have hl : lv_has ls 5 [(0, .ref (ad (4))), (1, .int (nI cg)), (2, .long (tops))] := hl
  obtain ⟨hn0, hn0', hn1, hn2, hn3, hn4⟩ := id hN
  refine lv_iload_n hx hb d_Search_branch_0 rfl (lv_at hl 1 rfl) ?_
  refine lv_aload_n hx hb d_Search_branch_1 rfl (lv_at hl 0 rfl) ?_
  refine nw_get hx hb hts i_Search hown hK hw (4) (hW_4) rfl 0 (by decide) (hts _ kw_161) (fun _ h9 => h9) rfl d_Search_branch_2 ?_
  refine nw_getN hx hb hts i_Farm hown hK hw (1) (hW_1) rfl 8 (by decide) (va_Nw.use rfl (hKs.2.2 _ kn_75 rfl)) (fun _ h9 => h9) rfl d_Search_branch_5 ?_
  refine lv_icmp_lt (tgt := 16) hx hb d_Search_branch_8 (by decide) (fun c_8 => ?_) (fun c_8 => ?_)
  · skip
    refine lv_iconst (v := nI 0) hx hb d_Search_branch_16 (by decide) ?_
    refine lv_istore (lv' := [(4, .int (nI 0)), (0, .ref (ad (4))), (1, .int (nI cg)), (2, .long (tops))]) hx hb d_Search_branch_17 hl (by decide) rfl (fun ls hl => ?_)
    have loop19 : ∀ (k w : Nat) (Sv : Nat → Nat → Nat → Int32), w ≤ n 0 → n 0 + 1 ≤ w + k → (scr (upR (upR F 0 9 (wlF n I hm ow F lim (brF n I hm ow sq F lim d (cg + 1)) cg tops (mk, sp, bw, tr, be) w).2.2.2.1) 0 10 (wlF n I hm ow F lim (brF n I hm ow sq F lim d (cg + 1)) cg tops (mk, sp, bw, tr, be) w).2.2.2.2) Sv) → ∀ (H : Heap) (locs : List Loc) (ls : Array Slot), nw_W D hpC A (hW ad tC n I (va_up (va_up K 2 (nI ((wlF n I hm ow F lim (brF n I hm ow sq F lim d (cg + 1)) cg tops (mk, sp, bw, tr, be) w).1))) 3 (bI ((wlF n I hm ow F lim (brF n I hm ow sq F lim d (cg + 1)) cg tops (mk, sp, bw, tr, be) w).2.1))) ((wlF n I hm ow F lim (brF n I hm ow sq F lim d (cg + 1)) cg tops (mk, sp, bw, tr, be) w).2.2.1) LA bM aM Sv) ad H → va_S A s.heap H locs → lv_has ls 5 [(0, .ref (ad (4))), (1, .int (nI cg)), (2, .long (tops)), (4, .int (nI w))] → W p l e ({ frames := 30 + 2 * (d + 1), cells := 0, slots := 0, locals := 900 + 60 * (d + 1) } : Room) s m args below meth cd H locs 0 0 Q (F0 m 19 ls []) := by
      intro k
      induction k with
      | zero => intro w Sv h1 h2; exact absurd h2 (by omega)
      | succ k ih19 =>
        intro w Sv hv19 hk19 hsv H locs ls hw hS hl
        have hok := wlF_ok (I := I) (hm := hm) (ow := ow) (F := F) (lim := lim) (br := brF n I hm ow sq F lim d (cg + 1)) (cg := cg) (tops := tops) (x := (mk, sp, bw, tr, be)) (fun t y hy => brF_ok d (cg + 1) t y hy) ⟨hmk, hT⟩ (w) (by omega)
        refine lv_iload hx hb d_Search_branch_19 (lv_at hl 3 rfl) ?_
        refine lv_aload_n hx hb d_Search_branch_21 rfl (lv_at hl 0 rfl) ?_
        refine nw_get hx hb hts i_Search hown hK hw (4) (hW_4) rfl 0 (by decide) (hts _ kw_161) (fun _ h9 => h9) rfl d_Search_branch_22 ?_
        refine nw_getN hx hb hts i_Farm hown hK hw (1) (hW_1) rfl 0 (by decide) (va_Nw.use rfl (hKs.2.2 _ kn_49 rfl)) (fun _ h9 => h9) rfl d_Search_branch_25 ?_
        refine lv_icmp_ge (tgt := 74) hx hb d_Search_branch_28 (by decide) (fun c_28 => ?_) (fun c_28 => ?_)
        · skip
          have hge28 : n 0 ≤ w := (nI_leI (by omega) (by omega)).mp c_28
          obtain rfl : n 0 = w := by omega
          refine lv_aload_n hx hb d_Search_branch_74 rfl (lv_at hl 0 rfl) ?_
          refine nw_get hx hb hts i_Search hown hK hw (4) (hW_4) rfl 3 (by decide) (hts _ kw_164) (fun _ h9 => h9) rfl d_Search_branch_75 ?_
          refine lv_iload_n hx hb d_Search_branch_78 rfl (lv_at hl 1 rfl) ?_
          refine lv_iconst (v := (-1)) hx hb d_Search_branch_79 (by decide) ?_
          refine nw_iast hx hb hK hw hS (109) 0 (hW_row (t := 0) (j := 9) (by decide) (by omega) (rfl)) rfl (cg) (rfl) (by omega) (by omega) d_Search_branch_80 (fun H locs hw hS => ?_)
          have hw := hW_setRow (t := 0) (j := 9) (by decide) (by omega) (rfl) hw
          obtain ⟨St1, hst1, hw⟩ := ex_9 hsv hw
          refine lv_aload_n hx hb d_Search_branch_81 rfl (lv_at hl 0 rfl) ?_
          refine nw_get hx hb hts i_Search hown hK hw (4) (hW_4) rfl 9 (by decide) (hts _ kw_172) (fun _ h9 => h9) rfl d_Search_branch_82 ?_
          refine lv_ei (y := bI ((wlF n I hm ow F lim (brF n I hm ow sq F lim d (cg + 1)) cg tops (mk, sp, bw, tr, be) (n 0)).2.1)) (rfl) ?_
          refine lv_if_ne (tgt := 94) hx hb d_Search_branch_85 (by decide) (fun c_85 => ?_) (fun c_85 => ?_)
          · skip
            have ex : (stT (wlF n I hm ow F lim (brF n I hm ow sq F lim d (cg + 1)) cg tops (mk, sp, bw, tr, be) (n 0)) cg (-1)) = brF n I hm ow sq F lim (d + 1) cg tops (mk, sp, bw, tr, be) := by
              simp only [brF]
              rw [if_pos (bI_1 c_85)]
            exact nw_vret hQ hx hb hr hlocks hw hS (nw_xs_in (x := (stT (wlF n I hm ow F lim (brF n I hm ow sq F lim d (cg + 1)) cg tops (mk, sp, bw, tr, be) (n 0)) cg (-1))) ex hst1) (Nat.le_of_ble_eq_true rfl) (Nat.le_of_ble_eq_true rfl) d_Search_branch_94
          · skip
            have hsp1 := bI_0 c_85
            refine lv_aload_n hx hb d_Search_branch_88 rfl (lv_at hl 0 rfl) ?_
            refine lv_iload_n hx hb d_Search_branch_89 rfl (lv_at hl 1 rfl) ?_
            refine lv_lload_n hx hb d_Search_branch_90 rfl (lv_at hl 2 rfl) ?_
            refine nw_call (nw_goV (n := 2) (As := [.int (nI cg), .long (tops)]) (rest := []) hSx hA hKs hw hS (hMk (tops) ((wlF n I hm ow F lim (brF n I hm ow sq F lim d (cg + 1)) cg tops (mk, sp, bw, tr, be) (n 0)).1) ((wlF n I hm ow F lim (brF n I hm ow sq F lim d (cg + 1)) cg tops (mk, sp, bw, tr, be) (n 0)).2.1) ((wlF n I hm ow F lim (brF n I hm ow sq F lim d (cg + 1)) cg tops (mk, sp, bw, tr, be) (n 0)).2.2.1) (upd ((wlF n I hm ow F lim (brF n I hm ow sq F lim d (cg + 1)) cg tops (mk, sp, bw, tr, be) (n 0)).2.2.2.1) cg (-1)) ((wlF n I hm ow F lim (brF n I hm ow sq F lim d (cg + 1)) cg tops (mk, sp, bw, tr, be) (n 0)).2.2.2.2) St1 hst1 (hok.1) (okT_up hok.2 (Or.inl rfl))) kw_601 kw_598 kw_600 ks_Search_makeNode kw_6 rfl rfl (by decide +kernel) ⟨by dsimp only; omega, by dsimp only; omega⟩ (nw_recv hK hw (hW_4) rfl) rfl hl.1 (Nat.le_of_ble_eq_true rfl) d_Search_branch_91 ⟨Nat.le_of_ble_eq_true rfl, Nat.le_of_ble_eq_true rfl⟩) hS (fun rv wn' ad' H locs hpost hw hS => ?_)
            obtain ⟨hrv1, S1z, hsc1z, hw⟩ := nw_xs_out hpost hw
            subst hrv1
            have ex : mkF n I ow F lim (brF n I hm ow sq F lim d (cg + 1)) cg tops (stT (wlF n I hm ow F lim (brF n I hm ow sq F lim d (cg + 1)) cg tops (mk, sp, bw, tr, be) (n 0)) cg (-1)) = brF n I hm ow sq F lim (d + 1) cg tops (mk, sp, bw, tr, be) := by
              simp only [brF]
              rw [if_neg (by rw [hsp1]; decide)]
            exact nw_vret hQ hx hb hr hlocks hw hS (nw_xs_in (x := mkF n I ow F lim (brF n I hm ow sq F lim d (cg + 1)) cg tops (stT (wlF n I hm ow F lim (brF n I hm ow sq F lim d (cg + 1)) cg tops (mk, sp, bw, tr, be) (n 0)) cg (-1))) ex hsc1z) (Nat.le_of_ble_eq_true rfl) (Nat.le_of_ble_eq_true rfl) d_Search_branch_94
        · skip
          have hlt : w < n 0 := Nat.not_le.mp (fun q => c_28 (nI_le q (by omega)))
          refine lv_aload_n hx hb d_Search_branch_31 rfl (lv_at hl 0 rfl) ?_
          refine nw_get hx hb hts i_Search hown hK hw (4) (hW_4) rfl 9 (by decide) (hts _ kw_172) (fun _ h9 => h9) rfl d_Search_branch_32 ?_
          refine lv_ei (y := bI ((wlF n I hm ow F lim (brF n I hm ow sq F lim d (cg + 1)) cg tops (mk, sp, bw, tr, be) w).2.1)) (rfl) ?_
          refine lv_if_ne (tgt := 74) hx hb d_Search_branch_35 (by decide) (fun c_35 => ?_) (fun c_35 => ?_)
          · skip
            have hsp := bI_1 c_35
            have eWL : (wlF n I hm ow F lim (brF n I hm ow sq F lim d (cg + 1)) cg tops (mk, sp, bw, tr, be) (n 0)) = (wlF n I hm ow F lim (brF n I hm ow sq F lim d (cg + 1)) cg tops (mk, sp, bw, tr, be) w) := by
              have h9 := wlF_sp hsp (n 0 - w)
              rwa [show w + (n 0 - w) = n 0 by omega] at h9
            rw [← eWL] at hw hsv hok
            refine lv_aload_n hx hb d_Search_branch_74 rfl (lv_at hl 0 rfl) ?_
            refine nw_get hx hb hts i_Search hown hK hw (4) (hW_4) rfl 3 (by decide) (hts _ kw_164) (fun _ h9 => h9) rfl d_Search_branch_75 ?_
            refine lv_iload_n hx hb d_Search_branch_78 rfl (lv_at hl 1 rfl) ?_
            refine lv_iconst (v := (-1)) hx hb d_Search_branch_79 (by decide) ?_
            refine nw_iast hx hb hK hw hS (109) 0 (hW_row (t := 0) (j := 9) (by decide) (by omega) (rfl)) rfl (cg) (rfl) (by omega) (by omega) d_Search_branch_80 (fun H locs hw hS => ?_)
            have hw := hW_setRow (t := 0) (j := 9) (by decide) (by omega) (rfl) hw
            obtain ⟨St2, hst2, hw⟩ := ex_9 hsv hw
            refine lv_aload_n hx hb d_Search_branch_81 rfl (lv_at hl 0 rfl) ?_
            refine nw_get hx hb hts i_Search hown hK hw (4) (hW_4) rfl 9 (by decide) (hts _ kw_172) (fun _ h9 => h9) rfl d_Search_branch_82 ?_
            refine lv_ei (y := bI ((wlF n I hm ow F lim (brF n I hm ow sq F lim d (cg + 1)) cg tops (mk, sp, bw, tr, be) (n 0)).2.1)) (rfl) ?_
            refine lv_if_ne (tgt := 94) hx hb d_Search_branch_85 (by decide) (fun c_85 => ?_) (fun c_85 => ?_)
            · skip
              have ex : (stT (wlF n I hm ow F lim (brF n I hm ow sq F lim d (cg + 1)) cg tops (mk, sp, bw, tr, be) (n 0)) cg (-1)) = brF n I hm ow sq F lim (d + 1) cg tops (mk, sp, bw, tr, be) := by
                simp only [brF]
                rw [if_pos (bI_1 c_85)]
              exact nw_vret hQ hx hb hr hlocks hw hS (nw_xs_in (x := (stT (wlF n I hm ow F lim (brF n I hm ow sq F lim d (cg + 1)) cg tops (mk, sp, bw, tr, be) (n 0)) cg (-1))) ex hst2) (Nat.le_of_ble_eq_true rfl) (Nat.le_of_ble_eq_true rfl) d_Search_branch_94
            · skip
              have hsp1 := bI_0 c_85
              refine lv_aload_n hx hb d_Search_branch_88 rfl (lv_at hl 0 rfl) ?_
              refine lv_iload_n hx hb d_Search_branch_89 rfl (lv_at hl 1 rfl) ?_
              refine lv_lload_n hx hb d_Search_branch_90 rfl (lv_at hl 2 rfl) ?_
              refine nw_call (nw_goV (n := 2) (As := [.int (nI cg), .long (tops)]) (rest := []) hSx hA hKs hw hS (hMk (tops) ((wlF n I hm ow F lim (brF n I hm ow sq F lim d (cg + 1)) cg tops (mk, sp, bw, tr, be) (n 0)).1) ((wlF n I hm ow F lim (brF n I hm ow sq F lim d (cg + 1)) cg tops (mk, sp, bw, tr, be) (n 0)).2.1) ((wlF n I hm ow F lim (brF n I hm ow sq F lim d (cg + 1)) cg tops (mk, sp, bw, tr, be) (n 0)).2.2.1) (upd ((wlF n I hm ow F lim (brF n I hm ow sq F lim d (cg + 1)) cg tops (mk, sp, bw, tr, be) (n 0)).2.2.2.1) cg (-1)) ((wlF n I hm ow F lim (brF n I hm ow sq F lim d (cg + 1)) cg tops (mk, sp, bw, tr, be) (n 0)).2.2.2.2) St2 hst2 (hok.1) (okT_up hok.2 (Or.inl rfl))) kw_601 kw_598 kw_600 ks_Search_makeNode kw_6 rfl rfl (by decide +kernel) ⟨by dsimp only; omega, by dsimp only; omega⟩ (nw_recv hK hw (hW_4) rfl) rfl hl.1 (Nat.le_of_ble_eq_true rfl) d_Search_branch_91 ⟨Nat.le_of_ble_eq_true rfl, Nat.le_of_ble_eq_true rfl⟩) hS (fun rv wn' ad' H locs hpost hw hS => ?_)
              obtain ⟨hrv2, S2z, hsc2z, hw⟩ := nw_xs_out hpost hw
              subst hrv2
              have ex : mkF n I ow F lim (brF n I hm ow sq F lim d (cg + 1)) cg tops (stT (wlF n I hm ow F lim (brF n I hm ow sq F lim d (cg + 1)) cg tops (mk, sp, bw, tr, be) (n 0)) cg (-1)) = brF n I hm ow sq F lim (d + 1) cg tops (mk, sp, bw, tr, be) := by
                simp only [brF]
                rw [if_neg (by rw [hsp1]; decide)]
              exact nw_vret hQ hx hb hr hlocks hw hS (nw_xs_in (x := mkF n I ow F lim (brF n I hm ow sq F lim d (cg + 1)) cg tops (stT (wlF n I hm ow F lim (brF n I hm ow sq F lim d (cg + 1)) cg tops (mk, sp, bw, tr, be) (n 0)) cg (-1))) ex hsc2z) (Nat.le_of_ble_eq_true rfl) (Nat.le_of_ble_eq_true rfl) d_Search_branch_94
          · skip
            have hsp0 := bI_0 c_35
            refine lv_aload_n hx hb d_Search_branch_38 rfl (lv_at hl 0 rfl) ?_
            refine nw_get hx hb hts i_Search hown hK hw (4) (hW_4) rfl 3 (by decide) (hts _ kw_164) (fun _ h9 => h9) rfl d_Search_branch_39 ?_
            refine lv_iload_n hx hb d_Search_branch_42 rfl (lv_at hl 1 rfl) ?_
            refine lv_iload hx hb d_Search_branch_43 (lv_at hl 3 rfl) ?_
            refine nw_iast hx hb hK hw hS (109) 0 (hW_row (t := 0) (j := 9) (by decide) (by omega) (rfl)) rfl (cg) (rfl) (by omega) (by omega) d_Search_branch_45 (fun H locs hw hS => ?_)
            have hw := hW_setRow (t := 0) (j := 9) (by decide) (by omega) (rfl) hw
            obtain ⟨St3, hst3, hw⟩ := ex_9 hsv hw
            refine lv_aload_n hx hb d_Search_branch_46 rfl (lv_at hl 0 rfl) ?_
            refine nw_get hx hb hts i_Search hown hK hw (4) (hW_4) rfl 1 (by decide) (hts _ kw_162) (fun _ h9 => h9) rfl d_Search_branch_47 ?_
            refine lv_aload_n hx hb d_Search_branch_50 rfl (lv_at hl 0 rfl) ?_
            refine nw_get hx hb hts i_Search hown hK hw (4) (hW_4) rfl 3 (by decide) (hts _ kw_164) (fun _ h9 => h9) rfl d_Search_branch_51 ?_
            refine lv_iload hx hb d_Search_branch_54 (lv_at hl 3 rfl) ?_
            refine nw_call (nw_goVN (n := 2) (As := [.ref (ad (109)), .int (nI w)]) (rest := []) hSx hA hKs hw hS (c_Rules_allowsTaking l D tC A ad n I (va_up (va_up K 2 (nI ((wlF n I hm ow F lim (brF n I hm ow sq F lim d (cg + 1)) cg tops (mk, sp, bw, tr, be) w).1))) 3 (bI ((wlF n I hm ow F lim (brF n I hm ow sq F lim d (cg + 1)) cg tops (mk, sp, bw, tr, be) w).2.1))) ((wlF n I hm ow F lim (brF n I hm ow sq F lim d (cg + 1)) cg tops (mk, sp, bw, tr, be) w).2.2.1) LA bM aM (upR (upR F 0 9 (upd ((wlF n I hm ow F lim (brF n I hm ow sq F lim d (cg + 1)) cg tops (mk, sp, bw, tr, be) w).2.2.2.1) cg (nI w))) 0 10 ((wlF n I hm ow F lim (brF n I hm ow sq F lim d (cg + 1)) cg tops (mk, sp, bw, tr, be) w).2.2.2.2)) St3 hst3 hN 9 (Or.inr rfl) w (by omega) hm hH) kw_572 kn_569 kw_571 ks_Rules_allowsTaking kw_4 rfl rfl (by decide +kernel) ⟨by dsimp only; omega, by dsimp only; omega⟩ (nw_recv hK hw (hW_2) rfl) rfl hl.1 (Nat.le_of_ble_eq_true rfl) d_Search_branch_56 ⟨Nat.le_of_ble_eq_true rfl, Nat.le_of_ble_eq_true rfl⟩) hS (fun rv wn' ad' H locs hpost hw hS => ?_)
            obtain ⟨hrv3, S3z, hsc3z, hw⟩ := nw_sc_out hpost hw
            subst hrv3
            refine lv_if_eq (tgt := 68) hx hb d_Search_branch_59 (by decide) (fun c_59 => ?_) (fun c_59 => ?_)
            · skip
              have hna : ¬ pAll n I hm F (upd (wlF n I hm ow F lim (brF n I hm ow sq F lim d (cg + 1)) cg tops (mk, sp, bw, tr, be) w).2.2.2.1 cg (nI w)) w := b2_0 c_59
              have ew : (wlF n I hm ow F lim (brF n I hm ow sq F lim d (cg + 1)) cg tops (mk, sp, bw, tr, be) (w + 1)) = (stT (wlF n I hm ow F lim (brF n I hm ow sq F lim d (cg + 1)) cg tops (mk, sp, bw, tr, be) w) cg (nI w)) := by
                simp only [wlF]
                rw [if_neg (by rw [hsp0]; decide), pif_f hna]
              refine lv_iinc (v := nI (w + 1)) (lv' := [(4, .int (nI (w + 1))), (0, .ref (ad (4))), (1, .int (nI cg)), (2, .long (tops))]) hx hb d_Search_branch_68 hl (k := 3) rfl ((nI_succ _).symm) (by decide) rfl (fun ls hl => ?_)
              refine lv_goto (tgt := 19) hx hb d_Search_branch_71 (by decide) ?_
              have hw := nw_W.as (wn' := hW ad tC n I (va_up (va_up K 2 (nI ((wlF n I hm ow F lim (brF n I hm ow sq F lim d (cg + 1)) cg tops (mk, sp, bw, tr, be) (w + 1)).1))) 3 (bI ((wlF n I hm ow F lim (brF n I hm ow sq F lim d (cg + 1)) cg tops (mk, sp, bw, tr, be) (w + 1)).2.1))) ((wlF n I hm ow F lim (brF n I hm ow sq F lim d (cg + 1)) cg tops (mk, sp, bw, tr, be) (w + 1)).2.2.1) LA bM aM S3z) hw (by rw [ew]; rfl)
              exact ih19 (w + 1) (_) (by omega) (by omega) (by rw [ew]; exact hsc3z) _ _ ls hw hS (lv_sub hl [1, 2, 3, 0] rfl)
            · skip
              have hya : pAll n I hm F (upd (wlF n I hm ow F lim (brF n I hm ow sq F lim d (cg + 1)) cg tops (mk, sp, bw, tr, be) w).2.2.2.1 cg (nI w)) w := b2_1 c_59
              have ew : (wlF n I hm ow F lim (brF n I hm ow sq F lim d (cg + 1)) cg tops (mk, sp, bw, tr, be) (w + 1)) = mkF n I ow F lim (brF n I hm ow sq F lim d (cg + 1)) cg tops (stT (wlF n I hm ow F lim (brF n I hm ow sq F lim d (cg + 1)) cg tops (mk, sp, bw, tr, be) w) cg (nI w)) := by
                simp only [wlF]
                rw [if_neg (by rw [hsp0]; decide), pif_t hya]
              refine lv_aload_n hx hb d_Search_branch_62 rfl (lv_at hl 0 rfl) ?_
              refine lv_iload_n hx hb d_Search_branch_63 rfl (lv_at hl 1 rfl) ?_
              refine lv_lload_n hx hb d_Search_branch_64 rfl (lv_at hl 2 rfl) ?_
              refine nw_call (nw_goV (n := 2) (As := [.int (nI cg), .long (tops)]) (rest := []) hSx hA hKs hw hS (hMk (tops) ((wlF n I hm ow F lim (brF n I hm ow sq F lim d (cg + 1)) cg tops (mk, sp, bw, tr, be) w).1) ((wlF n I hm ow F lim (brF n I hm ow sq F lim d (cg + 1)) cg tops (mk, sp, bw, tr, be) w).2.1) ((wlF n I hm ow F lim (brF n I hm ow sq F lim d (cg + 1)) cg tops (mk, sp, bw, tr, be) w).2.2.1) (upd ((wlF n I hm ow F lim (brF n I hm ow sq F lim d (cg + 1)) cg tops (mk, sp, bw, tr, be) w).2.2.2.1) cg (nI w)) ((wlF n I hm ow F lim (brF n I hm ow sq F lim d (cg + 1)) cg tops (mk, sp, bw, tr, be) w).2.2.2.2) S3z hsc3z (hok.1) (okT_up hok.2 (Or.inr ⟨w, by omega, rfl⟩))) kw_601 kw_598 kw_600 ks_Search_makeNode kw_6 rfl rfl (by decide +kernel) ⟨by dsimp only; omega, by dsimp only; omega⟩ (nw_recv hK hw (hW_4) rfl) rfl hl.1 (Nat.le_of_ble_eq_true rfl) d_Search_branch_65 ⟨Nat.le_of_ble_eq_true rfl, Nat.le_of_ble_eq_true rfl⟩) hS (fun rv wn' ad' H locs hpost hw hS => ?_)
              obtain ⟨hrv4, S4z, hsc4z, hw⟩ := nw_xs_out hpost hw
              subst hrv4
              rw [show mkF n I ow F lim (brF n I hm ow sq F lim d (cg + 1)) cg tops ((wlF n I hm ow F lim (brF n I hm ow sq F lim d (cg + 1)) cg tops (mk, sp, bw, tr, be) w).1, (wlF n I hm ow F lim (brF n I hm ow sq F lim d (cg + 1)) cg tops (mk, sp, bw, tr, be) w).2.1, (wlF n I hm ow F lim (brF n I hm ow sq F lim d (cg + 1)) cg tops (mk, sp, bw, tr, be) w).2.2.1, upd (wlF n I hm ow F lim (brF n I hm ow sq F lim d (cg + 1)) cg tops (mk, sp, bw, tr, be) w).2.2.2.1 cg (nI w), (wlF n I hm ow F lim (brF n I hm ow sq F lim d (cg + 1)) cg tops (mk, sp, bw, tr, be) w).2.2.2.2) = (wlF n I hm ow F lim (brF n I hm ow sq F lim d (cg + 1)) cg tops (mk, sp, bw, tr, be) (w + 1)) from ew.symm] at hw hsc4z
              refine lv_iinc (v := nI (w + 1)) (lv' := [(4, .int (nI (w + 1))), (0, .ref (ad (4))), (1, .int (nI cg)), (2, .long (tops))]) hx hb d_Search_branch_68 hl (k := 3) rfl ((nI_succ _).symm) (by decide) rfl (fun ls hl => ?_)
              refine lv_goto (tgt := 19) hx hb d_Search_branch_71 (by decide) ?_
              exact ih19 (w + 1) (_) (by omega) (by omega) (hsc4z) _ _ ls hw hS (lv_sub hl [1, 2, 3, 0] rfl)
    exact loop19 (n 0 + 1) (0) (_) (by omega) (by omega) (hsc) _ _ ls hw hS (lv_sub hl [1, 2, 3, 0] rfl)
  · skip
    exact absurd (nI_lt (show cg < n 2 by omega) (by omega)) c_8
