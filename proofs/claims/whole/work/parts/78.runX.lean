theorem nat_in {x : Int32} (h : nI 1 ≤ x ∧ x ≤ nI 5000) : ∃ i, x = nI i ∧ 1 ≤ i ∧ i ≤ 5000 := by
  have e : x = nI x.toNatClampNeg := (Int32.ofNat_toNatClampNeg x (Int32.le_trans (by decide) h.1)).symm
  obtain ⟨h1, h2⟩ := h
  rw [e] at h1 h2
  exact ⟨x.toNatClampNeg, e, (nI_leI (by omega) (Int32.toNatClampNeg_lt x)).mp h1, (nI_leI (Int32.toNatClampNeg_lt x) (by omega)).mp h2⟩
theorem scr_pl {S0 S : Nat → Nat → Nat → Int32} {f : Nat → Int32} (h : scr S0 S) : scr (upR S0 0 0 f) (upR S 0 0 f) := fun t j hj => by
  by_cases h1 : t = 0 ∧ j = 0
  · obtain ⟨rfl, rfl⟩ := h1
    rw [upR_self, upR_self]
  · rw [upR_ne h1, upR_ne h1, h t j hj]
set_option maxHeartbeats 4000000 in
set_option maxRecDepth 100000 in
/-- run -/
theorem c_X_run (l : Launch) (D : va_G) (tC : Nat → ClassId) (A : Nat → Prop) (ad : Nat → Nat) (n : Nat → Nat) (I : Nat → Nat → Int32) (K : Nat → Int32) (bw : Int64) (LA : Nat → Int64) (bM : Nat → Option va_E) (aM : Nat → Nat → Option (ClassId × Nat)) (S : Nat → Nat → Nat → Int32) (hN : hpN n) (s0 : State) (hF : nx_F s0) (hfl : l.stackTraces = false) (hAs : ∀ q, A q → s0.heap.size ≤ q) (x1 : Int32) (hm : Nat → Nat) (hH : ∀ c, c < n 2 → I 2 c = nI (hm c) ∧ hm c < n 1) (ow : Nat → Nat) (hO : ∀ o, o < n 4 → I 4 o = nI (ow o) ∧ ow o < n 0) (sq : Nat → Nat) (hSq : ∀ k, k < n 4 → S 0 1 k = nI (sq k) ∧ sq k < n 4) (hSo : ∀ q, q < n 4 → ∃ j, j < n 4 ∧ sq j = q) : nx_M l y_X_run [Cond.code y_X_run b_X_run 2 (some .int)] ({ frames := 51, cells := 1, slots := 6, locals := 1321 } : Room) D hpC A [.ref (ad (0)), .int (x1)] (nx_pre D hpC (hpT tC) A (hW ad tC n I K bw LA bM aM S) ad s0) (nx_po (¬ ((nI 1 ≤ x1 ∧ x1 ≤ nI 5000))) (¬ (True)) (hW ad tC n I K bw LA bM aM S) ad (fun v wn' ad' => ad' = ad ∧ (((stX n I hm ow sq (upR S 0 0 (flR (S 0 0) (-1) 6)) (x1.toNatClampNeg)).2.2.1 = -1 ∧ v = some (.int (if (stX n I hm ow sq (upR S 0 0 (flR (S 0 0) (-1) 6)) (x1.toNatClampNeg)).2.1 = true then nI 3 else nI 2)) ∧ ∃ L' S', scr (upR (upR (upR S 0 0 (flR (S 0 0) (-1) 6)) 0 9 (stX n I hm ow sq (upR S 0 0 (flR (S 0 0) (-1) 6)) (x1.toNatClampNeg)).2.2.2.1) 0 10 (stX n I hm ow sq (upR S 0 0 (flR (S 0 0) (-1) 6)) (x1.toNatClampNeg)).2.2.2.2) S' ∧ wn' = hW ad tC n I (va_up (va_up (va_up (va_up K 0 (nI 0)) 1 (nI (x1.toNatClampNeg))) 2 (nI (stX n I hm ow sq (upR S 0 0 (flR (S 0 0) (-1) 6)) (x1.toNatClampNeg)).1)) 3 (bI (stX n I hm ow sq (upR S 0 0 (flR (S 0 0) (-1) 6)) (x1.toNatClampNeg)).2.1)) (stX n I hm ow sq (upR S 0 0 (flR (S 0 0) (-1) 6)) (x1.toNatClampNeg)).2.2.1 L' bM aM S') ∨ (¬ (stX n I hm ow sq (upR S 0 0 (flR (S 0 0) (-1) 6)) (x1.toNatClampNeg)).2.2.1 = -1 ∧ v = some (.int (if (stX n I hm ow sq (upR S 0 0 (flR (S 0 0) (-1) 6)) (x1.toNatClampNeg)).2.1 = true then nI 1 else nI 0)) ∧ ∃ L' S', scr (upR (upR (upR (upR S 0 0 (flR (S 0 0) (-1) 6)) 0 9 (stX n I hm ow sq (upR S 0 0 (flR (S 0 0) (-1) 6)) (x1.toNatClampNeg)).2.2.2.1) 0 10 (stX n I hm ow sq (upR S 0 0 (flR (S 0 0) (-1) 6)) (x1.toNatClampNeg)).2.2.2.2) 0 0 (va_cpy (stX n I hm ow sq (upR S 0 0 (flR (S 0 0) (-1) 6)) (x1.toNatClampNeg)).2.2.2.2 (upR S 0 0 (flR (S 0 0) (-1) 6) 0 0) 0 0 6)) S' ∧ wn' = hW ad tC n I (va_up (va_up (va_up (va_up (va_up K 0 (nI 0)) 1 (nI (x1.toNatClampNeg))) 2 (nI (stX n I hm ow sq (upR S 0 0 (flR (S 0 0) (-1) 6)) (x1.toNatClampNeg)).1)) 3 (bI (stX n I hm ow sq (upR S 0 0 (flR (S 0 0) (-1) 6)) (x1.toNatClampNeg)).2.1)) 0 (nI 1)) (stX n I hm ow sq (upR S 0 0 (flR (S 0 0) (-1) 6)) (x1.toNatClampNeg)).2.2.1 L' bM aM S')))) 1 6 := by
  refine nx_bodyK (by decide) (Nat.le_of_ble_eq_true rfl) ?_
  intro p e s m below meth cd ls args Q hSx hr hlocks hout hB hA hKs hw hS hl hQ
  obtain ⟨hx, hb, hml, hown, hts⟩ := id hSx
  have hK := hKs.1
  have hl : lv_has ls 2 [(0, .ref (ad (0))), (1, .int (x1))] := hl
  obtain ⟨hn0, hn0', hn1, hn2, hn3, hn4⟩ := id hN
  refine lv_iload_n hx hb d_X_run_0 rfl (lv_at hl 1 rfl) ?_
  refine lv_iconst (v := nI 1) hx hb d_X_run_1 (by decide) ?_
  refine lv_sipush (v := nI 5000) hx hb d_X_run_2 (by decide) ?_
  refine nx_callP (nx_goS (n := 3) (As := [.int (x1), .int (nI 1), .int (nI 5000)]) (rest := []) hSx hA hKs hB hAs hw hS (c_X_requireWithin l D tC A ad (hW ad tC n I K bw LA bM aM S) s0 hF hfl hAs (x1) (nI 1) (nI 5000)) kw_270 kw_268 kw_269 kw_1 rfl rfl (by decide +kernel) ⟨Nat.le_of_ble_eq_true rfl, Nat.le_of_ble_eq_true rfl⟩ rfl hl.1 (Nat.le_of_ble_eq_true rfl) d_X_run_5 ⟨Nat.le_of_ble_eq_true rfl, Nat.le_of_ble_eq_true rfl⟩) hQ hlocks hout hS (Nat.le_of_ble_eq_true rfl) (Nat.le_of_ble_eq_true rfl) (fun Y wn' ad' hpost => ?_) (fun rv wn' ad' H locs hpost hw hS => ?_)
  · skip
    obtain ⟨hY, hw0, had0, hnP⟩ := nx_req_x hpost
    subst hY
    exact ⟨hw0, had0, Or.inl ⟨rfl, fun h => hnP (h)⟩⟩
  obtain ⟨hv, hw0, had0, hP1⟩ := nx_req_i hpost
  rw [hw0, had0] at hw
  subst hv
  obtain ⟨lim, rfl, hl1, hl2⟩ := nat_in hP1
  rw [nI_clamp (n := lim) (by omega)] at hQ
  refine lv_aload_n hx hb d_X_run_8 rfl (lv_at hl 0 rfl) ?_
  refine nw_callD (nw_goV (n := 0) (As := []) (rest := []) hSx hA hKs hw hS (c_X_forgetPlan l D tC A ad n I K bw LA bM aM S hN) kw_360 kw_357 kw_359 ks_X_forgetPlan kw_1 rfl rfl (by decide +kernel) ⟨Nat.le_of_ble_eq_true rfl, Nat.le_of_ble_eq_true rfl⟩ (nw_recv hK hw (hW_0) rfl) rfl hl.1 (Nat.le_of_ble_eq_true rfl) d_X_run_9 ⟨Nat.le_of_ble_eq_true rfl, Nat.le_of_ble_eq_true rfl⟩) hS (fun H locs hw hS => ?_)
  refine lv_aload_n hx hb d_X_run_12 rfl (lv_at hl 0 rfl) ?_
  refine nw_get hx hb hts i_X hown hK hw (0) (hW_0) rfl 3 (by decide) (hts _ kw_202) (fun _ h9 => h9) rfl d_X_run_13 ?_
  refine lv_iload_n hx hb d_X_run_16 rfl (lv_at hl 1 rfl) ?_
  refine nw_call (nw_goVN (n := 1) (As := [.int (nI lim)]) (rest := []) hSx hA hKs hw hS (c_Search_start l D tC A ad n I (va_up K 0 (nI 0)) bw LA bM aM (upR S 0 0 (flR (S 0 0) (-1) 6)) (upR S 0 0 (flR (S 0 0) (-1) 6)) scr_rf hN hm hH ow hO sq (fun k hk => hSq k hk) hSo lim (by omega)) kw_532 kn_529 kw_531 ks_Search_start kw_6 rfl rfl (by decide +kernel) ⟨Nat.le_of_ble_eq_true rfl, Nat.le_of_ble_eq_true rfl⟩ (nw_recv hK hw (hW_4) rfl) rfl hl.1 (Nat.le_of_ble_eq_true rfl) d_X_run_17 ⟨Nat.le_of_ble_eq_true rfl, Nat.le_of_ble_eq_true rfl⟩) hS (fun rv wn' ad' H locs hpost hw hS => ?_)
  obtain ⟨hrv1, L1z, S1z, hsc1z, hw⟩ := nw_st_out hpost hw
  subst hrv1
  obtain ⟨X, hX⟩ : ∃ x : sX, x = (stX n I hm ow sq (upR S 0 0 (flR (S 0 0) (-1) 6)) lim) := ⟨_, rfl⟩
  rw [← hX] at hw hsc1z hQ
  refine lv_aload_n hx hb d_X_run_20 rfl (lv_at hl 0 rfl) ?_
  refine nw_get hx hb hts i_X hown hK hw (0) (hW_0) rfl 3 (by decide) (hts _ kw_202) (fun _ h9 => h9) rfl d_X_run_21 ?_
  refine nw_callD (nw_goVN (n := 0) (As := []) (rest := []) hSx hA hKs hw hS (c_Search_hasMet l D tC A ad n I (va_up (va_up (va_up (va_up K 0 (nI 0)) 1 (nI lim)) 2 (nI X.1)) 3 (bI X.2.1)) X.2.2.1 L1z bM aM (upR (upR (upR S 0 0 (flR (S 0 0) (-1) 6)) 0 9 X.2.2.2.1) 0 10 X.2.2.2.2) S1z hsc1z hN) kw_606 kn_603 kw_605 ks_Search_hasMet kw_6 rfl rfl (by decide +kernel) ⟨Nat.le_of_ble_eq_true rfl, Nat.le_of_ble_eq_true rfl⟩ (nw_recv hK hw (hW_4) rfl) rfl hl.1 (Nat.le_of_ble_eq_true rfl) d_X_run_24 ⟨Nat.le_of_ble_eq_true rfl, Nat.le_of_ble_eq_true rfl⟩) hS (fun H locs hw hS => ?_)
  refine lv_if_ne (tgt := 46) hx hb d_X_run_27 (by decide) (fun c_27 => ?_) (fun c_27 => ?_)
  · skip
    have hym : ¬ X.2.2.1 = -1 := b2_1 c_27
    refine lv_aload_n hx hb d_X_run_46 rfl (lv_at hl 0 rfl) ?_
    refine nw_get hx hb hts i_X hown hK hw (0) (hW_0) rfl 3 (by decide) (hts _ kw_202) (fun _ h9 => h9) rfl d_X_run_47 ?_
    refine nw_getN hx hb hts i_Search hown hK hw (4) (hW_4) rfl 4 (by decide) (va_Nw.use rfl (hKs.2.2 _ kn_166 rfl)) (fun _ h9 => h9) rfl d_X_run_50 ?_
    refine lv_iconst (v := nI 0) hx hb d_X_run_53 (by decide) ?_
    refine lv_aload_n hx hb d_X_run_54 rfl (lv_at hl 0 rfl) ?_
    refine nw_get hx hb hts i_X hown hK hw (0) (hW_0) rfl 4 (by decide) (hts _ kw_203) (fun _ h9 => h9) rfl d_X_run_55 ?_
    refine lv_iconst (v := nI 0) hx hb d_X_run_58 (by decide) ?_
    refine lv_bipush (v := nI 6) hx hb d_X_run_59 (by decide) ?_
    refine nw_copy hx hb (hml.trans hl.1.symm) hown (hts _ kw_607) (hts _ kw_568) (hts _ kw_567) (hts _ kw_18) hK hw hS (110) (100) 0 (hW_row (t := 0) (j := 10) (by decide) (by omega) (rfl)) (hW_row (t := 0) (j := 0) (by decide) (by omega) (rfl)) rfl (nI_pos (by omega)) (nI_pos (by omega)) (nI_pos (by omega)) (by rw [nI_clamp (by omega), nI_clamp (by omega)]; omega) (by rw [nI_clamp (by omega), nI_clamp (by omega)]; omega) (Nat.le_of_ble_eq_true rfl) (Nat.le_of_ble_eq_true rfl) d_X_run_61 (fun H locs hw hS => ?_)
    rw [nI_clamp (n := 0) (by omega), nI_clamp (n := 6) (by omega)] at hw
    have hw := hW_setRow (t := 0) (j := 0) (by decide) (by omega) (rfl) hw
    have e10 : S1z 0 10 = X.2.2.2.2 := hsc1z 0 10 (by omega)
    have e0 : S1z 0 0 = (upR S 0 0 (flR (S 0 0) (-1) 6)) 0 0 := hsc1z 0 0 (by omega)
    rw [e10, e0] at hw
    have hscp := scr_pl (f := va_cpy X.2.2.2.2 ((upR S 0 0 (flR (S 0 0) (-1) 6)) 0 0) 0 0 6) hsc1z
    refine lv_aload_n hx hb d_X_run_64 rfl (lv_at hl 0 rfl) ?_
    refine lv_iconst (v := nI 1) hx hb d_X_run_65 (by decide) ?_
    refine nw_put (v := .int (nI 1)) (ty := .boolean) hx hb hts i_X t_X tk_X n_X hown hK hw hS (0) (hW_0) rfl 5 (by decide) (hts _ kw_204) (fun _ h9 => h9) rfl (by decide +kernel) (rfl) (rfl) (Nat.le_of_ble_eq_true rfl) d_X_run_66 (fun H locs hw hS => ?_)
    have hw := hW_setHand hw
    refine lv_aload_n hx hb d_X_run_69 rfl (lv_at hl 0 rfl) ?_
    refine nw_get hx hb hts i_X hown hK hw (0) (hW_0) rfl 3 (by decide) (hts _ kw_202) (fun _ h9 => h9) rfl d_X_run_70 ?_
    refine nw_getN hx hb hts i_Search hown hK hw (4) (hW_4) rfl 9 (by decide) (va_Nw.use rfl (hKs.2.2 _ kn_173 rfl)) (fun _ h9 => h9) rfl d_X_run_73 ?_
    refine lv_ei (y := bI X.2.1) (rfl) ?_
    refine lv_if_eq (tgt := 83) hx hb d_X_run_76 (by decide) (fun c_76 => ?_) (fun c_76 => ?_)
    · skip
      have hres : some (Value.int (nI 0)) = some (.int (if X.2.1 = true then nI 1 else nI 0)) := by rw [if_neg (by rw [bI_0 c_76]; decide)]
      refine lv_iconst (v := nI 0) hx hb d_X_run_83 (by decide) ?_
      exact nx_ret hQ (nw_iret rfl hx hb hr hlocks hw hS (⟨fun h => h hP1, fun h => h trivial, ⟨rfl, Or.inr ⟨hym, hres, _, _, hscp, rfl⟩⟩⟩) (Nat.le_of_ble_eq_true rfl) (Nat.le_of_ble_eq_true rfl) d_X_run_84)
    · skip
      have hres : some (Value.int (nI 1)) = some (.int (if X.2.1 = true then nI 1 else nI 0)) := by rw [if_pos (bI_1 c_76)]
      refine lv_iconst (v := nI 1) hx hb d_X_run_79 (by decide) ?_
      refine lv_goto (tgt := 84) hx hb d_X_run_80 (by decide) ?_
      exact nx_ret hQ (nw_iret rfl hx hb hr hlocks hw hS (⟨fun h => h hP1, fun h => h trivial, ⟨rfl, Or.inr ⟨hym, hres, _, _, hscp, rfl⟩⟩⟩) (Nat.le_of_ble_eq_true rfl) (Nat.le_of_ble_eq_true rfl) d_X_run_84)
  · skip
    have hnm : X.2.2.1 = -1 := Classical.not_not.mp (b2_0 c_27)
    refine lv_aload_n hx hb d_X_run_30 rfl (lv_at hl 0 rfl) ?_
    refine nw_get hx hb hts i_X hown hK hw (0) (hW_0) rfl 3 (by decide) (hts _ kw_202) (fun _ h9 => h9) rfl d_X_run_31 ?_
    refine nw_getN hx hb hts i_Search hown hK hw (4) (hW_4) rfl 9 (by decide) (va_Nw.use rfl (hKs.2.2 _ kn_173 rfl)) (fun _ h9 => h9) rfl d_X_run_34 ?_
    refine lv_ei (y := bI X.2.1) (rfl) ?_
    refine lv_if_eq (tgt := 44) hx hb d_X_run_37 (by decide) (fun c_37 => ?_) (fun c_37 => ?_)
    · skip
      have hres : some (Value.int (nI 2)) = some (.int (if X.2.1 = true then nI 3 else nI 2)) := by rw [if_neg (by rw [bI_0 c_37]; decide)]
      refine lv_iconst (v := nI 2) hx hb d_X_run_44 (by decide) ?_
      exact nx_ret hQ (nw_iret rfl hx hb hr hlocks hw hS (⟨fun h => h hP1, fun h => h trivial, ⟨rfl, Or.inl ⟨hnm, hres, _, _, hsc1z, rfl⟩⟩⟩) (Nat.le_of_ble_eq_true rfl) (Nat.le_of_ble_eq_true rfl) d_X_run_45)
    · skip
      have hres : some (Value.int (nI 3)) = some (.int (if X.2.1 = true then nI 3 else nI 2)) := by rw [if_pos (bI_1 c_37)]
      refine lv_iconst (v := nI 3) hx hb d_X_run_40 (by decide) ?_
      refine lv_goto (tgt := 45) hx hb d_X_run_41 (by decide) ?_
      exact nx_ret hQ (nw_iret rfl hx hb hr hlocks hw hS (⟨fun h => h hP1, fun h => h trivial, ⟨rfl, Or.inl ⟨hnm, hres, _, _, hsc1z, rfl⟩⟩⟩) (Nat.le_of_ble_eq_true rfl) (Nat.le_of_ble_eq_true rfl) d_X_run_45)
