set_option maxHeartbeats 4000000 in
set_option maxRecDepth 100000 in
/-- behind the last cage -/
theorem c_Search_branch_0 (l : Launch) (D : va_G) (tC : Nat → ClassId) (A : Nat → Prop) (ad : Nat → Nat) (n : Nat → Nat) (I : Nat → Nat → Int32) (K : Nat → Int32) (LA : Nat → Int64) (bM : Nat → Option va_E) (aM : Nat → Nat → Option (ClassId × Nat)) (F : Nat → Nat → Nat → Int32) (hN : hpN n) (hm : Nat → Nat) (hH : ∀ c, c < n 2 → I 2 c = nI (hm c) ∧ hm c < n 1) (ow : Nat → Nat) (hO : ∀ o, o < n 4 → I 4 o = nI (ow o) ∧ ow o < n 0) (sq : Nat → Nat) (hSq : ∀ k, k < n 4 → F 0 1 k = nI (sq k) ∧ sq k < n 4) (hSo : ∀ q, q < n 4 → ∃ j, j < n 4 ∧ sq j = q) (lim : Nat) (hLim : K 1 = nI lim) (hlim : lim ≤ 5000) (hLA : ∀ c, c ≤ n 2 → LA c = hpS n I ow F (n 2 - c)) (cg : Nat) (hcg : cg = n 2) (tops : Int64) (mk : Nat) (sp : Bool) (bw : Int64) (tr be : Nat → Int32) (S : Nat → Nat → Nat → Int32) (hsc : scr (upR (upR F 0 9 tr) 0 10 be) S) (hmk : mk ≤ lim) (hT : okT n tr) : nw_Met l y_Search_branch [Cond.code y_Search_branch b_Search_branch 5 none] ({ frames := 30 + 2 * 0, cells := 0, slots := 0, locals := 900 + 60 * 0 } : Room) D hpC A [.ref (ad (4)), .int (nI cg), .long (tops)] (nw_pre D hpC (hpT tC) A (hW ad tC n I (va_up (va_up K 2 (nI mk)) 3 (bI sp)) bw LA bM aM S) ad) (nw_xs ad tC n I K LA bM aM F (brF n I hm ow sq F lim 0 cg tops (mk, sp, bw, tr, be))) 0 0 := by
  refine nw_bodyK (by decide) (Nat.le_of_ble_eq_true rfl) ?_
  intro p e s m below meth cd ls args Q hSx hr hlocks hname hA hKs hw hS hl hQ
  obtain ⟨hx, hb, hml, hown, hts⟩ := id hSx
  have hK := hKs.1
  have hl : lv_has ls 5 [(0, .ref (ad (4))), (1, .int (nI cg)), (2, .long (tops))] := hl
  obtain ⟨hn0, hn0', hn1, hn2, hn3, hn4⟩ := id hN
  refine lv_iload_n hx hb d_Search_branch_0 rfl (lv_at hl 1 rfl) ?_
  refine lv_aload_n hx hb d_Search_branch_1 rfl (lv_at hl 0 rfl) ?_
  refine nw_get hx hb hts i_Search hown hK hw (4) (hW_4) rfl 0 (by decide) (hts _ kw_161) (fun _ h9 => h9) rfl d_Search_branch_2 ?_
  refine nw_getN hx hb hts i_Farm hown hK hw (1) (hW_1) rfl 8 (by decide) (va_Nw.use rfl (hKs.2.2 _ kn_75 rfl)) (fun _ h9 => h9) rfl d_Search_branch_5 ?_
  refine lv_icmp_lt (tgt := 16) hx hb d_Search_branch_8 (by decide) (fun c_8 => ?_) (fun c_8 => ?_)
  · skip
    exact absurd c_8 (nI_nlt (show n 2 ≤ cg by omega) (by omega))
  · skip
    refine lv_aload_n hx hb d_Search_branch_11 rfl (lv_at hl 0 rfl) ?_
    refine nw_call (nw_goV (n := 0) (As := []) (rest := []) hSx hA hKs hw hS (c_Search_meet l D tC A ad n I K LA bM aM F hN hm hH ow hO sq hSq hSo lim hLim hlim hLA mk sp bw tr be S hsc (hmk) (hT)) kw_541 kw_538 kw_540 ks_Search_meet kw_6 rfl rfl (by decide +kernel) ⟨by dsimp only; omega, by dsimp only; omega⟩ (nw_recv hK hw (hW_4) rfl) rfl hl.1 (Nat.le_of_ble_eq_true rfl) d_Search_branch_12 ⟨Nat.le_of_ble_eq_true rfl, Nat.le_of_ble_eq_true rfl⟩) hS (fun rv wn' ad' H locs hpost hw hS => ?_)
    obtain ⟨hrv1, S1z, hsc1z, hw⟩ := nw_xs_out hpost hw
    subst hrv1
    exact nw_vret hQ hx hb hr hlocks hw hS (nw_xs_in (x := brF n I hm ow sq F lim 0 cg tops (mk, sp, bw, tr, be)) rfl hsc1z) (Nat.le_of_ble_eq_true rfl) (Nat.le_of_ble_eq_true rfl) d_Search_branch_15

/-- BRANCHING, at any cage -/
theorem c_Search_branch (l : Launch) (D : va_G) (tC : Nat → ClassId) (A : Nat → Prop) (ad : Nat → Nat) (n : Nat → Nat) (I : Nat → Nat → Int32) (K : Nat → Int32) (LA : Nat → Int64) (bM : Nat → Option va_E) (aM : Nat → Nat → Option (ClassId × Nat)) (F : Nat → Nat → Nat → Int32) (hN : hpN n) (hm : Nat → Nat) (hH : ∀ c, c < n 2 → I 2 c = nI (hm c) ∧ hm c < n 1) (ow : Nat → Nat) (hO : ∀ o, o < n 4 → I 4 o = nI (ow o) ∧ ow o < n 0) (sq : Nat → Nat) (hSq : ∀ k, k < n 4 → F 0 1 k = nI (sq k) ∧ sq k < n 4) (hSo : ∀ q, q < n 4 → ∃ j, j < n 4 ∧ sq j = q) (lim : Nat) (hLim : K 1 = nI lim) (hlim : lim ≤ 5000) (hLA : ∀ c, c ≤ n 2 → LA c = hpS n I ow F (n 2 - c)) : ∀ (d cg : Nat) (hcg : cg + d = n 2) (tops : Int64) (mk : Nat) (sp : Bool) (bw : Int64) (tr be : Nat → Int32) (S : Nat → Nat → Nat → Int32) (hsc : scr (upR (upR F 0 9 tr) 0 10 be) S) (hmk : mk ≤ lim) (hT : okT n tr), nw_Met l y_Search_branch [Cond.code y_Search_branch b_Search_branch 5 none] ({ frames := 30 + 2 * d, cells := 0, slots := 0, locals := 900 + 60 * d } : Room) D hpC A [.ref (ad 4), .int (nI cg), .long tops] (nw_pre D hpC (hpT tC) A (hWx ad tC n I K LA bM aM (mk, sp, bw, tr, be) S) ad) (nw_xs ad tC n I K LA bM aM F (brF n I hm ow sq F lim d cg tops (mk, sp, bw, tr, be))) 0 0 := by
  intro d
  induction d with
  | zero =>
    intro cg hcg tops mk sp bw tr be S hsc hmk hT
    exact c_Search_branch_0 l D tC A ad n I K LA bM aM F hN hm hH ow hO sq hSq hSo lim hLim hlim hLA cg (by omega) tops mk sp bw tr be S hsc hmk hT
  | succ d ih =>
    intro cg hcg tops mk sp bw tr be S hsc hmk hT
    exact c_Search_branch_of l D tC A ad n I K LA bM aM F hN hm hH ow hO sq hSq hSo lim hLim hlim hLA d cg (by omega) (fun tops mk sp bw tr be S hsc hmk hT => c_Search_makeNode_of l D tC A ad n I K LA bM aM F hN hm hH ow hO sq hSq hSo lim hLim hlim hLA d cg (by omega) (fun tops mk sp bw tr be S hsc hmk hT => ih (cg + 1) (by omega) tops mk sp bw tr be S hsc hmk hT) tops mk sp bw tr be S hsc hmk hT) tops mk sp bw tr be S hsc hmk hT

set_option maxHeartbeats 4000000 in
set_option maxRecDepth 100000 in
/-- THE SEARCH, from its start -/
theorem c_Search_start (l : Launch) (D : va_G) (tC : Nat → ClassId) (A : Nat → Prop) (ad : Nat → Nat) (n : Nat → Nat) (I : Nat → Nat → Int32) (K : Nat → Int32) (bw : Int64) (LA : Nat → Int64) (bM : Nat → Option va_E) (aM : Nat → Nat → Option (ClassId × Nat)) (S0 S : Nat → Nat → Nat → Int32) (hsc : scr S0 S) (hN : hpN n) (hm : Nat → Nat) (hH : ∀ c, c < n 2 → I 2 c = nI (hm c) ∧ hm c < n 1) (ow : Nat → Nat) (hO : ∀ o, o < n 4 → I 4 o = nI (ow o) ∧ ow o < n 0) (sq : Nat → Nat) (hSq : ∀ k, k < n 4 → S0 0 1 k = nI (sq k) ∧ sq k < n 4) (hSo : ∀ q, q < n 4 → ∃ j, j < n 4 ∧ sq j = q) (lim : Nat) (hlim : lim ≤ 5000) : nw_Met l y_Search_start [Cond.code y_Search_start b_Search_start 2 none] ({ frames := 50, cells := 0, slots := 0, locals := 1300 } : Room) D hpC A [.ref (ad (4)), .int (nI lim)] (nw_pre D hpC (hpT tC) A (hW ad tC n I K bw LA bM aM S) ad) (nw_st ad tC n I (va_up K 1 (nI lim)) bM aM S0 (stX n I hm ow sq S0 lim)) 0 0 := by
  refine nw_bodyK (by decide) (Nat.le_of_ble_eq_true rfl) ?_
  intro p e s m below meth cd ls args Q hSx hr hlocks hname hA hKs hw hS hl hQ
  obtain ⟨hx, hb, hml, hown, hts⟩ := id hSx
  have hK := hKs.1
  have hl : lv_has ls 2 [(0, .ref (ad (4))), (1, .int (nI lim))] := hl
  obtain ⟨hn0, hn0', hn1, hn2, hn3, hn4⟩ := id hN
  refine lv_aload_n hx hb d_Search_start_0 rfl (lv_at hl 0 rfl) ?_
  refine lv_iload_n hx hb d_Search_start_1 rfl (lv_at hl 1 rfl) ?_
  refine nw_put (v := .int (nI lim)) (ty := .int) hx hb hts i_Search t_Search tk_Search n_Search hown hK hw hS (4) (hW_4) rfl 7 (by decide) (hts _ kw_169) (fun _ h9 => h9) rfl (by decide +kernel) (rfl) (rfl) (Nat.le_of_ble_eq_true rfl) d_Search_start_2 (fun H locs hw hS => ?_)
  have hw := hW_setLimit hw
  refine lv_aload_n hx hb d_Search_start_5 rfl (lv_at hl 0 rfl) ?_
  refine lv_iconst (v := nI 0) hx hb d_Search_start_6 (by decide) ?_
  refine nw_put (v := .int (nI 0)) (ty := .int) hx hb hts i_Search t_Search tk_Search n_Search hown hK hw hS (4) (hW_4) rfl 8 (by decide) (hts _ kw_170) (fun _ h9 => h9) rfl (by decide +kernel) (rfl) (rfl) (Nat.le_of_ble_eq_true rfl) d_Search_start_7 (fun H locs hw hS => ?_)
  have hw := hW_setMade hw
  refine lv_aload_n hx hb d_Search_start_10 rfl (lv_at hl 0 rfl) ?_
  refine lv_iconst (v := nI 0) hx hb d_Search_start_11 (by decide) ?_
  refine nw_put (v := .int (nI 0)) (ty := .boolean) hx hb hts i_Search t_Search tk_Search n_Search hown hK hw hS (4) (hW_4) rfl 9 (by decide) (hts _ kw_172) (fun _ h9 => h9) rfl (by decide +kernel) (rfl) (rfl) (Nat.le_of_ble_eq_true rfl) d_Search_start_12 (fun H locs hw hS => ?_)
  have hw := hW_setSpent hw
  refine lv_aload_n hx hb d_Search_start_15 rfl (lv_at hl 0 rfl) ?_
  refine lv_ldc2 (v := (-1)) hx hb hown (hts _ kw_160) d_Search_start_16 ?_
  refine nw_put (v := .long ((-1))) (ty := .long) hx hb hts i_Search t_Search tk_Search n_Search hown hK hw hS (4) (hW_4) rfl 6 (by decide) (hts _ kw_168) (fun _ h9 => h9) rfl (by decide +kernel) (rfl) (rfl) (Nat.le_of_ble_eq_true rfl) d_Search_start_19 (fun H locs hw hS => ?_)
  have hw := hW_setBw hw
  refine lv_aload_n hx hb d_Search_start_22 rfl (lv_at hl 0 rfl) ?_
  refine nw_get hx hb hts i_Search hown hK hw (4) (hW_4) rfl 3 (by decide) (hts _ kw_164) (fun _ h9 => h9) rfl d_Search_start_23 ?_
  refine lv_iconst (v := (-1)) hx hb d_Search_start_26 (by decide) ?_
  refine nw_callD (nw_goS (n := 2) (As := [.ref (ad (109)), .int ((-1))]) (rest := []) hSx hA hKs hw hS (c_Arr_fill l D tC A ad n I (va_up (va_up (va_up K 1 (nI lim)) 2 (nI 0)) 3 (nI 0)) (-1) LA bM aM S0 S hsc hN 9 6 (-1) (by omega) (by omega) (rfl)) kw_198 kw_533 kw_197 kw_7 rfl rfl (by decide +kernel) ⟨by dsimp only; omega, by dsimp only; omega⟩ rfl hl.1 (Nat.le_of_ble_eq_true rfl) d_Search_start_27 ⟨Nat.le_of_ble_eq_true rfl, Nat.le_of_ble_eq_true rfl⟩) hS (fun H locs hw hS => ?_)
  obtain ⟨St0, hst0, hw⟩ := ex_fill hsc hw
  refine lv_aload_n hx hb d_Search_start_30 rfl (lv_at hl 0 rfl) ?_
  refine nw_call (nw_goV (n := 0) (As := []) (rest := []) hSx hA hKs hw hS (c_Search_foretell l D tC A ad n I (va_up (va_up (va_up K 1 (nI lim)) 2 (nI 0)) 3 (bI false)) (-1) LA bM aM (upR (upR S0 0 9 (flR (S0 0 9) (-1) 6)) 0 10 (S0 0 10)) St0 hst0 hN ow hO) kw_233 kw_230 kw_232 ks_Search_foretell kw_6 rfl rfl (by decide +kernel) ⟨by dsimp only; omega, by dsimp only; omega⟩ (nw_recv hK hw (hW_4) rfl) rfl hl.1 (Nat.le_of_ble_eq_true rfl) d_Search_start_31 ⟨Nat.le_of_ble_eq_true rfl, Nat.le_of_ble_eq_true rfl⟩) hS (fun rv wn' ad' H locs hpost hw hS => ?_)
  obtain ⟨hrv1, L1z, hL1z, hw⟩ := nw_fo_out hpost hw
  subst hrv1
  refine lv_aload_n hx hb d_Search_start_34 rfl (lv_at hl 0 rfl) ?_
  refine lv_iconst (v := nI 0) hx hb d_Search_start_35 (by decide) ?_
  refine lv_lconst (v := 0) hx hb d_Search_start_36 (by decide) ?_
  refine nw_call (nw_goV (n := 2) (As := [.int (nI 0), .long (0)]) (rest := []) hSx hA hKs hw hS (c_Search_branch l D tC A ad n I (va_up K 1 (nI lim)) L1z bM aM S0 hN hm hH ow hO sq hSq hSo lim rfl hlim (fun c hc => (hL1z c hc).trans (hpS_cg (S0 := S0) (S1 := upR (upR S0 0 9 (flR (S0 0 9) (-1) 6)) 0 10 (S0 0 10)) rfl rfl _)) (n 2) 0 (by omega) 0 0 false (-1) (flR (S0 0 9) (-1) 6) (S0 0 10) St0 hst0 (by omega) (okT_fl hn2)) kw_537 kw_534 kw_536 ks_Search_branch kw_6 rfl rfl (by decide +kernel) ⟨by dsimp only; omega, by dsimp only; omega⟩ (nw_recv hK hw (hW_4) rfl) rfl hl.1 (Nat.le_of_ble_eq_true rfl) d_Search_start_37 ⟨Nat.le_of_ble_eq_true rfl, Nat.le_of_ble_eq_true rfl⟩) hS (fun rv wn' ad' H locs hpost hw hS => ?_)
  obtain ⟨hrv2, S2z, hsc2z, hw⟩ := nw_xs_out hpost hw
  subst hrv2
  exact nw_vret hQ hx hb hr hlocks hw hS (⟨rfl, rfl, _, _, hsc2z, rfl⟩) (Nat.le_of_ble_eq_true rfl) (Nat.le_of_ble_eq_true rfl) d_Search_start_40
