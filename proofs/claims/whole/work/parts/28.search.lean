set_option maxHeartbeats 4000000 in
set_option maxRecDepth 100000 in
/-- what the cages behind hope for -/
theorem c_Search_foretell (l : Launch) (D : va_G) (tC : Nat → ClassId) (A : Nat → Prop) (ad : Nat → Nat) (n : Nat → Nat) (I : Nat → Nat → Int32) (K : Nat → Int32) (bw : Int64) (LA : Nat → Int64) (bM : Nat → Option va_E) (aM : Nat → Nat → Option (ClassId × Nat)) (S0 S : Nat → Nat → Nat → Int32) (hsc : scr S0 S) (hN : hpN n) (ow : Nat → Nat) (hO : ∀ o, o < n 4 → I 4 o = nI (ow o) ∧ ow o < n 0) : nw_Met l y_Search_foretell [Cond.code y_Search_foretell b_Search_foretell 2 none] ({ frames := 3, cells := 0, slots := 0, locals := 70 } : Room) D hpC A [.ref (ad (4))] (nw_pre D hpC (hpT tC) A (hW ad tC n I K bw LA bM aM S) ad) (nw_fo none (fun L' => hW ad tC n I K bw L' bM aM S) ad (fun L' => ∀ c, c ≤ n 2 → L' c = hpS n I ow S0 (n 2 - c))) 0 0 := by
  refine nw_bodyK (by decide) (Nat.le_of_ble_eq_true rfl) ?_
  intro p e s m below meth cd ls args Q hSx hr hlocks hname hA hKs hw hS hl hQ
  obtain ⟨hx, hb, hml, hown, hts⟩ := id hSx
  have hK := hKs.1
  have hl : lv_has ls 2 [(0, .ref (ad (4)))] := hl
  obtain ⟨hn0, hn0', hn1, hn2, hn3, hn4⟩ := id hN
  refine lv_aload_n hx hb d_Search_foretell_0 rfl (lv_at hl 0 rfl) ?_
  refine nw_get hx hb hts i_Search hown hK hw (4) (hW_4) rfl 5 (by decide) (hts _ kw_167) (fun _ h9 => h9) rfl d_Search_foretell_1 ?_
  refine lv_aload_n hx hb d_Search_foretell_4 rfl (lv_at hl 0 rfl) ?_
  refine nw_get hx hb hts i_Search hown hK hw (4) (hW_4) rfl 0 (by decide) (hts _ kw_161) (fun _ h9 => h9) rfl d_Search_foretell_5 ?_
  refine nw_getN hx hb hts i_Farm hown hK hw (1) (hW_1) rfl 8 (by decide) (va_Nw.use rfl (hKs.2.2 _ kn_75 rfl)) (fun _ h9 => h9) rfl d_Search_foretell_8 ?_
  refine lv_lconst (v := 0) hx hb d_Search_foretell_11 (by decide) ?_
  refine nw_last hx hb hK hw hS (5) 1 (hW_5) rfl (n 2) (rfl) (by omega) (by omega) d_Search_foretell_12 (fun H locs hw hS => ?_)
  have hw := hW_setLA hw
  refine lv_aload_n hx hb d_Search_foretell_13 rfl (lv_at hl 0 rfl) ?_
  refine nw_get hx hb hts i_Search hown hK hw (4) (hW_4) rfl 0 (by decide) (hts _ kw_161) (fun _ h9 => h9) rfl d_Search_foretell_14 ?_
  refine nw_getN hx hb hts i_Farm hown hK hw (1) (hW_1) rfl 8 (by decide) (va_Nw.use rfl (hKs.2.2 _ kn_75 rfl)) (fun _ h9 => h9) rfl d_Search_foretell_17 ?_
  refine lv_iconst (v := nI 1) hx hb d_Search_foretell_20 (by decide) ?_
  refine lv_isub hx hb d_Search_foretell_21 ?_
  refine lv_istore_n (lv' := [(1, .int (((nI (n 2)) - (nI 1)))), (0, .ref (ad (4)))]) hx hb d_Search_foretell_22 rfl hl (by decide) rfl (fun ls hl => ?_)
  have el1 : nI (n 2 - 0) - 1 = ((nI (n 2)) - (nI 1)) := rfl
  have hl : lv_has ls 2 [(1, .int (nI (n 2 - 0) - 1)), (0, .ref (ad (4)))] := by
    have h9 := hl
    revert h9; rw [show Value.int (nI (n 2 - 0) - 1) = Value.int (((nI (n 2)) - (nI 1))) from congrArg _ el1]; intro h9
    exact h9
  have loop23 : ∀ (k d : Nat), d ≤ n 2 → n 2 + 1 ≤ d + k → ∀ (H : Heap) (locs : List Loc) (ls : Array Slot), nw_W D hpC A (hW ad tC n I K bw (hfA n I ow S0 LA d) bM aM S) ad H → va_S A s.heap H locs → lv_has ls 2 [(0, .ref (ad (4))), (1, .int (nI (n 2 - d) - 1))] → W p l e ({ frames := 3, cells := 0, slots := 0, locals := 70 } : Room) s m args below meth cd H locs 0 0 Q (F0 m 23 ls []) := by
    intro k
    induction k with
    | zero => intro d h1 h2; exact absurd h2 (by omega)
    | succ k ih23 =>
      intro d hv23 hk23 H locs ls hw hS hl
      refine lv_iload_n hx hb d_Search_foretell_23 rfl (lv_at hl 1 rfl) ?_
      refine lv_if_lt (tgt := 56) hx hb d_Search_foretell_24 (by decide) (fun c_24 => ?_) (fun c_24 => ?_)
      · skip
        have hd0 := dn_t (by omega) c_24
        obtain rfl : n 2 = d := by omega
        exact nw_vret hQ hx hb hr hlocks hw hS (⟨rfl, rfl, _, fun c hc => by have h9 := hfA_hp (n := n) (I := I) (ow := ow) (F := S0) (LA := LA) (n 2) (Nat.le_refl _) (n 2 - c) (by omega); rwa [show n 2 - (n 2 - c) = c by omega] at h9, rfl⟩) (Nat.le_of_ble_eq_true rfl) (Nat.le_of_ble_eq_true rfl) d_Search_foretell_56
      · skip
        have hd1 := dn_f c_24
        have el1 : nI (n 2 - d - 1) = nI (n 2 - d) - 1 := hd1.2.symm
        have hl : lv_has ls 2 [(0, .ref (ad (4))), (1, .int (nI (n 2 - d - 1)))] := by
          have h9 := hl
          revert h9; rw [show Value.int (nI (n 2 - d - 1)) = Value.int (nI (n 2 - d) - 1) from congrArg _ el1]; intro h9
          exact h9
        have hlt : d < n 2 := by omega
        refine lv_aload_n hx hb d_Search_foretell_27 rfl (lv_at hl 0 rfl) ?_
        refine nw_get hx hb hts i_Search hown hK hw (4) (hW_4) rfl 5 (by decide) (hts _ kw_167) (fun _ h9 => h9) rfl d_Search_foretell_28 ?_
        refine lv_iload_n hx hb d_Search_foretell_31 rfl (lv_at hl 1 rfl) ?_
        refine lv_aload_n hx hb d_Search_foretell_32 rfl (lv_at hl 0 rfl) ?_
        refine nw_get hx hb hts i_Search hown hK hw (4) (hW_4) rfl 5 (by decide) (hts _ kw_167) (fun _ h9 => h9) rfl d_Search_foretell_33 ?_
        refine lv_iload_n hx hb d_Search_foretell_36 rfl (lv_at hl 1 rfl) ?_
        refine lv_iconst (v := nI 1) hx hb d_Search_foretell_37 (by decide) ?_
        refine lv_iadd hx hb d_Search_foretell_38 ?_
        refine lv_ei (y := nI (n 2 - d)) (by rw [nI_add]; congr 1; omega) ?_
        refine nw_lald hx hb hK hw (5) 1 (hW_5) rfl (n 2 - d) (rfl) (by omega) (by omega) d_Search_foretell_39 ?_
        refine lv_aload_n hx hb d_Search_foretell_40 rfl (lv_at hl 0 rfl) ?_
        refine nw_get hx hb hts i_Search hown hK hw (4) (hW_4) rfl 0 (by decide) (hts _ kw_161) (fun _ h9 => h9) rfl d_Search_foretell_41 ?_
        refine lv_iload_n hx hb d_Search_foretell_44 rfl (lv_at hl 1 rfl) ?_
        refine nw_callD (nw_goVN (n := 1) (As := [.int (nI (n 2 - d - 1))]) (rest := [.long (((hfA n I ow S0 LA d) (n 2 - d))), .int (nI (n 2 - d - 1)), .ref (ad (5))]) hSx hA hKs hw hS (c_Farm_greatestTop l D tC A ad n I K bw (hfA n I ow S0 LA d) bM aM S0 S hsc hN ow hO (n 2 - d - 1) (by omega)) kw_237 kn_234 kw_236 ks_Farm_greatestTop kw_2 rfl rfl (by decide +kernel) ⟨Nat.le_of_ble_eq_true rfl, Nat.le_of_ble_eq_true rfl⟩ (nw_recv hK hw (hW_1) rfl) rfl hl.1 (Nat.le_of_ble_eq_true rfl) d_Search_foretell_45 ⟨Nat.le_of_ble_eq_true rfl, Nat.le_of_ble_eq_true rfl⟩) hS (fun H locs hw hS => ?_)
        refine lv_ladd hx hb d_Search_foretell_48 ?_
        refine nw_last hx hb hK hw hS (5) 1 (hW_5) rfl (n 2 - d - 1) (rfl) (by omega) (by omega) d_Search_foretell_49 (fun H locs hw hS => ?_)
        have hw := hW_setLA hw
        refine lv_iinc (v := nI (n 2 - (d + 1)) - 1) (lv' := [(1, .int (nI (n 2 - (d + 1)) - 1)), (0, .ref (ad (4)))]) hx hb d_Search_foretell_50 hl (k := 1) rfl (by rw [m1_sub, show n 2 - (d + 1) = n 2 - d - 1 by omega]) (by decide) rfl (fun ls hl => ?_)
        refine lv_goto (tgt := 23) hx hb d_Search_foretell_53 (by decide) ?_
        exact ih23 (d + 1) (by omega) (by omega) _ _ ls hw hS (lv_sub hl [1, 0] rfl)
  exact loop23 (n 2 + 1) (0) (by omega) (by omega) _ _ ls hw hS (lv_sub hl [1, 0] rfl)

set_option maxHeartbeats 4000000 in
set_option maxRecDepth 100000 in
/-- THE HOPE before any cage -/
theorem c_Search_hopeBeforeAny (l : Launch) (D : va_G) (tC : Nat → ClassId) (A : Nat → Prop) (ad : Nat → Nat) (n : Nat → Nat) (I : Nat → Nat → Int32) (K : Nat → Int32) (bw : Int64) (LA : Nat → Int64) (bM : Nat → Option va_E) (aM : Nat → Nat → Option (ClassId × Nat)) (S0 S : Nat → Nat → Nat → Int32) (hsc : scr S0 S) (hN : hpN n) (ow : Nat → Nat) (hO : ∀ o, o < n 4 → I 4 o = nI (ow o) ∧ ow o < n 0) : nw_Met l y_Search_hopeBeforeAny [Cond.code y_Search_hopeBeforeAny b_Search_hopeBeforeAny 1 (some .long)] ({ frames := 4, cells := 0, slots := 0, locals := 91 } : Room) D hpC A [.ref (ad (4))] (nw_pre D hpC (hpT tC) A (hW ad tC n I K bw LA bM aM S) ad) (nw_fo (some (.long (hpS n I ow S0 (n 2)))) (fun L' => hW ad tC n I K bw L' bM aM S) ad (fun L' => ∀ c, c ≤ n 2 → L' c = hpS n I ow S0 (n 2 - c))) 0 0 := by
  refine nw_bodyK (by decide) (Nat.le_of_ble_eq_true rfl) ?_
  intro p e s m below meth cd ls args Q hSx hr hlocks hname hA hKs hw hS hl hQ
  obtain ⟨hx, hb, hml, hown, hts⟩ := id hSx
  have hK := hKs.1
  have hl : lv_has ls 1 [(0, .ref (ad (4)))] := hl
  obtain ⟨hn0, hn0', hn1, hn2, hn3, hn4⟩ := id hN
  refine lv_aload_n hx hb d_Search_hopeBeforeAny_0 rfl (lv_at hl 0 rfl) ?_
  refine nw_call (nw_goV (n := 0) (As := []) (rest := []) hSx hA hKs hw hS (c_Search_foretell l D tC A ad n I K bw LA bM aM S0 S hsc hN ow hO) kw_233 kw_230 kw_232 ks_Search_foretell kw_6 rfl rfl (by decide +kernel) ⟨Nat.le_of_ble_eq_true rfl, Nat.le_of_ble_eq_true rfl⟩ (nw_recv hK hw (hW_4) rfl) rfl hl.1 (Nat.le_of_ble_eq_true rfl) d_Search_hopeBeforeAny_1 ⟨Nat.le_of_ble_eq_true rfl, Nat.le_of_ble_eq_true rfl⟩) hS (fun rv wn' ad' H locs hpost hw hS => ?_)
  obtain ⟨hrv1, L1z, hL1z, hw⟩ := nw_fo_out hpost hw
  subst hrv1
  refine lv_aload_n hx hb d_Search_hopeBeforeAny_4 rfl (lv_at hl 0 rfl) ?_
  refine nw_get hx hb hts i_Search hown hK hw (4) (hW_4) rfl 5 (by decide) (hts _ kw_167) (fun _ h9 => h9) rfl d_Search_hopeBeforeAny_5 ?_
  refine lv_iconst (v := nI 0) hx hb d_Search_hopeBeforeAny_8 (by decide) ?_
  refine nw_lald hx hb hK hw (5) 1 (hW_5) rfl (0) (rfl) (by omega) (by omega) d_Search_hopeBeforeAny_9 ?_
  refine lv_el (y := hpS n I ow S0 (n 2)) (hL1z 0 (by omega)) ?_
  exact nw_lret hQ hx hb hr hlocks hw hS (⟨rfl, rfl, _, hL1z, rfl⟩) (Nat.le_of_ble_eq_true rfl) (Nat.le_of_ble_eq_true rfl) d_Search_hopeBeforeAny_10

set_option maxHeartbeats 4000000 in
set_option maxRecDepth 100000 in
/-- whether a plan was met -/
theorem c_Search_hasMet (l : Launch) (D : va_G) (tC : Nat → ClassId) (A : Nat → Prop) (ad : Nat → Nat) (n : Nat → Nat) (I : Nat → Nat → Int32) (K : Nat → Int32) (bw : Int64) (LA : Nat → Int64) (bM : Nat → Option va_E) (aM : Nat → Nat → Option (ClassId × Nat)) (S0 S : Nat → Nat → Nat → Int32) (hsc : scr S0 S) (hN : hpN n)  : nw_Met l y_Search_hasMet [Cond.code y_Search_hasMet b_Search_hasMet 1 (some .boolean)] ({ frames := 0, cells := 0, slots := 0, locals := 0 } : Room) D hpC A [.ref (ad (4))] (nw_pre D hpC (hpT tC) A (hW ad tC n I K bw LA bM aM S) ad) (nw_ok (some (.int (b2 (¬ bw = -1)))) (hW ad tC n I K bw LA bM aM S) ad) 0 0 := by
  refine nw_bodyK (by decide) (Nat.le_of_ble_eq_true rfl) ?_
  intro p e s m below meth cd ls args Q hSx hr hlocks hname hA hKs hw hS hl hQ
  obtain ⟨hx, hb, hml, hown, hts⟩ := id hSx
  have hK := hKs.1
  have hl : lv_has ls 1 [(0, .ref (ad (4)))] := hl
  obtain ⟨hn0, hn0', hn1, hn2, hn3, hn4⟩ := id hN
  refine lv_aload_n hx hb d_Search_hasMet_0 rfl (lv_at hl 0 rfl) ?_
  refine nw_get hx hb hts i_Search hown hK hw (4) (hW_4) rfl 6 (by decide) (hts _ kw_168) (fun _ h9 => h9) rfl d_Search_hasMet_1 ?_
  refine lv_ldc2 (v := (-1)) hx hb hown (hts _ kw_160) d_Search_hasMet_4 ?_
  refine W.lcmp hx hb d_Search_hasMet_7 ?_
  refine lv_if_eq (tgt := 15) hx hb d_Search_hasMet_8 (by decide) (fun c_8 => ?_) (fun c_8 => ?_)
  · skip
    have hres : nI 0 = b2 (¬ bw = -1) := b2_f (fun h => h ((lg_cmp_eq _ _).mp c_8))
    refine lv_iconst (v := nI 0) hx hb d_Search_hasMet_15 (by decide) ?_
    exact nw_zret hQ hx hb hr (by first | exact Or.inl rfl | exact Or.inr rfl) hlocks hw hS (nw_okI hres) (Nat.le_of_ble_eq_true rfl) (Nat.le_of_ble_eq_true rfl) d_Search_hasMet_16
  · skip
    have hres : nI 1 = b2 (¬ bw = -1) := b2_t (fun h => c_8 ((lg_cmp_eq _ _).mpr h))
    refine lv_iconst (v := nI 1) hx hb d_Search_hasMet_11 (by decide) ?_
    refine lv_goto (tgt := 16) hx hb d_Search_hasMet_12 (by decide) ?_
    exact nw_zret hQ hx hb hr (by first | exact Or.inl rfl | exact Or.inr rfl) hlocks hw hS (nw_okI hres) (Nat.le_of_ble_eq_true rfl) (Nat.le_of_ble_eq_true rfl) d_Search_hasMet_16

set_option maxHeartbeats 4000000 in
set_option maxRecDepth 100000 in
/-- a plan is met -/
theorem c_Search_meet (l : Launch) (D : va_G) (tC : Nat → ClassId) (A : Nat → Prop) (ad : Nat → Nat) (n : Nat → Nat) (I : Nat → Nat → Int32) (K : Nat → Int32) (LA : Nat → Int64) (bM : Nat → Option va_E) (aM : Nat → Nat → Option (ClassId × Nat)) (F : Nat → Nat → Nat → Int32) (hN : hpN n) (hm : Nat → Nat) (hH : ∀ c, c < n 2 → I 2 c = nI (hm c) ∧ hm c < n 1) (ow : Nat → Nat) (hO : ∀ o, o < n 4 → I 4 o = nI (ow o) ∧ ow o < n 0) (sq : Nat → Nat) (hSq : ∀ k, k < n 4 → F 0 1 k = nI (sq k) ∧ sq k < n 4) (hSo : ∀ q, q < n 4 → ∃ j, j < n 4 ∧ sq j = q) (lim : Nat) (hLim : K 1 = nI lim) (hlim : lim ≤ 5000) (hLA : ∀ c, c ≤ n 2 → LA c = hpS n I ow F (n 2 - c)) (mk : Nat) (sp : Bool) (bw : Int64) (tr be : Nat → Int32) (S : Nat → Nat → Nat → Int32) (hsc : scr (upR (upR F 0 9 tr) 0 10 be) S) (hmk : mk ≤ lim) (hT : okT n tr)  : nw_Met l y_Search_meet [Cond.code y_Search_meet b_Search_meet 3 none] ({ frames := 3, cells := 0, slots := 0, locals := 72 } : Room) D hpC A [.ref (ad (4))] (nw_pre D hpC (hpT tC) A (hW ad tC n I (va_up (va_up K 2 (nI mk)) 3 (bI sp)) bw LA bM aM S) ad) (nw_xs ad tC n I K LA bM aM F (meF n I hm ow sq F (mk, sp, bw, tr, be))) 0 0 := by
  refine nw_bodyK (by decide) (Nat.le_of_ble_eq_true rfl) ?_
  intro p e s m below meth cd ls args Q hSx hr hlocks hname hA hKs hw hS hl hQ
  obtain ⟨hx, hb, hml, hown, hts⟩ := id hSx
  have hK := hKs.1
  have hl : lv_has ls 3 [(0, .ref (ad (4)))] := hl
  obtain ⟨hn0, hn0', hn1, hn2, hn3, hn4⟩ := id hN
  refine lv_aload_n hx hb d_Search_meet_0 rfl (lv_at hl 0 rfl) ?_
  refine nw_get hx hb hts i_Search hown hK hw (4) (hW_4) rfl 1 (by decide) (hts _ kw_162) (fun _ h9 => h9) rfl d_Search_meet_1 ?_
  refine lv_aload_n hx hb d_Search_meet_4 rfl (lv_at hl 0 rfl) ?_
  refine nw_get hx hb hts i_Search hown hK hw (4) (hW_4) rfl 3 (by decide) (hts _ kw_164) (fun _ h9 => h9) rfl d_Search_meet_5 ?_
  refine nw_call (nw_goVN (n := 1) (As := [.ref (ad (109))]) (rest := []) hSx hA hKs hw hS (c_Rules_keepsAllHeld l D tC A ad n I (va_up (va_up K 2 (nI mk)) 3 (bI sp)) bw LA bM aM (upR (upR F 0 9 tr) 0 10 be) S hsc hN 9 (Or.inr rfl) hm hH) kw_545 kn_542 kw_544 ks_Rules_keepsAllHeld kw_4 rfl rfl (by decide +kernel) ⟨Nat.le_of_ble_eq_true rfl, Nat.le_of_ble_eq_true rfl⟩ (nw_recv hK hw (hW_2) rfl) rfl hl.1 (Nat.le_of_ble_eq_true rfl) d_Search_meet_8 ⟨Nat.le_of_ble_eq_true rfl, Nat.le_of_ble_eq_true rfl⟩) hS (fun rv wn' ad' H locs hpost hw hS => ?_)
  obtain ⟨hrv1, S1z, hsc1z, hw⟩ := nw_sc_out hpost hw
  subst hrv1
  refine lv_if_ne (tgt := 15) hx hb d_Search_meet_11 (by decide) (fun c_11 => ?_) (fun c_11 => ?_)
  · skip
    refine lv_aload_n hx hb d_Search_meet_15 rfl (lv_at hl 0 rfl) ?_
    refine nw_get hx hb hts i_Search hown hK hw (4) (hW_4) rfl 2 (by decide) (hts _ kw_163) (fun _ h9 => h9) rfl d_Search_meet_16 ?_
    refine lv_aload_n hx hb d_Search_meet_19 rfl (lv_at hl 0 rfl) ?_
    refine nw_get hx hb hts i_Search hown hK hw (4) (hW_4) rfl 3 (by decide) (hts _ kw_164) (fun _ h9 => h9) rfl d_Search_meet_20 ?_
    refine nw_call (nw_goVN (n := 1) (As := [.ref (ad (109))]) (rest := []) hSx hA hKs hw hS (c_Sales_sellAll l D tC A ad n I (va_up (va_up K 2 (nI mk)) 3 (bI sp)) bw LA bM aM (upR (upR F 0 9 tr) 0 10 be) S1z hsc1z hN 9 (Or.inr rfl) (hT) ow hO sq hSq hSo) kw_554 kn_551 kw_553 ks_Sales_sellAll kw_5 rfl rfl (by decide +kernel) ⟨Nat.le_of_ble_eq_true rfl, Nat.le_of_ble_eq_true rfl⟩ (nw_recv hK hw (hW_3) rfl) rfl hl.1 (Nat.le_of_ble_eq_true rfl) d_Search_meet_23 ⟨Nat.le_of_ble_eq_true rfl, Nat.le_of_ble_eq_true rfl⟩) hS (fun rv wn' ad' H locs hpost hw hS => ?_)
    obtain ⟨hrv2, S2z, hsc2z, hX2, hw⟩ := nw_sx_out hpost hw
    subst hrv2
    refine lv_el (y := wrL n I ow sq F tr) (wrL_F) ?_
    refine lv_lstore_n (lv' := [(1, .long (wrL n I ow sq F tr)), (0, .ref (ad (4)))]) hx hb d_Search_meet_26 rfl hl (by decide) rfl (fun ls hl => ?_)
    refine lv_lload_n hx hb d_Search_meet_27 rfl (lv_at hl 0 rfl) ?_
    refine lv_aload_n hx hb d_Search_meet_28 rfl (lv_at hl 1 rfl) ?_
    refine nw_get hx hb hts i_Search hown hK hw (4) (hW_4) rfl 6 (by decide) (hts _ kw_168) (fun _ h9 => h9) rfl d_Search_meet_29 ?_
    refine W.lcmp hx hb d_Search_meet_32 ?_
    refine lv_if_le (tgt := 56) hx hb d_Search_meet_33 (by decide) (fun c_33 => ?_) (fun c_33 => ?_)
    · skip
      have ex : (mk, sp, bw, tr, be) = meF n I hm ow sq F (mk, sp, bw, tr, be) := (pif_f (fun h => Int64.not_le.mpr h.2 ((lg_cmp_le _ _).mp c_33))).symm
      exact nw_vret hQ hx hb hr hlocks hw hS (nw_xs_in ex hsc2z) (Nat.le_of_ble_eq_true rfl) (Nat.le_of_ble_eq_true rfl) d_Search_meet_56
    · skip
      have ex : (mk, sp, wrL n I ow sq F tr, tr, va_cpy tr be 0 0 6) = meF n I hm ow sq F (mk, sp, bw, tr, be) := (pif_t ⟨b2_1 c_11, Int64.not_le.mp (fun h => c_33 ((lg_cmp_le _ _).mpr h))⟩).symm
      refine lv_aload_n hx hb d_Search_meet_36 rfl (lv_at hl 1 rfl) ?_
      refine lv_lload_n hx hb d_Search_meet_37 rfl (lv_at hl 0 rfl) ?_
      refine nw_put (v := .long (wrL n I ow sq F tr)) (ty := .long) hx hb hts i_Search t_Search tk_Search n_Search hown hK hw hS (4) (hW_4) rfl 6 (by decide) (hts _ kw_168) (fun _ h9 => h9) rfl (by decide +kernel) (rfl) (rfl) (Nat.le_of_ble_eq_true rfl) d_Search_meet_38 (fun H locs hw hS => ?_)
      have hw := hW_setBw hw
      refine lv_aload_n hx hb d_Search_meet_41 rfl (lv_at hl 1 rfl) ?_
      refine nw_get hx hb hts i_Search hown hK hw (4) (hW_4) rfl 3 (by decide) (hts _ kw_164) (fun _ h9 => h9) rfl d_Search_meet_42 ?_
      refine lv_iconst (v := nI 0) hx hb d_Search_meet_45 (by decide) ?_
      refine lv_aload_n hx hb d_Search_meet_46 rfl (lv_at hl 1 rfl) ?_
      refine nw_get hx hb hts i_Search hown hK hw (4) (hW_4) rfl 4 (by decide) (hts _ kw_165) (fun _ h9 => h9) rfl d_Search_meet_47 ?_
      refine lv_iconst (v := nI 0) hx hb d_Search_meet_50 (by decide) ?_
      refine lv_bipush (v := nI 6) hx hb d_Search_meet_51 (by decide) ?_
      refine nw_copy hx hb (hml.trans hl.1.symm) hown (hts _ kw_566) (hts _ kw_568) (hts _ kw_567) (hts _ kw_18) hK hw hS (109) (110) 0 (hW_row (t := 0) (j := 9) (by decide) (by omega) (rfl)) (hW_row (t := 0) (j := 10) (by decide) (by omega) (rfl)) rfl (nI_pos (by omega)) (nI_pos (by omega)) (nI_pos (by omega)) (by rw [nI_clamp (by omega), nI_clamp (by omega)]; omega) (by rw [nI_clamp (by omega), nI_clamp (by omega)]; omega) (Nat.le_of_ble_eq_true rfl) (Nat.le_of_ble_eq_true rfl) d_Search_meet_53 (fun H locs hw hS => ?_)
      rw [nI_clamp (n := 0) (by omega), nI_clamp (n := 6) (by omega)] at hw
      have hw := hW_setRow (t := 0) (j := 10) (by decide) (by omega) (rfl) hw
      obtain ⟨Sb, hsb, hw⟩ := ex_10 hsc2z hw
      exact nw_vret hQ hx hb hr hlocks hw hS (nw_xs_in ex hsb) (Nat.le_of_ble_eq_true rfl) (Nat.le_of_ble_eq_true rfl) d_Search_meet_56
  · skip
    have ex : (mk, sp, bw, tr, be) = meF n I hm ow sq F (mk, sp, bw, tr, be) := (pif_f (fun h => b2_0 c_11 h.1)).symm
    exact nw_vret hQ hx hb hr hlocks hw hS (nw_xs_in ex hsc1z) (Nat.le_of_ble_eq_true rfl) (Nat.le_of_ble_eq_true rfl) d_Search_meet_14

set_option maxHeartbeats 4000000 in
set_option maxRecDepth 100000 in
/-- a node is made, over branch at the next cage -/
theorem c_Search_makeNode_of (l : Launch) (D : va_G) (tC : Nat → ClassId) (A : Nat → Prop) (ad : Nat → Nat) (n : Nat → Nat) (I : Nat → Nat → Int32) (K : Nat → Int32) (LA : Nat → Int64) (bM : Nat → Option va_E) (aM : Nat → Nat → Option (ClassId × Nat)) (F : Nat → Nat → Nat → Int32) (hN : hpN n) (hm : Nat → Nat) (hH : ∀ c, c < n 2 → I 2 c = nI (hm c) ∧ hm c < n 1) (ow : Nat → Nat) (hO : ∀ o, o < n 4 → I 4 o = nI (ow o) ∧ ow o < n 0) (sq : Nat → Nat) (hSq : ∀ k, k < n 4 → F 0 1 k = nI (sq k) ∧ sq k < n 4) (hSo : ∀ q, q < n 4 → ∃ j, j < n 4 ∧ sq j = q) (lim : Nat) (hLim : K 1 = nI lim) (hlim : lim ≤ 5000) (hLA : ∀ c, c ≤ n 2 → LA c = hpS n I ow F (n 2 - c)) (d cg : Nat) (hcg : cg + 1 + d = n 2) (hB : ∀ (tops : Int64) (mk : Nat) (sp : Bool) (bw : Int64) (tr be : Nat → Int32) (S : Nat → Nat → Nat → Int32) (hsc : scr (upR (upR F 0 9 tr) 0 10 be) S) (hmk : mk ≤ lim) (hT : okT n tr), nw_Met l y_Search_branch [Cond.code y_Search_branch b_Search_branch 5 none] ({ frames := 30 + 2 * d, cells := 0, slots := 0, locals := 900 + 60 * d } : Room) D hpC A [.ref (ad 4), .int (nI (cg + 1)), .long tops] (nw_pre D hpC (hpT tC) A (hWx ad tC n I K LA bM aM (mk, sp, bw, tr, be) S) ad) (nw_xs ad tC n I K LA bM aM F (brF n I hm ow sq F lim d (cg + 1) tops (mk, sp, bw, tr, be))) 0 0) (tops : Int64) (mk : Nat) (sp : Bool) (bw : Int64) (tr be : Nat → Int32) (S : Nat → Nat → Nat → Int32) (hsc : scr (upR (upR F 0 9 tr) 0 10 be) S) (hmk : mk ≤ lim) (hT : okT n tr) : nw_Met l y_Search_makeNode [Cond.code y_Search_makeNode b_Search_makeNode 6 none] ({ frames := 31 + 2 * d, cells := 0, slots := 0, locals := 930 + 60 * d } : Room) D hpC A [.ref (ad (4)), .int (nI cg), .long (tops)] (nw_pre D hpC (hpT tC) A (hW ad tC n I (va_up (va_up K 2 (nI mk)) 3 (bI sp)) bw LA bM aM S) ad) (nw_xs ad tC n I K LA bM aM F (mkF n I ow F lim (brF n I hm ow sq F lim d (cg + 1)) cg tops (mk, sp, bw, tr, be))) 0 0 := by
  refine nw_bodyK (by decide) (Nat.le_of_ble_eq_true rfl) ?_
  intro p e s m below meth cd ls args Q hSx hr hlocks hname hA hKs hw hS hl hQ
  obtain ⟨hx, hb, hml, hown, hts⟩ := id hSx
  have hK := hKs.1
  have hl : lv_has ls 6 [(0, .ref (ad (4))), (1, .int (nI cg)), (2, .long (tops))] := hl
  obtain ⟨hn0, hn0', hn1, hn2, hn3, hn4⟩ := id hN
  refine lv_aload_n hx hb d_Search_makeNode_0 rfl (lv_at hl 0 rfl) ?_
  refine nw_get hx hb hts i_Search hown hK hw (4) (hW_4) rfl 8 (by decide) (hts _ kw_170) (fun _ h9 => h9) rfl d_Search_makeNode_1 ?_
  refine lv_ei (y := nI mk) (rfl) ?_
  refine lv_aload_n hx hb d_Search_makeNode_4 rfl (lv_at hl 0 rfl) ?_
  refine nw_get hx hb hts i_Search hown hK hw (4) (hW_4) rfl 7 (by decide) (hts _ kw_169) (fun _ h9 => h9) rfl d_Search_makeNode_5 ?_
  refine lv_ei (y := nI lim) (hLim) ?_
  refine lv_icmp_lt (tgt := 17) hx hb d_Search_makeNode_8 (by decide) (fun c_8 => ?_) (fun c_8 => ?_)
  · skip
    have hmk2 : mk < lim := (nI_ltI (by omega) (by omega)).mp c_8
    refine lv_aload_n hx hb d_Search_makeNode_17 rfl (lv_at hl 0 rfl) ?_
    refine lv_dup hx hb d_Search_makeNode_18 rfl ?_
    refine nw_get hx hb hts i_Search hown hK hw (4) (hW_4) rfl 8 (by decide) (hts _ kw_170) (fun _ h9 => h9) rfl d_Search_makeNode_19 ?_
    refine lv_ei (y := nI mk) (rfl) ?_
    refine lv_iconst (v := nI 1) hx hb d_Search_makeNode_22 (by decide) ?_
    refine lv_iadd hx hb d_Search_makeNode_23 ?_
    refine lv_ei (y := nI (mk + 1)) (nI_add _ _) ?_
    refine nw_put (v := .int (nI (mk + 1))) (ty := .int) hx hb hts i_Search t_Search tk_Search n_Search hown hK hw hS (4) (hW_4) rfl 8 (by decide) (hts _ kw_170) (fun _ h9 => h9) rfl (by decide +kernel) (rfl) (rfl) (Nat.le_of_ble_eq_true rfl) d_Search_makeNode_24 (fun H locs hw hS => ?_)
    have hw := nw_W.as (wn' := hW ad tC n I (va_up (va_up K 2 (nI (mk + 1))) 3 (bI sp)) bw LA bM aM S) (hW_setMade hw) (by rw [kup2])
    refine lv_lload_n hx hb d_Search_makeNode_27 rfl (lv_at hl 2 rfl) ?_
    refine lv_aload_n hx hb d_Search_makeNode_28 rfl (lv_at hl 0 rfl) ?_
    refine nw_get hx hb hts i_Search hown hK hw (4) (hW_4) rfl 0 (by decide) (hts _ kw_161) (fun _ h9 => h9) rfl d_Search_makeNode_29 ?_
    refine lv_iload_n hx hb d_Search_makeNode_32 rfl (lv_at hl 1 rfl) ?_
    refine lv_aload_n hx hb d_Search_makeNode_33 rfl (lv_at hl 0 rfl) ?_
    refine nw_get hx hb hts i_Search hown hK hw (4) (hW_4) rfl 3 (by decide) (hts _ kw_164) (fun _ h9 => h9) rfl d_Search_makeNode_34 ?_
    refine lv_iload_n hx hb d_Search_makeNode_37 rfl (lv_at hl 1 rfl) ?_
    refine nw_iald hx hb hK hw (109) 0 (hW_row (t := 0) (j := 9) (by decide) (by omega) (rfl)) rfl (cg) (rfl) (by omega) (by omega) d_Search_makeNode_38 ?_
    refine lv_ei (y := tr cg) (congrFun (hsc 0 9 (by omega)) _) ?_
    refine lv_ei (y := oI (tkO (tr cg))) ((tkO_eq hn0' hT (by omega)).1) ?_
    refine nw_callD (nw_goVN (n := 2) (As := [.int (nI cg), .int (oI (tkO (tr cg)))]) (rest := [.long (tops)]) hSx hA hKs hw hS (c_Farm_top l D tC A ad n I (va_up (va_up K 2 (nI (mk + 1))) 3 (bI sp)) bw LA bM aM (upR (upR F 0 9 tr) 0 10 be) S hsc hN ow hO cg (by omega) (tkO (tr cg)) ((tkO_eq hn0' hT (by omega)).2)) kw_245 kn_602 kw_244 ks_Farm_top kw_2 rfl rfl (by decide +kernel) ⟨by dsimp only; omega, by dsimp only; omega⟩ (nw_recv hK hw (hW_1) rfl) rfl hl.1 (Nat.le_of_ble_eq_true rfl) d_Search_makeNode_39 ⟨Nat.le_of_ble_eq_true rfl, Nat.le_of_ble_eq_true rfl⟩) hS (fun H locs hw hS => ?_)
    refine lv_el (y := topL n I ow F cg (tkO (tr cg))) (topL_F) ?_
    refine lv_ladd hx hb d_Search_makeNode_42 ?_
    refine lv_lstore (lv' := [(4, .long (((tops) + (topL n I ow F cg (tkO (tr cg)))))), (0, .ref (ad (4))), (1, .int (nI cg)), (2, .long (tops))]) hx hb d_Search_makeNode_43 hl (by decide) rfl (fun ls hl => ?_)
    refine lv_lload hx hb d_Search_makeNode_45 (lv_at hl 0 rfl) ?_
    refine lv_aload_n hx hb d_Search_makeNode_47 rfl (lv_at hl 1 rfl) ?_
    refine nw_get hx hb hts i_Search hown hK hw (4) (hW_4) rfl 5 (by decide) (hts _ kw_167) (fun _ h9 => h9) rfl d_Search_makeNode_48 ?_
    refine lv_iload_n hx hb d_Search_makeNode_51 rfl (lv_at hl 2 rfl) ?_
    refine lv_iconst (v := nI 1) hx hb d_Search_makeNode_52 (by decide) ?_
    refine lv_iadd hx hb d_Search_makeNode_53 ?_
    refine lv_ei (y := nI (cg + 1)) (nI_add _ _) ?_
    refine nw_lald hx hb hK hw (5) 1 (hW_5) rfl (cg + 1) (rfl) (by omega) (by omega) d_Search_makeNode_54 ?_
    refine lv_el (y := hpS n I ow F (n 2 - (cg + 1))) (hLA _ (by omega)) ?_
    refine lv_ladd hx hb d_Search_makeNode_55 ?_
    refine lv_aload_n hx hb d_Search_makeNode_56 rfl (lv_at hl 1 rfl) ?_
    refine nw_get hx hb hts i_Search hown hK hw (4) (hW_4) rfl 6 (by decide) (hts _ kw_168) (fun _ h9 => h9) rfl d_Search_makeNode_57 ?_
    refine W.lcmp hx hb d_Search_makeNode_60 ?_
    refine lv_if_le (tgt := 73) hx hb d_Search_makeNode_61 (by decide) (fun c_61 => ?_) (fun c_61 => ?_)
    · skip
      have ex : (mk + 1, sp, bw, tr, be) = mkF n I ow F lim (brF n I hm ow sq F lim d (cg + 1)) cg tops (mk, sp, bw, tr, be) := by
        simp only [mkF]
        rw [if_neg (by omega), if_neg (Int64.not_lt.mpr ((lg_cmp_le _ _).mp c_61))]
      exact nw_vret hQ hx hb hr hlocks hw hS (nw_xs_in ex hsc) (Nat.le_of_ble_eq_true rfl) (Nat.le_of_ble_eq_true rfl) d_Search_makeNode_73
    · skip
      have ex : brF n I hm ow sq F lim d (cg + 1) (tops + topL n I ow F cg (tkO (tr cg))) (mk + 1, sp, bw, tr, be) = mkF n I ow F lim (brF n I hm ow sq F lim d (cg + 1)) cg tops (mk, sp, bw, tr, be) := by
        simp only [mkF]
        rw [if_neg (by omega), if_pos (Int64.not_le.mp (fun h => c_61 ((lg_cmp_le _ _).mpr h)))]
      refine lv_aload_n hx hb d_Search_makeNode_64 rfl (lv_at hl 1 rfl) ?_
      refine lv_iload_n hx hb d_Search_makeNode_65 rfl (lv_at hl 2 rfl) ?_
      refine lv_iconst (v := nI 1) hx hb d_Search_makeNode_66 (by decide) ?_
      refine lv_iadd hx hb d_Search_makeNode_67 ?_
      refine lv_ei (y := nI (cg + 1)) (nI_add _ _) ?_
      refine lv_lload hx hb d_Search_makeNode_68 (lv_at hl 0 rfl) ?_
      refine nw_call (nw_goV (n := 2) (As := [.int (nI (cg + 1)), .long (((tops) + (topL n I ow F cg (tkO (tr cg)))))]) (rest := []) hSx hA hKs hw hS (hB (((tops) + (topL n I ow F cg (tkO (tr cg))))) (mk + 1) sp bw tr be S hsc (by omega) (hT)) kw_537 kw_534 kw_536 ks_Search_branch kw_6 rfl rfl (by decide +kernel) ⟨by dsimp only; omega, by dsimp only; omega⟩ (nw_recv hK hw (hW_4) rfl) rfl hl.1 (Nat.le_of_ble_eq_true rfl) d_Search_makeNode_70 ⟨Nat.le_of_ble_eq_true rfl, Nat.le_of_ble_eq_true rfl⟩) hS (fun rv wn' ad' H locs hpost hw hS => ?_)
      obtain ⟨hrv1, S1z, hsc1z, hw⟩ := nw_xs_out hpost hw
      subst hrv1
      obtain ⟨z1, hz1⟩ : ∃ z : sX, z = brF n I hm ow sq F lim d (cg + 1) (((tops) + (topL n I ow F cg (tkO (tr cg))))) (mk + 1, sp, bw, tr, be) := ⟨_, rfl⟩
      rw [← hz1] at hw hsc1z
      exact nw_vret hQ hx hb hr hlocks hw hS (nw_xs_in (hz1.trans ex) hsc1z) (Nat.le_of_ble_eq_true rfl) (Nat.le_of_ble_eq_true rfl) d_Search_makeNode_73
  · skip
    have ex : (mk, true, bw, tr, be) = mkF n I ow F lim (brF n I hm ow sq F lim d (cg + 1)) cg tops (mk, sp, bw, tr, be) := (if_pos (Nat.not_lt.mp (fun h => c_8 (nI_lt h (by omega))))).symm
    refine lv_aload_n hx hb d_Search_makeNode_11 rfl (lv_at hl 0 rfl) ?_
    refine lv_iconst (v := nI 1) hx hb d_Search_makeNode_12 (by decide) ?_
    refine nw_put (v := .int (nI 1)) (ty := .boolean) hx hb hts i_Search t_Search tk_Search n_Search hown hK hw hS (4) (hW_4) rfl 9 (by decide) (hts _ kw_172) (fun _ h9 => h9) rfl (by decide +kernel) (rfl) (rfl) (Nat.le_of_ble_eq_true rfl) d_Search_makeNode_13 (fun H locs hw hS => ?_)
    have hw := nw_W.as (wn' := hW ad tC n I (va_up (va_up K 2 (nI mk)) 3 (bI true)) bw LA bM aM S) (hW_setSpent hw) (by rw [kup3]; rfl)
    exact nw_vret hQ hx hb hr hlocks hw hS (nw_xs_in ex hsc) (Nat.le_of_ble_eq_true rfl) (Nat.le_of_ble_eq_true rfl) d_Search_makeNode_16
