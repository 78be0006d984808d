/-! the first week in which a rule is broken -/
noncomputable def ckO (f : Nat → Int32) : Nat → Option Nat
  | 0 => none
  | k + 1 => match ckO f k with
    | some w => some w
    | none => if f k = 0 then none else some k
noncomputable def ckV (f : Nat → Int32) (N : Nat) : Int32 := match ckO f N with
  | none => 0
  | some w => nI 10 * nI w + f w
theorem ckO_0 {f : Nat → Int32} : ∀ {k : Nat}, (∀ j, j < k → f j = 0) → ckO f k = none := by
  intro k
  induction k with
  | zero => intro _; rfl
  | succ k ih =>
    intro h
    simp only [ckO]
    rw [ih (fun j hj => h j (by omega))]
    exact if_pos (h k (by omega))
theorem ckO_s {f : Nat → Int32} {w : Nat} (h : ∀ j, j < w → f j = 0) (h2 : ¬ f w = 0) : ∀ d, ckO f (w + 1 + d) = some w := by
  intro d
  induction d with
  | zero =>
    show ckO f (w + 1) = some w
    simp only [ckO]
    rw [ckO_0 h]
    exact if_neg h2
  | succ d ih =>
    show ckO f (w + 1 + d + 1) = some w
    simp only [ckO]
    rw [ih]
theorem ckV_0 {f : Nat → Int32} {N : Nat} (h : ∀ j, j < N → f j = 0) : nI 0 = ckV f N := by simp only [ckV]; rw [ckO_0 h]; rfl
theorem ckV_s {f : Nat → Int32} {N w : Nat} (h : ∀ j, j < w → f j = 0) (h2 : ¬ f w = 0) (hw : w < N) : nI 10 * nI w + f w = ckV f N := by
  have h3 := ckO_s h h2 (N - (w + 1))
  rw [show w + 1 + (N - (w + 1)) = N by omega] at h3
  simp only [ckV]; rw [h3]
set_option maxHeartbeats 4000000 in
set_option maxRecDepth 100000 in
/-- check -/
theorem c_X_check (l : Launch) (D : va_G) (tC : Nat → ClassId) (A : Nat → Prop) (ad : Nat → Nat) (n : Nat → Nat) (I : Nat → Nat → Int32) (K : Nat → Int32) (bw : Int64) (LA : Nat → Int64) (bM : Nat → Option va_E) (aM : Nat → Nat → Option (ClassId × Nat)) (S : Nat → Nat → Nat → Int32) (hN : hpN n) (s0 : State) (hF : nx_F s0) (hfl : l.stackTraces = false) (hAs : ∀ q, A q → s0.heap.size ≤ q) (hm : Nat → Nat) (hH : ∀ c, c < n 2 → I 2 c = nI (hm c) ∧ hm c < n 1) : nx_M l y_X_check [Cond.code y_X_check b_X_check 3 (some .int)] ({ frames := 7, cells := 1, slots := 6, locals := 130 } : Room) D hpC A [.ref (ad (0))] (nx_pre D hpC (hpT tC) A (hW ad tC n I K bw LA bM aM S) ad s0) (nx_po (¬ (True)) (¬ ((¬ K 0 = 0))) (hW ad tC n I K bw LA bM aM S) ad (nw_sc (some (.int (ckV (fun w => lbI (pPlant n S (S 0 0) w) (pBoats n I S (S 0 0) w) (pClosed n hm S (S 0 0) w) (pHeld n I hm S (S 0 0) w)) (n 0)))) (fun S' => hW ad tC n I K bw LA bM aM S') S ad)) 1 6 := by
  refine nx_bodyK (by decide) (Nat.le_of_ble_eq_true rfl) ?_
  intro p e s m below meth cd ls args Q hSx hr hlocks hout hB hA hKs hw hS hl hQ
  obtain ⟨hx, hb, hml, hown, hts⟩ := id hSx
  have hK := hKs.1
  have hl : lv_has ls 3 [(0, .ref (ad (0)))] := hl
  obtain ⟨hn0, hn0', hn1, hn2, hn3, hn4⟩ := id hN
  refine lv_aload_n hx hb d_X_check_0 rfl (lv_at hl 0 rfl) ?_
  refine nx_callP (nx_goV (n := 0) (As := []) (rest := []) hSx hA hKs hB hAs hw hS (c_X_requirePlan l D tC A ad n I K bw LA bM aM S hN s0 hF hfl hAs) kw_632 kw_629 kw_631 ks_X_requirePlan kw_1 rfl rfl (by decide +kernel) ⟨Nat.le_of_ble_eq_true rfl, Nat.le_of_ble_eq_true rfl⟩ (nw_recv hK hw (hW_0) rfl) rfl hl.1 (Nat.le_of_ble_eq_true rfl) d_X_check_1 ⟨Nat.le_of_ble_eq_true rfl, Nat.le_of_ble_eq_true rfl⟩) hQ hlocks hout hS (Nat.le_of_ble_eq_true rfl) (Nat.le_of_ble_eq_true rfl) (fun Y wn' ad' hpost => ?_) (fun rv wn' ad' H locs hpost hw hS => ?_)
  · skip
    obtain ⟨hY, hw0, had0, hnP⟩ := nx_req_x hpost
    subst hY
    exact ⟨hw0, had0, Or.inr ⟨rfl, fun h => h trivial, hnP⟩⟩
  obtain ⟨hv, hw0, had0, hP1⟩ := nx_req_i hpost
  rw [hw0, had0] at hw
  subst hv
  refine lv_iconst (v := nI 0) hx hb d_X_check_4 (by decide) ?_
  refine lv_istore_n (lv' := [(1, .int (nI 0)), (0, .ref (ad (0)))]) hx hb d_X_check_5 rfl hl (by decide) rfl (fun ls hl => ?_)
  have loop6 : ∀ (k w : Nat) (Sv : Nat → Nat → Nat → Int32), w ≤ n 0 → n 0 + 1 ≤ w + k → (scr S Sv) → (∀ j, j < w → (fun w => lbI (pPlant n S (S 0 0) w) (pBoats n I S (S 0 0) w) (pClosed n hm S (S 0 0) w) (pHeld n I hm S (S 0 0) w)) j = 0) → ∀ (H : Heap) (locs : List Loc) (ls : Array Slot), nw_W D hpC A (hW ad tC n I K bw LA bM aM Sv) ad H → va_S A s.heap H locs → lv_has ls 3 [(0, .ref (ad (0))), (1, .int (nI w))] → W p l e ({ frames := 7, cells := 1, slots := 6, locals := 130 } : Room) s m args below meth cd H locs 1 6 Q (F0 m 6 ls []) := by
    intro k
    induction k with
    | zero => intro w Sv h1 h2; exact absurd h2 (by omega)
    | succ k ih6 =>
      intro w Sv hv6 hk6 hsv hinv H locs ls hw hS hl
      refine lv_iload_n hx hb d_X_check_6 rfl (lv_at hl 1 rfl) ?_
      refine lv_aload_n hx hb d_X_check_7 rfl (lv_at hl 0 rfl) ?_
      refine nw_get hx hb hts i_X hown hK hw (0) (hW_0) rfl 0 (by decide) (hts _ kw_199) (fun _ h9 => h9) rfl d_X_check_8 ?_
      refine nw_getN hx hb hts i_Farm hown hK hw (1) (hW_1) rfl 0 (by decide) (va_Nw.use rfl (hKs.2.2 _ kn_48 rfl)) (fun _ h9 => h9) rfl d_X_check_11 ?_
      refine lv_icmp_ge (tgt := 47) hx hb d_X_check_14 (by decide) (fun c_14 => ?_) (fun c_14 => ?_)
      · skip
        have hge14 : n 0 ≤ w := (nI_leI (by omega) (by omega)).mp c_14
        obtain rfl : n 0 = w := by omega
        have hres : nI 0 = ckV (fun w => lbI (pPlant n S (S 0 0) w) (pBoats n I S (S 0 0) w) (pClosed n hm S (S 0 0) w) (pHeld n I hm S (S 0 0) w)) (n 0) := ckV_0 hinv
        refine lv_iconst (v := nI 0) hx hb d_X_check_47 (by decide) ?_
        exact nx_ret hQ (nw_iret rfl hx hb hr hlocks hw hS (⟨fun h => h trivial, fun h => h hP1, nw_scI hsv hres⟩) (Nat.le_of_ble_eq_true rfl) (Nat.le_of_ble_eq_true rfl) d_X_check_48)
      · skip
        have hlt : w < n 0 := Nat.not_le.mp (fun q => c_14 (nI_le q (by omega)))
        refine lv_aload_n hx hb d_X_check_17 rfl (lv_at hl 0 rfl) ?_
        refine nw_get hx hb hts i_X hown hK hw (0) (hW_0) rfl 1 (by decide) (hts _ kw_200) (fun _ h9 => h9) rfl d_X_check_18 ?_
        refine lv_aload_n hx hb d_X_check_21 rfl (lv_at hl 0 rfl) ?_
        refine nw_get hx hb hts i_X hown hK hw (0) (hW_0) rfl 4 (by decide) (hts _ kw_203) (fun _ h9 => h9) rfl d_X_check_22 ?_
        refine lv_iload_n hx hb d_X_check_25 rfl (lv_at hl 1 rfl) ?_
        refine nw_call (nw_goVN (n := 2) (As := [.ref (ad (100)), .int (nI w)]) (rest := []) hSx hA hKs hw hS (c_Rules_leastBroken l D tC A ad n I K bw LA bM aM S Sv hsv hN 0 (Or.inl rfl) w (by omega) hm hH) kw_637 kn_634 kw_636 ks_Rules_leastBroken kw_4 rfl rfl (by decide +kernel) ⟨Nat.le_of_ble_eq_true rfl, Nat.le_of_ble_eq_true rfl⟩ (nw_recv hK hw (hW_2) rfl) rfl hl.1 (Nat.le_of_ble_eq_true rfl) d_X_check_26 ⟨Nat.le_of_ble_eq_true rfl, Nat.le_of_ble_eq_true rfl⟩) hS (fun rv wn' ad' H locs hpost hw hS => ?_)
        obtain ⟨hrv1, S1z, hsc1z, hw⟩ := nw_sc_out hpost hw
        subst hrv1
        refine lv_istore_n (lv' := [(2, .int (lbI (pPlant n S (S 0 0) w) (pBoats n I S (S 0 0) w) (pClosed n hm S (S 0 0) w) (pHeld n I hm S (S 0 0) w))), (0, .ref (ad (0))), (1, .int (nI w))]) hx hb d_X_check_29 rfl hl (by decide) rfl (fun ls hl => ?_)
        refine lv_iload_n hx hb d_X_check_30 rfl (lv_at hl 0 rfl) ?_
        refine lv_if_eq (tgt := 41) hx hb d_X_check_31 (by decide) (fun c_31 => ?_) (fun c_31 => ?_)
        · skip
          have hinv' : ∀ j, j < w + 1 → (fun w => lbI (pPlant n S (S 0 0) w) (pBoats n I S (S 0 0) w) (pClosed n hm S (S 0 0) w) (pHeld n I hm S (S 0 0) w)) j = 0 := lt_s hinv c_31
          refine lv_iinc (v := nI (w + 1)) (lv' := [(1, .int (nI (w + 1))), (2, .int (lbI (pPlant n S (S 0 0) w) (pBoats n I S (S 0 0) w) (pClosed n hm S (S 0 0) w) (pHeld n I hm S (S 0 0) w))), (0, .ref (ad (0)))]) hx hb d_X_check_41 hl (k := 2) rfl ((nI_succ _).symm) (by decide) rfl (fun ls hl => ?_)
          refine lv_goto (tgt := 6) hx hb d_X_check_44 (by decide) ?_
          exact ih6 (w + 1) (_) (by omega) (by omega) (hsc1z) (hinv') _ _ ls hw hS (lv_sub hl [2, 0] rfl)
        · skip
          have hres : nI 10 * nI w + (fun w => lbI (pPlant n S (S 0 0) w) (pBoats n I S (S 0 0) w) (pClosed n hm S (S 0 0) w) (pHeld n I hm S (S 0 0) w)) w = ckV (fun w => lbI (pPlant n S (S 0 0) w) (pBoats n I S (S 0 0) w) (pClosed n hm S (S 0 0) w) (pHeld n I hm S (S 0 0) w)) (n 0) := ckV_s hinv c_31 hlt
          refine lv_bipush (v := nI 10) hx hb d_X_check_34 (by decide) ?_
          refine lv_iload_n hx hb d_X_check_36 rfl (lv_at hl 2 rfl) ?_
          refine lv_imul hx hb d_X_check_37 ?_
          refine lv_iload_n hx hb d_X_check_38 rfl (lv_at hl 0 rfl) ?_
          refine lv_iadd hx hb d_X_check_39 ?_
          exact nx_ret hQ (nw_iret rfl hx hb hr hlocks hw hS (⟨fun h => h trivial, fun h => h hP1, nw_scI hsc1z hres⟩) (Nat.le_of_ble_eq_true rfl) (Nat.le_of_ble_eq_true rfl) d_X_check_40)
  exact loop6 (n 0 + 1) (0) (_) (by omega) (by omega) (scr_rf) (fun j hj => absurd hj (Nat.not_lt_zero j)) _ _ ls hw hS (lv_sub hl [1, 0] rfl)

set_option maxHeartbeats 4000000 in
set_option maxRecDepth 100000 in
/-- worth -/
theorem c_X_worth (l : Launch) (D : va_G) (tC : Nat → ClassId) (A : Nat → Prop) (ad : Nat → Nat) (n : Nat → Nat) (I : Nat → Nat → Int32) (K : Nat → Int32) (bw : Int64) (LA : Nat → Int64) (bM : Nat → Option va_E) (aM : Nat → Nat → Option (ClassId × Nat)) (S : Nat → Nat → Nat → Int32) (hN : hpN n) (s0 : State) (hF : nx_F s0) (hfl : l.stackTraces = false) (hAs : ∀ q, A q → s0.heap.size ≤ q) (ow : Nat → Nat) (hO : ∀ o, o < n 4 → I 4 o = nI (ow o) ∧ ow o < n 0) (hPl : okT n (S 0 0)) (sq : Nat → Nat) (hSq : ∀ k, k < n 4 → S 0 1 k = nI (sq k) ∧ sq k < n 4) (hSo : ∀ q, q < n 4 → ∃ j, j < n 4 ∧ sq j = q) : nx_M l y_X_worth [Cond.code y_X_worth b_X_worth 1 (some .long)] ({ frames := 7, cells := 1, slots := 6, locals := 130 } : Room) D hpC A [.ref (ad (0))] (nx_pre D hpC (hpT tC) A (hW ad tC n I K bw LA bM aM S) ad s0) (nx_po (¬ (True)) (¬ ((¬ K 0 = 0))) (hW ad tC n I K bw LA bM aM S) ad (nw_sc (some (.long (wrL n I ow sq S (S 0 0)))) (fun S' => hW ad tC n I K bw LA bM aM S') S ad)) 1 6 := by
  refine nx_bodyK (by decide) (Nat.le_of_ble_eq_true rfl) ?_
  intro p e s m below meth cd ls args Q hSx hr hlocks hout hB hA hKs hw hS hl hQ
  obtain ⟨hx, hb, hml, hown, hts⟩ := id hSx
  have hK := hKs.1
  have hl : lv_has ls 1 [(0, .ref (ad (0)))] := hl
  obtain ⟨hn0, hn0', hn1, hn2, hn3, hn4⟩ := id hN
  refine lv_aload_n hx hb d_X_worth_0 rfl (lv_at hl 0 rfl) ?_
  refine nx_callP (nx_goV (n := 0) (As := []) (rest := []) hSx hA hKs hB hAs hw hS (c_X_requirePlan l D tC A ad n I K bw LA bM aM S hN s0 hF hfl hAs) kw_632 kw_629 kw_631 ks_X_requirePlan kw_1 rfl rfl (by decide +kernel) ⟨Nat.le_of_ble_eq_true rfl, Nat.le_of_ble_eq_true rfl⟩ (nw_recv hK hw (hW_0) rfl) rfl hl.1 (Nat.le_of_ble_eq_true rfl) d_X_worth_1 ⟨Nat.le_of_ble_eq_true rfl, Nat.le_of_ble_eq_true rfl⟩) hQ hlocks hout hS (Nat.le_of_ble_eq_true rfl) (Nat.le_of_ble_eq_true rfl) (fun Y wn' ad' hpost => ?_) (fun rv wn' ad' H locs hpost hw hS => ?_)
  · skip
    obtain ⟨hY, hw0, had0, hnP⟩ := nx_req_x hpost
    subst hY
    exact ⟨hw0, had0, Or.inr ⟨rfl, fun h => h trivial, hnP⟩⟩
  obtain ⟨hv, hw0, had0, hP1⟩ := nx_req_i hpost
  rw [hw0, had0] at hw
  subst hv
  refine lv_aload_n hx hb d_X_worth_4 rfl (lv_at hl 0 rfl) ?_
  refine nw_get hx hb hts i_X hown hK hw (0) (hW_0) rfl 2 (by decide) (hts _ kw_201) (fun _ h9 => h9) rfl d_X_worth_5 ?_
  refine lv_aload_n hx hb d_X_worth_8 rfl (lv_at hl 0 rfl) ?_
  refine nw_get hx hb hts i_X hown hK hw (0) (hW_0) rfl 4 (by decide) (hts _ kw_203) (fun _ h9 => h9) rfl d_X_worth_9 ?_
  refine nw_call (nw_goVN (n := 1) (As := [.ref (ad (100))]) (rest := []) hSx hA hKs hw hS (c_Sales_sellAll l D tC A ad n I K bw LA bM aM S S scr_rf hN 0 (Or.inl rfl) (hPl) ow hO sq hSq hSo) kw_554 kn_645 kw_553 ks_Sales_sellAll kw_5 rfl rfl (by decide +kernel) ⟨Nat.le_of_ble_eq_true rfl, Nat.le_of_ble_eq_true rfl⟩ (nw_recv hK hw (hW_3) rfl) rfl hl.1 (Nat.le_of_ble_eq_true rfl) d_X_worth_12 ⟨Nat.le_of_ble_eq_true rfl, Nat.le_of_ble_eq_true rfl⟩) hS (fun rv wn' ad' H locs hpost hw hS => ?_)
  obtain ⟨hrv1, S1z, hsc1z, hX1, hw⟩ := nw_sx_out hpost hw
  subst hrv1
  exact nx_ret hQ (nw_lret rfl hx hb hr hlocks hw hS (⟨fun h => h trivial, fun h => h hP1, ⟨rfl, rfl, _, hsc1z, rfl⟩⟩) (Nat.le_of_ble_eq_true rfl) (Nat.le_of_ble_eq_true rfl) d_X_worth_15)

set_option maxHeartbeats 4000000 in
set_option maxRecDepth 100000 in
/-- sold -/
theorem c_X_sold (l : Launch) (D : va_G) (tC : Nat → ClassId) (A : Nat → Prop) (ad : Nat → Nat) (n : Nat → Nat) (I : Nat → Nat → Int32) (K : Nat → Int32) (bw : Int64) (LA : Nat → Int64) (bM : Nat → Option va_E) (aM : Nat → Nat → Option (ClassId × Nat)) (S : Nat → Nat → Nat → Int32) (hN : hpN n) (s0 : State) (hF : nx_F s0) (hfl : l.stackTraces = false) (hAs : ∀ q, A q → s0.heap.size ≤ q) (x1 : Int32) (ow : Nat → Nat) (hO : ∀ o, o < n 4 → I 4 o = nI (ow o) ∧ ow o < n 0) (hPl : okT n (S 0 0)) (sq : Nat → Nat) (hSq : ∀ k, k < n 4 → S 0 1 k = nI (sq k) ∧ sq k < n 4) (hSo : ∀ q, q < n 4 → ∃ j, j < n 4 ∧ sq j = q) : nx_M l y_X_sold [Cond.code y_X_sold b_X_sold 2 (some .int)] ({ frames := 7, cells := 2, slots := 12, locals := 131 } : Room) D hpC A [.ref (ad (0)), .int (x1)] (nx_pre D hpC (hpT tC) A (hW ad tC n I K bw LA bM aM S) ad s0) (nx_po (¬ ((0 ≤ x1 ∧ x1 < nI (n 4)))) (¬ ((¬ K 0 = 0))) (hW ad tC n I K bw LA bM aM S) ad (nw_sc (some (.int ((saF n I ow sq S (S 0 0)).2.1 (x1.toNatClampNeg)))) (fun S' => hW ad tC n I K bw LA bM aM S') S ad)) 2 12 := by
  refine nx_bodyK (by decide) (Nat.le_of_ble_eq_true rfl) ?_
  intro p e s m below meth cd ls args Q hSx hr hlocks hout hB hA hKs hw hS hl hQ
  obtain ⟨hx, hb, hml, hown, hts⟩ := id hSx
  have hK := hKs.1
  have hl : lv_has ls 2 [(0, .ref (ad (0))), (1, .int (x1))] := hl
  obtain ⟨hn0, hn0', hn1, hn2, hn3, hn4⟩ := id hN
  refine lv_iload_n hx hb d_X_sold_0 rfl (lv_at hl 1 rfl) ?_
  refine lv_aload_n hx hb d_X_sold_1 rfl (lv_at hl 0 rfl) ?_
  refine nw_get hx hb hts i_X hown hK hw (0) (hW_0) rfl 0 (by decide) (hts _ kw_199) (fun _ h9 => h9) rfl d_X_sold_2 ?_
  refine nw_getN hx hb hts i_Farm hown hK hw (1) (hW_1) rfl 10 (by decide) (va_Nw.use rfl (hKs.2.2 _ kn_81 rfl)) (fun _ h9 => h9) rfl d_X_sold_5 ?_
  refine nx_callP (nx_goS (n := 2) (As := [.int (x1), .int (nI (n 4))]) (rest := []) hSx hA hKs hB hAs hw hS (c_X_requireOneOf l D tC A ad (hW ad tC n I K bw LA bM aM S) s0 hF hfl hAs (x1) (nI (n 4))) kw_391 kw_389 kw_390 kw_1 rfl rfl (by decide +kernel) ⟨Nat.le_of_ble_eq_true rfl, Nat.le_of_ble_eq_true rfl⟩ rfl hl.1 (Nat.le_of_ble_eq_true rfl) d_X_sold_8 ⟨Nat.le_of_ble_eq_true rfl, Nat.le_of_ble_eq_true rfl⟩) hQ hlocks hout hS (Nat.le_of_ble_eq_true rfl) (Nat.le_of_ble_eq_true rfl) (fun Y wn' ad' hpost => ?_) (fun rv wn' ad' H locs hpost hw hS => ?_)
  · skip
    obtain ⟨hY, hw0, had0, hnP⟩ := nx_req_x hpost
    subst hY
    exact ⟨hw0, had0, Or.inl ⟨rfl, fun h => hnP (h)⟩⟩
  obtain ⟨hv, hw0, had0, hP1⟩ := nx_req_i hpost
  rw [hw0, had0] at hw
  subst hv
  obtain ⟨i1, rfl, hi1⟩ := nat_of (by omega) hP1
  refine lv_aload_n hx hb d_X_sold_11 rfl (lv_at hl 0 rfl) ?_
  refine nx_callP (nx_goV (n := 0) (As := []) (rest := []) hSx hA hKs hB hAs hw hS (c_X_requirePlan l D tC A ad n I K bw LA bM aM S hN s0 hF hfl hAs) kw_632 kw_629 kw_631 ks_X_requirePlan kw_1 rfl rfl (by decide +kernel) ⟨Nat.le_of_ble_eq_true rfl, Nat.le_of_ble_eq_true rfl⟩ (nw_recv hK hw (hW_0) rfl) rfl hl.1 (Nat.le_of_ble_eq_true rfl) d_X_sold_12 ⟨Nat.le_of_ble_eq_true rfl, Nat.le_of_ble_eq_true rfl⟩) hQ hlocks hout hS (Nat.le_of_ble_eq_true rfl) (Nat.le_of_ble_eq_true rfl) (fun Y wn' ad' hpost => ?_) (fun rv wn' ad' H locs hpost hw hS => ?_)
  · skip
    obtain ⟨hY, hw0, had0, hnP⟩ := nx_req_x hpost
    subst hY
    exact ⟨hw0, had0, Or.inr ⟨rfl, fun h => h hP1, hnP⟩⟩
  obtain ⟨hv, hw0, had0, hP2⟩ := nx_req_i hpost
  rw [hw0, had0] at hw
  subst hv
  refine lv_aload_n hx hb d_X_sold_15 rfl (lv_at hl 0 rfl) ?_
  refine nw_get hx hb hts i_X hown hK hw (0) (hW_0) rfl 2 (by decide) (hts _ kw_201) (fun _ h9 => h9) rfl d_X_sold_16 ?_
  refine lv_aload_n hx hb d_X_sold_19 rfl (lv_at hl 0 rfl) ?_
  refine nw_get hx hb hts i_X hown hK hw (0) (hW_0) rfl 4 (by decide) (hts _ kw_203) (fun _ h9 => h9) rfl d_X_sold_20 ?_
  refine nw_call (nw_goVN (n := 1) (As := [.ref (ad (100))]) (rest := []) hSx hA hKs hw hS (c_Sales_sellAll l D tC A ad n I K bw LA bM aM S S scr_rf hN 0 (Or.inl rfl) (hPl) ow hO sq hSq hSo) kw_554 kn_645 kw_553 ks_Sales_sellAll kw_5 rfl rfl (by decide +kernel) ⟨Nat.le_of_ble_eq_true rfl, Nat.le_of_ble_eq_true rfl⟩ (nw_recv hK hw (hW_3) rfl) rfl hl.1 (Nat.le_of_ble_eq_true rfl) d_X_sold_23 ⟨Nat.le_of_ble_eq_true rfl, Nat.le_of_ble_eq_true rfl⟩) hS (fun rv wn' ad' H locs hpost hw hS => ?_)
  obtain ⟨hrv1, S1z, hsc1z, hX1, hw⟩ := nw_sx_out hpost hw
  subst hrv1
  refine lv_pop2_2 hx hb d_X_sold_26 rfl ?_
  refine lv_aload_n hx hb d_X_sold_27 rfl (lv_at hl 0 rfl) ?_
  refine nw_get hx hb hts i_X hown hK hw (0) (hW_0) rfl 2 (by decide) (hts _ kw_201) (fun _ h9 => h9) rfl d_X_sold_28 ?_
  refine nw_getN hx hb hts i_Sales hown hK hw (3) (hW_3) rfl 2 (by decide) (va_Nw.use rfl (hKs.2.2 _ kn_146 rfl)) (fun _ h9 => h9) rfl d_X_sold_31 ?_
  refine lv_iload_n hx hb d_X_sold_34 rfl (lv_at hl 1 rfl) ?_
  refine nw_iald hx hb hK hw (108) 0 (hW_row (t := 0) (j := 8) (by decide) (by omega) (rfl)) rfl (i1) (rfl) (by omega) (by omega) d_X_sold_35 ?_
  refine lv_ei (y := (saF n I ow sq S (S 0 0)).2.1 i1) (hX1 i1 hi1) ?_
  exact nx_ret hQ (nw_iret rfl hx hb hr hlocks hw hS (⟨fun h => h hP1, fun h => h hP2, by rw [nI_clamp (n := i1) (by omega)]; exact ⟨rfl, rfl, _, hsc1z, rfl⟩⟩) (Nat.le_of_ble_eq_true rfl) (Nat.le_of_ble_eq_true rfl) d_X_sold_36)
