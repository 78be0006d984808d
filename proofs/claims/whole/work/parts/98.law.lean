/-! THE LAW'S LOOP AND ITS START -/
theorem LR_start {w : Nat} (hw : 1 ≤ w ∧ w ≤ 8) : LR (n00 w) (fun _ _ => 0) (va_up (fun _ => 0) 0 (nI 0)) (fun _ => 0) (zM (upR (fun _ _ _ => 0) 0 0 (flR (fun _ => 0) (-1) 6))) := by
  have r0 : ∀ m : Int, 0 ≤ m → rg 0 m := fun m hm => ⟨by rw [i32_0]; exact Int.le_refl _, by rw [i32_0]; exact hm⟩
  have z : ∀ k, k ≠ 0 → n00 w k = 0 := fun k hk => if_neg hk
  have no : ∀ {j k : Nat} {P : Prop}, k ≠ 0 → j < n00 w k → P := fun hk h => by rw [z _ hk] at h; exact absurd h (Nat.not_lt_zero _)
  refine ⟨fun _ => 0, fun _ => 0, fun _ => 0, ⟨⟨hw.1, hw.2, by rw [z 1 (by decide)]; decide, by rw [z 2 (by decide)]; decide, by rw [z 3 (by decide)]; decide, by rw [z 4 (by decide)]; decide⟩, ⟨⟨rfl, rfl⟩, r0 _ (by decide), r0 _ (by decide)⟩, fun p hp => no (by decide) hp, fun c hc => no (by decide) hc, fun c hc => no (by decide) hc, fun c _ => ⟨rfl, r0 _ (by decide)⟩, fun c hc => no (by decide) hc, fun c hc => no (by decide) hc, fun c hc => no (by decide) hc, fun i j _ hj => no (by decide) hj⟩, ⟨fun c hc => no (by decide) hc, fun c hc => no (by decide) hc, ⟨fun _ _ => rfl, fun _ _ => ⟨rfl, rfl⟩, fun _ _ => rfl⟩, ⟨fun _ _ => Or.inl rfl, fun _ _ => Or.inl rfl, fun _ => Or.inl rfl, fun _ => Or.inl rfl⟩⟩, ⟨rfl, rfl⟩, Or.inl ⟨rfl, fl_no⟩⟩
set_option maxHeartbeats 4000000 in
set_option maxRecDepth 100000 in
/-- the law's loop -/
theorem law_loop {p : Program} {l : Launch} {e : Env} {s : State} {m : MethodId} {args : Array Value} {below : List Frame} {meth : Method} {cd : Code} {Q : State → Prop} {D : va_G} {tC : Nat → ClassId} {A : Nat → Prop} {b N : Nat} {xs : Nat → Int32} (hSx : CallFix p m cd b_L_law 8 s args nw_T "HarvestPlansLaw") (hA : ∀ q, s.heap.size ≤ q → A q) (hAs : ∀ q, A q → s.heap.size ≤ q) (hKs : nw_K D hpC (hpT tC) s) (hF : nx_F s) (hfl : l.stackTraces = false) (hX : va_X b N xs s s.heap) (hbl : b < s.heap.size) (hbA : ¬ A b) (hN3 : N ≤ 3073) (hExit : ∀ (H : Heap) (locs : List Loc) (ls : Array Slot) (k' n' : Nat), k' ≤ 669896 → n' ≤ 7086383 → va_S A s.heap H locs → W p l e room_1 s m args below meth cd H locs k' n' Q (F0 m 1174 ls [])) :
    ∀ (k i : Nat) (ad : Nat → Nat) (n : Nat → Nat) (I : Nat → Nat → Int32) (K : Nat → Int32) (bw : Int64) (LA : Nat → Int64) (J : Nat → Int32) (bw2 : Int64) (L : Nat → Nat → Int64) (o : Nat → Int64) (S : Nat → Nat → Nat → Int32), 6 * i ≤ N → N + 1 ≤ 6 * i + k → LR n I K J S → ∀ (H : Heap) (locs : List Loc) (ls : Array Slot), nw_W D hpC A (cW ad tC n I K bw LA n J bw2 L o S) ad H → va_S A s.heap H locs → lv_has ls 8 [(0, .ref (b)), (1, .ref (ad (0))), (2, .ref (ad (64))), (3, .ref (ad (69))), (4, .int (nI (1 + 6 * i)))] → W p l e room_1 s m args below meth cd H locs (60 + 12 * i) (500 + 120 * i) Q (F0 m 33 ls []) := by
  obtain ⟨hx, hb, hml, hown, hts⟩ := id hSx
  have hK := hKs.1
  intro k
  induction k with
  | zero => intro i ad n I K bw LA J bw2 L o S h1 h2; exact absurd h2 (by omega)
  | succ k ih =>
    intro i ad n I K bw LA J bw2 L o S hi6 hik hL H locs ls hw hS hl
    refine lv_iload hx hb d_L_law_33 (lv_at hl 4 rfl) ?_
    refine lv_aload_n hx hb d_L_law_35 rfl (lv_at hl 0 rfl) ?_
    refine va_slen hx hb hX hbl hbA hS d_L_law_36 ?_
    refine lv_bipush (v := nI 6) hx hb d_L_law_37 (by decide) ?_
    refine lv_isub hx hb d_L_law_39 ?_
    refine lv_icmp_gt (tgt := 1174) hx hb d_L_law_40 (by decide) (fun c_40 => ?_) (fun c_40 => ?_)
    · exact hExit H locs ls _ _ (by omega) (by omega) hS
    have hi : 1 + 6 * i + 6 ≤ N := by
      have a := Int32.not_lt.mp c_40
      rw [Int32.le_iff_toInt_le, nI_toInt (by omega), show (Int32.ofNat N - nI 6).toInt = (N : Int) - 6 from pk_sub_toInt (a := N) (b := 6) (by omega) (by omega)] at a
      omega
    have hNext : ∀ (ad : Nat → Nat) (n : Nat → Nat) (I : Nat → Nat → Int32) (K : Nat → Int32) (bw : Int64) (LA : Nat → Int64) (J : Nat → Int32) (bw2 : Int64) (L : Nat → Nat → Int64) (o : Nat → Int64) (S : Nat → Nat → Nat → Int32), LR n I K J S → ∀ (H : Heap) (locs : List Loc) (ls : Array Slot), nw_W D hpC A (cW ad tC n I K bw LA n J bw2 L o S) ad H → va_S A s.heap H locs → lv_has ls 8 [(0, .ref (b)), (1, .ref (ad (0))), (2, .ref (ad (64))), (3, .ref (ad (69))), (4, .int (nI (1 + 6 * i)))] → W p l e room_1 s m args below meth cd H locs (60 + 12 * i + 12) (500 + 120 * i + 120) Q (F0 m 1168 ls []) := by
      intro ad n I K bw LA J bw2 L o S hL H locs ls hw hS hl
      refine lv_iinc (v := nI (1 + 6 * (i + 1))) (lv' := [(4, .int (nI (1 + 6 * (i + 1)))), (0, .ref (b)), (1, .ref (ad (0))), (2, .ref (ad (64))), (3, .ref (ad (69)))]) hx hb d_L_law_1168 hl (k := 4) rfl (by show nI (1 + 6 * i) + nI 6 = _; rw [nI_add]; congr 1) (by decide) rfl (fun ls hl => ?_)
      refine lv_goto (tgt := 33) hx hb d_L_law_1171 (by decide) ?_
      have h9 := ih (i + 1) ad n I K bw LA J bw2 L o S (by omega) (by omega) hL H locs ls hw hS (lv_sub hl [1, 2, 3, 4, 0] rfl)
      rw [show 60 + 12 * i + 12 = 60 + 12 * (i + 1) by omega, show 500 + 120 * i + 120 = 500 + 120 * (i + 1) by omega]
      exact h9
    refine lv_aload_n hx hb d_L_law_43 rfl (lv_at hl 0 rfl) ?_
    refine lv_iload hx hb d_L_law_44 (lv_at hl 4 rfl) ?_
    refine va_sld hx hb hX hbl hbA hS (vp_in_nI (by omega) (by omega)) d_L_law_46 ?_
    refine lv_bipush (v := nI 31) hx hb d_L_law_47 (by decide) ?_
    refine lv_iand hx hb d_L_law_49 ?_
    generalize (xs (nI (1 + 6 * i)).toNatClampNeg &&& nI 31) = sw
    by_cases hout : sw.toInt < 0 ∨ 16 < sw.toInt
    · refine lv_tableOut hx hb d_L_law_50 hout (tgt := 1168) (by decide) ?_
      exact hNext ad n I K bw LA J bw2 L o S hL H locs ls hw hS hl |> W.widen (by omega) (by omega)
    obtain ⟨t, ht, htv⟩ : ∃ t : Nat, t ≤ 16 ∧ sw.toInt = (t : Int) := ⟨sw.toInt.toNat, by omega, by omega⟩
    have ht' : t = 0 ∨ t = 1 ∨ t = 2 ∨ t = 3 ∨ t = 4 ∨ t = 5 ∨ t = 6 ∨ t = 7 ∨ t = 8 ∨ t = 9 ∨ t = 10 ∨ t = 11 ∨ t = 12 ∨ t = 13 ∨ t = 14 ∨ t = 15 ∨ t = 16 := by omega
    rcases ht' with rfl | rfl | rfl | rfl | rfl | rfl | rfl | rfl | rfl | rfl | rfl | rfl | rfl | rfl | rfl | rfl | rfl
    · refine lv_tableIn hx hb d_L_law_50 (by omega) (by omega) (off := 82) (tgt := 132) (by rw [htv]; rfl) (by decide) ?_
      exact law_0 hSx hA hAs hKs hF hfl hX hbl hbA hN3 (by omega) (by omega) hi hNext ad n I K bw LA J bw2 L o S hL H locs ls hw hS hl
    · refine lv_tableIn hx hb d_L_law_50 (by omega) (by omega) (off := 138) (tgt := 188) (by rw [htv]; rfl) (by decide) ?_
      exact law_1 hSx hA hAs hKs hF hfl hX hbl hbA hN3 (by omega) (by omega) hi hNext ad n I K bw LA J bw2 L o S hL H locs ls hw hS hl
    · refine lv_tableIn hx hb d_L_law_50 (by omega) (by omega) (off := 241) (tgt := 291) (by rw [htv]; rfl) (by decide) ?_
      exact law_2 hSx hA hAs hKs hF hfl hX hbl hbA hN3 (by omega) (by omega) hi hNext ad n I K bw LA J bw2 L o S hL H locs ls hw hS hl
    · refine lv_tableIn hx hb d_L_law_50 (by omega) (by omega) (off := 297) (tgt := 347) (by rw [htv]; rfl) (by decide) ?_
      exact law_3 hSx hA hAs hKs hF hfl hX hbl hbA hN3 (by omega) (by omega) hi hNext ad n I K bw LA J bw2 L o S hL H locs ls hw hS hl
    · refine lv_tableIn hx hb d_L_law_50 (by omega) (by omega) (off := 389) (tgt := 439) (by rw [htv]; rfl) (by decide) ?_
      exact law_4 hSx hA hAs hKs hF hfl hX hbl hbA hN3 (by omega) (by omega) hi hNext ad n I K bw LA J bw2 L o S hL H locs ls hw hS hl
    · refine lv_tableIn hx hb d_L_law_50 (by omega) (by omega) (off := 445) (tgt := 495) (by rw [htv]; rfl) (by decide) ?_
      exact law_5 hSx hA hAs hKs hF hfl hX hbl hbA hN3 (by omega) (by omega) hi hNext ad n I K bw LA J bw2 L o S hL H locs ls hw hS hl
    · refine lv_tableIn hx hb d_L_law_50 (by omega) (by omega) (off := 548) (tgt := 598) (by rw [htv]; rfl) (by decide) ?_
      exact law_6 hSx hA hAs hKs hF hfl hX hbl hbA hN3 (by omega) (by omega) hi hNext ad n I K bw LA J bw2 L o S hL H locs ls hw hS hl
    · refine lv_tableIn hx hb d_L_law_50 (by omega) (by omega) (off := 616) (tgt := 666) (by rw [htv]; rfl) (by decide) ?_
      exact law_7 hSx hA hAs hKs hF hfl hX hbl hbA hN3 (by omega) (by omega) hi hNext ad n I K bw LA J bw2 L o S hL H locs ls hw hS hl
    · refine lv_tableIn hx hb d_L_law_50 (by omega) (by omega) (off := 720) (tgt := 770) (by rw [htv]; rfl) (by decide) ?_
      exact law_8 hSx hA hAs hKs hF hfl hX hbl hbA hN3 (by omega) (by omega) hi hNext ad n I K bw LA J bw2 L o S hL H locs ls hw hS hl
    · refine lv_tableIn hx hb d_L_law_50 (by omega) (by omega) (off := 768) (tgt := 818) (by rw [htv]; rfl) (by decide) ?_
      exact law_9 hSx hA hAs hKs hF hfl hX hbl hbA hN3 (by omega) (by omega) hi hNext ad n I K bw LA J bw2 L o S hL H locs ls hw hS hl
    · refine lv_tableIn hx hb d_L_law_50 (by omega) (by omega) (off := 824) (tgt := 874) (by rw [htv]; rfl) (by decide) ?_
      exact law_10 hSx hA hAs hKs hF hfl hX hbl hbA hN3 (by omega) (by omega) hi hNext ad n I K bw LA J bw2 L o S hL H locs ls hw hS hl
    · refine lv_tableIn hx hb d_L_law_50 (by omega) (by omega) (off := 837) (tgt := 887) (by rw [htv]; rfl) (by decide) ?_
      exact law_11 hSx hA hAs hKs hF hfl hX hbl hbA hN3 (by omega) (by omega) hi hNext ad n I K bw LA J bw2 L o S hL H locs ls hw hS hl
    · refine lv_tableIn hx hb d_L_law_50 (by omega) (by omega) (off := 851) (tgt := 901) (by rw [htv]; rfl) (by decide) ?_
      exact law_12 hSx hA hAs hKs hF hfl hX hbl hbA hN3 (by omega) (by omega) hi hNext ad n I K bw LA J bw2 L o S hL H locs ls hw hS hl
    · refine lv_tableIn hx hb d_L_law_50 (by omega) (by omega) (off := 919) (tgt := 969) (by rw [htv]; rfl) (by decide) ?_
      exact law_13 hSx hA hAs hKs hF hfl hX hbl hbA hN3 (by omega) (by omega) hi hNext ad n I K bw LA J bw2 L o S hL H locs ls hw hS hl
    · refine lv_tableIn hx hb d_L_law_50 (by omega) (by omega) (off := 975) (tgt := 1025) (by rw [htv]; rfl) (by decide) ?_
      exact law_14 hSx hA hAs hKs hF hfl hX hbl hbA hN3 (by omega) (by omega) hi hNext ad n I K bw LA J bw2 L o S hL H locs ls hw hS hl
    · refine lv_tableIn hx hb d_L_law_50 (by omega) (by omega) (off := 1019) (tgt := 1069) (by rw [htv]; rfl) (by decide) ?_
      exact law_15 hSx hA hAs hKs hF hfl hX hbl hbA hN3 (by omega) (by omega) hi hNext ad n I K bw LA J bw2 L o S hL H locs ls hw hS hl
    · refine lv_tableIn hx hb d_L_law_50 (by omega) (by omega) (off := 1062) (tgt := 1112) (by rw [htv]; rfl) (by decide) ?_
      exact law_16 hSx hA hAs hKs hF hfl hX hbl hbA hN3 (by omega) (by omega) hi hNext ad n I K bw LA J bw2 L o S hL H locs ls hw hS hl
set_option maxHeartbeats 4000000 in
set_option maxRecDepth 100000 in
/-- the law, from its start to its loop -/
theorem law_start {p : Program} {l : Launch} {e : Env} {s : State} {m : MethodId} {args : Array Value} {below : List Frame} {meth : Method} {cd : Code} {Q : State → Prop} {D : va_G} {tC : Nat → ClassId} {A : Nat → Prop} {b N : Nat} {xs : Nat → Int32} (hSx : CallFix p m cd b_L_law 8 s args nw_T "HarvestPlansLaw") (hA : ∀ q, s.heap.size ≤ q → A q) (hAs : ∀ q, A q → s.heap.size ≤ q) (hKs : nw_K D hpC (hpT tC) s) (hF : nx_F s) (hfl : l.stackTraces = false) (hX : va_X b N xs s s.heap) (hbl : b < s.heap.size) (hbA : ¬ A b) (hN3 : N ≤ 3073) (hExit : ∀ (H : Heap) (locs : List Loc) (ls : Array Slot) (k' n' : Nat), k' ≤ 669896 → n' ≤ 7086383 → va_S A s.heap H locs → W p l e room_1 s m args below meth cd H locs k' n' Q (F0 m 1174 ls [])) (ls : Array Slot) (hl : lv_has ls 8 [(0, .ref (b))]) : W p l e room_1 s m args below meth cd s.heap [] 0 0 Q (F0 m 0 ls []) := by
  obtain ⟨hx, hb, hml, hown, hts⟩ := id hSx
  have hK := hKs.1
  have hS : va_S A s.heap s.heap [] := va_S.rf
  have hw : nw_W D hpC A (fun _ => none) (fun _ => 0) s.heap := ⟨[], (fun k q h => by simp at h), ⟨(fun i j p q h => by simp at h), (fun k q h => by simp at h)⟩, (fun k e h => by simp at h), (fun j k x y h => by simp at h)⟩
  refine nw_new (fs := [.null, .null, .null, .null, .null, .int (nI 0)]) hx hb hts i_X t_X tk_X hown (hts _ kw_19) (hts _ kw_20) (hts _ kw_1) hK hw hS hA (0) (rfl) (ci := 0) rfl (by intro j hj; revert j; decide) (Nat.le_of_ble_eq_true rfl) (Nat.le_of_ble_eq_true rfl) d_L_law_0 (fun ad1 H had1 hw hS => ?_)
  refine lv_dup hx hb d_L_law_3 rfl ?_
  refine lv_aload_n hx hb d_L_law_4 rfl (lv_at hl 0 rfl) ?_
  refine lv_iconst (v := nI 0) hx hb d_L_law_5 (by decide) ?_
  refine nw_callD (cl_goS (n := 2) (As := [.ref (b), .int (nI 0)]) (rest := [.ref (ad1 0), .ref (ad1 0)]) hSx hA hKs hw hS hX hbl hbA (c_L_cell l D tC A ad1 _ b N xs hN3) kw_257 kw_255 kw_256 kw_0 rfl rfl (by decide +kernel) ⟨Nat.le_of_ble_eq_true rfl, Nat.le_of_ble_eq_true rfl⟩ rfl hl.1 (Nat.le_of_ble_eq_true rfl) d_L_law_6 ⟨Nat.le_of_ble_eq_true rfl, Nat.le_of_ble_eq_true rfl⟩) hS (fun H locs hw hS => ?_)
  refine nw_call (nw_goI (n := 1) (As := [.int (if 0 < N then xs 0 else 0)]) (rest := [.ref (ad1 0)]) hSx hA hKs hw hS (c_X_init l D tC A ad1 (fun _ => none) (fun _ => rfl) (if 0 < N then xs 0 else 0)) kw_23 kw_21 kw_22 kw_1 rfl rfl rfl (by decide +kernel) ⟨Nat.le_of_ble_eq_true rfl, Nat.le_of_ble_eq_true rfl⟩ rfl hl.1 (Nat.le_of_ble_eq_true rfl) d_L_law_9 ⟨Nat.le_of_ble_eq_true rfl, Nat.le_of_ble_eq_true rfl⟩) hS (fun rv wn' ad2 H locs hpost hw hS => ?_)
  obtain ⟨hv, had2, hwn⟩ := hpost
  subst hv
  rw [hwn] at hw
  have e20 : ad2 0 = ad1 0 := had2 0 (by omega) (by omega) (by omega) (by omega) (by omega) (by omega) (by omega) (by omega) (by omega) (by omega) (by omega) (by omega) (by omega) (by omega) (by omega) (by omega) (by omega) (by omega) (by omega) (by omega)
  refine lv_astore_n (lv' := [(1, .ref (ad1 0)), (0, .ref (b))]) hx hb d_L_law_12 rfl hl (by decide) rfl (fun ls hl => ?_)
  refine nw_new (fs := [.int (nI 0), .int (nI 0), .int (nI 0), .null, .null, .int (nI 0), .null, .null, .null, .int (nI 0), .null, .null, .null, .int (nI 0), .null, .null, .null, .null, .null, .int (nI 0), .int (nI 0), .int (nI 0), .null, .int (nI 0), .null, .null, .int (nI 0), .long (0), .null, .null, .null, .null, .null]) hx hb hts i_M t_M tk_M hown (hts _ kw_653) (hts _ kw_654) (hts _ kw_8) hK hw hS hA (64) (rfl) (ci := 9) rfl (by intro j hj; revert j; decide) (Nat.le_of_ble_eq_true rfl) (Nat.le_of_ble_eq_true rfl) d_L_law_13 (fun ad3 H had3 hw hS => ?_)
  refine lv_dup hx hb d_L_law_16 rfl ?_
  refine lv_aload_n hx hb d_L_law_17 rfl (lv_at hl 1 rfl) ?_
  refine lv_iconst (v := nI 0) hx hb d_L_law_18 (by decide) ?_
  refine nw_callD (cl_goS (n := 2) (As := [.ref (b), .int (nI 0)]) (rest := [.ref (ad3 64), .ref (ad3 64)]) hSx hA hKs hw hS hX hbl hbA (c_L_cell l D tC A ad3 _ b N xs hN3) kw_257 kw_255 kw_256 kw_0 rfl rfl (by decide +kernel) ⟨Nat.le_of_ble_eq_true rfl, Nat.le_of_ble_eq_true rfl⟩ rfl hl.1 (Nat.le_of_ble_eq_true rfl) d_L_law_19 ⟨Nat.le_of_ble_eq_true rfl, Nat.le_of_ble_eq_true rfl⟩) hS (fun H locs hw hS => ?_)
  refine nw_call (nw_goI (n := 1) (As := [.int (if 0 < N then xs 0 else 0)]) (rest := [.ref (ad3 64)]) hSx hA hKs hw hS (c_M_init l D tC A ad3 (obX ad2 tC (n00 (clW (if 0 < N then xs 0 else 0))) (fun _ _ => 0) (va_up (fun _ => 0) 0 (nI 0)) (-1) (fun _ => 0) (fun _ => none)) (arX tC (n00 (clW (if 0 < N then xs 0 else 0))) (fun _ _ => none)) (upR (fun _ _ _ => 0) 0 0 (flR (fun _ => 0) (-1) 6)) (fun k hk => if_neg (by omega)) (fun t j ht => if_neg (by omega)) (if 0 < N then xs 0 else 0)) kw_657 kw_655 kw_656 kw_8 rfl rfl rfl (by decide +kernel) ⟨Nat.le_of_ble_eq_true rfl, Nat.le_of_ble_eq_true rfl⟩ rfl hl.1 (Nat.le_of_ble_eq_true rfl) d_L_law_22 ⟨Nat.le_of_ble_eq_true rfl, Nat.le_of_ble_eq_true rfl⟩) hS (fun rv wn' ad4 H locs hpost hw hS => ?_)
  obtain ⟨hv, had4, hwn⟩ := hpost
  subst hv
  rw [hwn] at hw
  refine lv_astore_n (lv' := [(2, .ref (ad3 64)), (1, .ref (ad1 0)), (0, .ref (b))]) hx hb d_L_law_25 rfl hl (by decide) rfl (fun ls hl => ?_)
  refine lv_iconst (v := nI 1) hx hb d_L_law_26 (by decide) ?_
  refine nw_newa (atype := .long) (ty := .long) (a0 := (1, .inr (.inl (fun _ => 0)))) (N' := 1) hx hb (hts _ kw_195) rfl hK hw hS hA (69) (rfl) 1 rfl (fun _ => by first | rfl | exact vp_zero _ _) (nI_pos (by omega)) (nI_clamp (by omega)) (by show 1 * 8 ≤ 536870912; omega) (Nat.le_of_ble_eq_true rfl) (Nat.le_of_ble_eq_true rfl) d_L_law_27 (fun ad5 H had5 hw hS => ?_)
  have h53 : ∀ k, k ≠ 69 → (k < 64 ∨ (69 < k ∧ k < 180)) → ad5 k = ad2 k := fun k h1 h2 => (had5 k h1).trans ((had4 k (by omega) (by omega) (by omega) (by omega) (by omega) (by omega) (by omega) (by omega) (by omega) (by omega) (by omega) (by omega) (by omega) (by omega) (by omega) (by omega) (by omega) (by omega) (by omega) (by omega) (by omega)).trans (had3 k (by omega)))
  have e50 : ad5 0 = ad1 0 := (h53 0 (by omega) (by omega)).trans e20
  have e564 : ad5 64 = ad3 64 := (had5 64 (by omega)).trans (had4 64 (by omega) (by omega) (by omega) (by omega) (by omega) (by omega) (by omega) (by omega) (by omega) (by omega) (by omega) (by omega) (by omega) (by omega) (by omega) (by omega) (by omega) (by omega) (by omega) (by omega) (by omega))
  have hw := nw_W.as (wn' := cW ad5 tC (n00 (clW (if 0 < N then xs 0 else 0))) (fun _ _ => 0) (va_up (fun _ => 0) 0 (nI 0)) (-1) (fun _ => 0) (n00 (clW (if 0 < N then xs 0 else 0))) (fun _ => 0) 0 (fun _ _ => 0) (fun _ => 0) (zM (upR (fun _ _ _ => 0) 0 0 (flR (fun _ => 0) (-1) 6)))) hw (cW_new (obX_ad (fun k hk => (h53 k (by simp [n00] at hk; omega) (by simp [n00] at hk; omega)).symm)) (fun k hk => had5 k (by omega)))
  refine lv_astore_n (lv' := [(3, .ref (ad5 69)), (2, .ref (ad3 64)), (1, .ref (ad1 0)), (0, .ref (b))]) hx hb d_L_law_29 rfl hl (by decide) rfl (fun ls hl => ?_)
  refine lv_iconst (v := nI 1) hx hb d_L_law_30 (by decide) ?_
  refine lv_istore (lv' := [(4, .int (nI 1)), (3, .ref (ad5 69)), (2, .ref (ad3 64)), (1, .ref (ad1 0)), (0, .ref (b))]) hx hb d_L_law_31 hl (by decide) rfl (fun ls hl => ?_)
  rw [← e50, ← e564] at hl
  have h9 := law_loop hSx hA hAs hKs hF hfl hX hbl hbA hN3 hExit (N + 1) 0 ad5 _ _ _ _ _ _ _ _ _ _ (by omega) (by omega) (LR_start (clW_b _)) H locs ls hw hS (lv_sub hl [4, 3, 2, 1, 0] rfl)
  exact W.widen (Nat.le_of_ble_eq_true rfl) (Nat.le_of_ble_eq_true rfl) h9
