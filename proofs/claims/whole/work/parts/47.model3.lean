set_option maxHeartbeats 4000000 in
set_option maxRecDepth 100000 in
/-- the least rule that is broken -/
theorem c_M_broken (l : Launch) (D : va_G) (tC : Nat → ClassId) (A : Nat → Prop) (ad : Nat → Nat) (n : Nat → Nat) (J : Nat → Int32) (bw : Int64) (L : Nat → Nat → Int64) (bX : Nat → Option va_E) (aY : Nat → Nat → Option (ClassId × Nat)) (F S : Nat → Nat → Nat → Int32) (hsc : scm F S) (hN : hpN n) (w many : Nat) (hw8 : w < n 0) (hmany : many ≤ n 2) (hd : Bool) (hm : Nat → Nat) (hH : ∀ c, c < n 2 → F 5 2 c = nI (hm c) ∧ hm c < n 1) : nw_Met l y_M_broken [Cond.code y_M_broken b_M_broken 4 (some .int)] ({ frames := 2, cells := 0, slots := 0, locals := 51 } : Room) D hpC A [.ref (ad (64)), .int (nI w), .int (nI many), .int (bI hd)] (nw_pre D hpC (hpT tC) A (mW ad tC n J bw L bX aY S) ad) (nw_ms (some (.int (lbI (qPlant F w many) (qBoats n F w many) (qOpen F hm w many) (hd = true → qHeld n F w)))) (fun L' S' => mW ad tC n J bw L' bX aY S') F ad) 0 0 := by
  refine nw_bodyK (by decide) (Nat.le_of_ble_eq_true rfl) ?_
  intro p e s m below meth cd ls args Q hSx hr hlocks hname hA hKs hw hS hl hQ
  obtain ⟨hx, hb, hml, hown, hts⟩ := id hSx
  have hK := hKs.1
  have hl : lv_has ls 4 [(0, .ref (ad (64))), (1, .int (nI w)), (2, .int (nI many)), (3, .int (bI hd))] := hl
  obtain ⟨hn0, hn0', hn1, hn2, hn3, hn4⟩ := id hN
  refine lv_aload_n hx hb d_M_broken_0 rfl (lv_at hl 0 rfl) ?_
  refine lv_iload_n hx hb d_M_broken_1 rfl (lv_at hl 1 rfl) ?_
  refine lv_iload_n hx hb d_M_broken_2 rfl (lv_at hl 2 rfl) ?_
  refine nw_callD (nw_goV (n := 2) (As := [.int (nI w), .int (nI many)]) (rest := []) hSx hA hKs hw hS (c_M_keepsPlant l D tC A ad n J bw L bX aY F S hsc hN w many (by omega) (by omega)) kw_835 kw_832 kw_834 ks_M_keepsPlant kw_8 rfl rfl (by decide +kernel) ⟨Nat.le_of_ble_eq_true rfl, Nat.le_of_ble_eq_true rfl⟩ (nw_recv hK hw (mW_64) rfl) rfl hl.1 (Nat.le_of_ble_eq_true rfl) d_M_broken_3 ⟨Nat.le_of_ble_eq_true rfl, Nat.le_of_ble_eq_true rfl⟩) hS (fun H locs hw hS => ?_)
  refine lv_if_ne (tgt := 13) hx hb d_M_broken_6 (by decide) (fun c_6 => ?_) (fun c_6 => ?_)
  · skip
    refine lv_aload_n hx hb d_M_broken_13 rfl (lv_at hl 0 rfl) ?_
    refine lv_iload_n hx hb d_M_broken_14 rfl (lv_at hl 1 rfl) ?_
    refine lv_iload_n hx hb d_M_broken_15 rfl (lv_at hl 2 rfl) ?_
    refine nw_call (nw_goV (n := 2) (As := [.int (nI w), .int (nI many)]) (rest := []) hSx hA hKs hw hS (c_M_keepsBoats l D tC A ad n J bw L bX aY F S hsc hN w many (by omega) (by omega)) kw_843 kw_840 kw_842 ks_M_keepsBoats kw_8 rfl rfl (by decide +kernel) ⟨Nat.le_of_ble_eq_true rfl, Nat.le_of_ble_eq_true rfl⟩ (nw_recv hK hw (mW_64) rfl) rfl hl.1 (Nat.le_of_ble_eq_true rfl) d_M_broken_16 ⟨Nat.le_of_ble_eq_true rfl, Nat.le_of_ble_eq_true rfl⟩) hS (fun rv wn' ad' H locs hpost hw hS => ?_)
    obtain ⟨hrv1, L1z, S1z, hsc1z, hw⟩ := nw_ms_out hpost hw
    subst hrv1
    refine lv_if_ne (tgt := 26) hx hb d_M_broken_19 (by decide) (fun c_19 => ?_) (fun c_19 => ?_)
    · skip
      refine lv_aload_n hx hb d_M_broken_26 rfl (lv_at hl 0 rfl) ?_
      refine lv_iload_n hx hb d_M_broken_27 rfl (lv_at hl 1 rfl) ?_
      refine lv_iload_n hx hb d_M_broken_28 rfl (lv_at hl 2 rfl) ?_
      refine nw_callD (nw_goV (n := 2) (As := [.int (nI w), .int (nI many)]) (rest := []) hSx hA hKs hw hS (c_M_keepsOpen l D tC A ad n J bw L1z bX aY F S1z hsc1z hN w many (by omega) (by omega) hm hH) kw_847 kw_844 kw_846 ks_M_keepsOpen kw_8 rfl rfl (by decide +kernel) ⟨Nat.le_of_ble_eq_true rfl, Nat.le_of_ble_eq_true rfl⟩ (nw_recv hK hw (mW_64) rfl) rfl hl.1 (Nat.le_of_ble_eq_true rfl) d_M_broken_29 ⟨Nat.le_of_ble_eq_true rfl, Nat.le_of_ble_eq_true rfl⟩) hS (fun H locs hw hS => ?_)
      refine lv_if_ne (tgt := 39) hx hb d_M_broken_32 (by decide) (fun c_32 => ?_) (fun c_32 => ?_)
      · skip
        refine lv_iload_n hx hb d_M_broken_39 rfl (lv_at hl 3 rfl) ?_
        refine lv_if_eq (tgt := 55) hx hb d_M_broken_40 (by decide) (fun c_40 => ?_) (fun c_40 => ?_)
        · skip
          have hres : nI 0 = lbI (qPlant F w many) (qBoats n F w many) (qOpen F hm w many) (hd = true → qHeld n F w) := lbI_0 (b2_1 c_6) (b2_1 c_19) (b2_1 c_32) (fun h => absurd (bI_0 c_40) (by rw [h]; decide))
          refine lv_iconst (v := nI 0) hx hb d_M_broken_55 (by decide) ?_
          exact nw_iret hQ hx hb hr hlocks hw hS (nw_msI hsc1z hres) (Nat.le_of_ble_eq_true rfl) (Nat.le_of_ble_eq_true rfl) d_M_broken_56
        · skip
          refine lv_aload_n hx hb d_M_broken_43 rfl (lv_at hl 0 rfl) ?_
          refine lv_iload_n hx hb d_M_broken_44 rfl (lv_at hl 1 rfl) ?_
          refine nw_callD (nw_goV (n := 1) (As := [.int (nI w)]) (rest := []) hSx hA hKs hw hS (c_M_keepsHeld l D tC A ad n J bw L1z bX aY F S1z hsc1z hN w (by omega)) kw_851 kw_848 kw_850 ks_M_keepsHeld kw_8 rfl rfl (by decide +kernel) ⟨Nat.le_of_ble_eq_true rfl, Nat.le_of_ble_eq_true rfl⟩ (nw_recv hK hw (mW_64) rfl) rfl hl.1 (Nat.le_of_ble_eq_true rfl) d_M_broken_45 ⟨Nat.le_of_ble_eq_true rfl, Nat.le_of_ble_eq_true rfl⟩) hS (fun H locs hw hS => ?_)
          refine lv_if_ne (tgt := 55) hx hb d_M_broken_48 (by decide) (fun c_48 => ?_) (fun c_48 => ?_)
          · skip
            have hres : nI 0 = lbI (qPlant F w many) (qBoats n F w many) (qOpen F hm w many) (hd = true → qHeld n F w) := lbI_0 (b2_1 c_6) (b2_1 c_19) (b2_1 c_32) (fun _ => b2_1 c_48)
            refine lv_iconst (v := nI 0) hx hb d_M_broken_55 (by decide) ?_
            exact nw_iret hQ hx hb hr hlocks hw hS (nw_msI hsc1z hres) (Nat.le_of_ble_eq_true rfl) (Nat.le_of_ble_eq_true rfl) d_M_broken_56
          · skip
            have hres : nI 4 = lbI (qPlant F w many) (qBoats n F w many) (qOpen F hm w many) (hd = true → qHeld n F w) := lbI_4 (b2_1 c_6) (b2_1 c_19) (b2_1 c_32) (fun h => b2_0 c_48 (h (bI_1 c_40)))
            refine lv_iconst (v := nI 4) hx hb d_M_broken_51 (by decide) ?_
            refine lv_goto (tgt := 56) hx hb d_M_broken_52 (by decide) ?_
            exact nw_iret hQ hx hb hr hlocks hw hS (nw_msI hsc1z hres) (Nat.le_of_ble_eq_true rfl) (Nat.le_of_ble_eq_true rfl) d_M_broken_56
      · skip
        have hres : nI 3 = lbI (qPlant F w many) (qBoats n F w many) (qOpen F hm w many) (hd = true → qHeld n F w) := lbI_3 (b2_1 c_6) (b2_1 c_19) (b2_0 c_32)
        refine lv_iconst (v := nI 3) hx hb d_M_broken_35 (by decide) ?_
        refine lv_goto (tgt := 56) hx hb d_M_broken_36 (by decide) ?_
        exact nw_iret hQ hx hb hr hlocks hw hS (nw_msI hsc1z hres) (Nat.le_of_ble_eq_true rfl) (Nat.le_of_ble_eq_true rfl) d_M_broken_56
    · skip
      have hres : nI 2 = lbI (qPlant F w many) (qBoats n F w many) (qOpen F hm w many) (hd = true → qHeld n F w) := lbI_2 (b2_1 c_6) (b2_0 c_19)
      refine lv_iconst (v := nI 2) hx hb d_M_broken_22 (by decide) ?_
      refine lv_goto (tgt := 56) hx hb d_M_broken_23 (by decide) ?_
      exact nw_iret hQ hx hb hr hlocks hw hS (nw_msI hsc1z hres) (Nat.le_of_ble_eq_true rfl) (Nat.le_of_ble_eq_true rfl) d_M_broken_56
  · skip
    have hres : nI 1 = lbI (qPlant F w many) (qBoats n F w many) (qOpen F hm w many) (hd = true → qHeld n F w) := lbI_1 (b2_0 c_6)
    refine lv_iconst (v := nI 1) hx hb d_M_broken_9 (by decide) ?_
    refine lv_goto (tgt := 56) hx hb d_M_broken_10 (by decide) ?_
    exact nw_iret hQ hx hb hr hlocks hw hS (nw_msI hsc hres) (Nat.le_of_ble_eq_true rfl) (Nat.le_of_ble_eq_true rfl) d_M_broken_56

set_option maxHeartbeats 4000000 in
set_option maxRecDepth 100000 in
/-- all rules in each week -/
theorem c_M_keepsAll (l : Launch) (D : va_G) (tC : Nat → ClassId) (A : Nat → Prop) (ad : Nat → Nat) (n : Nat → Nat) (J : Nat → Int32) (bw : Int64) (L : Nat → Nat → Int64) (bX : Nat → Option va_E) (aY : Nat → Nat → Option (ClassId × Nat)) (F S : Nat → Nat → Nat → Int32) (hsc : scm F S) (hN : hpN n) (many : Nat) (hmany : many ≤ n 2) (hd : Bool) (hm : Nat → Nat) (hH : ∀ c, c < n 2 → F 5 2 c = nI (hm c) ∧ hm c < n 1) : nw_Met l y_M_keepsAll [Cond.code y_M_keepsAll b_M_keepsAll 5 (some .boolean)] ({ frames := 3, cells := 0, slots := 0, locals := 74 } : Room) D hpC A [.ref (ad (64)), .int (nI many), .int (bI hd)] (nw_pre D hpC (hpT tC) A (mW ad tC n J bw L bX aY S) ad) (nw_ms (some (.int (b2 (∀ j, j < n 0 → qAll n F hm many hd j)))) (fun L' S' => mW ad tC n J bw L' bX aY S') F ad) 0 0 := by
  refine nw_bodyK (by decide) (Nat.le_of_ble_eq_true rfl) ?_
  intro p e s m below meth cd ls args Q hSx hr hlocks hname hA hKs hw hS hl hQ
  obtain ⟨hx, hb, hml, hown, hts⟩ := id hSx
  have hK := hKs.1
  have hl : lv_has ls 5 [(0, .ref (ad (64))), (1, .int (nI many)), (2, .int (bI hd))] := hl
  obtain ⟨hn0, hn0', hn1, hn2, hn3, hn4⟩ := id hN
  refine lv_iconst (v := nI 1) hx hb d_M_keepsAll_0 (by decide) ?_
  refine lv_istore_n (lv' := [(3, .int (nI 1)), (0, .ref (ad (64))), (1, .int (nI many)), (2, .int (bI hd))]) hx hb d_M_keepsAll_1 rfl hl (by decide) rfl (fun ls hl => ?_)
  refine lv_iconst (v := nI 0) hx hb d_M_keepsAll_2 (by decide) ?_
  refine lv_istore (lv' := [(4, .int (nI 0)), (3, .int (nI 1)), (0, .ref (ad (64))), (1, .int (nI many)), (2, .int (bI hd))]) hx hb d_M_keepsAll_3 hl (by decide) rfl (fun ls hl => ?_)
  have el3 : b2 (∀ j, j < 0 → qAll n F hm many hd j) = nI 1 := (b2_t (fun j hj => absurd hj (Nat.not_lt_zero j))).symm
  have hl : lv_has ls 5 [(4, .int (nI 0)), (3, .int (b2 (∀ j, j < 0 → qAll n F hm many hd j))), (0, .ref (ad (64))), (1, .int (nI many)), (2, .int (bI hd))] := by
    have h9 := hl
    revert h9; rw [show Value.int (b2 (∀ j, j < 0 → qAll n F hm many hd j)) = Value.int (nI 1) from congrArg _ el3]; intro h9
    exact h9
  have loop5 : ∀ (k w : Nat) (Lv : Nat → Nat → Int64) (Sv : Nat → Nat → Nat → Int32), w ≤ n 0 → n 0 + 1 ≤ w + k → (scm F Sv) → ∀ (H : Heap) (locs : List Loc) (ls : Array Slot), nw_W D hpC A (mW ad tC n J bw Lv bX aY Sv) ad H → va_S A s.heap H locs → lv_has ls 5 [(0, .ref (ad (64))), (1, .int (nI many)), (2, .int (bI hd)), (3, .int (b2 (∀ j, j < w → qAll n F hm many hd j))), (4, .int (nI w))] → W p l e ({ frames := 3, cells := 0, slots := 0, locals := 74 } : Room) s m args below meth cd H locs 0 0 Q (F0 m 5 ls []) := by
    intro k
    induction k with
    | zero => intro w Lv Sv h1 h2; exact absurd h2 (by omega)
    | succ k ih5 =>
      intro w Lv Sv hv5 hk5 hsv H locs ls hw hS hl
      refine lv_iload hx hb d_M_keepsAll_5 (lv_at hl 4 rfl) ?_
      refine lv_aload_n hx hb d_M_keepsAll_7 rfl (lv_at hl 0 rfl) ?_
      refine nw_get hx hb hts i_M hown hK hw (64) (mW_64) rfl 0 (by decide) (hts _ kw_659) (fun _ h9 => h9) rfl d_M_keepsAll_8 ?_
      refine lv_icmp_ge (tgt := 41) hx hb d_M_keepsAll_11 (by decide) (fun c_11 => ?_) (fun c_11 => ?_)
      · skip
        have hge11 : n 0 ≤ w := (nI_leI (by omega) (by omega)).mp c_11
        obtain rfl : n 0 = w := by omega
        refine lv_iload_n hx hb d_M_keepsAll_41 rfl (lv_at hl 3 rfl) ?_
        exact nw_zret hQ hx hb hr (b2_or _) hlocks hw hS (nw_msI hsv rfl) (Nat.le_of_ble_eq_true rfl) (Nat.le_of_ble_eq_true rfl) d_M_keepsAll_42
      · skip
        have hlt : w < n 0 := Nat.not_le.mp (fun q => c_11 (nI_le q (by omega)))
        refine lv_iload_n hx hb d_M_keepsAll_14 rfl (lv_at hl 3 rfl) ?_
        refine lv_if_eq (tgt := 33) hx hb d_M_keepsAll_15 (by decide) (fun c_15 => ?_) (fun c_15 => ?_)
        · skip
          have hb3 : nI 0 = b2 (∀ j, j < w + 1 → qAll n F hm many hd j) := b2_f (fun h => b2_0 c_15 (fun j hj => h j (by omega)))
          refine lv_iconst (v := nI 0) hx hb d_M_keepsAll_33 (by decide) ?_
          refine lv_istore_n (lv' := [(3, .int (nI 0)), (0, .ref (ad (64))), (1, .int (nI many)), (2, .int (bI hd)), (4, .int (nI w))]) hx hb d_M_keepsAll_34 rfl hl (by decide) rfl (fun ls hl => ?_)
          refine lv_iinc (v := nI (w + 1)) (lv' := [(4, .int (nI (w + 1))), (3, .int (nI 0)), (0, .ref (ad (64))), (1, .int (nI many)), (2, .int (bI hd))]) hx hb d_M_keepsAll_35 hl (k := 4) rfl ((nI_succ _).symm) (by decide) rfl (fun ls hl => ?_)
          refine lv_goto (tgt := 5) hx hb d_M_keepsAll_38 (by decide) ?_
          have el3 : b2 (∀ j, j < w + 1 → qAll n F hm many hd j) = nI 0 := hb3.symm
          have hl : lv_has ls 5 [(4, .int (nI (w + 1))), (3, .int (b2 (∀ j, j < w + 1 → qAll n F hm many hd j))), (0, .ref (ad (64))), (1, .int (nI many)), (2, .int (bI hd))] := by
            have h9 := hl
            revert h9; rw [show Value.int (b2 (∀ j, j < w + 1 → qAll n F hm many hd j)) = Value.int (nI 0) from congrArg _ el3]; intro h9
            exact h9
          exact ih5 (w + 1) (_) (_) (by omega) (by omega) (hsv) _ _ ls hw hS (lv_sub hl [2, 3, 4, 1, 0] rfl)
        · skip
          refine lv_aload_n hx hb d_M_keepsAll_18 rfl (lv_at hl 0 rfl) ?_
          refine lv_iload hx hb d_M_keepsAll_19 (lv_at hl 4 rfl) ?_
          refine lv_iload_n hx hb d_M_keepsAll_21 rfl (lv_at hl 1 rfl) ?_
          refine lv_iload_n hx hb d_M_keepsAll_22 rfl (lv_at hl 2 rfl) ?_
          refine nw_call (nw_goV (n := 3) (As := [.int (nI w), .int (nI many), .int (bI hd)]) (rest := []) hSx hA hKs hw hS (c_M_broken l D tC A ad n J bw Lv bX aY F Sv hsv hN w many (by omega) (by omega) hd hm hH) kw_831 kw_828 kw_830 ks_M_broken kw_8 rfl rfl (by decide +kernel) ⟨Nat.le_of_ble_eq_true rfl, Nat.le_of_ble_eq_true rfl⟩ (nw_recv hK hw (mW_64) rfl) rfl hl.1 (Nat.le_of_ble_eq_true rfl) d_M_keepsAll_23 ⟨Nat.le_of_ble_eq_true rfl, Nat.le_of_ble_eq_true rfl⟩) hS (fun rv wn' ad' H locs hpost hw hS => ?_)
          obtain ⟨hrv1, L1z, S1z, hsc1z, hw⟩ := nw_ms_out hpost hw
          subst hrv1
          refine lv_if_ne (tgt := 33) hx hb d_M_keepsAll_26 (by decide) (fun c_26 => ?_) (fun c_26 => ?_)
          · skip
            have hb3 : nI 0 = b2 (∀ j, j < w + 1 → qAll n F hm many hd j) := b2_f (fun h => c_26 (lbI_z.mpr (h w (by omega))))
            refine lv_iconst (v := nI 0) hx hb d_M_keepsAll_33 (by decide) ?_
            refine lv_istore_n (lv' := [(3, .int (nI 0)), (0, .ref (ad (64))), (1, .int (nI many)), (2, .int (bI hd)), (4, .int (nI w))]) hx hb d_M_keepsAll_34 rfl hl (by decide) rfl (fun ls hl => ?_)
            refine lv_iinc (v := nI (w + 1)) (lv' := [(4, .int (nI (w + 1))), (3, .int (nI 0)), (0, .ref (ad (64))), (1, .int (nI many)), (2, .int (bI hd))]) hx hb d_M_keepsAll_35 hl (k := 4) rfl ((nI_succ _).symm) (by decide) rfl (fun ls hl => ?_)
            refine lv_goto (tgt := 5) hx hb d_M_keepsAll_38 (by decide) ?_
            have el3 : b2 (∀ j, j < w + 1 → qAll n F hm many hd j) = nI 0 := hb3.symm
            have hl : lv_has ls 5 [(4, .int (nI (w + 1))), (3, .int (b2 (∀ j, j < w + 1 → qAll n F hm many hd j))), (0, .ref (ad (64))), (1, .int (nI many)), (2, .int (bI hd))] := by
              have h9 := hl
              revert h9; rw [show Value.int (b2 (∀ j, j < w + 1 → qAll n F hm many hd j)) = Value.int (nI 0) from congrArg _ el3]; intro h9
              exact h9
            exact ih5 (w + 1) (_) (_) (by omega) (by omega) (hsc1z) _ _ ls hw hS (lv_sub hl [2, 3, 4, 1, 0] rfl)
          · skip
            have hb3 : nI 1 = b2 (∀ j, j < w + 1 → qAll n F hm many hd j) := b2_t (lt_s (b2_1 c_15) (lbI_z.mp c_26))
            refine lv_iconst (v := nI 1) hx hb d_M_keepsAll_29 (by decide) ?_
            refine lv_goto (tgt := 34) hx hb d_M_keepsAll_30 (by decide) ?_
            refine lv_istore_n (lv' := [(3, .int (nI 1)), (0, .ref (ad (64))), (1, .int (nI many)), (2, .int (bI hd)), (4, .int (nI w))]) hx hb d_M_keepsAll_34 rfl hl (by decide) rfl (fun ls hl => ?_)
            refine lv_iinc (v := nI (w + 1)) (lv' := [(4, .int (nI (w + 1))), (3, .int (nI 1)), (0, .ref (ad (64))), (1, .int (nI many)), (2, .int (bI hd))]) hx hb d_M_keepsAll_35 hl (k := 4) rfl ((nI_succ _).symm) (by decide) rfl (fun ls hl => ?_)
            refine lv_goto (tgt := 5) hx hb d_M_keepsAll_38 (by decide) ?_
            have el3 : b2 (∀ j, j < w + 1 → qAll n F hm many hd j) = nI 1 := hb3.symm
            have hl : lv_has ls 5 [(4, .int (nI (w + 1))), (3, .int (b2 (∀ j, j < w + 1 → qAll n F hm many hd j))), (0, .ref (ad (64))), (1, .int (nI many)), (2, .int (bI hd))] := by
              have h9 := hl
              revert h9; rw [show Value.int (b2 (∀ j, j < w + 1 → qAll n F hm many hd j)) = Value.int (nI 1) from congrArg _ el3]; intro h9
              exact h9
            exact ih5 (w + 1) (_) (_) (by omega) (by omega) (hsc1z) _ _ ls hw hS (lv_sub hl [2, 3, 4, 1, 0] rfl)
  exact loop5 (n 0 + 1) (0) (_) (_) (by omega) (by omega) (hsc) _ _ ls hw hS (lv_sub hl [2, 3, 4, 1, 0] rfl)

set_option maxHeartbeats 4000000 in
set_option maxRecDepth 100000 in
/-- the order that is served next -/
theorem c_M_nextOrder (l : Launch) (D : va_G) (tC : Nat → ClassId) (A : Nat → Prop) (ad : Nat → Nat) (n : Nat → Nat) (J : Nat → Int32) (bw : Int64) (L : Nat → Nat → Int64) (bX : Nat → Option va_E) (aY : Nat → Nat → Option (ClassId × Nat)) (F S : Nat → Nat → Nat → Int32) (hsc : scm F S) (hN : hpN n) (w : Nat) (sv : Nat → Int32) (hsv : S 6 0 = sv) : nw_Met l y_M_nextOrder [Cond.code y_M_nextOrder b_M_nextOrder 5 (some .int)] ({ frames := 0, cells := 0, slots := 0, locals := 0 } : Room) D hpC A [.ref (ad (64)), .int (nI w)] (nw_pre D hpC (hpT tC) A (mW ad tC n J bw L bX aY S) ad) (nw_ok (some (.int (oI (noF F sv w (n 4))))) (mW ad tC n J bw L bX aY S) ad) 0 0 := by
  refine nw_bodyK (by decide) (Nat.le_of_ble_eq_true rfl) ?_
  intro p e s m below meth cd ls args Q hSx hr hlocks hname hA hKs hw hS hl hQ
  obtain ⟨hx, hb, hml, hown, hts⟩ := id hSx
  have hK := hKs.1
  have hl : lv_has ls 5 [(0, .ref (ad (64))), (1, .int (nI w))] := hl
  obtain ⟨hn0, hn0', hn1, hn2, hn3, hn4⟩ := id hN
  refine lv_iconst (v := (-1)) hx hb d_M_nextOrder_0 (by decide) ?_
  refine lv_istore_n (lv' := [(2, .int ((-1))), (0, .ref (ad (64))), (1, .int (nI w))]) hx hb d_M_nextOrder_1 rfl hl (by decide) rfl (fun ls hl => ?_)
  refine lv_iconst (v := nI 0) hx hb d_M_nextOrder_2 (by decide) ?_
  refine lv_istore_n (lv' := [(3, .int (nI 0)), (2, .int ((-1))), (0, .ref (ad (64))), (1, .int (nI w))]) hx hb d_M_nextOrder_3 rfl hl (by decide) rfl (fun ls hl => ?_)
  have loop4 : ∀ (k o : Nat), o ≤ n 4 → n 4 + 1 ≤ o + k → ∀ (H : Heap) (locs : List Loc) (ls : Array Slot), nw_W D hpC A (mW ad tC n J bw L bX aY S) ad H → va_S A s.heap H locs → lv_has ls 5 [(0, .ref (ad (64))), (1, .int (nI w)), (2, .int (oI (noF F sv w o))), (3, .int (nI o))] → W p l e ({ frames := 0, cells := 0, slots := 0, locals := 0 } : Room) s m args below meth cd H locs 0 0 Q (F0 m 4 ls []) := by
    intro k
    induction k with
    | zero => intro o h1 h2; exact absurd h2 (by omega)
    | succ k ih4 =>
      intro o hv4 hk4 H locs ls hw hS hl
      refine lv_iload_n hx hb d_M_nextOrder_4 rfl (lv_at hl 3 rfl) ?_
      refine lv_aload_n hx hb d_M_nextOrder_5 rfl (lv_at hl 0 rfl) ?_
      refine nw_get hx hb hts i_M hown hK hw (64) (mW_64) rfl 13 (by decide) (hts _ kw_672) (fun _ h9 => h9) rfl d_M_nextOrder_6 ?_
      refine lv_icmp_ge (tgt := 75) hx hb d_M_nextOrder_9 (by decide) (fun c_9 => ?_) (fun c_9 => ?_)
      · skip
        have hge9 : n 4 ≤ o := (nI_leI (by omega) (by omega)).mp c_9
        obtain rfl : n 4 = o := by omega
        refine lv_iload_n hx hb d_M_nextOrder_75 rfl (lv_at hl 2 rfl) ?_
        exact nw_iret hQ hx hb hr hlocks hw hS (nw_ok_rf) (Nat.le_of_ble_eq_true rfl) (Nat.le_of_ble_eq_true rfl) d_M_nextOrder_76
      · skip
        have hlt : o < n 4 := Nat.not_le.mp (fun q => c_9 (nI_le q (by omega)))
        refine lv_iload_n hx hb d_M_nextOrder_12 rfl (lv_at hl 2 rfl) ?_
        refine lv_iconst (v := (-1)) hx hb d_M_nextOrder_13 (by decide) ?_
        refine lv_icmp_eq (tgt := 32) hx hb d_M_nextOrder_14 (by decide) (fun c_14 => ?_) (fun c_14 => ?_)
        · skip
          have hbt : nbP F o (noF F sv w o) := by rw [oI_none (fun f hf => Nat.lt_trans (noF_lt _ _ hf).1 (by omega)) c_14]; trivial
          refine lv_iconst (v := nI 1) hx hb d_M_nextOrder_32 (by decide) ?_
          refine lv_goto (tgt := 37) hx hb d_M_nextOrder_33 (by decide) ?_
          refine lv_istore (lv' := [(4, .int (nI 1)), (0, .ref (ad (64))), (1, .int (nI w)), (2, .int (oI (noF F sv w o))), (3, .int (nI o))]) hx hb d_M_nextOrder_37 hl (by decide) rfl (fun ls hl => ?_)
          refine lv_aload_n hx hb d_M_nextOrder_39 rfl (lv_at hl 1 rfl) ?_
          refine nw_get hx hb hts i_M hown hK hw (64) (mW_64) rfl 14 (by decide) (hts _ kw_673) (fun _ h9 => h9) rfl d_M_nextOrder_40 ?_
          refine lv_iload_n hx hb d_M_nextOrder_43 rfl (lv_at hl 4 rfl) ?_
          refine nw_iald hx hb hK hw (188) 0 (mW_row (t := 5) (j := 8) (by decide) (by decide) (rfl)) rfl (o) (rfl) (by omega) (by omega) d_M_nextOrder_44 ?_
          refine lv_ei (y := F 5 8 o) (congrFun (hsc 5 8 (by omega)) _) ?_
          refine lv_iload_n hx hb d_M_nextOrder_45 rfl (lv_at hl 2 rfl) ?_
          refine lv_icmp_ne (tgt := 67) hx hb d_M_nextOrder_46 (by decide) (fun c_46 => ?_) (fun c_46 => ?_)
          · skip
            have e2 : noF F sv w (o + 1) = noF F sv w o := noF_f (fun h => c_46 h.1)
            refine lv_iload_n hx hb d_M_nextOrder_67 rfl (lv_at hl 3 rfl) ?_
            refine lv_istore_n (lv' := [(2, .int (oI (noF F sv w o))), (4, .int (nI 1)), (0, .ref (ad (64))), (1, .int (nI w)), (3, .int (nI o))]) hx hb d_M_nextOrder_68 rfl hl (by decide) rfl (fun ls hl => ?_)
            refine lv_iinc (v := nI (o + 1)) (lv' := [(3, .int (nI (o + 1))), (2, .int (oI (noF F sv w o))), (4, .int (nI 1)), (0, .ref (ad (64))), (1, .int (nI w))]) hx hb d_M_nextOrder_69 hl (k := 4) rfl ((nI_succ _).symm) (by decide) rfl (fun ls hl => ?_)
            refine lv_goto (tgt := 4) hx hb d_M_nextOrder_72 (by decide) ?_
            have el2 : oI (noF F sv w (o + 1)) = oI (noF F sv w o) := congrArg oI e2
            have hl : lv_has ls 5 [(3, .int (nI (o + 1))), (2, .int (oI (noF F sv w (o + 1)))), (4, .int (nI 1)), (0, .ref (ad (64))), (1, .int (nI w))] := by
              have h9 := hl
              revert h9; rw [show Value.int (oI (noF F sv w (o + 1))) = Value.int (oI (noF F sv w o)) from congrArg _ el2]; intro h9
              exact h9
            exact ih4 (o + 1) (by omega) (by omega) _ _ ls hw hS (lv_sub hl [3, 4, 1, 0] rfl)
          · skip
            refine lv_aload_n hx hb d_M_nextOrder_49 rfl (lv_at hl 1 rfl) ?_
            refine nw_get hx hb hts i_M hown hK hw (64) (mW_64) rfl 30 (by decide) (hts _ kw_689) (fun _ h9 => h9) rfl d_M_nextOrder_50 ?_
            refine lv_iload_n hx hb d_M_nextOrder_53 rfl (lv_at hl 4 rfl) ?_
            refine nw_zald hx hb hK hw (196) 2 (mW_row (t := 6) (j := 0) (by decide) (by decide) (rfl)) rfl (o) (rfl) (by omega) (by omega) d_M_nextOrder_54 ?_
            refine lv_ei (y := sv o) (by rw [hsv]) ?_
            refine lv_if_ne (tgt := 67) hx hb d_M_nextOrder_55 (by decide) (fun c_55 => ?_) (fun c_55 => ?_)
            · skip
              have e2 : noF F sv w (o + 1) = noF F sv w o := noF_f (fun h => c_55 h.2.1)
              refine lv_iload_n hx hb d_M_nextOrder_67 rfl (lv_at hl 3 rfl) ?_
              refine lv_istore_n (lv' := [(2, .int (oI (noF F sv w o))), (4, .int (nI 1)), (0, .ref (ad (64))), (1, .int (nI w)), (3, .int (nI o))]) hx hb d_M_nextOrder_68 rfl hl (by decide) rfl (fun ls hl => ?_)
              refine lv_iinc (v := nI (o + 1)) (lv' := [(3, .int (nI (o + 1))), (2, .int (oI (noF F sv w o))), (4, .int (nI 1)), (0, .ref (ad (64))), (1, .int (nI w))]) hx hb d_M_nextOrder_69 hl (k := 4) rfl ((nI_succ _).symm) (by decide) rfl (fun ls hl => ?_)
              refine lv_goto (tgt := 4) hx hb d_M_nextOrder_72 (by decide) ?_
              have el2 : oI (noF F sv w (o + 1)) = oI (noF F sv w o) := congrArg oI e2
              have hl : lv_has ls 5 [(3, .int (nI (o + 1))), (2, .int (oI (noF F sv w (o + 1)))), (4, .int (nI 1)), (0, .ref (ad (64))), (1, .int (nI w))] := by
                have h9 := hl
                revert h9; rw [show Value.int (oI (noF F sv w (o + 1))) = Value.int (oI (noF F sv w o)) from congrArg _ el2]; intro h9
                exact h9
              exact ih4 (o + 1) (by omega) (by omega) _ _ ls hw hS (lv_sub hl [3, 4, 1, 0] rfl)
            · skip
              refine lv_iload hx hb d_M_nextOrder_58 (lv_at hl 0 rfl) ?_
              refine lv_if_eq (tgt := 67) hx hb d_M_nextOrder_60 (by decide) (fun c_60 => ?_) (fun c_60 => ?_)
              · skip
                first | exact absurd c_60 (by decide) | exact absurd (by decide) c_60
              · skip
                have e2 : noF F sv w (o + 1) = some o := noF_t c_46 c_55 hbt
                refine lv_iload_n hx hb d_M_nextOrder_63 rfl (lv_at hl 4 rfl) ?_
                refine lv_goto (tgt := 68) hx hb d_M_nextOrder_64 (by decide) ?_
                refine lv_istore_n (lv' := [(2, .int (nI o)), (4, .int (nI 1)), (0, .ref (ad (64))), (1, .int (nI w)), (3, .int (nI o))]) hx hb d_M_nextOrder_68 rfl hl (by decide) rfl (fun ls hl => ?_)
                refine lv_iinc (v := nI (o + 1)) (lv' := [(3, .int (nI (o + 1))), (2, .int (nI o)), (4, .int (nI 1)), (0, .ref (ad (64))), (1, .int (nI w))]) hx hb d_M_nextOrder_69 hl (k := 4) rfl ((nI_succ _).symm) (by decide) rfl (fun ls hl => ?_)
                refine lv_goto (tgt := 4) hx hb d_M_nextOrder_72 (by decide) ?_
                have el2 : oI (noF F sv w (o + 1)) = nI o := congrArg oI e2
                have hl : lv_has ls 5 [(3, .int (nI (o + 1))), (2, .int (oI (noF F sv w (o + 1)))), (4, .int (nI 1)), (0, .ref (ad (64))), (1, .int (nI w))] := by
                  have h9 := hl
                  revert h9; rw [show Value.int (oI (noF F sv w (o + 1))) = Value.int (nI o) from congrArg _ el2]; intro h9
                  exact h9
                exact ih4 (o + 1) (by omega) (by omega) _ _ ls hw hS (lv_sub hl [3, 4, 1, 0] rfl)
        · skip
          obtain ⟨f, hf⟩ := oI_some c_14
          have hfo := (noF_lt _ _ hf).1
          refine lv_aload_n hx hb d_M_nextOrder_17 rfl (lv_at hl 0 rfl) ?_
          refine nw_get hx hb hts i_M hown hK hw (64) (mW_64) rfl 18 (by decide) (hts _ kw_677) (fun _ h9 => h9) rfl d_M_nextOrder_18 ?_
          refine lv_iload_n hx hb d_M_nextOrder_21 rfl (lv_at hl 3 rfl) ?_
          refine nw_iald hx hb hK hw (192) 0 (mW_row (t := 5) (j := 12) (by decide) (by decide) (rfl)) rfl (o) (rfl) (by omega) (by omega) d_M_nextOrder_22 ?_
          refine lv_ei (y := F 5 12 o) (congrFun (hsc 5 12 (by omega)) _) ?_
          refine lv_aload_n hx hb d_M_nextOrder_23 rfl (lv_at hl 0 rfl) ?_
          refine nw_get hx hb hts i_M hown hK hw (64) (mW_64) rfl 18 (by decide) (hts _ kw_677) (fun _ h9 => h9) rfl d_M_nextOrder_24 ?_
          refine lv_iload_n hx hb d_M_nextOrder_27 rfl (lv_at hl 2 rfl) ?_
          refine nw_iald hx hb hK hw (192) 0 (mW_row (t := 5) (j := 12) (by decide) (by decide) (rfl)) rfl (f) (by rw [hf]; rfl) (by omega) (by omega) d_M_nextOrder_28 ?_
          refine lv_ei (y := F 5 12 f) (congrFun (hsc 5 12 (by omega)) _) ?_
          refine lv_icmp_le (tgt := 36) hx hb d_M_nextOrder_29 (by decide) (fun c_29 => ?_) (fun c_29 => ?_)
          · skip
            have hnb : ¬ nbP F o (noF F sv w o) := by rw [hf]; exact Int32.not_lt.mpr c_29
            refine lv_iconst (v := nI 0) hx hb d_M_nextOrder_36 (by decide) ?_
            refine lv_istore (lv' := [(4, .int (nI 0)), (0, .ref (ad (64))), (1, .int (nI w)), (2, .int (oI (noF F sv w o))), (3, .int (nI o))]) hx hb d_M_nextOrder_37 hl (by decide) rfl (fun ls hl => ?_)
            refine lv_aload_n hx hb d_M_nextOrder_39 rfl (lv_at hl 1 rfl) ?_
            refine nw_get hx hb hts i_M hown hK hw (64) (mW_64) rfl 14 (by decide) (hts _ kw_673) (fun _ h9 => h9) rfl d_M_nextOrder_40 ?_
            refine lv_iload_n hx hb d_M_nextOrder_43 rfl (lv_at hl 4 rfl) ?_
            refine nw_iald hx hb hK hw (188) 0 (mW_row (t := 5) (j := 8) (by decide) (by decide) (rfl)) rfl (o) (rfl) (by omega) (by omega) d_M_nextOrder_44 ?_
            refine lv_ei (y := F 5 8 o) (congrFun (hsc 5 8 (by omega)) _) ?_
            refine lv_iload_n hx hb d_M_nextOrder_45 rfl (lv_at hl 2 rfl) ?_
            refine lv_icmp_ne (tgt := 67) hx hb d_M_nextOrder_46 (by decide) (fun c_46 => ?_) (fun c_46 => ?_)
            · skip
              have e2 : noF F sv w (o + 1) = noF F sv w o := noF_f (fun h => c_46 h.1)
              refine lv_iload_n hx hb d_M_nextOrder_67 rfl (lv_at hl 3 rfl) ?_
              refine lv_istore_n (lv' := [(2, .int (oI (noF F sv w o))), (4, .int (nI 0)), (0, .ref (ad (64))), (1, .int (nI w)), (3, .int (nI o))]) hx hb d_M_nextOrder_68 rfl hl (by decide) rfl (fun ls hl => ?_)
              refine lv_iinc (v := nI (o + 1)) (lv' := [(3, .int (nI (o + 1))), (2, .int (oI (noF F sv w o))), (4, .int (nI 0)), (0, .ref (ad (64))), (1, .int (nI w))]) hx hb d_M_nextOrder_69 hl (k := 4) rfl ((nI_succ _).symm) (by decide) rfl (fun ls hl => ?_)
              refine lv_goto (tgt := 4) hx hb d_M_nextOrder_72 (by decide) ?_
              have el2 : oI (noF F sv w (o + 1)) = oI (noF F sv w o) := congrArg oI e2
              have hl : lv_has ls 5 [(3, .int (nI (o + 1))), (2, .int (oI (noF F sv w (o + 1)))), (4, .int (nI 0)), (0, .ref (ad (64))), (1, .int (nI w))] := by
                have h9 := hl
                revert h9; rw [show Value.int (oI (noF F sv w (o + 1))) = Value.int (oI (noF F sv w o)) from congrArg _ el2]; intro h9
                exact h9
              exact ih4 (o + 1) (by omega) (by omega) _ _ ls hw hS (lv_sub hl [3, 4, 1, 0] rfl)
            · skip
              refine lv_aload_n hx hb d_M_nextOrder_49 rfl (lv_at hl 1 rfl) ?_
              refine nw_get hx hb hts i_M hown hK hw (64) (mW_64) rfl 30 (by decide) (hts _ kw_689) (fun _ h9 => h9) rfl d_M_nextOrder_50 ?_
              refine lv_iload_n hx hb d_M_nextOrder_53 rfl (lv_at hl 4 rfl) ?_
              refine nw_zald hx hb hK hw (196) 2 (mW_row (t := 6) (j := 0) (by decide) (by decide) (rfl)) rfl (o) (rfl) (by omega) (by omega) d_M_nextOrder_54 ?_
              refine lv_ei (y := sv o) (by rw [hsv]) ?_
              refine lv_if_ne (tgt := 67) hx hb d_M_nextOrder_55 (by decide) (fun c_55 => ?_) (fun c_55 => ?_)
              · skip
                have e2 : noF F sv w (o + 1) = noF F sv w o := noF_f (fun h => c_55 h.2.1)
                refine lv_iload_n hx hb d_M_nextOrder_67 rfl (lv_at hl 3 rfl) ?_
                refine lv_istore_n (lv' := [(2, .int (oI (noF F sv w o))), (4, .int (nI 0)), (0, .ref (ad (64))), (1, .int (nI w)), (3, .int (nI o))]) hx hb d_M_nextOrder_68 rfl hl (by decide) rfl (fun ls hl => ?_)
                refine lv_iinc (v := nI (o + 1)) (lv' := [(3, .int (nI (o + 1))), (2, .int (oI (noF F sv w o))), (4, .int (nI 0)), (0, .ref (ad (64))), (1, .int (nI w))]) hx hb d_M_nextOrder_69 hl (k := 4) rfl ((nI_succ _).symm) (by decide) rfl (fun ls hl => ?_)
                refine lv_goto (tgt := 4) hx hb d_M_nextOrder_72 (by decide) ?_
                have el2 : oI (noF F sv w (o + 1)) = oI (noF F sv w o) := congrArg oI e2
                have hl : lv_has ls 5 [(3, .int (nI (o + 1))), (2, .int (oI (noF F sv w (o + 1)))), (4, .int (nI 0)), (0, .ref (ad (64))), (1, .int (nI w))] := by
                  have h9 := hl
                  revert h9; rw [show Value.int (oI (noF F sv w (o + 1))) = Value.int (oI (noF F sv w o)) from congrArg _ el2]; intro h9
                  exact h9
                exact ih4 (o + 1) (by omega) (by omega) _ _ ls hw hS (lv_sub hl [3, 4, 1, 0] rfl)
              · skip
                refine lv_iload hx hb d_M_nextOrder_58 (lv_at hl 0 rfl) ?_
                refine lv_if_eq (tgt := 67) hx hb d_M_nextOrder_60 (by decide) (fun c_60 => ?_) (fun c_60 => ?_)
                · skip
                  have e2 : noF F sv w (o + 1) = noF F sv w o := noF_f (fun h => hnb h.2.2)
                  refine lv_iload_n hx hb d_M_nextOrder_67 rfl (lv_at hl 3 rfl) ?_
                  refine lv_istore_n (lv' := [(2, .int (oI (noF F sv w o))), (4, .int (nI 0)), (0, .ref (ad (64))), (1, .int (nI w)), (3, .int (nI o))]) hx hb d_M_nextOrder_68 rfl hl (by decide) rfl (fun ls hl => ?_)
                  refine lv_iinc (v := nI (o + 1)) (lv' := [(3, .int (nI (o + 1))), (2, .int (oI (noF F sv w o))), (4, .int (nI 0)), (0, .ref (ad (64))), (1, .int (nI w))]) hx hb d_M_nextOrder_69 hl (k := 4) rfl ((nI_succ _).symm) (by decide) rfl (fun ls hl => ?_)
                  refine lv_goto (tgt := 4) hx hb d_M_nextOrder_72 (by decide) ?_
                  have el2 : oI (noF F sv w (o + 1)) = oI (noF F sv w o) := congrArg oI e2
                  have hl : lv_has ls 5 [(3, .int (nI (o + 1))), (2, .int (oI (noF F sv w (o + 1)))), (4, .int (nI 0)), (0, .ref (ad (64))), (1, .int (nI w))] := by
                    have h9 := hl
                    revert h9; rw [show Value.int (oI (noF F sv w (o + 1))) = Value.int (oI (noF F sv w o)) from congrArg _ el2]; intro h9
                    exact h9
                  exact ih4 (o + 1) (by omega) (by omega) _ _ ls hw hS (lv_sub hl [3, 4, 1, 0] rfl)
                · skip
                  first | exact absurd c_60 (by decide) | exact absurd (by decide) c_60
          · skip
            have hbt : nbP F o (noF F sv w o) := by rw [hf]; exact Int32.not_le.mp c_29
            refine lv_iconst (v := nI 1) hx hb d_M_nextOrder_32 (by decide) ?_
            refine lv_goto (tgt := 37) hx hb d_M_nextOrder_33 (by decide) ?_
            refine lv_istore (lv' := [(4, .int (nI 1)), (0, .ref (ad (64))), (1, .int (nI w)), (2, .int (oI (noF F sv w o))), (3, .int (nI o))]) hx hb d_M_nextOrder_37 hl (by decide) rfl (fun ls hl => ?_)
            refine lv_aload_n hx hb d_M_nextOrder_39 rfl (lv_at hl 1 rfl) ?_
            refine nw_get hx hb hts i_M hown hK hw (64) (mW_64) rfl 14 (by decide) (hts _ kw_673) (fun _ h9 => h9) rfl d_M_nextOrder_40 ?_
            refine lv_iload_n hx hb d_M_nextOrder_43 rfl (lv_at hl 4 rfl) ?_
            refine nw_iald hx hb hK hw (188) 0 (mW_row (t := 5) (j := 8) (by decide) (by decide) (rfl)) rfl (o) (rfl) (by omega) (by omega) d_M_nextOrder_44 ?_
            refine lv_ei (y := F 5 8 o) (congrFun (hsc 5 8 (by omega)) _) ?_
            refine lv_iload_n hx hb d_M_nextOrder_45 rfl (lv_at hl 2 rfl) ?_
            refine lv_icmp_ne (tgt := 67) hx hb d_M_nextOrder_46 (by decide) (fun c_46 => ?_) (fun c_46 => ?_)
            · skip
              have e2 : noF F sv w (o + 1) = noF F sv w o := noF_f (fun h => c_46 h.1)
              refine lv_iload_n hx hb d_M_nextOrder_67 rfl (lv_at hl 3 rfl) ?_
              refine lv_istore_n (lv' := [(2, .int (oI (noF F sv w o))), (4, .int (nI 1)), (0, .ref (ad (64))), (1, .int (nI w)), (3, .int (nI o))]) hx hb d_M_nextOrder_68 rfl hl (by decide) rfl (fun ls hl => ?_)
              refine lv_iinc (v := nI (o + 1)) (lv' := [(3, .int (nI (o + 1))), (2, .int (oI (noF F sv w o))), (4, .int (nI 1)), (0, .ref (ad (64))), (1, .int (nI w))]) hx hb d_M_nextOrder_69 hl (k := 4) rfl ((nI_succ _).symm) (by decide) rfl (fun ls hl => ?_)
              refine lv_goto (tgt := 4) hx hb d_M_nextOrder_72 (by decide) ?_
              have el2 : oI (noF F sv w (o + 1)) = oI (noF F sv w o) := congrArg oI e2
              have hl : lv_has ls 5 [(3, .int (nI (o + 1))), (2, .int (oI (noF F sv w (o + 1)))), (4, .int (nI 1)), (0, .ref (ad (64))), (1, .int (nI w))] := by
                have h9 := hl
                revert h9; rw [show Value.int (oI (noF F sv w (o + 1))) = Value.int (oI (noF F sv w o)) from congrArg _ el2]; intro h9
                exact h9
              exact ih4 (o + 1) (by omega) (by omega) _ _ ls hw hS (lv_sub hl [3, 4, 1, 0] rfl)
            · skip
              refine lv_aload_n hx hb d_M_nextOrder_49 rfl (lv_at hl 1 rfl) ?_
              refine nw_get hx hb hts i_M hown hK hw (64) (mW_64) rfl 30 (by decide) (hts _ kw_689) (fun _ h9 => h9) rfl d_M_nextOrder_50 ?_
              refine lv_iload_n hx hb d_M_nextOrder_53 rfl (lv_at hl 4 rfl) ?_
              refine nw_zald hx hb hK hw (196) 2 (mW_row (t := 6) (j := 0) (by decide) (by decide) (rfl)) rfl (o) (rfl) (by omega) (by omega) d_M_nextOrder_54 ?_
              refine lv_ei (y := sv o) (by rw [hsv]) ?_
              refine lv_if_ne (tgt := 67) hx hb d_M_nextOrder_55 (by decide) (fun c_55 => ?_) (fun c_55 => ?_)
              · skip
                have e2 : noF F sv w (o + 1) = noF F sv w o := noF_f (fun h => c_55 h.2.1)
                refine lv_iload_n hx hb d_M_nextOrder_67 rfl (lv_at hl 3 rfl) ?_
                refine lv_istore_n (lv' := [(2, .int (oI (noF F sv w o))), (4, .int (nI 1)), (0, .ref (ad (64))), (1, .int (nI w)), (3, .int (nI o))]) hx hb d_M_nextOrder_68 rfl hl (by decide) rfl (fun ls hl => ?_)
                refine lv_iinc (v := nI (o + 1)) (lv' := [(3, .int (nI (o + 1))), (2, .int (oI (noF F sv w o))), (4, .int (nI 1)), (0, .ref (ad (64))), (1, .int (nI w))]) hx hb d_M_nextOrder_69 hl (k := 4) rfl ((nI_succ _).symm) (by decide) rfl (fun ls hl => ?_)
                refine lv_goto (tgt := 4) hx hb d_M_nextOrder_72 (by decide) ?_
                have el2 : oI (noF F sv w (o + 1)) = oI (noF F sv w o) := congrArg oI e2
                have hl : lv_has ls 5 [(3, .int (nI (o + 1))), (2, .int (oI (noF F sv w (o + 1)))), (4, .int (nI 1)), (0, .ref (ad (64))), (1, .int (nI w))] := by
                  have h9 := hl
                  revert h9; rw [show Value.int (oI (noF F sv w (o + 1))) = Value.int (oI (noF F sv w o)) from congrArg _ el2]; intro h9
                  exact h9
                exact ih4 (o + 1) (by omega) (by omega) _ _ ls hw hS (lv_sub hl [3, 4, 1, 0] rfl)
              · skip
                refine lv_iload hx hb d_M_nextOrder_58 (lv_at hl 0 rfl) ?_
                refine lv_if_eq (tgt := 67) hx hb d_M_nextOrder_60 (by decide) (fun c_60 => ?_) (fun c_60 => ?_)
                · skip
                  first | exact absurd c_60 (by decide) | exact absurd (by decide) c_60
                · skip
                  have e2 : noF F sv w (o + 1) = some o := noF_t c_46 c_55 hbt
                  refine lv_iload_n hx hb d_M_nextOrder_63 rfl (lv_at hl 4 rfl) ?_
                  refine lv_goto (tgt := 68) hx hb d_M_nextOrder_64 (by decide) ?_
                  refine lv_istore_n (lv' := [(2, .int (nI o)), (4, .int (nI 1)), (0, .ref (ad (64))), (1, .int (nI w)), (3, .int (nI o))]) hx hb d_M_nextOrder_68 rfl hl (by decide) rfl (fun ls hl => ?_)
                  refine lv_iinc (v := nI (o + 1)) (lv' := [(3, .int (nI (o + 1))), (2, .int (nI o)), (4, .int (nI 1)), (0, .ref (ad (64))), (1, .int (nI w))]) hx hb d_M_nextOrder_69 hl (k := 4) rfl ((nI_succ _).symm) (by decide) rfl (fun ls hl => ?_)
                  refine lv_goto (tgt := 4) hx hb d_M_nextOrder_72 (by decide) ?_
                  have el2 : oI (noF F sv w (o + 1)) = nI o := congrArg oI e2
                  have hl : lv_has ls 5 [(3, .int (nI (o + 1))), (2, .int (oI (noF F sv w (o + 1)))), (4, .int (nI 1)), (0, .ref (ad (64))), (1, .int (nI w))] := by
                    have h9 := hl
                    revert h9; rw [show Value.int (oI (noF F sv w (o + 1))) = Value.int (nI o) from congrArg _ el2]; intro h9
                    exact h9
                  exact ih4 (o + 1) (by omega) (by omega) _ _ ls hw hS (lv_sub hl [3, 4, 1, 0] rfl)
  exact loop4 (n 4 + 1) (0) (by omega) (by omega) _ _ ls hw hS (lv_sub hl [2, 3, 1, 0] rfl)
