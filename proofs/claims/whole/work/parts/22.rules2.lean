set_option maxHeartbeats 4000000 in
set_option maxRecDepth 100000 in
/-- BOATS -/
theorem c_Rules_keepsBoats (l : Launch) (D : va_G) (tC : Nat → ClassId) (A : Nat → Prop) (ad : Nat → Nat) (n : Nat → Nat) (I : Nat → Nat → Int32) (K : Nat → Int32) (bw : Int64) (LA : Nat → Int64) (bM : Nat → Option va_E) (aM : Nat → Nat → Option (ClassId × Nat)) (S0 S : Nat → Nat → Nat → Int32) (hsc : scr S0 S) (hN : hpN n) (r : Nat) (hr0 : r = 0 ∨ r = 9) (w : Nat) (hwk : w < n 0) : nw_Met l y_Rules_keepsBoats [Cond.code y_Rules_keepsBoats b_Rules_keepsBoats 7 (some .boolean)] ({ frames := 2, cells := 0, slots := 0, locals := 65 } : Room) D hpC A [.ref (ad (2)), .ref (ad (100 + r)), .int (nI w)] (nw_pre D hpC (hpT tC) A (hW ad tC n I K bw LA bM aM S) ad) (nw_sc (some (.int (b2 (pBoats n I S0 (S0 0 r) w)))) (fun S' => hW ad tC n I K bw LA bM aM S') S0 ad) 0 0 := by
  refine nw_bodyK (by decide) (Nat.le_of_ble_eq_true rfl) ?_
  intro p e s m below meth cd ls args Q hSx hr hlocks hname hA hKs hw hS hl hQ
  obtain ⟨hx, hb, hml, hown, hts⟩ := id hSx
  have hK := hKs.1
  have hl : lv_has ls 7 [(0, .ref (ad (2))), (1, .ref (ad (100 + r))), (2, .int (nI w))] := hl
  obtain ⟨hn0, hn0', hn1, hn2, hn3, hn4⟩ := id hN
  have hN6 : ngC (S0 0 r) (S0 3) w (n 2) ≤ n 2 := ngC_le
  have hAF3 : lgC (S0 4) w (n 3) ≤ n 3 := lgC_le
  refine lv_aload_n hx hb d_Rules_keepsBoats_0 rfl (lv_at hl 0 rfl) ?_
  refine lv_aload_n hx hb d_Rules_keepsBoats_1 rfl (lv_at hl 1 rfl) ?_
  refine lv_iload_n hx hb d_Rules_keepsBoats_2 rfl (lv_at hl 2 rfl) ?_
  refine nw_callD (nw_goV (n := 2) (As := [.ref (ad (100 + r)), .int (nI w)]) (rest := []) hSx hA hKs hw hS (c_Rules_gatherNeeds l D tC A ad n I K bw LA bM aM S0 S hsc hN r hr0 w (by omega)) kw_588 kw_585 kw_587 ks_Rules_gatherNeeds kw_4 rfl rfl (by decide +kernel) ⟨Nat.le_of_ble_eq_true rfl, Nat.le_of_ble_eq_true rfl⟩ (nw_recv hK hw (hW_2) rfl) rfl hl.1 (Nat.le_of_ble_eq_true rfl) d_Rules_keepsBoats_3 ⟨Nat.le_of_ble_eq_true rfl, Nat.le_of_ble_eq_true rfl⟩) hS (fun H locs hw hS => ?_)
  refine lv_istore_n (lv' := [(3, .int (nI (ngC (S0 0 r) (S0 3) w (n 2)))), (0, .ref (ad (2))), (1, .ref (ad (100 + r))), (2, .int (nI w))]) hx hb d_Rules_keepsBoats_6 rfl hl (by decide) rfl (fun ls hl => ?_)
  refine lv_iload_n hx hb d_Rules_keepsBoats_7 rfl (lv_at hl 0 rfl) ?_
  refine lv_if_ne (tgt := 13) hx hb d_Rules_keepsBoats_8 (by decide) (fun c_8 => ?_) (fun c_8 => ?_)
  · skip
    have hN1 : 1 ≤ ngC (S0 0 r) (S0 3) w (n 2) := Nat.pos_of_ne_zero (fun h => c_8 (by rw [h]; rfl))
    refine lv_aload_n hx hb d_Rules_keepsBoats_13 rfl (lv_at hl 1 rfl) ?_
    refine lv_iload_n hx hb d_Rules_keepsBoats_14 rfl (lv_at hl 3 rfl) ?_
    refine nw_callD (nw_goV (n := 1) (As := [.int (nI w)]) (rest := []) hSx hA hKs hw hS (c_Rules_gatherLoads l D tC A ad n I K bw LA bM aM S0 (upR S 0 3 (ngA (S0 0 r) (S0 3) w (S 0 3) (n 2))) (scr_up hsc (by omega)) hN w (by omega)) kw_592 kw_589 kw_591 ks_Rules_gatherLoads kw_4 rfl rfl (by decide +kernel) ⟨Nat.le_of_ble_eq_true rfl, Nat.le_of_ble_eq_true rfl⟩ (nw_recv hK hw (hW_2) rfl) rfl hl.1 (Nat.le_of_ble_eq_true rfl) d_Rules_keepsBoats_15 ⟨Nat.le_of_ble_eq_true rfl, Nat.le_of_ble_eq_true rfl⟩) hS (fun H locs hw hS => ?_)
    refine lv_istore (lv' := [(4, .int (nI (lgC (S0 4) w (n 3)))), (3, .int (nI (ngC (S0 0 r) (S0 3) w (n 2)))), (0, .ref (ad (2))), (1, .ref (ad (100 + r))), (2, .int (nI w))]) hx hb d_Rules_keepsBoats_18 hl (by decide) rfl (fun ls hl => ?_)
    refine lv_iload_n hx hb d_Rules_keepsBoats_20 rfl (lv_at hl 1 rfl) ?_
    refine lv_iload hx hb d_Rules_keepsBoats_21 (lv_at hl 0 rfl) ?_
    refine lv_icmp_le (tgt := 28) hx hb d_Rules_keepsBoats_23 (by decide) (fun c_23 => ?_) (fun c_23 => ?_)
    · skip
      have hle : ngC (S0 0 r) (S0 3) w (n 2) ≤ lgC (S0 4) w (n 3) := (nI_leI (by omega) (by omega)).mp c_23
      refine lv_iconst (v := nI 1) hx hb d_Rules_keepsBoats_28 (by decide) ?_
      refine lv_istore (lv' := [(5, .int (nI 1)), (4, .int (nI (lgC (S0 4) w (n 3)))), (3, .int (nI (ngC (S0 0 r) (S0 3) w (n 2)))), (0, .ref (ad (2))), (1, .ref (ad (100 + r))), (2, .int (nI w))]) hx hb d_Rules_keepsBoats_29 hl (by decide) rfl (fun ls hl => ?_)
      refine lv_iconst (v := nI 0) hx hb d_Rules_keepsBoats_31 (by decide) ?_
      refine lv_istore (lv' := [(6, .int (nI 0)), (5, .int (nI 1)), (4, .int (nI (lgC (S0 4) w (n 3)))), (3, .int (nI (ngC (S0 0 r) (S0 3) w (n 2)))), (0, .ref (ad (2))), (1, .ref (ad (100 + r))), (2, .int (nI w))]) hx hb d_Rules_keepsBoats_32 hl (by decide) rfl (fun ls hl => ?_)
      have el5 : nI ((ngC (S0 0 r) (S0 3) w (n 2)) ^ 0) = nI 1 := by rw [Nat.pow_zero]
      have hl : lv_has ls 7 [(6, .int (nI 0)), (5, .int (nI ((ngC (S0 0 r) (S0 3) w (n 2)) ^ 0))), (4, .int (nI (lgC (S0 4) w (n 3)))), (3, .int (nI (ngC (S0 0 r) (S0 3) w (n 2)))), (0, .ref (ad (2))), (1, .ref (ad (100 + r))), (2, .int (nI w))] := by
        have h9 := hl
        revert h9; rw [show Value.int (nI ((ngC (S0 0 r) (S0 3) w (n 2)) ^ 0)) = Value.int (nI 1) from congrArg _ el5]; intro h9
        exact h9
      have loop34 : ∀ (k b : Nat), b ≤ lgC (S0 4) w (n 3) → lgC (S0 4) w (n 3) + 1 ≤ b + k → ∀ (H : Heap) (locs : List Loc) (ls : Array Slot), nw_W D hpC A (hW ad tC n I K bw LA bM aM (upR (upR S 0 3 (ngA (S0 0 r) (S0 3) w (S 0 3) (n 2))) 0 4 (lgA (S0 4) (I 3) w ((upR S 0 3 (ngA (S0 0 r) (S0 3) w (S 0 3) (n 2))) 0 4) (n 3)))) ad H → va_S A s.heap H locs → lv_has ls 7 [(0, .ref (ad (2))), (1, .ref (ad (100 + r))), (2, .int (nI w)), (3, .int (nI (ngC (S0 0 r) (S0 3) w (n 2)))), (4, .int (nI (lgC (S0 4) w (n 3)))), (5, .int (nI ((ngC (S0 0 r) (S0 3) w (n 2)) ^ b))), (6, .int (nI b))] → W p l e ({ frames := 2, cells := 0, slots := 0, locals := 65 } : Room) s m args below meth cd H locs 0 0 Q (F0 m 34 ls []) := by
        intro k
        induction k with
        | zero => intro b h1 h2; exact absurd h2 (by omega)
        | succ k ih34 =>
          intro b hv34 hk34 H locs ls hw hS hl
          refine lv_iload hx hb d_Rules_keepsBoats_34 (lv_at hl 6 rfl) ?_
          refine lv_iload hx hb d_Rules_keepsBoats_36 (lv_at hl 4 rfl) ?_
          refine lv_icmp_ge (tgt := 53) hx hb d_Rules_keepsBoats_38 (by decide) (fun c_38 => ?_) (fun c_38 => ?_)
          · skip
            have hge38 : lgC (S0 4) w (n 3) ≤ b := (nI_leI (by omega) (by omega)).mp c_38
            obtain rfl : lgC (S0 4) w (n 3) = b := by omega
            refine lv_iconst (v := nI 0) hx hb d_Rules_keepsBoats_53 (by decide) ?_
            refine lv_istore (lv' := [(6, .int (nI 0)), (0, .ref (ad (2))), (1, .ref (ad (100 + r))), (2, .int (nI w)), (3, .int (nI (ngC (S0 0 r) (S0 3) w (n 2)))), (4, .int (nI (lgC (S0 4) w (n 3)))), (5, .int (nI ((ngC (S0 0 r) (S0 3) w (n 2)) ^ (lgC (S0 4) w (n 3)))))]) hx hb d_Rules_keepsBoats_54 hl (by decide) rfl (fun ls hl => ?_)
            obtain ⟨M, hM⟩ : ∃ M : Nat, M = (ngC (S0 0 r) (S0 3) w (n 2)) ^ (lgC (S0 4) w (n 3)) := ⟨_, rfl⟩
            have hM27 : M ≤ 27 := by rw [hM]; exact pow27 hN1 (by omega) (by omega)
            have hcb : ∀ v, pCarries (ngA (S0 0 r) (S0 3) w (S 0 3) (n 2)) (lgA (S0 4) (I 3) w ((upR S 0 3 (ngA (S0 0 r) (S0 3) w (S 0 3) (n 2))) 0 4) (n 3)) (ngC (S0 0 r) (S0 3) w (n 2)) (lgC (S0 4) w (n 3)) v ↔ pCarries (ngA (S0 0 r) (S0 3) w (fun _ => 0) (n 2)) (lgA (S0 4) (I 3) w (fun _ => 0) (n 3)) (ngC (S0 0 r) (S0 3) w (n 2)) (lgC (S0 4) w (n 3)) v := fun v => pCarries_base (by omega) (fun k hk => ngA_base hk) (fun k hk => lgA_base hk)
            have hw := nw_W.as (wn' := hW ad tC n I K bw LA bM aM (upR (upR (upR S 0 3 (ngA (S0 0 r) (S0 3) w (S 0 3) (n 2))) 0 4 (lgA (S0 4) (I 3) w ((upR S 0 3 (ngA (S0 0 r) (S0 3) w (S 0 3) (n 2))) 0 4) (n 3))) 0 5 ((upR (upR S 0 3 (ngA (S0 0 r) (S0 3) w (S 0 3) (n 2))) 0 4 (lgA (S0 4) (I 3) w ((upR S 0 3 (ngA (S0 0 r) (S0 3) w (S 0 3) (n 2))) 0 4) (n 3))) 0 5))) hw (by rw [upR_same])
            have el5 : nI M = nI ((ngC (S0 0 r) (S0 3) w (n 2)) ^ (lgC (S0 4) w (n 3))) := by rw [hM]
            have hl : lv_has ls 7 [(6, .int (nI 0)), (0, .ref (ad (2))), (1, .ref (ad (100 + r))), (2, .int (nI w)), (3, .int (nI (ngC (S0 0 r) (S0 3) w (n 2)))), (4, .int (nI (lgC (S0 4) w (n 3)))), (5, .int (nI M))] := by
              have h9 := hl
              revert h9; rw [show Value.int (nI M) = Value.int (nI ((ngC (S0 0 r) (S0 3) w (n 2)) ^ (lgC (S0 4) w (n 3)))) from congrArg _ el5]; intro h9
              exact h9
            have loop56 : ∀ (k way : Nat) (Z : Nat → Int32), way ≤ M → M + 1 ≤ way + k → (∀ v, v < way → ¬ pCarries (ngA (S0 0 r) (S0 3) w (fun _ => 0) (n 2)) (lgA (S0 4) (I 3) w (fun _ => 0) (n 3)) (ngC (S0 0 r) (S0 3) w (n 2)) (lgC (S0 4) w (n 3)) v) → ∀ (H : Heap) (locs : List Loc) (ls : Array Slot), nw_W D hpC A (hW ad tC n I K bw LA bM aM (upR (upR (upR S 0 3 (ngA (S0 0 r) (S0 3) w (S 0 3) (n 2))) 0 4 (lgA (S0 4) (I 3) w ((upR S 0 3 (ngA (S0 0 r) (S0 3) w (S 0 3) (n 2))) 0 4) (n 3))) 0 5 Z)) ad H → va_S A s.heap H locs → lv_has ls 7 [(0, .ref (ad (2))), (1, .ref (ad (100 + r))), (2, .int (nI w)), (3, .int (nI (ngC (S0 0 r) (S0 3) w (n 2)))), (4, .int (nI (lgC (S0 4) w (n 3)))), (5, .int (nI M)), (6, .int (nI way))] → W p l e ({ frames := 2, cells := 0, slots := 0, locals := 65 } : Room) s m args below meth cd H locs 0 0 Q (F0 m 56 ls []) := by
              intro k
              induction k with
              | zero => intro way Z h1 h2; exact absurd h2 (by omega)
              | succ k ih56 =>
                intro way Z hv56 hk56 hno H locs ls hw hS hl
                refine lv_iload hx hb d_Rules_keepsBoats_56 (lv_at hl 6 rfl) ?_
                refine lv_iload hx hb d_Rules_keepsBoats_58 (lv_at hl 5 rfl) ?_
                refine lv_icmp_ge (tgt := 83) hx hb d_Rules_keepsBoats_60 (by decide) (fun c_60 => ?_) (fun c_60 => ?_)
                · skip
                  have hge60 : M ≤ way := (nI_leI (by omega) (by omega)).mp c_60
                  obtain rfl : M = way := by omega
                  have hres : nI 0 = b2 (pBoats n I S0 (S0 0 r) w) := b2_f (fun h => h.elim (fun h0 => by omega) (fun ⟨_, v, hv, hc⟩ => hno v (by rw [hM]; exact hv) hc))
                  refine lv_iconst (v := nI 0) hx hb d_Rules_keepsBoats_83 (by decide) ?_
                  exact nw_zret hQ hx hb hr (by first | exact Or.inl rfl | exact Or.inr rfl) hlocks hw hS (nw_scI (scr_up (scr_up (scr_up hsc (by omega)) (by omega)) (by omega)) hres) (Nat.le_of_ble_eq_true rfl) (Nat.le_of_ble_eq_true rfl) d_Rules_keepsBoats_84
                · skip
                  have hlt : way < M := Nat.not_le.mp (fun q => c_60 (nI_le q (by omega)))
                  refine lv_aload_n hx hb d_Rules_keepsBoats_63 rfl (lv_at hl 0 rfl) ?_
                  refine lv_iload hx hb d_Rules_keepsBoats_64 (lv_at hl 6 rfl) ?_
                  refine lv_iload_n hx hb d_Rules_keepsBoats_66 rfl (lv_at hl 3 rfl) ?_
                  refine lv_iload hx hb d_Rules_keepsBoats_67 (lv_at hl 4 rfl) ?_
                  refine nw_callD (nw_goV (n := 3) (As := [.int (nI way), .int (nI (ngC (S0 0 r) (S0 3) w (n 2))), .int (nI (lgC (S0 4) w (n 3)))]) (rest := []) hSx hA hKs hw hS (c_Rules_carriesAll l D tC A ad n I K bw LA bM aM S0 (upR (upR (upR S 0 3 (ngA (S0 0 r) (S0 3) w (S 0 3) (n 2))) 0 4 (lgA (S0 4) (I 3) w ((upR S 0 3 (ngA (S0 0 r) (S0 3) w (S 0 3) (n 2))) 0 4) (n 3))) 0 5 Z) (scr_up (scr_up (scr_up hsc (by omega)) (by omega)) (by omega)) hN (ngA (S0 0 r) (S0 3) w (S 0 3) (n 2)) (lgA (S0 4) (I 3) w ((upR S 0 3 (ngA (S0 0 r) (S0 3) w (S 0 3) (n 2))) 0 4) (n 3)) (by rw [upR_ne (by omega), upR_ne (by omega), upR_self]) (by rw [upR_ne (by omega), upR_self]) way (ngC (S0 0 r) (S0 3) w (n 2)) (lgC (S0 4) w (n 3)) (by omega) (by omega) (by omega) (by omega)) kw_596 kw_593 kw_595 ks_Rules_carriesAll kw_4 rfl rfl (by decide +kernel) ⟨Nat.le_of_ble_eq_true rfl, Nat.le_of_ble_eq_true rfl⟩ (nw_recv hK hw (hW_2) rfl) rfl hl.1 (Nat.le_of_ble_eq_true rfl) d_Rules_keepsBoats_69 ⟨Nat.le_of_ble_eq_true rfl, Nat.le_of_ble_eq_true rfl⟩) hS (fun H locs hw hS => ?_)
                  rw [upR_upR] at hw
                  refine lv_if_eq (tgt := 77) hx hb d_Rules_keepsBoats_72 (by decide) (fun c_72 => ?_) (fun c_72 => ?_)
                  · skip
                    have hno' : ∀ v, v < way + 1 → ¬ pCarries (ngA (S0 0 r) (S0 3) w (fun _ => 0) (n 2)) (lgA (S0 4) (I 3) w (fun _ => 0) (n 3)) (ngC (S0 0 r) (S0 3) w (n 2)) (lgC (S0 4) w (n 3)) v := lt_s hno (fun h => b2_0 c_72 ((hcb way).mpr h))
                    refine lv_iinc (v := nI (way + 1)) (lv' := [(6, .int (nI (way + 1))), (0, .ref (ad (2))), (1, .ref (ad (100 + r))), (2, .int (nI w)), (3, .int (nI (ngC (S0 0 r) (S0 3) w (n 2)))), (4, .int (nI (lgC (S0 4) w (n 3)))), (5, .int (nI M))]) hx hb d_Rules_keepsBoats_77 hl (k := 6) rfl ((nI_succ _).symm) (by decide) rfl (fun ls hl => ?_)
                    refine lv_goto (tgt := 56) hx hb d_Rules_keepsBoats_80 (by decide) ?_
                    exact ih56 (way + 1) (_) (by omega) (by omega) (hno') _ _ ls hw hS (lv_sub hl [1, 2, 3, 4, 5, 6, 0] rfl)
                  · skip
                    have hres : nI 1 = b2 (pBoats n I S0 (S0 0 r) w) := b2_t (Or.inr ⟨hle, way, by rw [← hM]; omega, (hcb way).mp (b2_1 c_72)⟩)
                    refine lv_iconst (v := nI 1) hx hb d_Rules_keepsBoats_75 (by decide) ?_
                    exact nw_zret hQ hx hb hr (by first | exact Or.inl rfl | exact Or.inr rfl) hlocks hw hS (nw_scI (scr_up (scr_up (scr_up hsc (by omega)) (by omega)) (by omega)) hres) (Nat.le_of_ble_eq_true rfl) (Nat.le_of_ble_eq_true rfl) d_Rules_keepsBoats_76
            exact loop56 (M + 1) (0) (_) (by omega) (by omega) (fun j hj => absurd hj (Nat.not_lt_zero j)) _ _ ls hw hS (lv_sub hl [1, 2, 3, 4, 5, 6, 0] rfl)
          · skip
            have hlt : b < lgC (S0 4) w (n 3) := Nat.not_le.mp (fun q => c_38 (nI_le q (by omega)))
            refine lv_iload hx hb d_Rules_keepsBoats_41 (lv_at hl 5 rfl) ?_
            refine lv_iload_n hx hb d_Rules_keepsBoats_43 rfl (lv_at hl 3 rfl) ?_
            refine lv_imul hx hb d_Rules_keepsBoats_44 ?_
            refine lv_ei (y := nI ((ngC (S0 0 r) (S0 3) w (n 2)) ^ b * (ngC (S0 0 r) (S0 3) w (n 2)))) (pk_mul _ _) ?_
            refine lv_istore (lv' := [(5, .int (nI ((ngC (S0 0 r) (S0 3) w (n 2)) ^ b * (ngC (S0 0 r) (S0 3) w (n 2))))), (0, .ref (ad (2))), (1, .ref (ad (100 + r))), (2, .int (nI w)), (3, .int (nI (ngC (S0 0 r) (S0 3) w (n 2)))), (4, .int (nI (lgC (S0 4) w (n 3)))), (6, .int (nI b))]) hx hb d_Rules_keepsBoats_45 hl (by decide) rfl (fun ls hl => ?_)
            refine lv_iinc (v := nI (b + 1)) (lv' := [(6, .int (nI (b + 1))), (5, .int (nI ((ngC (S0 0 r) (S0 3) w (n 2)) ^ b * (ngC (S0 0 r) (S0 3) w (n 2))))), (0, .ref (ad (2))), (1, .ref (ad (100 + r))), (2, .int (nI w)), (3, .int (nI (ngC (S0 0 r) (S0 3) w (n 2)))), (4, .int (nI (lgC (S0 4) w (n 3))))]) hx hb d_Rules_keepsBoats_47 hl (k := 6) rfl ((nI_succ _).symm) (by decide) rfl (fun ls hl => ?_)
            refine lv_goto (tgt := 34) hx hb d_Rules_keepsBoats_50 (by decide) ?_
            have el5 : nI ((ngC (S0 0 r) (S0 3) w (n 2)) ^ (b + 1)) = nI ((ngC (S0 0 r) (S0 3) w (n 2)) ^ b * (ngC (S0 0 r) (S0 3) w (n 2))) := by rw [Nat.pow_succ]
            have hl : lv_has ls 7 [(6, .int (nI (b + 1))), (5, .int (nI ((ngC (S0 0 r) (S0 3) w (n 2)) ^ (b + 1)))), (0, .ref (ad (2))), (1, .ref (ad (100 + r))), (2, .int (nI w)), (3, .int (nI (ngC (S0 0 r) (S0 3) w (n 2)))), (4, .int (nI (lgC (S0 4) w (n 3))))] := by
              have h9 := hl
              revert h9; rw [show Value.int (nI ((ngC (S0 0 r) (S0 3) w (n 2)) ^ (b + 1))) = Value.int (nI ((ngC (S0 0 r) (S0 3) w (n 2)) ^ b * (ngC (S0 0 r) (S0 3) w (n 2)))) from congrArg _ el5]; intro h9
              exact h9
            exact ih34 (b + 1) (by omega) (by omega) _ _ ls hw hS (lv_sub hl [2, 3, 4, 5, 6, 1, 0] rfl)
      exact loop34 (lgC (S0 4) w (n 3) + 1) (0) (by omega) (by omega) _ _ ls hw hS (lv_sub hl [4, 5, 6, 3, 2, 1, 0] rfl)
    · skip
      have hres : nI 0 = b2 (pBoats n I S0 (S0 0 r) w) := b2_f (fun h => h.elim (fun h0 => by omega) (fun h0 => c_23 (nI_le h0.1 (by omega))))
      refine lv_iconst (v := nI 0) hx hb d_Rules_keepsBoats_26 (by decide) ?_
      exact nw_zret hQ hx hb hr (by first | exact Or.inl rfl | exact Or.inr rfl) hlocks hw hS (nw_scI (scr_up (scr_up hsc (by omega)) (by omega)) hres) (Nat.le_of_ble_eq_true rfl) (Nat.le_of_ble_eq_true rfl) d_Rules_keepsBoats_27
  · skip
    have hres : nI 1 = b2 (pBoats n I S0 (S0 0 r) w) := b2_t (Or.inl ((nI_eq (a := ngC (S0 0 r) (S0 3) w (n 2)) (b := 0) (by omega) (by omega)).mp c_8))
    refine lv_iconst (v := nI 1) hx hb d_Rules_keepsBoats_11 (by decide) ?_
    exact nw_zret hQ hx hb hr (by first | exact Or.inl rfl | exact Or.inr rfl) hlocks hw hS (nw_scI (scr_up hsc (by omega)) hres) (Nat.le_of_ble_eq_true rfl) (Nat.le_of_ble_eq_true rfl) d_Rules_keepsBoats_12

set_option maxHeartbeats 4000000 in
set_option maxRecDepth 100000 in
/-- rules 1, 2, 3 -/
theorem c_Rules_allowsTaking (l : Launch) (D : va_G) (tC : Nat → ClassId) (A : Nat → Prop) (ad : Nat → Nat) (n : Nat → Nat) (I : Nat → Nat → Int32) (K : Nat → Int32) (bw : Int64) (LA : Nat → Int64) (bM : Nat → Option va_E) (aM : Nat → Nat → Option (ClassId × Nat)) (S0 S : Nat → Nat → Nat → Int32) (hsc : scr S0 S) (hN : hpN n) (r : Nat) (hr0 : r = 0 ∨ r = 9) (w : Nat) (hwk : w < n 0) (hm : Nat → Nat) (hH : ∀ c, c < n 2 → I 2 c = nI (hm c) ∧ hm c < n 1) : nw_Met l y_Rules_allowsTaking [Cond.code y_Rules_allowsTaking b_Rules_allowsTaking 3 (some .boolean)] ({ frames := 3, cells := 0, slots := 0, locals := 91 } : Room) D hpC A [.ref (ad (2)), .ref (ad (100 + r)), .int (nI w)] (nw_pre D hpC (hpT tC) A (hW ad tC n I K bw LA bM aM S) ad) (nw_sc (some (.int (b2 (pClosed n hm S0 (S0 0 r) w ∧ pPlant n S0 (S0 0 r) w ∧ pBoats n I S0 (S0 0 r) w)))) (fun S' => hW ad tC n I K bw LA bM aM S') S0 ad) 0 0 := by
  refine nw_bodyK (by decide) (Nat.le_of_ble_eq_true rfl) ?_
  intro p e s m below meth cd ls args Q hSx hr hlocks hname hA hKs hw hS hl hQ
  obtain ⟨hx, hb, hml, hown, hts⟩ := id hSx
  have hK := hKs.1
  have hl : lv_has ls 3 [(0, .ref (ad (2))), (1, .ref (ad (100 + r))), (2, .int (nI w))] := hl
  obtain ⟨hn0, hn0', hn1, hn2, hn3, hn4⟩ := id hN
  refine lv_aload_n hx hb d_Rules_allowsTaking_0 rfl (lv_at hl 0 rfl) ?_
  refine lv_aload_n hx hb d_Rules_allowsTaking_1 rfl (lv_at hl 1 rfl) ?_
  refine lv_iload_n hx hb d_Rules_allowsTaking_2 rfl (lv_at hl 2 rfl) ?_
  refine nw_callD (nw_goV (n := 2) (As := [.ref (ad (100 + r)), .int (nI w)]) (rest := []) hSx hA hKs hw hS (c_Rules_keepsClosed l D tC A ad n I K bw LA bM aM S0 S hsc hN r hr0 w (by omega) hm hH) kw_576 kw_573 kw_575 ks_Rules_keepsClosed kw_4 rfl rfl (by decide +kernel) ⟨Nat.le_of_ble_eq_true rfl, Nat.le_of_ble_eq_true rfl⟩ (nw_recv hK hw (hW_2) rfl) rfl hl.1 (Nat.le_of_ble_eq_true rfl) d_Rules_allowsTaking_3 ⟨Nat.le_of_ble_eq_true rfl, Nat.le_of_ble_eq_true rfl⟩) hS (fun H locs hw hS => ?_)
  refine lv_if_eq (tgt := 31) hx hb d_Rules_allowsTaking_6 (by decide) (fun c_6 => ?_) (fun c_6 => ?_)
  · skip
    have hres : nI 0 = b2 (pClosed n hm S0 (S0 0 r) w ∧ pPlant n S0 (S0 0 r) w ∧ pBoats n I S0 (S0 0 r) w) := b2_f (fun h => b2_0 c_6 h.1)
    refine lv_iconst (v := nI 0) hx hb d_Rules_allowsTaking_31 (by decide) ?_
    exact nw_zret hQ hx hb hr (by first | exact Or.inl rfl | exact Or.inr rfl) hlocks hw hS (nw_scI hsc hres) (Nat.le_of_ble_eq_true rfl) (Nat.le_of_ble_eq_true rfl) d_Rules_allowsTaking_32
  · skip
    refine lv_aload_n hx hb d_Rules_allowsTaking_9 rfl (lv_at hl 0 rfl) ?_
    refine lv_aload_n hx hb d_Rules_allowsTaking_10 rfl (lv_at hl 1 rfl) ?_
    refine lv_iload_n hx hb d_Rules_allowsTaking_11 rfl (lv_at hl 2 rfl) ?_
    refine nw_callD (nw_goV (n := 2) (As := [.ref (ad (100 + r)), .int (nI w)]) (rest := []) hSx hA hKs hw hS (c_Rules_keepsPlant l D tC A ad n I K bw LA bM aM S0 S hsc hN r hr0 w (by omega)) kw_580 kw_577 kw_579 ks_Rules_keepsPlant kw_4 rfl rfl (by decide +kernel) ⟨Nat.le_of_ble_eq_true rfl, Nat.le_of_ble_eq_true rfl⟩ (nw_recv hK hw (hW_2) rfl) rfl hl.1 (Nat.le_of_ble_eq_true rfl) d_Rules_allowsTaking_12 ⟨Nat.le_of_ble_eq_true rfl, Nat.le_of_ble_eq_true rfl⟩) hS (fun H locs hw hS => ?_)
    refine lv_if_eq (tgt := 31) hx hb d_Rules_allowsTaking_15 (by decide) (fun c_15 => ?_) (fun c_15 => ?_)
    · skip
      have hres : nI 0 = b2 (pClosed n hm S0 (S0 0 r) w ∧ pPlant n S0 (S0 0 r) w ∧ pBoats n I S0 (S0 0 r) w) := b2_f (fun h => b2_0 c_15 h.2.1)
      refine lv_iconst (v := nI 0) hx hb d_Rules_allowsTaking_31 (by decide) ?_
      exact nw_zret hQ hx hb hr (by first | exact Or.inl rfl | exact Or.inr rfl) hlocks hw hS (nw_scI hsc hres) (Nat.le_of_ble_eq_true rfl) (Nat.le_of_ble_eq_true rfl) d_Rules_allowsTaking_32
    · skip
      refine lv_aload_n hx hb d_Rules_allowsTaking_18 rfl (lv_at hl 0 rfl) ?_
      refine lv_aload_n hx hb d_Rules_allowsTaking_19 rfl (lv_at hl 1 rfl) ?_
      refine lv_iload_n hx hb d_Rules_allowsTaking_20 rfl (lv_at hl 2 rfl) ?_
      refine nw_call (nw_goV (n := 2) (As := [.ref (ad (100 + r)), .int (nI w)]) (rest := []) hSx hA hKs hw hS (c_Rules_keepsBoats l D tC A ad n I K bw LA bM aM S0 S hsc hN r hr0 w (by omega)) kw_584 kw_581 kw_583 ks_Rules_keepsBoats kw_4 rfl rfl (by decide +kernel) ⟨Nat.le_of_ble_eq_true rfl, Nat.le_of_ble_eq_true rfl⟩ (nw_recv hK hw (hW_2) rfl) rfl hl.1 (Nat.le_of_ble_eq_true rfl) d_Rules_allowsTaking_21 ⟨Nat.le_of_ble_eq_true rfl, Nat.le_of_ble_eq_true rfl⟩) hS (fun rv wn' ad' H locs hpost hw hS => ?_)
      obtain ⟨hrv1, S1z, hsc1z, hw⟩ := nw_sc_out hpost hw
      subst hrv1
      refine lv_if_eq (tgt := 31) hx hb d_Rules_allowsTaking_24 (by decide) (fun c_24 => ?_) (fun c_24 => ?_)
      · skip
        have hres : nI 0 = b2 (pClosed n hm S0 (S0 0 r) w ∧ pPlant n S0 (S0 0 r) w ∧ pBoats n I S0 (S0 0 r) w) := b2_f (fun h => b2_0 c_24 h.2.2)
        refine lv_iconst (v := nI 0) hx hb d_Rules_allowsTaking_31 (by decide) ?_
        exact nw_zret hQ hx hb hr (by first | exact Or.inl rfl | exact Or.inr rfl) hlocks hw hS (nw_scI hsc1z hres) (Nat.le_of_ble_eq_true rfl) (Nat.le_of_ble_eq_true rfl) d_Rules_allowsTaking_32
      · skip
        have hres : nI 1 = b2 (pClosed n hm S0 (S0 0 r) w ∧ pPlant n S0 (S0 0 r) w ∧ pBoats n I S0 (S0 0 r) w) := b2_t ⟨b2_1 c_6, b2_1 c_15, b2_1 c_24⟩
        refine lv_iconst (v := nI 1) hx hb d_Rules_allowsTaking_27 (by decide) ?_
        refine lv_goto (tgt := 32) hx hb d_Rules_allowsTaking_28 (by decide) ?_
        exact nw_zret hQ hx hb hr (by first | exact Or.inl rfl | exact Or.inr rfl) hlocks hw hS (nw_scI hsc1z hres) (Nat.le_of_ble_eq_true rfl) (Nat.le_of_ble_eq_true rfl) d_Rules_allowsTaking_32

set_option maxHeartbeats 4000000 in
set_option maxRecDepth 100000 in
/-- the least rule that is broken -/
theorem c_Rules_leastBroken (l : Launch) (D : va_G) (tC : Nat → ClassId) (A : Nat → Prop) (ad : Nat → Nat) (n : Nat → Nat) (I : Nat → Nat → Int32) (K : Nat → Int32) (bw : Int64) (LA : Nat → Int64) (bM : Nat → Option va_E) (aM : Nat → Nat → Option (ClassId × Nat)) (S0 S : Nat → Nat → Nat → Int32) (hsc : scr S0 S) (hN : hpN n) (r : Nat) (hr0 : r = 0 ∨ r = 9) (w : Nat) (hwk : w < n 0) (hm : Nat → Nat) (hH : ∀ c, c < n 2 → I 2 c = nI (hm c) ∧ hm c < n 1) : nw_Met l y_Rules_leastBroken [Cond.code y_Rules_leastBroken b_Rules_leastBroken 3 (some .int)] ({ frames := 3, cells := 0, slots := 0, locals := 91 } : Room) D hpC A [.ref (ad (2)), .ref (ad (100 + r)), .int (nI w)] (nw_pre D hpC (hpT tC) A (hW ad tC n I K bw LA bM aM S) ad) (nw_sc (some (.int (lbI (pPlant n S0 (S0 0 r) w) (pBoats n I S0 (S0 0 r) w) (pClosed n hm S0 (S0 0 r) w) (pHeld n I hm S0 (S0 0 r) w)))) (fun S' => hW ad tC n I K bw LA bM aM S') S0 ad) 0 0 := by
  refine nw_bodyK (by decide) (Nat.le_of_ble_eq_true rfl) ?_
  intro p e s m below meth cd ls args Q hSx hr hlocks hname hA hKs hw hS hl hQ
  obtain ⟨hx, hb, hml, hown, hts⟩ := id hSx
  have hK := hKs.1
  have hl : lv_has ls 3 [(0, .ref (ad (2))), (1, .ref (ad (100 + r))), (2, .int (nI w))] := hl
  obtain ⟨hn0, hn0', hn1, hn2, hn3, hn4⟩ := id hN
  refine lv_aload_n hx hb d_Rules_leastBroken_0 rfl (lv_at hl 0 rfl) ?_
  refine lv_aload_n hx hb d_Rules_leastBroken_1 rfl (lv_at hl 1 rfl) ?_
  refine lv_iload_n hx hb d_Rules_leastBroken_2 rfl (lv_at hl 2 rfl) ?_
  refine nw_callD (nw_goV (n := 2) (As := [.ref (ad (100 + r)), .int (nI w)]) (rest := []) hSx hA hKs hw hS (c_Rules_keepsPlant l D tC A ad n I K bw LA bM aM S0 S hsc hN r hr0 w (by omega)) kw_580 kw_577 kw_579 ks_Rules_keepsPlant kw_4 rfl rfl (by decide +kernel) ⟨Nat.le_of_ble_eq_true rfl, Nat.le_of_ble_eq_true rfl⟩ (nw_recv hK hw (hW_2) rfl) rfl hl.1 (Nat.le_of_ble_eq_true rfl) d_Rules_leastBroken_3 ⟨Nat.le_of_ble_eq_true rfl, Nat.le_of_ble_eq_true rfl⟩) hS (fun H locs hw hS => ?_)
  refine lv_if_ne (tgt := 11) hx hb d_Rules_leastBroken_6 (by decide) (fun c_6 => ?_) (fun c_6 => ?_)
  · skip
    refine lv_aload_n hx hb d_Rules_leastBroken_11 rfl (lv_at hl 0 rfl) ?_
    refine lv_aload_n hx hb d_Rules_leastBroken_12 rfl (lv_at hl 1 rfl) ?_
    refine lv_iload_n hx hb d_Rules_leastBroken_13 rfl (lv_at hl 2 rfl) ?_
    refine nw_call (nw_goV (n := 2) (As := [.ref (ad (100 + r)), .int (nI w)]) (rest := []) hSx hA hKs hw hS (c_Rules_keepsBoats l D tC A ad n I K bw LA bM aM S0 S hsc hN r hr0 w (by omega)) kw_584 kw_581 kw_583 ks_Rules_keepsBoats kw_4 rfl rfl (by decide +kernel) ⟨Nat.le_of_ble_eq_true rfl, Nat.le_of_ble_eq_true rfl⟩ (nw_recv hK hw (hW_2) rfl) rfl hl.1 (Nat.le_of_ble_eq_true rfl) d_Rules_leastBroken_14 ⟨Nat.le_of_ble_eq_true rfl, Nat.le_of_ble_eq_true rfl⟩) hS (fun rv wn' ad' H locs hpost hw hS => ?_)
    obtain ⟨hrv1, S1z, hsc1z, hw⟩ := nw_sc_out hpost hw
    subst hrv1
    refine lv_if_ne (tgt := 22) hx hb d_Rules_leastBroken_17 (by decide) (fun c_17 => ?_) (fun c_17 => ?_)
    · skip
      refine lv_aload_n hx hb d_Rules_leastBroken_22 rfl (lv_at hl 0 rfl) ?_
      refine lv_aload_n hx hb d_Rules_leastBroken_23 rfl (lv_at hl 1 rfl) ?_
      refine lv_iload_n hx hb d_Rules_leastBroken_24 rfl (lv_at hl 2 rfl) ?_
      refine nw_callD (nw_goV (n := 2) (As := [.ref (ad (100 + r)), .int (nI w)]) (rest := []) hSx hA hKs hw hS (c_Rules_keepsClosed l D tC A ad n I K bw LA bM aM S0 S1z hsc1z hN r hr0 w (by omega) hm hH) kw_576 kw_573 kw_575 ks_Rules_keepsClosed kw_4 rfl rfl (by decide +kernel) ⟨Nat.le_of_ble_eq_true rfl, Nat.le_of_ble_eq_true rfl⟩ (nw_recv hK hw (hW_2) rfl) rfl hl.1 (Nat.le_of_ble_eq_true rfl) d_Rules_leastBroken_25 ⟨Nat.le_of_ble_eq_true rfl, Nat.le_of_ble_eq_true rfl⟩) hS (fun H locs hw hS => ?_)
      refine lv_if_ne (tgt := 33) hx hb d_Rules_leastBroken_28 (by decide) (fun c_28 => ?_) (fun c_28 => ?_)
      · skip
        refine lv_aload_n hx hb d_Rules_leastBroken_33 rfl (lv_at hl 0 rfl) ?_
        refine lv_aload_n hx hb d_Rules_leastBroken_34 rfl (lv_at hl 1 rfl) ?_
        refine lv_iload_n hx hb d_Rules_leastBroken_35 rfl (lv_at hl 2 rfl) ?_
        refine nw_call (nw_goV (n := 2) (As := [.ref (ad (100 + r)), .int (nI w)]) (rest := []) hSx hA hKs hw hS (c_Rules_keepsHeld l D tC A ad n I K bw LA bM aM S0 S1z hsc1z hN r hr0 w (by omega) hm hH) kw_549 kw_546 kw_548 ks_Rules_keepsHeld kw_4 rfl rfl (by decide +kernel) ⟨Nat.le_of_ble_eq_true rfl, Nat.le_of_ble_eq_true rfl⟩ (nw_recv hK hw (hW_2) rfl) rfl hl.1 (Nat.le_of_ble_eq_true rfl) d_Rules_leastBroken_36 ⟨Nat.le_of_ble_eq_true rfl, Nat.le_of_ble_eq_true rfl⟩) hS (fun rv wn' ad' H locs hpost hw hS => ?_)
        obtain ⟨hrv2, S2z, hsc2z, hw⟩ := nw_sc_out hpost hw
        subst hrv2
        refine lv_if_eq (tgt := 46) hx hb d_Rules_leastBroken_39 (by decide) (fun c_39 => ?_) (fun c_39 => ?_)
        · skip
          have hres : nI 4 = lbI (pPlant n S0 (S0 0 r) w) (pBoats n I S0 (S0 0 r) w) (pClosed n hm S0 (S0 0 r) w) (pHeld n I hm S0 (S0 0 r) w) := lbI_4 (b2_1 c_6) (b2_1 c_17) (b2_1 c_28) (b2_0 c_39)
          refine lv_iconst (v := nI 4) hx hb d_Rules_leastBroken_46 (by decide) ?_
          exact nw_iret hQ hx hb hr hlocks hw hS (nw_scI hsc2z hres) (Nat.le_of_ble_eq_true rfl) (Nat.le_of_ble_eq_true rfl) d_Rules_leastBroken_47
        · skip
          have hres : nI 0 = lbI (pPlant n S0 (S0 0 r) w) (pBoats n I S0 (S0 0 r) w) (pClosed n hm S0 (S0 0 r) w) (pHeld n I hm S0 (S0 0 r) w) := lbI_0 (b2_1 c_6) (b2_1 c_17) (b2_1 c_28) (b2_1 c_39)
          refine lv_iconst (v := nI 0) hx hb d_Rules_leastBroken_42 (by decide) ?_
          refine lv_goto (tgt := 47) hx hb d_Rules_leastBroken_43 (by decide) ?_
          exact nw_iret hQ hx hb hr hlocks hw hS (nw_scI hsc2z hres) (Nat.le_of_ble_eq_true rfl) (Nat.le_of_ble_eq_true rfl) d_Rules_leastBroken_47
      · skip
        have hres : nI 3 = lbI (pPlant n S0 (S0 0 r) w) (pBoats n I S0 (S0 0 r) w) (pClosed n hm S0 (S0 0 r) w) (pHeld n I hm S0 (S0 0 r) w) := lbI_3 (b2_1 c_6) (b2_1 c_17) (b2_0 c_28)
        refine lv_iconst (v := nI 3) hx hb d_Rules_leastBroken_31 (by decide) ?_
        exact nw_iret hQ hx hb hr hlocks hw hS (nw_scI hsc1z hres) (Nat.le_of_ble_eq_true rfl) (Nat.le_of_ble_eq_true rfl) d_Rules_leastBroken_32
    · skip
      have hres : nI 2 = lbI (pPlant n S0 (S0 0 r) w) (pBoats n I S0 (S0 0 r) w) (pClosed n hm S0 (S0 0 r) w) (pHeld n I hm S0 (S0 0 r) w) := lbI_2 (b2_1 c_6) (b2_0 c_17)
      refine lv_iconst (v := nI 2) hx hb d_Rules_leastBroken_20 (by decide) ?_
      exact nw_iret hQ hx hb hr hlocks hw hS (nw_scI hsc1z hres) (Nat.le_of_ble_eq_true rfl) (Nat.le_of_ble_eq_true rfl) d_Rules_leastBroken_21
  · skip
    have hres : nI 1 = lbI (pPlant n S0 (S0 0 r) w) (pBoats n I S0 (S0 0 r) w) (pClosed n hm S0 (S0 0 r) w) (pHeld n I hm S0 (S0 0 r) w) := lbI_1  (b2_0 c_6)
    refine lv_iconst (v := nI 1) hx hb d_Rules_leastBroken_9 (by decide) ?_
    exact nw_iret hQ hx hb hr hlocks hw hS (nw_scI hsc hres) (Nat.le_of_ble_eq_true rfl) (Nat.le_of_ble_eq_true rfl) d_Rules_leastBroken_10

set_option maxHeartbeats 4000000 in
set_option maxRecDepth 100000 in
/-- HELD in each week -/
theorem c_Rules_keepsAllHeld (l : Launch) (D : va_G) (tC : Nat → ClassId) (A : Nat → Prop) (ad : Nat → Nat) (n : Nat → Nat) (I : Nat → Nat → Int32) (K : Nat → Int32) (bw : Int64) (LA : Nat → Int64) (bM : Nat → Option va_E) (aM : Nat → Nat → Option (ClassId × Nat)) (S0 S : Nat → Nat → Nat → Int32) (hsc : scr S0 S) (hN : hpN n) (r : Nat) (hr0 : r = 0 ∨ r = 9) (hm : Nat → Nat) (hH : ∀ c, c < n 2 → I 2 c = nI (hm c) ∧ hm c < n 1) : nw_Met l y_Rules_keepsAllHeld [Cond.code y_Rules_keepsAllHeld b_Rules_keepsAllHeld 3 (some .boolean)] ({ frames := 2, cells := 0, slots := 0, locals := 46 } : Room) D hpC A [.ref (ad (2)), .ref (ad (100 + r))] (nw_pre D hpC (hpT tC) A (hW ad tC n I K bw LA bM aM S) ad) (nw_sc (some (.int (b2 (∀ j, j < n 0 → pHeld n I hm S0 (S0 0 r) j)))) (fun S' => hW ad tC n I K bw LA bM aM S') S0 ad) 0 0 := by
  refine nw_bodyK (by decide) (Nat.le_of_ble_eq_true rfl) ?_
  intro p e s m below meth cd ls args Q hSx hr hlocks hname hA hKs hw hS hl hQ
  obtain ⟨hx, hb, hml, hown, hts⟩ := id hSx
  have hK := hKs.1
  have hl : lv_has ls 3 [(0, .ref (ad (2))), (1, .ref (ad (100 + r)))] := hl
  obtain ⟨hn0, hn0', hn1, hn2, hn3, hn4⟩ := id hN
  refine lv_iconst (v := nI 0) hx hb d_Rules_keepsAllHeld_0 (by decide) ?_
  refine lv_istore_n (lv' := [(2, .int (nI 0)), (0, .ref (ad (2))), (1, .ref (ad (100 + r)))]) hx hb d_Rules_keepsAllHeld_1 rfl hl (by decide) rfl (fun ls hl => ?_)
  have loop2 : ∀ (k w : Nat) (Sv : Nat → Nat → Nat → Int32), w ≤ n 0 → n 0 + 1 ≤ w + k → (scr S0 Sv) → (∀ j, j < w → pHeld n I hm S0 (S0 0 r) j) → ∀ (H : Heap) (locs : List Loc) (ls : Array Slot), nw_W D hpC A (hW ad tC n I K bw LA bM aM Sv) ad H → va_S A s.heap H locs → lv_has ls 3 [(0, .ref (ad (2))), (1, .ref (ad (100 + r))), (2, .int (nI w))] → W p l e ({ frames := 2, cells := 0, slots := 0, locals := 46 } : Room) s m args below meth cd H locs 0 0 Q (F0 m 2 ls []) := by
    intro k
    induction k with
    | zero => intro w Sv h1 h2; exact absurd h2 (by omega)
    | succ k ih2 =>
      intro w Sv hv2 hk2 hsv hinv H locs ls hw hS hl
      refine lv_iload_n hx hb d_Rules_keepsAllHeld_2 rfl (lv_at hl 2 rfl) ?_
      refine lv_aload_n hx hb d_Rules_keepsAllHeld_3 rfl (lv_at hl 0 rfl) ?_
      refine nw_get hx hb hts i_Rules hown hK hw (2) (hW_2) rfl 0 (by decide) (hts _ kw_121) (fun _ h9 => h9) rfl d_Rules_keepsAllHeld_4 ?_
      refine nw_getN hx hb hts i_Farm hown hK hw (1) (hW_1) rfl 0 (by decide) (va_Nw.use rfl (hKs.2.2 _ kn_50 rfl)) (fun _ h9 => h9) rfl d_Rules_keepsAllHeld_7 ?_
      refine lv_icmp_ge (tgt := 30) hx hb d_Rules_keepsAllHeld_10 (by decide) (fun c_10 => ?_) (fun c_10 => ?_)
      · skip
        have hge10 : n 0 ≤ w := (nI_leI (by omega) (by omega)).mp c_10
        obtain rfl : n 0 = w := by omega
        have hres : nI 1 = b2 (∀ j, j < n 0 → pHeld n I hm S0 (S0 0 r) j) := b2_t hinv
        refine lv_iconst (v := nI 1) hx hb d_Rules_keepsAllHeld_30 (by decide) ?_
        exact nw_zret hQ hx hb hr (by first | exact Or.inl rfl | exact Or.inr rfl) hlocks hw hS (nw_scI hsv hres) (Nat.le_of_ble_eq_true rfl) (Nat.le_of_ble_eq_true rfl) d_Rules_keepsAllHeld_31
      · skip
        have hlt : w < n 0 := Nat.not_le.mp (fun q => c_10 (nI_le q (by omega)))
        refine lv_aload_n hx hb d_Rules_keepsAllHeld_13 rfl (lv_at hl 0 rfl) ?_
        refine lv_aload_n hx hb d_Rules_keepsAllHeld_14 rfl (lv_at hl 1 rfl) ?_
        refine lv_iload_n hx hb d_Rules_keepsAllHeld_15 rfl (lv_at hl 2 rfl) ?_
        refine nw_call (nw_goV (n := 2) (As := [.ref (ad (100 + r)), .int (nI w)]) (rest := []) hSx hA hKs hw hS (c_Rules_keepsHeld l D tC A ad n I K bw LA bM aM S0 Sv hsv hN r hr0 w (by omega) hm hH) kw_549 kw_546 kw_548 ks_Rules_keepsHeld kw_4 rfl rfl (by decide +kernel) ⟨Nat.le_of_ble_eq_true rfl, Nat.le_of_ble_eq_true rfl⟩ (nw_recv hK hw (hW_2) rfl) rfl hl.1 (Nat.le_of_ble_eq_true rfl) d_Rules_keepsAllHeld_16 ⟨Nat.le_of_ble_eq_true rfl, Nat.le_of_ble_eq_true rfl⟩) hS (fun rv wn' ad' H locs hpost hw hS => ?_)
        obtain ⟨hrv1, S1z, hsc1z, hw⟩ := nw_sc_out hpost hw
        subst hrv1
        refine lv_if_ne (tgt := 24) hx hb d_Rules_keepsAllHeld_19 (by decide) (fun c_19 => ?_) (fun c_19 => ?_)
        · skip
          have hinv' : ∀ j, j < (w + 1) → pHeld n I hm S0 (S0 0 r) j := lt_s hinv (b2_1 c_19)
          refine lv_iinc (v := nI (w + 1)) (lv' := [(2, .int (nI (w + 1))), (0, .ref (ad (2))), (1, .ref (ad (100 + r)))]) hx hb d_Rules_keepsAllHeld_24 hl (k := 2) rfl ((nI_succ _).symm) (by decide) rfl (fun ls hl => ?_)
          refine lv_goto (tgt := 2) hx hb d_Rules_keepsAllHeld_27 (by decide) ?_
          exact ih2 (w + 1) (_) (by omega) (by omega) (hsc1z) (hinv') _ _ ls hw hS (lv_sub hl [1, 2, 0] rfl)
        · skip
          have hres : nI 0 = b2 (∀ j, j < n 0 → pHeld n I hm S0 (S0 0 r) j) := b2_f (fun h => b2_0 c_19 (h w (by omega)))
          refine lv_iconst (v := nI 0) hx hb d_Rules_keepsAllHeld_22 (by decide) ?_
          exact nw_zret hQ hx hb hr (by first | exact Or.inl rfl | exact Or.inr rfl) hlocks hw hS (nw_scI hsc1z hres) (Nat.le_of_ble_eq_true rfl) (Nat.le_of_ble_eq_true rfl) d_Rules_keepsAllHeld_23
  exact loop2 (n 0 + 1) (0) (_) (by omega) (by omega) (hsc) (fun j hj => absurd hj (Nat.not_lt_zero j)) _ _ ls hw hS (lv_sub hl [1, 2, 0] rfl)
