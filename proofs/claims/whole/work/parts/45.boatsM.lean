set_option maxHeartbeats 4000000 in
set_option maxRecDepth 100000 in
/-- BOATS -/
theorem c_M_keepsBoats (l : Launch) (D : va_G) (tC : Nat → ClassId) (A : Nat → Prop) (ad : Nat → Nat) (n : Nat → Nat) (J : Nat → Int32) (bw : Int64) (L : Nat → Nat → Int64) (bX : Nat → Option va_E) (aY : Nat → Nat → Option (ClassId × Nat)) (F S : Nat → Nat → Nat → Int32) (hsc : scm F S) (hN : hpN n) (w many : Nat) (hw8 : w < n 0) (hmany : many ≤ n 2) : nw_Met l y_M_keepsBoats [Cond.code y_M_keepsBoats b_M_keepsBoats 9 (some .boolean)] ({ frames := 1, cells := 0, slots := 0, locals := 23 } : Room) D hpC A [.ref (ad (64)), .int (nI w), .int (nI many)] (nw_pre D hpC (hpT tC) A (mW ad tC n J bw L bX aY S) ad) (nw_ms (some (.int (b2 (qBoats n F w many)))) (fun L' S' => mW ad tC n J bw L' bX aY S') F ad) 0 0 := by
  refine nw_bodyK (by decide) (Nat.le_of_ble_eq_true rfl) ?_
  intro p e s m below meth cd ls args Q hSx hr hlocks hname hA hKs hw hS hl hQ
  obtain ⟨hx, hb, hml, hown, hts⟩ := id hSx
  have hK := hKs.1
  have hl : lv_has ls 9 [(0, .ref (ad (64))), (1, .int (nI w)), (2, .int (nI many))] := hl
  obtain ⟨hn0, hn0', hn1, hn2, hn3, hn4⟩ := id hN
  have hNm : mnC F w many ≤ many := mnC_le
  refine lv_iconst (v := nI 0) hx hb d_M_keepsBoats_0 (by decide) ?_
  refine lv_istore_n (lv' := [(3, .int (nI 0)), (0, .ref (ad (64))), (1, .int (nI w)), (2, .int (nI many))]) hx hb d_M_keepsBoats_1 rfl hl (by decide) rfl (fun ls hl => ?_)
  refine lv_iconst (v := nI 0) hx hb d_M_keepsBoats_2 (by decide) ?_
  refine lv_istore (lv' := [(4, .int (nI 0)), (3, .int (nI 0)), (0, .ref (ad (64))), (1, .int (nI w)), (2, .int (nI many))]) hx hb d_M_keepsBoats_3 hl (by decide) rfl (fun ls hl => ?_)
  have hw := nw_W.as (wn' := mW ad tC n J bw (va_up L 2 (mnA F w (L 2) 0)) bX aY S) hw (by rw [show mnA F w (L 2) 0 = L 2 from rfl, va_same])
  have loop5 : ∀ (k c : Nat), c ≤ many → many + 1 ≤ c + k → ∀ (H : Heap) (locs : List Loc) (ls : Array Slot), nw_W D hpC A (mW ad tC n J bw (va_up L 2 (mnA F w (L 2) c)) bX aY S) ad H → va_S A s.heap H locs → lv_has ls 9 [(0, .ref (ad (64))), (1, .int (nI w)), (2, .int (nI many)), (3, .int (nI (mnC F w c))), (4, .int (nI c))] → W p l e ({ frames := 1, cells := 0, slots := 0, locals := 23 } : Room) s m args below meth cd H locs 0 0 Q (F0 m 5 ls []) := by
    intro k
    induction k with
    | zero => intro c h1 h2; exact absurd h2 (by omega)
    | succ k ih5 =>
      intro c hv5 hk5 H locs ls hw hS hl
      have hnc : mnC F w c ≤ c := mnC_le
      refine lv_iload hx hb d_M_keepsBoats_5 (lv_at hl 4 rfl) ?_
      refine lv_iload_n hx hb d_M_keepsBoats_7 rfl (lv_at hl 2 rfl) ?_
      refine lv_icmp_ge (tgt := 56) hx hb d_M_keepsBoats_8 (by decide) (fun c_8 => ?_) (fun c_8 => ?_)
      · skip
        have hge8 : many ≤ c := (nI_leI (by omega) (by omega)).mp c_8
        obtain rfl : many = c := by omega
        refine lv_iload_n hx hb d_M_keepsBoats_56 rfl (lv_at hl 3 rfl) ?_
        refine lv_iconst (v := nI 1) hx hb d_M_keepsBoats_57 (by decide) ?_
        refine lv_iadd hx hb d_M_keepsBoats_58 ?_
        refine lv_ei (y := nI (mnC F w many + 1)) (nI_add _ _) ?_
        refine lv_iload_n hx hb d_M_keepsBoats_59 rfl (lv_at hl 3 rfl) ?_
        refine lv_iconst (v := nI 1) hx hb d_M_keepsBoats_60 (by decide) ?_
        refine lv_iadd hx hb d_M_keepsBoats_61 ?_
        refine lv_ei (y := nI (mnC F w many + 1)) (nI_add _ _) ?_
        refine lv_imul hx hb d_M_keepsBoats_62 ?_
        refine lv_ei (y := nI ((mnC F w many + 1) * (mnC F w many + 1))) (pk_mul _ _) ?_
        refine lv_iload_n hx hb d_M_keepsBoats_63 rfl (lv_at hl 3 rfl) ?_
        refine lv_iconst (v := nI 1) hx hb d_M_keepsBoats_64 (by decide) ?_
        refine lv_iadd hx hb d_M_keepsBoats_65 ?_
        refine lv_ei (y := nI (mnC F w many + 1)) (nI_add _ _) ?_
        refine lv_imul hx hb d_M_keepsBoats_66 ?_
        refine lv_ei (y := nI ((mnC F w many + 1) * (mnC F w many + 1) * (mnC F w many + 1))) (pk_mul _ _) ?_
        refine lv_istore (lv' := [(4, .int (nI ((mnC F w many + 1) * (mnC F w many + 1) * (mnC F w many + 1)))), (0, .ref (ad (64))), (1, .int (nI w)), (2, .int (nI many)), (3, .int (nI (mnC F w many)))]) hx hb d_M_keepsBoats_67 hl (by decide) rfl (fun ls hl => ?_)
        refine lv_iload_n hx hb d_M_keepsBoats_69 rfl (lv_at hl 4 rfl) ?_
        refine lv_if_ne (tgt := 77) hx hb d_M_keepsBoats_70 (by decide) (fun c_70 => ?_) (fun c_70 => ?_)
        · skip
          have hb5 : nI 0 = b2 (qFd n F w many 0) := b2_f (fun h => h.elim (fun h0 => c_70 (by rw [h0]; rfl)) (fun ⟨v, hv, _⟩ => absurd hv (Nat.not_lt_zero v)))
          refine lv_iconst (v := nI 0) hx hb d_M_keepsBoats_77 (by decide) ?_
          refine lv_istore (lv' := [(5, .int (nI 0)), (4, .int (nI ((mnC F w many + 1) * (mnC F w many + 1) * (mnC F w many + 1)))), (0, .ref (ad (64))), (1, .int (nI w)), (2, .int (nI many)), (3, .int (nI (mnC F w many)))]) hx hb d_M_keepsBoats_78 hl (by decide) rfl (fun ls hl => ?_)
          refine lv_iconst (v := nI 0) hx hb d_M_keepsBoats_80 (by decide) ?_
          refine lv_istore (lv' := [(6, .int (nI 0)), (5, .int (nI 0)), (4, .int (nI ((mnC F w many + 1) * (mnC F w many + 1) * (mnC F w many + 1)))), (0, .ref (ad (64))), (1, .int (nI w)), (2, .int (nI many)), (3, .int (nI (mnC F w many)))]) hx hb d_M_keepsBoats_81 hl (by decide) rfl (fun ls hl => ?_)
          obtain ⟨M, hM⟩ : ∃ M : Nat, M = (mnC F w many + 1) * (mnC F w many + 1) * (mnC F w many + 1) := ⟨_, rfl⟩
          have hM3 : M ≤ 343 := by rw [hM]; exact cube7 (by omega)
          have hw := nw_W.as (wn' := mW ad tC n J bw (va_up (va_up L 2 (mnA F w (L 2) many)) 3 ((va_up L 2 (mnA F w (L 2) many)) 3)) bX aY S) hw (by rw [va_same])
          have el4 : nI M = nI ((mnC F w many + 1) * (mnC F w many + 1) * (mnC F w many + 1)) := by rw [hM]
          have el5 : b2 (qFd n F w many 0) = nI 0 := hb5.symm
          have hl : lv_has ls 9 [(6, .int (nI 0)), (5, .int (b2 (qFd n F w many 0))), (4, .int (nI M)), (0, .ref (ad (64))), (1, .int (nI w)), (2, .int (nI many)), (3, .int (nI (mnC F w many)))] := by
            have h9 := hl
            revert h9; rw [show Value.int (nI M) = Value.int (nI ((mnC F w many + 1) * (mnC F w many + 1) * (mnC F w many + 1))) from congrArg _ el4]; intro h9
            revert h9; rw [show Value.int (b2 (qFd n F w many 0)) = Value.int (nI 0) from congrArg _ el5]; intro h9
            exact h9
          have loop83 : ∀ (k code : Nat) (Z : Nat → Int64), code ≤ M → M + 1 ≤ code + k → ∀ (H : Heap) (locs : List Loc) (ls : Array Slot), nw_W D hpC A (mW ad tC n J bw (va_up (va_up L 2 (mnA F w (L 2) many)) 3 Z) bX aY S) ad H → va_S A s.heap H locs → lv_has ls 9 [(0, .ref (ad (64))), (1, .int (nI w)), (2, .int (nI many)), (3, .int (nI (mnC F w many))), (4, .int (nI M)), (5, .int (b2 (qFd n F w many code))), (6, .int (nI code))] → W p l e ({ frames := 1, cells := 0, slots := 0, locals := 23 } : Room) s m args below meth cd H locs 0 0 Q (F0 m 83 ls []) := by
            intro k
            induction k with
            | zero => intro code Z h1 h2; exact absurd h2 (by omega)
            | succ k ih83 =>
              intro code Z hv83 hk83 H locs ls hw hS hl
              refine lv_iload hx hb d_M_keepsBoats_83 (lv_at hl 6 rfl) ?_
              refine lv_iload hx hb d_M_keepsBoats_85 (lv_at hl 4 rfl) ?_
              refine lv_icmp_ge (tgt := 243) hx hb d_M_keepsBoats_87 (by decide) (fun c_87 => ?_) (fun c_87 => ?_)
              · skip
                have hge87 : M ≤ code := (nI_leI (by omega) (by omega)).mp c_87
                obtain rfl : M = code := by omega
                have hfin : b2 (qFd n F w many M) = b2 (qBoats n F w many) := by rw [hM]; rfl
                refine lv_iload hx hb d_M_keepsBoats_243 (lv_at hl 5 rfl) ?_
                exact nw_zret hQ hx hb hr (b2_or _) hlocks hw hS (nw_msI hsc hfin) (Nat.le_of_ble_eq_true rfl) (Nat.le_of_ble_eq_true rfl) d_M_keepsBoats_245
              · skip
                have hcode : code < M := Nat.not_le.mp (fun q => c_87 (nI_le q (by omega)))
                refine lv_iload hx hb d_M_keepsBoats_90 (lv_at hl 5 rfl) ?_
                refine lv_if_ne (tgt := 243) hx hb d_M_keepsBoats_92 (by decide) (fun c_92 => ?_) (fun c_92 => ?_)
                · skip
                  have hfin : b2 (qFd n F w many code) = b2 (qBoats n F w many) := by rw [← b2_t (b2_1 c_92), ← b2_t (show qBoats n F w many from qFd_mono (by omega) (b2_1 c_92))]
                  refine lv_iload hx hb d_M_keepsBoats_243 (lv_at hl 5 rfl) ?_
                  exact nw_zret hQ hx hb hr (b2_or _) hlocks hw hS (nw_msI hsc hfin) (Nat.le_of_ble_eq_true rfl) (Nat.le_of_ble_eq_true rfl) d_M_keepsBoats_245
                · skip
                  refine lv_iconst (v := nI 0) hx hb d_M_keepsBoats_95 (by decide) ?_
                  refine lv_istore (lv' := [(7, .int (nI 0)), (0, .ref (ad (64))), (1, .int (nI w)), (2, .int (nI many)), (3, .int (nI (mnC F w many))), (4, .int (nI M)), (5, .int (b2 (qFd n F w many code))), (6, .int (nI code))]) hx hb d_M_keepsBoats_96 hl (by decide) rfl (fun ls hl => ?_)
                  have hw := nw_W.as (wn' := mW ad tC n J bw (va_up (va_up L 2 (mnA F w (L 2) many)) 3 (flL Z 0)) bX aY S) hw (by rw [flL_0])
                  have loop98 : ∀ (k i : Nat), i ≤ (mnC F w many + 1) → (mnC F w many + 1) + 1 ≤ i + k → ∀ (H : Heap) (locs : List Loc) (ls : Array Slot), nw_W D hpC A (mW ad tC n J bw (va_up (va_up L 2 (mnA F w (L 2) many)) 3 (flL Z i)) bX aY S) ad H → va_S A s.heap H locs → lv_has ls 9 [(0, .ref (ad (64))), (1, .int (nI w)), (2, .int (nI many)), (3, .int (nI (mnC F w many))), (4, .int (nI M)), (5, .int (b2 (qFd n F w many code))), (6, .int (nI code)), (7, .int (nI i))] → W p l e ({ frames := 1, cells := 0, slots := 0, locals := 23 } : Room) s m args below meth cd H locs 0 0 Q (F0 m 98 ls []) := by
                    intro k
                    induction k with
                    | zero => intro i h1 h2; exact absurd h2 (by omega)
                    | succ k ih98 =>
                      intro i hv98 hk98 H locs ls hw hS hl
                      refine lv_iload hx hb d_M_keepsBoats_98 (lv_at hl 7 rfl) ?_
                      refine lv_iload_n hx hb d_M_keepsBoats_100 rfl (lv_at hl 3 rfl) ?_
                      refine lv_icmp_gt (tgt := 118) hx hb d_M_keepsBoats_101 (by decide) (fun c_101 => ?_) (fun c_101 => ?_)
                      · skip
                        have hgt101 : mnC F w many < i := (nI_ltI (by omega) (by omega)).mp c_101
                        obtain rfl : mnC F w many + 1 = i := by omega
                        refine lv_iload hx hb d_M_keepsBoats_118 (lv_at hl 6 rfl) ?_
                        refine lv_istore (lv' := [(7, .int (nI code)), (0, .ref (ad (64))), (1, .int (nI w)), (2, .int (nI many)), (3, .int (nI (mnC F w many))), (4, .int (nI M)), (5, .int (b2 (qFd n F w many code))), (6, .int (nI code))]) hx hb d_M_keepsBoats_120 hl (by decide) rfl (fun ls hl => ?_)
                        refine lv_iconst (v := nI 0) hx hb d_M_keepsBoats_122 (by decide) ?_
                        refine lv_istore (lv' := [(8, .int (nI 0)), (7, .int (nI code)), (0, .ref (ad (64))), (1, .int (nI w)), (2, .int (nI many)), (3, .int (nI (mnC F w many))), (4, .int (nI M)), (5, .int (b2 (qFd n F w many code))), (6, .int (nI code))]) hx hb d_M_keepsBoats_123 hl (by decide) rfl (fun ls hl => ?_)
                        have el7 : nI (code / (mnC F w many + 1) ^ 0) = nI code := by rw [Nat.pow_zero, Nat.div_one]
                        have hl : lv_has ls 9 [(8, .int (nI 0)), (7, .int (nI (code / (mnC F w many + 1) ^ 0))), (0, .ref (ad (64))), (1, .int (nI w)), (2, .int (nI many)), (3, .int (nI (mnC F w many))), (4, .int (nI M)), (5, .int (b2 (qFd n F w many code))), (6, .int (nI code))] := by
                          have h9 := hl
                          revert h9; rw [show Value.int (nI (code / (mnC F w many + 1) ^ 0)) = Value.int (nI code) from congrArg _ el7]; intro h9
                          exact h9
                        have loop125 : ∀ (k b : Nat), b ≤ n 3 → n 3 + 1 ≤ b + k → ∀ (H : Heap) (locs : List Loc) (ls : Array Slot), nw_W D hpC A (mW ad tC n J bw (va_up (va_up L 2 (mnA F w (L 2) many)) 3 (mcA F w (mnC F w many) (flL Z (mnC F w many + 1)) code b)) bX aY S) ad H → va_S A s.heap H locs → lv_has ls 9 [(0, .ref (ad (64))), (1, .int (nI w)), (2, .int (nI many)), (3, .int (nI (mnC F w many))), (4, .int (nI M)), (6, .int (nI code)), (7, .int (nI (code / (mnC F w many + 1) ^ b))), (8, .int (nI b))] → W p l e ({ frames := 1, cells := 0, slots := 0, locals := 23 } : Room) s m args below meth cd H locs 0 0 Q (F0 m 125 ls []) := by
                          intro k
                          induction k with
                          | zero => intro b h1 h2; exact absurd h2 (by omega)
                          | succ k ih125 =>
                            intro b hv125 hk125 H locs ls hw hS hl
                            refine lv_iload hx hb d_M_keepsBoats_125 (lv_at hl 7 rfl) ?_
                            refine lv_aload_n hx hb d_M_keepsBoats_127 rfl (lv_at hl 0 rfl) ?_
                            refine nw_get hx hb hts i_M hown hK hw (64) (mW_64) rfl 9 (by decide) (hts _ kw_668) (fun _ h9 => h9) rfl d_M_keepsBoats_128 ?_
                            refine lv_icmp_ge (tgt := 189) hx hb d_M_keepsBoats_131 (by decide) (fun c_131 => ?_) (fun c_131 => ?_)
                            · skip
                              have hge131 : n 3 ≤ b := (nI_leI (by omega) (by omega)).mp c_131
                              obtain rfl : n 3 = b := by omega
                              refine lv_iconst (v := nI 1) hx hb d_M_keepsBoats_189 (by decide) ?_
                              refine lv_istore (lv' := [(5, .int (nI 1)), (0, .ref (ad (64))), (1, .int (nI w)), (2, .int (nI many)), (3, .int (nI (mnC F w many))), (4, .int (nI M)), (6, .int (nI code)), (7, .int (nI (code / (mnC F w many + 1) ^ (n 3)))), (8, .int (nI (n 3)))]) hx hb d_M_keepsBoats_190 hl (by decide) rfl (fun ls hl => ?_)
                              refine lv_iconst (v := nI 0) hx hb d_M_keepsBoats_192 (by decide) ?_
                              refine lv_istore (lv' := [(8, .int (nI 0)), (5, .int (nI 1)), (0, .ref (ad (64))), (1, .int (nI w)), (2, .int (nI many)), (3, .int (nI (mnC F w many))), (4, .int (nI M)), (6, .int (nI code)), (7, .int (nI (code / (mnC F w many + 1) ^ (n 3))))]) hx hb d_M_keepsBoats_193 hl (by decide) rfl (fun ls hl => ?_)
                              have el5 : b2 (∀ j, j < 0 → mnA F w (L 2) many j ≤ mcA F w (mnC F w many) (flL Z (mnC F w many + 1)) code (n 3) j) = nI 1 := (b2_t (fun j hj => absurd hj (Nat.not_lt_zero j))).symm
                              have hl : lv_has ls 9 [(8, .int (nI 0)), (5, .int (b2 (∀ j, j < 0 → mnA F w (L 2) many j ≤ mcA F w (mnC F w many) (flL Z (mnC F w many + 1)) code (n 3) j))), (0, .ref (ad (64))), (1, .int (nI w)), (2, .int (nI many)), (3, .int (nI (mnC F w many))), (4, .int (nI M)), (6, .int (nI code)), (7, .int (nI (code / (mnC F w many + 1) ^ (n 3))))] := by
                                have h9 := hl
                                revert h9; rw [show Value.int (b2 (∀ j, j < 0 → mnA F w (L 2) many j ≤ mcA F w (mnC F w many) (flL Z (mnC F w many + 1)) code (n 3) j)) = Value.int (nI 1) from congrArg _ el5]; intro h9
                                exact h9
                              have loop195 : ∀ (k i : Nat), i ≤ mnC F w many → mnC F w many + 1 ≤ i + k → ∀ (H : Heap) (locs : List Loc) (ls : Array Slot), nw_W D hpC A (mW ad tC n J bw (va_up (va_up L 2 (mnA F w (L 2) many)) 3 (mcA F w (mnC F w many) (flL Z (mnC F w many + 1)) code (n 3))) bX aY S) ad H → va_S A s.heap H locs → lv_has ls 9 [(0, .ref (ad (64))), (1, .int (nI w)), (2, .int (nI many)), (3, .int (nI (mnC F w many))), (4, .int (nI M)), (5, .int (b2 (∀ j, j < i → mnA F w (L 2) many j ≤ mcA F w (mnC F w many) (flL Z (mnC F w many + 1)) code (n 3) j))), (6, .int (nI code)), (8, .int (nI i))] → W p l e ({ frames := 1, cells := 0, slots := 0, locals := 23 } : Room) s m args below meth cd H locs 0 0 Q (F0 m 195 ls []) := by
                                intro k
                                induction k with
                                | zero => intro i h1 h2; exact absurd h2 (by omega)
                                | succ k ih195 =>
                                  intro i hv195 hk195 H locs ls hw hS hl
                                  refine lv_iload hx hb d_M_keepsBoats_195 (lv_at hl 7 rfl) ?_
                                  refine lv_iload_n hx hb d_M_keepsBoats_197 rfl (lv_at hl 3 rfl) ?_
                                  refine lv_icmp_ge (tgt := 237) hx hb d_M_keepsBoats_198 (by decide) (fun c_198 => ?_) (fun c_198 => ?_)
                                  · skip
                                    have hge198 : mnC F w many ≤ i := (nI_leI (by omega) (by omega)).mp c_198
                                    obtain rfl : mnC F w many = i := by omega
                                    refine lv_iinc (v := nI (code + 1)) (lv' := [(6, .int (nI (code + 1))), (0, .ref (ad (64))), (1, .int (nI w)), (2, .int (nI many)), (3, .int (nI (mnC F w many))), (4, .int (nI M)), (5, .int (b2 (∀ j, j < (mnC F w many) → mnA F w (L 2) many j ≤ mcA F w (mnC F w many) (flL Z (mnC F w many + 1)) code (n 3) j))), (8, .int (nI (mnC F w many)))]) hx hb d_M_keepsBoats_237 hl (k := 6) rfl ((nI_succ _).symm) (by decide) rfl (fun ls hl => ?_)
                                    refine lv_goto (tgt := 83) hx hb d_M_keepsBoats_240 (by decide) ?_
                                    have hqc : (∀ j, j < mnC F w many → mnA F w (L 2) many j ≤ mcA F w (mnC F w many) (flL Z (mnC F w many + 1)) code (n 3) j) ↔ qCar n F w many code := ⟨fun h k hk => by have h9 := h k hk; rwa [mnA_base (g := fun _ => 0) hk, mcA_base (g := fun _ => 0) (fun j hj => by simp only [flL]; rw [if_pos hj]) k (by omega)] at h9, fun h k hk => by rw [mnA_base (g := fun _ => 0) hk, mcA_base (g := fun _ => 0) (fun j hj => by simp only [flL]; rw [if_pos hj]) k (by omega)]; exact h k hk⟩
                                    have hnf := b2_0' c_92
                                    have hfd : b2 (qFd n F w many (code + 1)) = b2 (∀ j, j < mnC F w many → mnA F w (L 2) many j ≤ mcA F w (mnC F w many) (flL Z (mnC F w many + 1)) code (n 3) j) := by
                                      by_cases h9 : ∀ j, j < mnC F w many → mnA F w (L 2) many j ≤ mcA F w (mnC F w many) (flL Z (mnC F w many + 1)) code (n 3) j
                                      · rw [← b2_t h9, ← b2_t (show qFd n F w many (code + 1) from Or.inr ⟨code, by omega, hqc.mp h9⟩)]
                                      · rw [← b2_f h9, ← b2_f (show ¬ qFd n F w many (code + 1) from fun hq => hq.elim (fun h0 => hnf (Or.inl h0)) (fun ⟨v, hv, hc⟩ => by
                                          rcases Nat.lt_or_ge v code with hl9 | hl9
                                          · exact hnf (Or.inr ⟨v, hl9, hc⟩)
                                          · exact h9 (hqc.mpr (by rwa [show v = code by omega] at hc))))]
                                    have el5 : b2 (qFd n F w many (code + 1)) = b2 (∀ j, j < (mnC F w many) → mnA F w (L 2) many j ≤ mcA F w (mnC F w many) (flL Z (mnC F w many + 1)) code (n 3) j) := hfd
                                    have hl : lv_has ls 9 [(6, .int (nI (code + 1))), (0, .ref (ad (64))), (1, .int (nI w)), (2, .int (nI many)), (3, .int (nI (mnC F w many))), (4, .int (nI M)), (5, .int (b2 (qFd n F w many (code + 1)))), (8, .int (nI (mnC F w many)))] := by
                                      have h9 := hl
                                      revert h9; rw [show Value.int (b2 (qFd n F w many (code + 1))) = Value.int (b2 (∀ j, j < (mnC F w many) → mnA F w (L 2) many j ≤ mcA F w (mnC F w many) (flL Z (mnC F w many + 1)) code (n 3) j)) from congrArg _ el5]; intro h9
                                      exact h9
                                    exact ih83 (code + 1) (_) (by omega) (by omega) _ _ ls hw hS (lv_sub hl [1, 2, 3, 4, 5, 6, 0] rfl)
                                  · skip
                                    have hi2 : i < mnC F w many := Nat.not_le.mp (fun q => c_198 (nI_le q (by omega)))
                                    refine lv_iload hx hb d_M_keepsBoats_201 (lv_at hl 5 rfl) ?_
                                    refine lv_if_eq (tgt := 228) hx hb d_M_keepsBoats_203 (by decide) (fun c_203 => ?_) (fun c_203 => ?_)
                                    · skip
                                      have hb5 : nI 0 = b2 (∀ j, j < i + 1 → mnA F w (L 2) many j ≤ mcA F w (mnC F w many) (flL Z (mnC F w many + 1)) code (n 3) j) := b2_f (fun h => b2_0 c_203 (fun j hj => h j (by omega)))
                                      refine lv_iconst (v := nI 0) hx hb d_M_keepsBoats_228 (by decide) ?_
                                      refine lv_istore (lv' := [(5, .int (nI 0)), (0, .ref (ad (64))), (1, .int (nI w)), (2, .int (nI many)), (3, .int (nI (mnC F w many))), (4, .int (nI M)), (6, .int (nI code)), (8, .int (nI i))]) hx hb d_M_keepsBoats_229 hl (by decide) rfl (fun ls hl => ?_)
                                      refine lv_iinc (v := nI (i + 1)) (lv' := [(8, .int (nI (i + 1))), (5, .int (nI 0)), (0, .ref (ad (64))), (1, .int (nI w)), (2, .int (nI many)), (3, .int (nI (mnC F w many))), (4, .int (nI M)), (6, .int (nI code))]) hx hb d_M_keepsBoats_231 hl (k := 7) rfl ((nI_succ _).symm) (by decide) rfl (fun ls hl => ?_)
                                      refine lv_goto (tgt := 195) hx hb d_M_keepsBoats_234 (by decide) ?_
                                      have el5 : b2 (∀ j, j < i + 1 → mnA F w (L 2) many j ≤ mcA F w (mnC F w many) (flL Z (mnC F w many + 1)) code (n 3) j) = nI 0 := hb5.symm
                                      have hl : lv_has ls 9 [(8, .int (nI (i + 1))), (5, .int (b2 (∀ j, j < i + 1 → mnA F w (L 2) many j ≤ mcA F w (mnC F w many) (flL Z (mnC F w many + 1)) code (n 3) j))), (0, .ref (ad (64))), (1, .int (nI w)), (2, .int (nI many)), (3, .int (nI (mnC F w many))), (4, .int (nI M)), (6, .int (nI code))] := by
                                        have h9 := hl
                                        revert h9; rw [show Value.int (b2 (∀ j, j < i + 1 → mnA F w (L 2) many j ≤ mcA F w (mnC F w many) (flL Z (mnC F w many + 1)) code (n 3) j)) = Value.int (nI 0) from congrArg _ el5]; intro h9
                                        exact h9
                                      exact ih195 (i + 1) (by omega) (by omega) _ _ ls hw hS (lv_sub hl [2, 3, 4, 5, 6, 1, 7, 0] rfl)
                                    · skip
                                      refine lv_aload_n hx hb d_M_keepsBoats_206 rfl (lv_at hl 0 rfl) ?_
                                      refine nw_get hx hb hts i_M hown hK hw (64) (mW_64) rfl 32 (by decide) (hts _ kw_691) (fun _ h9 => h9) rfl d_M_keepsBoats_207 ?_
                                      refine lv_iload hx hb d_M_keepsBoats_210 (lv_at hl 7 rfl) ?_
                                      refine nw_lald hx hb hK hw (68) 1 (mW_68) rfl (i) (rfl) (by omega) (by omega) d_M_keepsBoats_212 ?_
                                      refine lv_el (y := (mcA F w (mnC F w many) (flL Z (mnC F w many + 1)) code (n 3)) i) (rfl) ?_
                                      refine lv_aload_n hx hb d_M_keepsBoats_213 rfl (lv_at hl 0 rfl) ?_
                                      refine nw_get hx hb hts i_M hown hK hw (64) (mW_64) rfl 31 (by decide) (hts _ kw_690) (fun _ h9 => h9) rfl d_M_keepsBoats_214 ?_
                                      refine lv_iload hx hb d_M_keepsBoats_217 (lv_at hl 7 rfl) ?_
                                      refine nw_lald hx hb hK hw (67) 1 (mW_67) rfl (i) (rfl) (by omega) (by omega) d_M_keepsBoats_219 ?_
                                      refine lv_el (y := (mnA F w (L 2) many) i) (rfl) ?_
                                      refine W.lcmp hx hb d_M_keepsBoats_220 ?_
                                      refine lv_if_lt (tgt := 228) hx hb d_M_keepsBoats_221 (by decide) (fun c_221 => ?_) (fun c_221 => ?_)
                                      · skip
                                        have hb5 : nI 0 = b2 (∀ j, j < i + 1 → mnA F w (L 2) many j ≤ mcA F w (mnC F w many) (flL Z (mnC F w many + 1)) code (n 3) j) := b2_f (fun h => Int64.not_le.mpr ((lg_cmp_lt _ _).mp c_221) (h i (by omega)))
                                        refine lv_iconst (v := nI 0) hx hb d_M_keepsBoats_228 (by decide) ?_
                                        refine lv_istore (lv' := [(5, .int (nI 0)), (0, .ref (ad (64))), (1, .int (nI w)), (2, .int (nI many)), (3, .int (nI (mnC F w many))), (4, .int (nI M)), (6, .int (nI code)), (8, .int (nI i))]) hx hb d_M_keepsBoats_229 hl (by decide) rfl (fun ls hl => ?_)
                                        refine lv_iinc (v := nI (i + 1)) (lv' := [(8, .int (nI (i + 1))), (5, .int (nI 0)), (0, .ref (ad (64))), (1, .int (nI w)), (2, .int (nI many)), (3, .int (nI (mnC F w many))), (4, .int (nI M)), (6, .int (nI code))]) hx hb d_M_keepsBoats_231 hl (k := 7) rfl ((nI_succ _).symm) (by decide) rfl (fun ls hl => ?_)
                                        refine lv_goto (tgt := 195) hx hb d_M_keepsBoats_234 (by decide) ?_
                                        have el5 : b2 (∀ j, j < i + 1 → mnA F w (L 2) many j ≤ mcA F w (mnC F w many) (flL Z (mnC F w many + 1)) code (n 3) j) = nI 0 := hb5.symm
                                        have hl : lv_has ls 9 [(8, .int (nI (i + 1))), (5, .int (b2 (∀ j, j < i + 1 → mnA F w (L 2) many j ≤ mcA F w (mnC F w many) (flL Z (mnC F w many + 1)) code (n 3) j))), (0, .ref (ad (64))), (1, .int (nI w)), (2, .int (nI many)), (3, .int (nI (mnC F w many))), (4, .int (nI M)), (6, .int (nI code))] := by
                                          have h9 := hl
                                          revert h9; rw [show Value.int (b2 (∀ j, j < i + 1 → mnA F w (L 2) many j ≤ mcA F w (mnC F w many) (flL Z (mnC F w many + 1)) code (n 3) j)) = Value.int (nI 0) from congrArg _ el5]; intro h9
                                          exact h9
                                        exact ih195 (i + 1) (by omega) (by omega) _ _ ls hw hS (lv_sub hl [2, 3, 4, 5, 6, 1, 7, 0] rfl)
                                      · skip
                                        have hb5 : nI 1 = b2 (∀ j, j < i + 1 → mnA F w (L 2) many j ≤ mcA F w (mnC F w many) (flL Z (mnC F w many + 1)) code (n 3) j) := b2_t (lt_s (b2_1 c_203) (Int64.not_lt.mp (fun h => c_221 ((lg_cmp_lt _ _).mpr h))))
                                        refine lv_iconst (v := nI 1) hx hb d_M_keepsBoats_224 (by decide) ?_
                                        refine lv_goto (tgt := 229) hx hb d_M_keepsBoats_225 (by decide) ?_
                                        refine lv_istore (lv' := [(5, .int (nI 1)), (0, .ref (ad (64))), (1, .int (nI w)), (2, .int (nI many)), (3, .int (nI (mnC F w many))), (4, .int (nI M)), (6, .int (nI code)), (8, .int (nI i))]) hx hb d_M_keepsBoats_229 hl (by decide) rfl (fun ls hl => ?_)
                                        refine lv_iinc (v := nI (i + 1)) (lv' := [(8, .int (nI (i + 1))), (5, .int (nI 1)), (0, .ref (ad (64))), (1, .int (nI w)), (2, .int (nI many)), (3, .int (nI (mnC F w many))), (4, .int (nI M)), (6, .int (nI code))]) hx hb d_M_keepsBoats_231 hl (k := 7) rfl ((nI_succ _).symm) (by decide) rfl (fun ls hl => ?_)
                                        refine lv_goto (tgt := 195) hx hb d_M_keepsBoats_234 (by decide) ?_
                                        have el5 : b2 (∀ j, j < i + 1 → mnA F w (L 2) many j ≤ mcA F w (mnC F w many) (flL Z (mnC F w many + 1)) code (n 3) j) = nI 1 := hb5.symm
                                        have hl : lv_has ls 9 [(8, .int (nI (i + 1))), (5, .int (b2 (∀ j, j < i + 1 → mnA F w (L 2) many j ≤ mcA F w (mnC F w many) (flL Z (mnC F w many + 1)) code (n 3) j))), (0, .ref (ad (64))), (1, .int (nI w)), (2, .int (nI many)), (3, .int (nI (mnC F w many))), (4, .int (nI M)), (6, .int (nI code))] := by
                                          have h9 := hl
                                          revert h9; rw [show Value.int (b2 (∀ j, j < i + 1 → mnA F w (L 2) many j ≤ mcA F w (mnC F w many) (flL Z (mnC F w many + 1)) code (n 3) j)) = Value.int (nI 1) from congrArg _ el5]; intro h9
                                          exact h9
                                        exact ih195 (i + 1) (by omega) (by omega) _ _ ls hw hS (lv_sub hl [2, 3, 4, 5, 6, 1, 7, 0] rfl)
                              exact loop195 (mnC F w many + 1) (0) (by omega) (by omega) _ _ ls hw hS (lv_sub hl [2, 3, 4, 5, 6, 1, 7, 0] rfl)
                            · skip
                              have hb3 : b < n 3 := Nat.not_le.mp (fun q => c_131 (nI_le q (by omega)))
                              refine lv_aload_n hx hb d_M_keepsBoats_134 rfl (lv_at hl 0 rfl) ?_
                              refine nw_get hx hb hts i_M hown hK hw (64) (mW_64) rfl 32 (by decide) (hts _ kw_691) (fun _ h9 => h9) rfl d_M_keepsBoats_135 ?_
                              refine lv_iload hx hb d_M_keepsBoats_138 (lv_at hl 6 rfl) ?_
                              refine lv_iload_n hx hb d_M_keepsBoats_140 rfl (lv_at hl 3 rfl) ?_
                              refine lv_iconst (v := nI 1) hx hb d_M_keepsBoats_141 (by decide) ?_
                              refine lv_iadd hx hb d_M_keepsBoats_142 ?_
                              refine lv_ei (y := nI (mnC F w many + 1)) (nI_add _ _) ?_
                              refine lv_irem hx hb d_M_keepsBoats_143 (nI_ne0 (by omega) (by omega)) ?_
                              refine lv_ei (y := nI (code / (mnC F w many + 1) ^ b % (mnC F w many + 1))) (pk_rem (Nat.lt_of_le_of_lt (Nat.div_le_self _ _) (by omega)) (by omega) (by omega)) ?_
                              refine lv_dup2_11 hx hb d_M_keepsBoats_144 rfl rfl ?_
                              refine nw_lald hx hb hK hw (68) 1 (mW_68) rfl (code / (mnC F w many + 1) ^ b % (mnC F w many + 1)) (rfl) (Nat.lt_of_lt_of_le (Nat.mod_lt _ (by omega)) (by omega)) (by omega) d_M_keepsBoats_145 ?_
                              refine lv_el (y := (mcA F w (mnC F w many) (flL Z (mnC F w many + 1)) code b) (code / (mnC F w many + 1) ^ b % (mnC F w many + 1))) (rfl) ?_
                              refine lv_aload_n hx hb d_M_keepsBoats_146 rfl (lv_at hl 0 rfl) ?_
                              refine nw_get hx hb hts i_M hown hK hw (64) (mW_64) rfl 11 (by decide) (hts _ kw_670) (fun _ h9 => h9) rfl d_M_keepsBoats_147 ?_
                              refine lv_bipush (v := nI 8) hx hb d_M_keepsBoats_150 (by decide) ?_
                              refine lv_iload hx hb d_M_keepsBoats_152 (lv_at hl 7 rfl) ?_
                              refine lv_imul hx hb d_M_keepsBoats_154 ?_
                              refine lv_iload_n hx hb d_M_keepsBoats_155 rfl (lv_at hl 1 rfl) ?_
                              refine lv_iadd hx hb d_M_keepsBoats_156 ?_
                              refine lv_ei (y := nI (8 * b + w)) (ix8 _ _) ?_
                              refine nw_zald hx hb hK hw (186) 2 (mW_row (t := 5) (j := 6) (by decide) (by decide) (rfl)) rfl (8 * b + w) (rfl) (by omega) (by omega) d_M_keepsBoats_157 ?_
                              refine lv_ei (y := F 5 6 (8 * b + w)) (congrFun (hsc 5 6 (by omega)) _) ?_
                              refine lv_if_eq (tgt := 165) hx hb d_M_keepsBoats_158 (by decide) (fun c_158 => ?_) (fun c_158 => ?_)
                              · skip
                                have e3c : mcA F w (mnC F w many) (flL Z (mnC F w many + 1)) code (b + 1) = vp_updL (mcA F w (mnC F w many) (flL Z (mnC F w many + 1)) code b) (code / (mnC F w many + 1) ^ b % (mnC F w many + 1)) (mcA F w (mnC F w many) (flL Z (mnC F w many + 1)) code b (code / (mnC F w many + 1) ^ b % (mnC F w many + 1)) + (F 5 5 b).toInt64) := mc_t c_158
                                refine lv_aload_n hx hb d_M_keepsBoats_165 rfl (lv_at hl 0 rfl) ?_
                                refine nw_get hx hb hts i_M hown hK hw (64) (mW_64) rfl 10 (by decide) (hts _ kw_669) (fun _ h9 => h9) rfl d_M_keepsBoats_166 ?_
                                refine lv_iload hx hb d_M_keepsBoats_169 (lv_at hl 7 rfl) ?_
                                refine nw_iald hx hb hK hw (185) 0 (mW_row (t := 5) (j := 5) (by decide) (by decide) (rfl)) rfl (b) (rfl) (by omega) (by omega) d_M_keepsBoats_171 ?_
                                refine lv_ei (y := F 5 5 b) (congrFun (hsc 5 5 (by omega)) _) ?_
                                refine lv_i2l (v := ((F 5 5 b).toInt64)) hx hb d_M_keepsBoats_172 rfl ?_
                                refine lv_ladd hx hb d_M_keepsBoats_173 ?_
                                refine nw_last hx hb hK hw hS (68) 1 (mW_68) rfl (code / (mnC F w many + 1) ^ b % (mnC F w many + 1)) (rfl) (Nat.lt_of_lt_of_le (Nat.mod_lt _ (by omega)) (by omega)) (by omega) d_M_keepsBoats_174 (fun H locs hw hS => ?_)
                                have hw := nw_W.as (wn' := mW ad tC n J bw (va_up (va_up L 2 (mnA F w (L 2) many)) 3 (vp_updL (mcA F w (mnC F w many) (flL Z (mnC F w many + 1)) code b) (code / (mnC F w many + 1) ^ b % (mnC F w many + 1)) (((mcA F w (mnC F w many) (flL Z (mnC F w many + 1)) code b) (code / (mnC F w many + 1) ^ b % (mnC F w many + 1))) + (((F 5 5 b).toInt64))))) bX aY S) (mW_setL (j := 3) (f := vp_updL ((va_up (va_up L 2 (mnA F w (L 2) many)) 3 (mcA F w (mnC F w many) (flL Z (mnC F w many + 1)) code b)) 3) (code / (mnC F w many + 1) ^ b % (mnC F w many + 1)) (((mcA F w (mnC F w many) (flL Z (mnC F w many + 1)) code b) (code / (mnC F w many + 1) ^ b % (mnC F w many + 1))) + (((F 5 5 b).toInt64)))) rfl (by decide) rfl hw) (by rw [va_up_self, bx_uu])
                                refine lv_iload hx hb d_M_keepsBoats_175 (lv_at hl 6 rfl) ?_
                                refine lv_iload_n hx hb d_M_keepsBoats_177 rfl (lv_at hl 3 rfl) ?_
                                refine lv_iconst (v := nI 1) hx hb d_M_keepsBoats_178 (by decide) ?_
                                refine lv_iadd hx hb d_M_keepsBoats_179 ?_
                                refine lv_ei (y := nI (mnC F w many + 1)) (nI_add _ _) ?_
                                refine lv_idiv hx hb d_M_keepsBoats_180 (nI_ne0 (by omega) (by omega)) ?_
                                refine lv_ei (y := nI (code / (mnC F w many + 1) ^ b / (mnC F w many + 1))) (pk_div (Nat.lt_of_le_of_lt (Nat.div_le_self _ _) (by omega)) (by omega) (by omega)) ?_
                                refine lv_istore (lv' := [(7, .int (nI (code / (mnC F w many + 1) ^ b / (mnC F w many + 1)))), (0, .ref (ad (64))), (1, .int (nI w)), (2, .int (nI many)), (3, .int (nI (mnC F w many))), (4, .int (nI M)), (6, .int (nI code)), (8, .int (nI b))]) hx hb d_M_keepsBoats_181 hl (by decide) rfl (fun ls hl => ?_)
                                refine lv_iinc (v := nI (b + 1)) (lv' := [(8, .int (nI (b + 1))), (7, .int (nI (code / (mnC F w many + 1) ^ b / (mnC F w many + 1)))), (0, .ref (ad (64))), (1, .int (nI w)), (2, .int (nI many)), (3, .int (nI (mnC F w many))), (4, .int (nI M)), (6, .int (nI code))]) hx hb d_M_keepsBoats_183 hl (k := 7) rfl ((nI_succ _).symm) (by decide) rfl (fun ls hl => ?_)
                                refine lv_goto (tgt := 125) hx hb d_M_keepsBoats_186 (by decide) ?_
                                have el7 : nI (code / (mnC F w many + 1) ^ (b + 1)) = nI (code / (mnC F w many + 1) ^ b / (mnC F w many + 1)) := by rw [Nat.pow_succ, Nat.div_div_eq_div_mul]
                                have hl : lv_has ls 9 [(8, .int (nI (b + 1))), (7, .int (nI (code / (mnC F w many + 1) ^ (b + 1)))), (0, .ref (ad (64))), (1, .int (nI w)), (2, .int (nI many)), (3, .int (nI (mnC F w many))), (4, .int (nI M)), (6, .int (nI code))] := by
                                  have h9 := hl
                                  revert h9; rw [show Value.int (nI (code / (mnC F w many + 1) ^ (b + 1))) = Value.int (nI (code / (mnC F w many + 1) ^ b / (mnC F w many + 1))) from congrArg _ el7]; intro h9
                                  exact h9
                                have hw := nw_W.as (wn' := mW ad tC n J bw (va_up (va_up L 2 (mnA F w (L 2) many)) 3 (mcA F w (mnC F w many) (flL Z (mnC F w many + 1)) code (b + 1))) bX aY S) hw (by rw [e3c])
                                exact ih125 (b + 1) (by omega) (by omega) _ _ ls hw hS (lv_sub hl [2, 3, 4, 5, 6, 7, 1, 0] rfl)
                              · skip
                                have e3c : mcA F w (mnC F w many) (flL Z (mnC F w many + 1)) code (b + 1) = vp_updL (mcA F w (mnC F w many) (flL Z (mnC F w many + 1)) code b) (code / (mnC F w many + 1) ^ b % (mnC F w many + 1)) (mcA F w (mnC F w many) (flL Z (mnC F w many + 1)) code b (code / (mnC F w many + 1) ^ b % (mnC F w many + 1)) + 0) := mc_f c_158
                                refine lv_lconst (v := 0) hx hb d_M_keepsBoats_161 (by decide) ?_
                                refine lv_goto (tgt := 173) hx hb d_M_keepsBoats_162 (by decide) ?_
                                refine lv_ladd hx hb d_M_keepsBoats_173 ?_
                                refine nw_last hx hb hK hw hS (68) 1 (mW_68) rfl (code / (mnC F w many + 1) ^ b % (mnC F w many + 1)) (rfl) (Nat.lt_of_lt_of_le (Nat.mod_lt _ (by omega)) (by omega)) (by omega) d_M_keepsBoats_174 (fun H locs hw hS => ?_)
                                have hw := nw_W.as (wn' := mW ad tC n J bw (va_up (va_up L 2 (mnA F w (L 2) many)) 3 (vp_updL (mcA F w (mnC F w many) (flL Z (mnC F w many + 1)) code b) (code / (mnC F w many + 1) ^ b % (mnC F w many + 1)) (((mcA F w (mnC F w many) (flL Z (mnC F w many + 1)) code b) (code / (mnC F w many + 1) ^ b % (mnC F w many + 1))) + (0)))) bX aY S) (mW_setL (j := 3) (f := vp_updL ((va_up (va_up L 2 (mnA F w (L 2) many)) 3 (mcA F w (mnC F w many) (flL Z (mnC F w many + 1)) code b)) 3) (code / (mnC F w many + 1) ^ b % (mnC F w many + 1)) (((mcA F w (mnC F w many) (flL Z (mnC F w many + 1)) code b) (code / (mnC F w many + 1) ^ b % (mnC F w many + 1))) + (0))) rfl (by decide) rfl hw) (by rw [va_up_self, bx_uu])
                                refine lv_iload hx hb d_M_keepsBoats_175 (lv_at hl 6 rfl) ?_
                                refine lv_iload_n hx hb d_M_keepsBoats_177 rfl (lv_at hl 3 rfl) ?_
                                refine lv_iconst (v := nI 1) hx hb d_M_keepsBoats_178 (by decide) ?_
                                refine lv_iadd hx hb d_M_keepsBoats_179 ?_
                                refine lv_ei (y := nI (mnC F w many + 1)) (nI_add _ _) ?_
                                refine lv_idiv hx hb d_M_keepsBoats_180 (nI_ne0 (by omega) (by omega)) ?_
                                refine lv_ei (y := nI (code / (mnC F w many + 1) ^ b / (mnC F w many + 1))) (pk_div (Nat.lt_of_le_of_lt (Nat.div_le_self _ _) (by omega)) (by omega) (by omega)) ?_
                                refine lv_istore (lv' := [(7, .int (nI (code / (mnC F w many + 1) ^ b / (mnC F w many + 1)))), (0, .ref (ad (64))), (1, .int (nI w)), (2, .int (nI many)), (3, .int (nI (mnC F w many))), (4, .int (nI M)), (6, .int (nI code)), (8, .int (nI b))]) hx hb d_M_keepsBoats_181 hl (by decide) rfl (fun ls hl => ?_)
                                refine lv_iinc (v := nI (b + 1)) (lv' := [(8, .int (nI (b + 1))), (7, .int (nI (code / (mnC F w many + 1) ^ b / (mnC F w many + 1)))), (0, .ref (ad (64))), (1, .int (nI w)), (2, .int (nI many)), (3, .int (nI (mnC F w many))), (4, .int (nI M)), (6, .int (nI code))]) hx hb d_M_keepsBoats_183 hl (k := 7) rfl ((nI_succ _).symm) (by decide) rfl (fun ls hl => ?_)
                                refine lv_goto (tgt := 125) hx hb d_M_keepsBoats_186 (by decide) ?_
                                have el7 : nI (code / (mnC F w many + 1) ^ (b + 1)) = nI (code / (mnC F w many + 1) ^ b / (mnC F w many + 1)) := by rw [Nat.pow_succ, Nat.div_div_eq_div_mul]
                                have hl : lv_has ls 9 [(8, .int (nI (b + 1))), (7, .int (nI (code / (mnC F w many + 1) ^ (b + 1)))), (0, .ref (ad (64))), (1, .int (nI w)), (2, .int (nI many)), (3, .int (nI (mnC F w many))), (4, .int (nI M)), (6, .int (nI code))] := by
                                  have h9 := hl
                                  revert h9; rw [show Value.int (nI (code / (mnC F w many + 1) ^ (b + 1))) = Value.int (nI (code / (mnC F w many + 1) ^ b / (mnC F w many + 1))) from congrArg _ el7]; intro h9
                                  exact h9
                                have hw := nw_W.as (wn' := mW ad tC n J bw (va_up (va_up L 2 (mnA F w (L 2) many)) 3 (mcA F w (mnC F w many) (flL Z (mnC F w many + 1)) code (b + 1))) bX aY S) hw (by rw [e3c])
                                exact ih125 (b + 1) (by omega) (by omega) _ _ ls hw hS (lv_sub hl [2, 3, 4, 5, 6, 7, 1, 0] rfl)
                        exact loop125 (n 3 + 1) (0) (by omega) (by omega) _ _ ls hw hS (lv_sub hl [2, 3, 4, 5, 6, 8, 1, 0] rfl)
                      · skip
                        have hi1 : i ≤ mnC F w many := Nat.not_lt.mp (fun q => c_101 (nI_lt q (by omega)))
                        refine lv_aload_n hx hb d_M_keepsBoats_104 rfl (lv_at hl 0 rfl) ?_
                        refine nw_get hx hb hts i_M hown hK hw (64) (mW_64) rfl 32 (by decide) (hts _ kw_691) (fun _ h9 => h9) rfl d_M_keepsBoats_105 ?_
                        refine lv_iload hx hb d_M_keepsBoats_108 (lv_at hl 7 rfl) ?_
                        refine lv_lconst (v := 0) hx hb d_M_keepsBoats_110 (by decide) ?_
                        refine nw_last hx hb hK hw hS (68) 1 (mW_68) rfl (i) (rfl) (by omega) (by omega) d_M_keepsBoats_111 (fun H locs hw hS => ?_)
                        have hw := nw_W.as (wn' := mW ad tC n J bw (va_up (va_up L 2 (mnA F w (L 2) many)) 3 (vp_updL (flL Z i) i 0)) bX aY S) (mW_setL (j := 3) (f := vp_updL ((va_up (va_up L 2 (mnA F w (L 2) many)) 3 (flL Z i)) 3) i 0) rfl (by decide) rfl hw) (by rw [va_up_self, bx_uu])
                        refine lv_iinc (v := nI (i + 1)) (lv' := [(7, .int (nI (i + 1))), (0, .ref (ad (64))), (1, .int (nI w)), (2, .int (nI many)), (3, .int (nI (mnC F w many))), (4, .int (nI M)), (5, .int (b2 (qFd n F w many code))), (6, .int (nI code))]) hx hb d_M_keepsBoats_112 hl (k := 7) rfl ((nI_succ _).symm) (by decide) rfl (fun ls hl => ?_)
                        refine lv_goto (tgt := 98) hx hb d_M_keepsBoats_115 (by decide) ?_
                        have hw := nw_W.as (wn' := mW ad tC n J bw (va_up (va_up L 2 (mnA F w (L 2) many)) 3 (flL Z (i + 1))) bX aY S) hw (by rw [← flL_s])
                        exact ih98 (i + 1) (by omega) (by omega) _ _ ls hw hS (lv_sub hl [1, 2, 3, 4, 5, 6, 7, 0] rfl)
                  exact loop98 ((mnC F w many + 1) + 1) (0) (by omega) (by omega) _ _ ls hw hS (lv_sub hl [1, 2, 3, 4, 5, 6, 7, 0] rfl)
          exact loop83 (M + 1) (0) (_) (by omega) (by omega) _ _ ls hw hS (lv_sub hl [3, 4, 5, 6, 2, 1, 0] rfl)
        · skip
          have hb5 : nI 1 = b2 (qFd n F w many 0) := b2_t (Or.inl ((nI_eq (a := mnC F w many) (b := 0) (by omega) (by omega)).mp c_70))
          refine lv_iconst (v := nI 1) hx hb d_M_keepsBoats_73 (by decide) ?_
          refine lv_goto (tgt := 78) hx hb d_M_keepsBoats_74 (by decide) ?_
          refine lv_istore (lv' := [(5, .int (nI 1)), (4, .int (nI ((mnC F w many + 1) * (mnC F w many + 1) * (mnC F w many + 1)))), (0, .ref (ad (64))), (1, .int (nI w)), (2, .int (nI many)), (3, .int (nI (mnC F w many)))]) hx hb d_M_keepsBoats_78 hl (by decide) rfl (fun ls hl => ?_)
          refine lv_iconst (v := nI 0) hx hb d_M_keepsBoats_80 (by decide) ?_
          refine lv_istore (lv' := [(6, .int (nI 0)), (5, .int (nI 1)), (4, .int (nI ((mnC F w many + 1) * (mnC F w many + 1) * (mnC F w many + 1)))), (0, .ref (ad (64))), (1, .int (nI w)), (2, .int (nI many)), (3, .int (nI (mnC F w many)))]) hx hb d_M_keepsBoats_81 hl (by decide) rfl (fun ls hl => ?_)
          obtain ⟨M, hM⟩ : ∃ M : Nat, M = (mnC F w many + 1) * (mnC F w many + 1) * (mnC F w many + 1) := ⟨_, rfl⟩
          have hM3 : M ≤ 343 := by rw [hM]; exact cube7 (by omega)
          have hw := nw_W.as (wn' := mW ad tC n J bw (va_up (va_up L 2 (mnA F w (L 2) many)) 3 ((va_up L 2 (mnA F w (L 2) many)) 3)) bX aY S) hw (by rw [va_same])
          have el4 : nI M = nI ((mnC F w many + 1) * (mnC F w many + 1) * (mnC F w many + 1)) := by rw [hM]
          have el5 : b2 (qFd n F w many 0) = nI 1 := hb5.symm
          have hl : lv_has ls 9 [(6, .int (nI 0)), (5, .int (b2 (qFd n F w many 0))), (4, .int (nI M)), (0, .ref (ad (64))), (1, .int (nI w)), (2, .int (nI many)), (3, .int (nI (mnC F w many)))] := by
            have h9 := hl
            revert h9; rw [show Value.int (nI M) = Value.int (nI ((mnC F w many + 1) * (mnC F w many + 1) * (mnC F w many + 1))) from congrArg _ el4]; intro h9
            revert h9; rw [show Value.int (b2 (qFd n F w many 0)) = Value.int (nI 1) from congrArg _ el5]; intro h9
            exact h9
          have loop83 : ∀ (k code : Nat) (Z : Nat → Int64), code ≤ M → M + 1 ≤ code + k → ∀ (H : Heap) (locs : List Loc) (ls : Array Slot), nw_W D hpC A (mW ad tC n J bw (va_up (va_up L 2 (mnA F w (L 2) many)) 3 Z) bX aY S) ad H → va_S A s.heap H locs → lv_has ls 9 [(0, .ref (ad (64))), (1, .int (nI w)), (2, .int (nI many)), (3, .int (nI (mnC F w many))), (4, .int (nI M)), (5, .int (b2 (qFd n F w many code))), (6, .int (nI code))] → W p l e ({ frames := 1, cells := 0, slots := 0, locals := 23 } : Room) s m args below meth cd H locs 0 0 Q (F0 m 83 ls []) := by
            intro k
            induction k with
            | zero => intro code Z h1 h2; exact absurd h2 (by omega)
            | succ k ih83 =>
              intro code Z hv83 hk83 H locs ls hw hS hl
              refine lv_iload hx hb d_M_keepsBoats_83 (lv_at hl 6 rfl) ?_
              refine lv_iload hx hb d_M_keepsBoats_85 (lv_at hl 4 rfl) ?_
              refine lv_icmp_ge (tgt := 243) hx hb d_M_keepsBoats_87 (by decide) (fun c_87 => ?_) (fun c_87 => ?_)
              · skip
                have hge87 : M ≤ code := (nI_leI (by omega) (by omega)).mp c_87
                obtain rfl : M = code := by omega
                have hfin : b2 (qFd n F w many M) = b2 (qBoats n F w many) := by rw [hM]; rfl
                refine lv_iload hx hb d_M_keepsBoats_243 (lv_at hl 5 rfl) ?_
                exact nw_zret hQ hx hb hr (b2_or _) hlocks hw hS (nw_msI hsc hfin) (Nat.le_of_ble_eq_true rfl) (Nat.le_of_ble_eq_true rfl) d_M_keepsBoats_245
              · skip
                have hcode : code < M := Nat.not_le.mp (fun q => c_87 (nI_le q (by omega)))
                refine lv_iload hx hb d_M_keepsBoats_90 (lv_at hl 5 rfl) ?_
                refine lv_if_ne (tgt := 243) hx hb d_M_keepsBoats_92 (by decide) (fun c_92 => ?_) (fun c_92 => ?_)
                · skip
                  have hfin : b2 (qFd n F w many code) = b2 (qBoats n F w many) := by rw [← b2_t (b2_1 c_92), ← b2_t (show qBoats n F w many from qFd_mono (by omega) (b2_1 c_92))]
                  refine lv_iload hx hb d_M_keepsBoats_243 (lv_at hl 5 rfl) ?_
                  exact nw_zret hQ hx hb hr (b2_or _) hlocks hw hS (nw_msI hsc hfin) (Nat.le_of_ble_eq_true rfl) (Nat.le_of_ble_eq_true rfl) d_M_keepsBoats_245
                · skip
                  refine lv_iconst (v := nI 0) hx hb d_M_keepsBoats_95 (by decide) ?_
                  refine lv_istore (lv' := [(7, .int (nI 0)), (0, .ref (ad (64))), (1, .int (nI w)), (2, .int (nI many)), (3, .int (nI (mnC F w many))), (4, .int (nI M)), (5, .int (b2 (qFd n F w many code))), (6, .int (nI code))]) hx hb d_M_keepsBoats_96 hl (by decide) rfl (fun ls hl => ?_)
                  have hw := nw_W.as (wn' := mW ad tC n J bw (va_up (va_up L 2 (mnA F w (L 2) many)) 3 (flL Z 0)) bX aY S) hw (by rw [flL_0])
                  have loop98 : ∀ (k i : Nat), i ≤ (mnC F w many + 1) → (mnC F w many + 1) + 1 ≤ i + k → ∀ (H : Heap) (locs : List Loc) (ls : Array Slot), nw_W D hpC A (mW ad tC n J bw (va_up (va_up L 2 (mnA F w (L 2) many)) 3 (flL Z i)) bX aY S) ad H → va_S A s.heap H locs → lv_has ls 9 [(0, .ref (ad (64))), (1, .int (nI w)), (2, .int (nI many)), (3, .int (nI (mnC F w many))), (4, .int (nI M)), (5, .int (b2 (qFd n F w many code))), (6, .int (nI code)), (7, .int (nI i))] → W p l e ({ frames := 1, cells := 0, slots := 0, locals := 23 } : Room) s m args below meth cd H locs 0 0 Q (F0 m 98 ls []) := by
                    intro k
                    induction k with
                    | zero => intro i h1 h2; exact absurd h2 (by omega)
                    | succ k ih98 =>
                      intro i hv98 hk98 H locs ls hw hS hl
                      refine lv_iload hx hb d_M_keepsBoats_98 (lv_at hl 7 rfl) ?_
                      refine lv_iload_n hx hb d_M_keepsBoats_100 rfl (lv_at hl 3 rfl) ?_
                      refine lv_icmp_gt (tgt := 118) hx hb d_M_keepsBoats_101 (by decide) (fun c_101 => ?_) (fun c_101 => ?_)
                      · skip
                        have hgt101 : mnC F w many < i := (nI_ltI (by omega) (by omega)).mp c_101
                        obtain rfl : mnC F w many + 1 = i := by omega
                        refine lv_iload hx hb d_M_keepsBoats_118 (lv_at hl 6 rfl) ?_
                        refine lv_istore (lv' := [(7, .int (nI code)), (0, .ref (ad (64))), (1, .int (nI w)), (2, .int (nI many)), (3, .int (nI (mnC F w many))), (4, .int (nI M)), (5, .int (b2 (qFd n F w many code))), (6, .int (nI code))]) hx hb d_M_keepsBoats_120 hl (by decide) rfl (fun ls hl => ?_)
                        refine lv_iconst (v := nI 0) hx hb d_M_keepsBoats_122 (by decide) ?_
                        refine lv_istore (lv' := [(8, .int (nI 0)), (7, .int (nI code)), (0, .ref (ad (64))), (1, .int (nI w)), (2, .int (nI many)), (3, .int (nI (mnC F w many))), (4, .int (nI M)), (5, .int (b2 (qFd n F w many code))), (6, .int (nI code))]) hx hb d_M_keepsBoats_123 hl (by decide) rfl (fun ls hl => ?_)
                        have el7 : nI (code / (mnC F w many + 1) ^ 0) = nI code := by rw [Nat.pow_zero, Nat.div_one]
                        have hl : lv_has ls 9 [(8, .int (nI 0)), (7, .int (nI (code / (mnC F w many + 1) ^ 0))), (0, .ref (ad (64))), (1, .int (nI w)), (2, .int (nI many)), (3, .int (nI (mnC F w many))), (4, .int (nI M)), (5, .int (b2 (qFd n F w many code))), (6, .int (nI code))] := by
                          have h9 := hl
                          revert h9; rw [show Value.int (nI (code / (mnC F w many + 1) ^ 0)) = Value.int (nI code) from congrArg _ el7]; intro h9
                          exact h9
                        have loop125 : ∀ (k b : Nat), b ≤ n 3 → n 3 + 1 ≤ b + k → ∀ (H : Heap) (locs : List Loc) (ls : Array Slot), nw_W D hpC A (mW ad tC n J bw (va_up (va_up L 2 (mnA F w (L 2) many)) 3 (mcA F w (mnC F w many) (flL Z (mnC F w many + 1)) code b)) bX aY S) ad H → va_S A s.heap H locs → lv_has ls 9 [(0, .ref (ad (64))), (1, .int (nI w)), (2, .int (nI many)), (3, .int (nI (mnC F w many))), (4, .int (nI M)), (6, .int (nI code)), (7, .int (nI (code / (mnC F w many + 1) ^ b))), (8, .int (nI b))] → W p l e ({ frames := 1, cells := 0, slots := 0, locals := 23 } : Room) s m args below meth cd H locs 0 0 Q (F0 m 125 ls []) := by
                          intro k
                          induction k with
                          | zero => intro b h1 h2; exact absurd h2 (by omega)
                          | succ k ih125 =>
                            intro b hv125 hk125 H locs ls hw hS hl
                            refine lv_iload hx hb d_M_keepsBoats_125 (lv_at hl 7 rfl) ?_
                            refine lv_aload_n hx hb d_M_keepsBoats_127 rfl (lv_at hl 0 rfl) ?_
                            refine nw_get hx hb hts i_M hown hK hw (64) (mW_64) rfl 9 (by decide) (hts _ kw_668) (fun _ h9 => h9) rfl d_M_keepsBoats_128 ?_
                            refine lv_icmp_ge (tgt := 189) hx hb d_M_keepsBoats_131 (by decide) (fun c_131 => ?_) (fun c_131 => ?_)
                            · skip
                              have hge131 : n 3 ≤ b := (nI_leI (by omega) (by omega)).mp c_131
                              obtain rfl : n 3 = b := by omega
                              refine lv_iconst (v := nI 1) hx hb d_M_keepsBoats_189 (by decide) ?_
                              refine lv_istore (lv' := [(5, .int (nI 1)), (0, .ref (ad (64))), (1, .int (nI w)), (2, .int (nI many)), (3, .int (nI (mnC F w many))), (4, .int (nI M)), (6, .int (nI code)), (7, .int (nI (code / (mnC F w many + 1) ^ (n 3)))), (8, .int (nI (n 3)))]) hx hb d_M_keepsBoats_190 hl (by decide) rfl (fun ls hl => ?_)
                              refine lv_iconst (v := nI 0) hx hb d_M_keepsBoats_192 (by decide) ?_
                              refine lv_istore (lv' := [(8, .int (nI 0)), (5, .int (nI 1)), (0, .ref (ad (64))), (1, .int (nI w)), (2, .int (nI many)), (3, .int (nI (mnC F w many))), (4, .int (nI M)), (6, .int (nI code)), (7, .int (nI (code / (mnC F w many + 1) ^ (n 3))))]) hx hb d_M_keepsBoats_193 hl (by decide) rfl (fun ls hl => ?_)
                              have el5 : b2 (∀ j, j < 0 → mnA F w (L 2) many j ≤ mcA F w (mnC F w many) (flL Z (mnC F w many + 1)) code (n 3) j) = nI 1 := (b2_t (fun j hj => absurd hj (Nat.not_lt_zero j))).symm
                              have hl : lv_has ls 9 [(8, .int (nI 0)), (5, .int (b2 (∀ j, j < 0 → mnA F w (L 2) many j ≤ mcA F w (mnC F w many) (flL Z (mnC F w many + 1)) code (n 3) j))), (0, .ref (ad (64))), (1, .int (nI w)), (2, .int (nI many)), (3, .int (nI (mnC F w many))), (4, .int (nI M)), (6, .int (nI code)), (7, .int (nI (code / (mnC F w many + 1) ^ (n 3))))] := by
                                have h9 := hl
                                revert h9; rw [show Value.int (b2 (∀ j, j < 0 → mnA F w (L 2) many j ≤ mcA F w (mnC F w many) (flL Z (mnC F w many + 1)) code (n 3) j)) = Value.int (nI 1) from congrArg _ el5]; intro h9
                                exact h9
                              have loop195 : ∀ (k i : Nat), i ≤ mnC F w many → mnC F w many + 1 ≤ i + k → ∀ (H : Heap) (locs : List Loc) (ls : Array Slot), nw_W D hpC A (mW ad tC n J bw (va_up (va_up L 2 (mnA F w (L 2) many)) 3 (mcA F w (mnC F w many) (flL Z (mnC F w many + 1)) code (n 3))) bX aY S) ad H → va_S A s.heap H locs → lv_has ls 9 [(0, .ref (ad (64))), (1, .int (nI w)), (2, .int (nI many)), (3, .int (nI (mnC F w many))), (4, .int (nI M)), (5, .int (b2 (∀ j, j < i → mnA F w (L 2) many j ≤ mcA F w (mnC F w many) (flL Z (mnC F w many + 1)) code (n 3) j))), (6, .int (nI code)), (8, .int (nI i))] → W p l e ({ frames := 1, cells := 0, slots := 0, locals := 23 } : Room) s m args below meth cd H locs 0 0 Q (F0 m 195 ls []) := by
                                intro k
                                induction k with
                                | zero => intro i h1 h2; exact absurd h2 (by omega)
                                | succ k ih195 =>
                                  intro i hv195 hk195 H locs ls hw hS hl
                                  refine lv_iload hx hb d_M_keepsBoats_195 (lv_at hl 7 rfl) ?_
                                  refine lv_iload_n hx hb d_M_keepsBoats_197 rfl (lv_at hl 3 rfl) ?_
                                  refine lv_icmp_ge (tgt := 237) hx hb d_M_keepsBoats_198 (by decide) (fun c_198 => ?_) (fun c_198 => ?_)
                                  · skip
                                    have hge198 : mnC F w many ≤ i := (nI_leI (by omega) (by omega)).mp c_198
                                    obtain rfl : mnC F w many = i := by omega
                                    refine lv_iinc (v := nI (code + 1)) (lv' := [(6, .int (nI (code + 1))), (0, .ref (ad (64))), (1, .int (nI w)), (2, .int (nI many)), (3, .int (nI (mnC F w many))), (4, .int (nI M)), (5, .int (b2 (∀ j, j < (mnC F w many) → mnA F w (L 2) many j ≤ mcA F w (mnC F w many) (flL Z (mnC F w many + 1)) code (n 3) j))), (8, .int (nI (mnC F w many)))]) hx hb d_M_keepsBoats_237 hl (k := 6) rfl ((nI_succ _).symm) (by decide) rfl (fun ls hl => ?_)
                                    refine lv_goto (tgt := 83) hx hb d_M_keepsBoats_240 (by decide) ?_
                                    have hqc : (∀ j, j < mnC F w many → mnA F w (L 2) many j ≤ mcA F w (mnC F w many) (flL Z (mnC F w many + 1)) code (n 3) j) ↔ qCar n F w many code := ⟨fun h k hk => by have h9 := h k hk; rwa [mnA_base (g := fun _ => 0) hk, mcA_base (g := fun _ => 0) (fun j hj => by simp only [flL]; rw [if_pos hj]) k (by omega)] at h9, fun h k hk => by rw [mnA_base (g := fun _ => 0) hk, mcA_base (g := fun _ => 0) (fun j hj => by simp only [flL]; rw [if_pos hj]) k (by omega)]; exact h k hk⟩
                                    have hnf := b2_0' c_92
                                    have hfd : b2 (qFd n F w many (code + 1)) = b2 (∀ j, j < mnC F w many → mnA F w (L 2) many j ≤ mcA F w (mnC F w many) (flL Z (mnC F w many + 1)) code (n 3) j) := by
                                      by_cases h9 : ∀ j, j < mnC F w many → mnA F w (L 2) many j ≤ mcA F w (mnC F w many) (flL Z (mnC F w many + 1)) code (n 3) j
                                      · rw [← b2_t h9, ← b2_t (show qFd n F w many (code + 1) from Or.inr ⟨code, by omega, hqc.mp h9⟩)]
                                      · rw [← b2_f h9, ← b2_f (show ¬ qFd n F w many (code + 1) from fun hq => hq.elim (fun h0 => hnf (Or.inl h0)) (fun ⟨v, hv, hc⟩ => by
                                          rcases Nat.lt_or_ge v code with hl9 | hl9
                                          · exact hnf (Or.inr ⟨v, hl9, hc⟩)
                                          · exact h9 (hqc.mpr (by rwa [show v = code by omega] at hc))))]
                                    have el5 : b2 (qFd n F w many (code + 1)) = b2 (∀ j, j < (mnC F w many) → mnA F w (L 2) many j ≤ mcA F w (mnC F w many) (flL Z (mnC F w many + 1)) code (n 3) j) := hfd
                                    have hl : lv_has ls 9 [(6, .int (nI (code + 1))), (0, .ref (ad (64))), (1, .int (nI w)), (2, .int (nI many)), (3, .int (nI (mnC F w many))), (4, .int (nI M)), (5, .int (b2 (qFd n F w many (code + 1)))), (8, .int (nI (mnC F w many)))] := by
                                      have h9 := hl
                                      revert h9; rw [show Value.int (b2 (qFd n F w many (code + 1))) = Value.int (b2 (∀ j, j < (mnC F w many) → mnA F w (L 2) many j ≤ mcA F w (mnC F w many) (flL Z (mnC F w many + 1)) code (n 3) j)) from congrArg _ el5]; intro h9
                                      exact h9
                                    exact ih83 (code + 1) (_) (by omega) (by omega) _ _ ls hw hS (lv_sub hl [1, 2, 3, 4, 5, 6, 0] rfl)
                                  · skip
                                    have hi2 : i < mnC F w many := Nat.not_le.mp (fun q => c_198 (nI_le q (by omega)))
                                    refine lv_iload hx hb d_M_keepsBoats_201 (lv_at hl 5 rfl) ?_
                                    refine lv_if_eq (tgt := 228) hx hb d_M_keepsBoats_203 (by decide) (fun c_203 => ?_) (fun c_203 => ?_)
                                    · skip
                                      have hb5 : nI 0 = b2 (∀ j, j < i + 1 → mnA F w (L 2) many j ≤ mcA F w (mnC F w many) (flL Z (mnC F w many + 1)) code (n 3) j) := b2_f (fun h => b2_0 c_203 (fun j hj => h j (by omega)))
                                      refine lv_iconst (v := nI 0) hx hb d_M_keepsBoats_228 (by decide) ?_
                                      refine lv_istore (lv' := [(5, .int (nI 0)), (0, .ref (ad (64))), (1, .int (nI w)), (2, .int (nI many)), (3, .int (nI (mnC F w many))), (4, .int (nI M)), (6, .int (nI code)), (8, .int (nI i))]) hx hb d_M_keepsBoats_229 hl (by decide) rfl (fun ls hl => ?_)
                                      refine lv_iinc (v := nI (i + 1)) (lv' := [(8, .int (nI (i + 1))), (5, .int (nI 0)), (0, .ref (ad (64))), (1, .int (nI w)), (2, .int (nI many)), (3, .int (nI (mnC F w many))), (4, .int (nI M)), (6, .int (nI code))]) hx hb d_M_keepsBoats_231 hl (k := 7) rfl ((nI_succ _).symm) (by decide) rfl (fun ls hl => ?_)
                                      refine lv_goto (tgt := 195) hx hb d_M_keepsBoats_234 (by decide) ?_
                                      have el5 : b2 (∀ j, j < i + 1 → mnA F w (L 2) many j ≤ mcA F w (mnC F w many) (flL Z (mnC F w many + 1)) code (n 3) j) = nI 0 := hb5.symm
                                      have hl : lv_has ls 9 [(8, .int (nI (i + 1))), (5, .int (b2 (∀ j, j < i + 1 → mnA F w (L 2) many j ≤ mcA F w (mnC F w many) (flL Z (mnC F w many + 1)) code (n 3) j))), (0, .ref (ad (64))), (1, .int (nI w)), (2, .int (nI many)), (3, .int (nI (mnC F w many))), (4, .int (nI M)), (6, .int (nI code))] := by
                                        have h9 := hl
                                        revert h9; rw [show Value.int (b2 (∀ j, j < i + 1 → mnA F w (L 2) many j ≤ mcA F w (mnC F w many) (flL Z (mnC F w many + 1)) code (n 3) j)) = Value.int (nI 0) from congrArg _ el5]; intro h9
                                        exact h9
                                      exact ih195 (i + 1) (by omega) (by omega) _ _ ls hw hS (lv_sub hl [2, 3, 4, 5, 6, 1, 7, 0] rfl)
                                    · skip
                                      refine lv_aload_n hx hb d_M_keepsBoats_206 rfl (lv_at hl 0 rfl) ?_
                                      refine nw_get hx hb hts i_M hown hK hw (64) (mW_64) rfl 32 (by decide) (hts _ kw_691) (fun _ h9 => h9) rfl d_M_keepsBoats_207 ?_
                                      refine lv_iload hx hb d_M_keepsBoats_210 (lv_at hl 7 rfl) ?_
                                      refine nw_lald hx hb hK hw (68) 1 (mW_68) rfl (i) (rfl) (by omega) (by omega) d_M_keepsBoats_212 ?_
                                      refine lv_el (y := (mcA F w (mnC F w many) (flL Z (mnC F w many + 1)) code (n 3)) i) (rfl) ?_
                                      refine lv_aload_n hx hb d_M_keepsBoats_213 rfl (lv_at hl 0 rfl) ?_
                                      refine nw_get hx hb hts i_M hown hK hw (64) (mW_64) rfl 31 (by decide) (hts _ kw_690) (fun _ h9 => h9) rfl d_M_keepsBoats_214 ?_
                                      refine lv_iload hx hb d_M_keepsBoats_217 (lv_at hl 7 rfl) ?_
                                      refine nw_lald hx hb hK hw (67) 1 (mW_67) rfl (i) (rfl) (by omega) (by omega) d_M_keepsBoats_219 ?_
                                      refine lv_el (y := (mnA F w (L 2) many) i) (rfl) ?_
                                      refine W.lcmp hx hb d_M_keepsBoats_220 ?_
                                      refine lv_if_lt (tgt := 228) hx hb d_M_keepsBoats_221 (by decide) (fun c_221 => ?_) (fun c_221 => ?_)
                                      · skip
                                        have hb5 : nI 0 = b2 (∀ j, j < i + 1 → mnA F w (L 2) many j ≤ mcA F w (mnC F w many) (flL Z (mnC F w many + 1)) code (n 3) j) := b2_f (fun h => Int64.not_le.mpr ((lg_cmp_lt _ _).mp c_221) (h i (by omega)))
                                        refine lv_iconst (v := nI 0) hx hb d_M_keepsBoats_228 (by decide) ?_
                                        refine lv_istore (lv' := [(5, .int (nI 0)), (0, .ref (ad (64))), (1, .int (nI w)), (2, .int (nI many)), (3, .int (nI (mnC F w many))), (4, .int (nI M)), (6, .int (nI code)), (8, .int (nI i))]) hx hb d_M_keepsBoats_229 hl (by decide) rfl (fun ls hl => ?_)
                                        refine lv_iinc (v := nI (i + 1)) (lv' := [(8, .int (nI (i + 1))), (5, .int (nI 0)), (0, .ref (ad (64))), (1, .int (nI w)), (2, .int (nI many)), (3, .int (nI (mnC F w many))), (4, .int (nI M)), (6, .int (nI code))]) hx hb d_M_keepsBoats_231 hl (k := 7) rfl ((nI_succ _).symm) (by decide) rfl (fun ls hl => ?_)
                                        refine lv_goto (tgt := 195) hx hb d_M_keepsBoats_234 (by decide) ?_
                                        have el5 : b2 (∀ j, j < i + 1 → mnA F w (L 2) many j ≤ mcA F w (mnC F w many) (flL Z (mnC F w many + 1)) code (n 3) j) = nI 0 := hb5.symm
                                        have hl : lv_has ls 9 [(8, .int (nI (i + 1))), (5, .int (b2 (∀ j, j < i + 1 → mnA F w (L 2) many j ≤ mcA F w (mnC F w many) (flL Z (mnC F w many + 1)) code (n 3) j))), (0, .ref (ad (64))), (1, .int (nI w)), (2, .int (nI many)), (3, .int (nI (mnC F w many))), (4, .int (nI M)), (6, .int (nI code))] := by
                                          have h9 := hl
                                          revert h9; rw [show Value.int (b2 (∀ j, j < i + 1 → mnA F w (L 2) many j ≤ mcA F w (mnC F w many) (flL Z (mnC F w many + 1)) code (n 3) j)) = Value.int (nI 0) from congrArg _ el5]; intro h9
                                          exact h9
                                        exact ih195 (i + 1) (by omega) (by omega) _ _ ls hw hS (lv_sub hl [2, 3, 4, 5, 6, 1, 7, 0] rfl)
                                      · skip
                                        have hb5 : nI 1 = b2 (∀ j, j < i + 1 → mnA F w (L 2) many j ≤ mcA F w (mnC F w many) (flL Z (mnC F w many + 1)) code (n 3) j) := b2_t (lt_s (b2_1 c_203) (Int64.not_lt.mp (fun h => c_221 ((lg_cmp_lt _ _).mpr h))))
                                        refine lv_iconst (v := nI 1) hx hb d_M_keepsBoats_224 (by decide) ?_
                                        refine lv_goto (tgt := 229) hx hb d_M_keepsBoats_225 (by decide) ?_
                                        refine lv_istore (lv' := [(5, .int (nI 1)), (0, .ref (ad (64))), (1, .int (nI w)), (2, .int (nI many)), (3, .int (nI (mnC F w many))), (4, .int (nI M)), (6, .int (nI code)), (8, .int (nI i))]) hx hb d_M_keepsBoats_229 hl (by decide) rfl (fun ls hl => ?_)
                                        refine lv_iinc (v := nI (i + 1)) (lv' := [(8, .int (nI (i + 1))), (5, .int (nI 1)), (0, .ref (ad (64))), (1, .int (nI w)), (2, .int (nI many)), (3, .int (nI (mnC F w many))), (4, .int (nI M)), (6, .int (nI code))]) hx hb d_M_keepsBoats_231 hl (k := 7) rfl ((nI_succ _).symm) (by decide) rfl (fun ls hl => ?_)
                                        refine lv_goto (tgt := 195) hx hb d_M_keepsBoats_234 (by decide) ?_
                                        have el5 : b2 (∀ j, j < i + 1 → mnA F w (L 2) many j ≤ mcA F w (mnC F w many) (flL Z (mnC F w many + 1)) code (n 3) j) = nI 1 := hb5.symm
                                        have hl : lv_has ls 9 [(8, .int (nI (i + 1))), (5, .int (b2 (∀ j, j < i + 1 → mnA F w (L 2) many j ≤ mcA F w (mnC F w many) (flL Z (mnC F w many + 1)) code (n 3) j))), (0, .ref (ad (64))), (1, .int (nI w)), (2, .int (nI many)), (3, .int (nI (mnC F w many))), (4, .int (nI M)), (6, .int (nI code))] := by
                                          have h9 := hl
                                          revert h9; rw [show Value.int (b2 (∀ j, j < i + 1 → mnA F w (L 2) many j ≤ mcA F w (mnC F w many) (flL Z (mnC F w many + 1)) code (n 3) j)) = Value.int (nI 1) from congrArg _ el5]; intro h9
                                          exact h9
                                        exact ih195 (i + 1) (by omega) (by omega) _ _ ls hw hS (lv_sub hl [2, 3, 4, 5, 6, 1, 7, 0] rfl)
                              exact loop195 (mnC F w many + 1) (0) (by omega) (by omega) _ _ ls hw hS (lv_sub hl [2, 3, 4, 5, 6, 1, 7, 0] rfl)
                            · skip
                              have hb3 : b < n 3 := Nat.not_le.mp (fun q => c_131 (nI_le q (by omega)))
                              refine lv_aload_n hx hb d_M_keepsBoats_134 rfl (lv_at hl 0 rfl) ?_
                              refine nw_get hx hb hts i_M hown hK hw (64) (mW_64) rfl 32 (by decide) (hts _ kw_691) (fun _ h9 => h9) rfl d_M_keepsBoats_135 ?_
                              refine lv_iload hx hb d_M_keepsBoats_138 (lv_at hl 6 rfl) ?_
                              refine lv_iload_n hx hb d_M_keepsBoats_140 rfl (lv_at hl 3 rfl) ?_
                              refine lv_iconst (v := nI 1) hx hb d_M_keepsBoats_141 (by decide) ?_
                              refine lv_iadd hx hb d_M_keepsBoats_142 ?_
                              refine lv_ei (y := nI (mnC F w many + 1)) (nI_add _ _) ?_
                              refine lv_irem hx hb d_M_keepsBoats_143 (nI_ne0 (by omega) (by omega)) ?_
                              refine lv_ei (y := nI (code / (mnC F w many + 1) ^ b % (mnC F w many + 1))) (pk_rem (Nat.lt_of_le_of_lt (Nat.div_le_self _ _) (by omega)) (by omega) (by omega)) ?_
                              refine lv_dup2_11 hx hb d_M_keepsBoats_144 rfl rfl ?_
                              refine nw_lald hx hb hK hw (68) 1 (mW_68) rfl (code / (mnC F w many + 1) ^ b % (mnC F w many + 1)) (rfl) (Nat.lt_of_lt_of_le (Nat.mod_lt _ (by omega)) (by omega)) (by omega) d_M_keepsBoats_145 ?_
                              refine lv_el (y := (mcA F w (mnC F w many) (flL Z (mnC F w many + 1)) code b) (code / (mnC F w many + 1) ^ b % (mnC F w many + 1))) (rfl) ?_
                              refine lv_aload_n hx hb d_M_keepsBoats_146 rfl (lv_at hl 0 rfl) ?_
                              refine nw_get hx hb hts i_M hown hK hw (64) (mW_64) rfl 11 (by decide) (hts _ kw_670) (fun _ h9 => h9) rfl d_M_keepsBoats_147 ?_
                              refine lv_bipush (v := nI 8) hx hb d_M_keepsBoats_150 (by decide) ?_
                              refine lv_iload hx hb d_M_keepsBoats_152 (lv_at hl 7 rfl) ?_
                              refine lv_imul hx hb d_M_keepsBoats_154 ?_
                              refine lv_iload_n hx hb d_M_keepsBoats_155 rfl (lv_at hl 1 rfl) ?_
                              refine lv_iadd hx hb d_M_keepsBoats_156 ?_
                              refine lv_ei (y := nI (8 * b + w)) (ix8 _ _) ?_
                              refine nw_zald hx hb hK hw (186) 2 (mW_row (t := 5) (j := 6) (by decide) (by decide) (rfl)) rfl (8 * b + w) (rfl) (by omega) (by omega) d_M_keepsBoats_157 ?_
                              refine lv_ei (y := F 5 6 (8 * b + w)) (congrFun (hsc 5 6 (by omega)) _) ?_
                              refine lv_if_eq (tgt := 165) hx hb d_M_keepsBoats_158 (by decide) (fun c_158 => ?_) (fun c_158 => ?_)
                              · skip
                                have e3c : mcA F w (mnC F w many) (flL Z (mnC F w many + 1)) code (b + 1) = vp_updL (mcA F w (mnC F w many) (flL Z (mnC F w many + 1)) code b) (code / (mnC F w many + 1) ^ b % (mnC F w many + 1)) (mcA F w (mnC F w many) (flL Z (mnC F w many + 1)) code b (code / (mnC F w many + 1) ^ b % (mnC F w many + 1)) + (F 5 5 b).toInt64) := mc_t c_158
                                refine lv_aload_n hx hb d_M_keepsBoats_165 rfl (lv_at hl 0 rfl) ?_
                                refine nw_get hx hb hts i_M hown hK hw (64) (mW_64) rfl 10 (by decide) (hts _ kw_669) (fun _ h9 => h9) rfl d_M_keepsBoats_166 ?_
                                refine lv_iload hx hb d_M_keepsBoats_169 (lv_at hl 7 rfl) ?_
                                refine nw_iald hx hb hK hw (185) 0 (mW_row (t := 5) (j := 5) (by decide) (by decide) (rfl)) rfl (b) (rfl) (by omega) (by omega) d_M_keepsBoats_171 ?_
                                refine lv_ei (y := F 5 5 b) (congrFun (hsc 5 5 (by omega)) _) ?_
                                refine lv_i2l (v := ((F 5 5 b).toInt64)) hx hb d_M_keepsBoats_172 rfl ?_
                                refine lv_ladd hx hb d_M_keepsBoats_173 ?_
                                refine nw_last hx hb hK hw hS (68) 1 (mW_68) rfl (code / (mnC F w many + 1) ^ b % (mnC F w many + 1)) (rfl) (Nat.lt_of_lt_of_le (Nat.mod_lt _ (by omega)) (by omega)) (by omega) d_M_keepsBoats_174 (fun H locs hw hS => ?_)
                                have hw := nw_W.as (wn' := mW ad tC n J bw (va_up (va_up L 2 (mnA F w (L 2) many)) 3 (vp_updL (mcA F w (mnC F w many) (flL Z (mnC F w many + 1)) code b) (code / (mnC F w many + 1) ^ b % (mnC F w many + 1)) (((mcA F w (mnC F w many) (flL Z (mnC F w many + 1)) code b) (code / (mnC F w many + 1) ^ b % (mnC F w many + 1))) + (((F 5 5 b).toInt64))))) bX aY S) (mW_setL (j := 3) (f := vp_updL ((va_up (va_up L 2 (mnA F w (L 2) many)) 3 (mcA F w (mnC F w many) (flL Z (mnC F w many + 1)) code b)) 3) (code / (mnC F w many + 1) ^ b % (mnC F w many + 1)) (((mcA F w (mnC F w many) (flL Z (mnC F w many + 1)) code b) (code / (mnC F w many + 1) ^ b % (mnC F w many + 1))) + (((F 5 5 b).toInt64)))) rfl (by decide) rfl hw) (by rw [va_up_self, bx_uu])
                                refine lv_iload hx hb d_M_keepsBoats_175 (lv_at hl 6 rfl) ?_
                                refine lv_iload_n hx hb d_M_keepsBoats_177 rfl (lv_at hl 3 rfl) ?_
                                refine lv_iconst (v := nI 1) hx hb d_M_keepsBoats_178 (by decide) ?_
                                refine lv_iadd hx hb d_M_keepsBoats_179 ?_
                                refine lv_ei (y := nI (mnC F w many + 1)) (nI_add _ _) ?_
                                refine lv_idiv hx hb d_M_keepsBoats_180 (nI_ne0 (by omega) (by omega)) ?_
                                refine lv_ei (y := nI (code / (mnC F w many + 1) ^ b / (mnC F w many + 1))) (pk_div (Nat.lt_of_le_of_lt (Nat.div_le_self _ _) (by omega)) (by omega) (by omega)) ?_
                                refine lv_istore (lv' := [(7, .int (nI (code / (mnC F w many + 1) ^ b / (mnC F w many + 1)))), (0, .ref (ad (64))), (1, .int (nI w)), (2, .int (nI many)), (3, .int (nI (mnC F w many))), (4, .int (nI M)), (6, .int (nI code)), (8, .int (nI b))]) hx hb d_M_keepsBoats_181 hl (by decide) rfl (fun ls hl => ?_)
                                refine lv_iinc (v := nI (b + 1)) (lv' := [(8, .int (nI (b + 1))), (7, .int (nI (code / (mnC F w many + 1) ^ b / (mnC F w many + 1)))), (0, .ref (ad (64))), (1, .int (nI w)), (2, .int (nI many)), (3, .int (nI (mnC F w many))), (4, .int (nI M)), (6, .int (nI code))]) hx hb d_M_keepsBoats_183 hl (k := 7) rfl ((nI_succ _).symm) (by decide) rfl (fun ls hl => ?_)
                                refine lv_goto (tgt := 125) hx hb d_M_keepsBoats_186 (by decide) ?_
                                have el7 : nI (code / (mnC F w many + 1) ^ (b + 1)) = nI (code / (mnC F w many + 1) ^ b / (mnC F w many + 1)) := by rw [Nat.pow_succ, Nat.div_div_eq_div_mul]
                                have hl : lv_has ls 9 [(8, .int (nI (b + 1))), (7, .int (nI (code / (mnC F w many + 1) ^ (b + 1)))), (0, .ref (ad (64))), (1, .int (nI w)), (2, .int (nI many)), (3, .int (nI (mnC F w many))), (4, .int (nI M)), (6, .int (nI code))] := by
                                  have h9 := hl
                                  revert h9; rw [show Value.int (nI (code / (mnC F w many + 1) ^ (b + 1))) = Value.int (nI (code / (mnC F w many + 1) ^ b / (mnC F w many + 1))) from congrArg _ el7]; intro h9
                                  exact h9
                                have hw := nw_W.as (wn' := mW ad tC n J bw (va_up (va_up L 2 (mnA F w (L 2) many)) 3 (mcA F w (mnC F w many) (flL Z (mnC F w many + 1)) code (b + 1))) bX aY S) hw (by rw [e3c])
                                exact ih125 (b + 1) (by omega) (by omega) _ _ ls hw hS (lv_sub hl [2, 3, 4, 5, 6, 7, 1, 0] rfl)
                              · skip
                                have e3c : mcA F w (mnC F w many) (flL Z (mnC F w many + 1)) code (b + 1) = vp_updL (mcA F w (mnC F w many) (flL Z (mnC F w many + 1)) code b) (code / (mnC F w many + 1) ^ b % (mnC F w many + 1)) (mcA F w (mnC F w many) (flL Z (mnC F w many + 1)) code b (code / (mnC F w many + 1) ^ b % (mnC F w many + 1)) + 0) := mc_f c_158
                                refine lv_lconst (v := 0) hx hb d_M_keepsBoats_161 (by decide) ?_
                                refine lv_goto (tgt := 173) hx hb d_M_keepsBoats_162 (by decide) ?_
                                refine lv_ladd hx hb d_M_keepsBoats_173 ?_
                                refine nw_last hx hb hK hw hS (68) 1 (mW_68) rfl (code / (mnC F w many + 1) ^ b % (mnC F w many + 1)) (rfl) (Nat.lt_of_lt_of_le (Nat.mod_lt _ (by omega)) (by omega)) (by omega) d_M_keepsBoats_174 (fun H locs hw hS => ?_)
                                have hw := nw_W.as (wn' := mW ad tC n J bw (va_up (va_up L 2 (mnA F w (L 2) many)) 3 (vp_updL (mcA F w (mnC F w many) (flL Z (mnC F w many + 1)) code b) (code / (mnC F w many + 1) ^ b % (mnC F w many + 1)) (((mcA F w (mnC F w many) (flL Z (mnC F w many + 1)) code b) (code / (mnC F w many + 1) ^ b % (mnC F w many + 1))) + (0)))) bX aY S) (mW_setL (j := 3) (f := vp_updL ((va_up (va_up L 2 (mnA F w (L 2) many)) 3 (mcA F w (mnC F w many) (flL Z (mnC F w many + 1)) code b)) 3) (code / (mnC F w many + 1) ^ b % (mnC F w many + 1)) (((mcA F w (mnC F w many) (flL Z (mnC F w many + 1)) code b) (code / (mnC F w many + 1) ^ b % (mnC F w many + 1))) + (0))) rfl (by decide) rfl hw) (by rw [va_up_self, bx_uu])
                                refine lv_iload hx hb d_M_keepsBoats_175 (lv_at hl 6 rfl) ?_
                                refine lv_iload_n hx hb d_M_keepsBoats_177 rfl (lv_at hl 3 rfl) ?_
                                refine lv_iconst (v := nI 1) hx hb d_M_keepsBoats_178 (by decide) ?_
                                refine lv_iadd hx hb d_M_keepsBoats_179 ?_
                                refine lv_ei (y := nI (mnC F w many + 1)) (nI_add _ _) ?_
                                refine lv_idiv hx hb d_M_keepsBoats_180 (nI_ne0 (by omega) (by omega)) ?_
                                refine lv_ei (y := nI (code / (mnC F w many + 1) ^ b / (mnC F w many + 1))) (pk_div (Nat.lt_of_le_of_lt (Nat.div_le_self _ _) (by omega)) (by omega) (by omega)) ?_
                                refine lv_istore (lv' := [(7, .int (nI (code / (mnC F w many + 1) ^ b / (mnC F w many + 1)))), (0, .ref (ad (64))), (1, .int (nI w)), (2, .int (nI many)), (3, .int (nI (mnC F w many))), (4, .int (nI M)), (6, .int (nI code)), (8, .int (nI b))]) hx hb d_M_keepsBoats_181 hl (by decide) rfl (fun ls hl => ?_)
                                refine lv_iinc (v := nI (b + 1)) (lv' := [(8, .int (nI (b + 1))), (7, .int (nI (code / (mnC F w many + 1) ^ b / (mnC F w many + 1)))), (0, .ref (ad (64))), (1, .int (nI w)), (2, .int (nI many)), (3, .int (nI (mnC F w many))), (4, .int (nI M)), (6, .int (nI code))]) hx hb d_M_keepsBoats_183 hl (k := 7) rfl ((nI_succ _).symm) (by decide) rfl (fun ls hl => ?_)
                                refine lv_goto (tgt := 125) hx hb d_M_keepsBoats_186 (by decide) ?_
                                have el7 : nI (code / (mnC F w many + 1) ^ (b + 1)) = nI (code / (mnC F w many + 1) ^ b / (mnC F w many + 1)) := by rw [Nat.pow_succ, Nat.div_div_eq_div_mul]
                                have hl : lv_has ls 9 [(8, .int (nI (b + 1))), (7, .int (nI (code / (mnC F w many + 1) ^ (b + 1)))), (0, .ref (ad (64))), (1, .int (nI w)), (2, .int (nI many)), (3, .int (nI (mnC F w many))), (4, .int (nI M)), (6, .int (nI code))] := by
                                  have h9 := hl
                                  revert h9; rw [show Value.int (nI (code / (mnC F w many + 1) ^ (b + 1))) = Value.int (nI (code / (mnC F w many + 1) ^ b / (mnC F w many + 1))) from congrArg _ el7]; intro h9
                                  exact h9
                                have hw := nw_W.as (wn' := mW ad tC n J bw (va_up (va_up L 2 (mnA F w (L 2) many)) 3 (mcA F w (mnC F w many) (flL Z (mnC F w many + 1)) code (b + 1))) bX aY S) hw (by rw [e3c])
                                exact ih125 (b + 1) (by omega) (by omega) _ _ ls hw hS (lv_sub hl [2, 3, 4, 5, 6, 7, 1, 0] rfl)
                        exact loop125 (n 3 + 1) (0) (by omega) (by omega) _ _ ls hw hS (lv_sub hl [2, 3, 4, 5, 6, 8, 1, 0] rfl)
                      · skip
                        have hi1 : i ≤ mnC F w many := Nat.not_lt.mp (fun q => c_101 (nI_lt q (by omega)))
                        refine lv_aload_n hx hb d_M_keepsBoats_104 rfl (lv_at hl 0 rfl) ?_
                        refine nw_get hx hb hts i_M hown hK hw (64) (mW_64) rfl 32 (by decide) (hts _ kw_691) (fun _ h9 => h9) rfl d_M_keepsBoats_105 ?_
                        refine lv_iload hx hb d_M_keepsBoats_108 (lv_at hl 7 rfl) ?_
                        refine lv_lconst (v := 0) hx hb d_M_keepsBoats_110 (by decide) ?_
                        refine nw_last hx hb hK hw hS (68) 1 (mW_68) rfl (i) (rfl) (by omega) (by omega) d_M_keepsBoats_111 (fun H locs hw hS => ?_)
                        have hw := nw_W.as (wn' := mW ad tC n J bw (va_up (va_up L 2 (mnA F w (L 2) many)) 3 (vp_updL (flL Z i) i 0)) bX aY S) (mW_setL (j := 3) (f := vp_updL ((va_up (va_up L 2 (mnA F w (L 2) many)) 3 (flL Z i)) 3) i 0) rfl (by decide) rfl hw) (by rw [va_up_self, bx_uu])
                        refine lv_iinc (v := nI (i + 1)) (lv' := [(7, .int (nI (i + 1))), (0, .ref (ad (64))), (1, .int (nI w)), (2, .int (nI many)), (3, .int (nI (mnC F w many))), (4, .int (nI M)), (5, .int (b2 (qFd n F w many code))), (6, .int (nI code))]) hx hb d_M_keepsBoats_112 hl (k := 7) rfl ((nI_succ _).symm) (by decide) rfl (fun ls hl => ?_)
                        refine lv_goto (tgt := 98) hx hb d_M_keepsBoats_115 (by decide) ?_
                        have hw := nw_W.as (wn' := mW ad tC n J bw (va_up (va_up L 2 (mnA F w (L 2) many)) 3 (flL Z (i + 1))) bX aY S) hw (by rw [← flL_s])
                        exact ih98 (i + 1) (by omega) (by omega) _ _ ls hw hS (lv_sub hl [1, 2, 3, 4, 5, 6, 7, 0] rfl)
                  exact loop98 ((mnC F w many + 1) + 1) (0) (by omega) (by omega) _ _ ls hw hS (lv_sub hl [1, 2, 3, 4, 5, 6, 7, 0] rfl)
          exact loop83 (M + 1) (0) (_) (by omega) (by omega) _ _ ls hw hS (lv_sub hl [3, 4, 5, 6, 2, 1, 0] rfl)
      · skip
        have hcm : c < many := Nat.not_le.mp (fun q => c_8 (nI_le q (by omega)))
        refine lv_aload_n hx hb d_M_keepsBoats_11 rfl (lv_at hl 0 rfl) ?_
        refine lv_iload hx hb d_M_keepsBoats_12 (lv_at hl 4 rfl) ?_
        refine lv_iload_n hx hb d_M_keepsBoats_14 rfl (lv_at hl 1 rfl) ?_
        refine lv_iload_n hx hb d_M_keepsBoats_15 rfl (lv_at hl 2 rfl) ?_
        refine nw_callD (nw_goV (n := 3) (As := [.int (nI c), .int (nI w), .int (nI many)]) (rest := []) hSx hA hKs hw hS (c_M_takes l D tC A ad n J bw (va_up L 2 (mnA F w (L 2) c)) bX aY F S hsc hN c w many (by omega) (by omega)) kw_839 kw_836 kw_838 ks_M_takes kw_8 rfl rfl (by decide +kernel) ⟨Nat.le_of_ble_eq_true rfl, Nat.le_of_ble_eq_true rfl⟩ (nw_recv hK hw (mW_64) rfl) rfl hl.1 (Nat.le_of_ble_eq_true rfl) d_M_keepsBoats_16 ⟨Nat.le_of_ble_eq_true rfl, Nat.le_of_ble_eq_true rfl⟩) hS (fun H locs hw hS => ?_)
        refine lv_if_eq (tgt := 50) hx hb d_M_keepsBoats_19 (by decide) (fun c_19 => ?_) (fun c_19 => ?_)
        · skip
          have e3 : mnC F w (c + 1) = mnC F w c ∧ mnA F w (L 2) (c + 1) = mnA F w (L 2) c := mn_f (fun h => b2_0 c_19 ⟨hcm, h.1⟩)
          refine lv_iinc (v := nI (c + 1)) (lv' := [(4, .int (nI (c + 1))), (0, .ref (ad (64))), (1, .int (nI w)), (2, .int (nI many)), (3, .int (nI (mnC F w c)))]) hx hb d_M_keepsBoats_50 hl (k := 4) rfl ((nI_succ _).symm) (by decide) rfl (fun ls hl => ?_)
          refine lv_goto (tgt := 5) hx hb d_M_keepsBoats_53 (by decide) ?_
          have el3 : nI (mnC F w (c + 1)) = nI (mnC F w c) := by rw [e3.1]
          have hl : lv_has ls 9 [(4, .int (nI (c + 1))), (0, .ref (ad (64))), (1, .int (nI w)), (2, .int (nI many)), (3, .int (nI (mnC F w (c + 1))))] := by
            have h9 := hl
            revert h9; rw [show Value.int (nI (mnC F w (c + 1))) = Value.int (nI (mnC F w c)) from congrArg _ el3]; intro h9
            exact h9
          have hw := nw_W.as (wn' := mW ad tC n J bw (va_up L 2 (mnA F w (L 2) (c + 1))) bX aY S) hw (by rw [e3.2])
          exact ih5 (c + 1) (by omega) (by omega) _ _ ls hw hS (lv_sub hl [1, 2, 3, 4, 0] rfl)
        · skip
          refine lv_aload_n hx hb d_M_keepsBoats_22 rfl (lv_at hl 0 rfl) ?_
          refine lv_iload hx hb d_M_keepsBoats_23 (lv_at hl 4 rfl) ?_
          refine lv_iload_n hx hb d_M_keepsBoats_25 rfl (lv_at hl 1 rfl) ?_
          refine nw_callD (nw_goV (n := 2) (As := [.int (nI c), .int (nI w)]) (rest := []) hSx hA hKs hw hS (c_M_kilos l D tC A ad n J bw (va_up L 2 (mnA F w (L 2) c)) bX aY F S hsc hN c w (by omega) (by omega)) kw_792 kw_789 kw_791 ks_M_kilos kw_8 rfl rfl (by decide +kernel) ⟨Nat.le_of_ble_eq_true rfl, Nat.le_of_ble_eq_true rfl⟩ (nw_recv hK hw (mW_64) rfl) rfl hl.1 (Nat.le_of_ble_eq_true rfl) d_M_keepsBoats_26 ⟨Nat.le_of_ble_eq_true rfl, Nat.le_of_ble_eq_true rfl⟩) hS (fun H locs hw hS => ?_)
          refine lv_lconst (v := 0) hx hb d_M_keepsBoats_29 (by decide) ?_
          refine W.lcmp hx hb d_M_keepsBoats_30 ?_
          refine lv_if_le (tgt := 50) hx hb d_M_keepsBoats_31 (by decide) (fun c_31 => ?_) (fun c_31 => ?_)
          · skip
            have e3 : mnC F w (c + 1) = mnC F w c ∧ mnA F w (L 2) (c + 1) = mnA F w (L 2) c := mn_f (fun h => Int64.not_le.mpr h.2 ((lg_cmp_le _ _).mp c_31))
            refine lv_iinc (v := nI (c + 1)) (lv' := [(4, .int (nI (c + 1))), (0, .ref (ad (64))), (1, .int (nI w)), (2, .int (nI many)), (3, .int (nI (mnC F w c)))]) hx hb d_M_keepsBoats_50 hl (k := 4) rfl ((nI_succ _).symm) (by decide) rfl (fun ls hl => ?_)
            refine lv_goto (tgt := 5) hx hb d_M_keepsBoats_53 (by decide) ?_
            have el3 : nI (mnC F w (c + 1)) = nI (mnC F w c) := by rw [e3.1]
            have hl : lv_has ls 9 [(4, .int (nI (c + 1))), (0, .ref (ad (64))), (1, .int (nI w)), (2, .int (nI many)), (3, .int (nI (mnC F w (c + 1))))] := by
              have h9 := hl
              revert h9; rw [show Value.int (nI (mnC F w (c + 1))) = Value.int (nI (mnC F w c)) from congrArg _ el3]; intro h9
              exact h9
            have hw := nw_W.as (wn' := mW ad tC n J bw (va_up L 2 (mnA F w (L 2) (c + 1))) bX aY S) hw (by rw [e3.2])
            exact ih5 (c + 1) (by omega) (by omega) _ _ ls hw hS (lv_sub hl [1, 2, 3, 4, 0] rfl)
          · skip
            have e3 : mnC F w (c + 1) = mnC F w c + 1 ∧ mnA F w (L 2) (c + 1) = vp_updL (mnA F w (L 2) c) (mnC F w c) (kM F c w) := mn_t (b2_1 c_19).2 (Int64.not_le.mp (fun h => c_31 ((lg_cmp_le _ _).mpr h)))
            refine lv_aload_n hx hb d_M_keepsBoats_34 rfl (lv_at hl 0 rfl) ?_
            refine nw_get hx hb hts i_M hown hK hw (64) (mW_64) rfl 31 (by decide) (hts _ kw_690) (fun _ h9 => h9) rfl d_M_keepsBoats_35 ?_
            refine lv_iload_n hx hb d_M_keepsBoats_38 rfl (lv_at hl 3 rfl) ?_
            refine lv_aload_n hx hb d_M_keepsBoats_39 rfl (lv_at hl 0 rfl) ?_
            refine lv_iload hx hb d_M_keepsBoats_40 (lv_at hl 4 rfl) ?_
            refine lv_iload_n hx hb d_M_keepsBoats_42 rfl (lv_at hl 1 rfl) ?_
            refine nw_callD (nw_goV (n := 2) (As := [.int (nI c), .int (nI w)]) (rest := [.int (nI (mnC F w c)), .ref (ad (67))]) hSx hA hKs hw hS (c_M_kilos l D tC A ad n J bw (va_up L 2 (mnA F w (L 2) c)) bX aY F S hsc hN c w (by omega) (by omega)) kw_792 kw_789 kw_791 ks_M_kilos kw_8 rfl rfl (by decide +kernel) ⟨Nat.le_of_ble_eq_true rfl, Nat.le_of_ble_eq_true rfl⟩ (nw_recv hK hw (mW_64) rfl) rfl hl.1 (Nat.le_of_ble_eq_true rfl) d_M_keepsBoats_43 ⟨Nat.le_of_ble_eq_true rfl, Nat.le_of_ble_eq_true rfl⟩) hS (fun H locs hw hS => ?_)
            refine nw_last hx hb hK hw hS (67) 1 (mW_67) rfl (mnC F w c) (rfl) (by omega) (by omega) d_M_keepsBoats_46 (fun H locs hw hS => ?_)
            have hw := nw_W.as (wn' := mW ad tC n J bw (va_up L 2 (vp_updL (mnA F w (L 2) c) (mnC F w c) (kM F c w))) bX aY S) (mW_setL (j := 2) (f := vp_updL ((va_up L 2 (mnA F w (L 2) c)) 2) (mnC F w c) (kM F c w)) rfl (by decide) rfl hw) (by rw [va_up_self, bx_uu])
            refine lv_iinc (v := nI (mnC F w c + 1)) (lv' := [(3, .int (nI (mnC F w c + 1))), (0, .ref (ad (64))), (1, .int (nI w)), (2, .int (nI many)), (4, .int (nI c))]) hx hb d_M_keepsBoats_47 hl (k := 3) rfl ((nI_succ _).symm) (by decide) rfl (fun ls hl => ?_)
            refine lv_iinc (v := nI (c + 1)) (lv' := [(4, .int (nI (c + 1))), (3, .int (nI (mnC F w c + 1))), (0, .ref (ad (64))), (1, .int (nI w)), (2, .int (nI many))]) hx hb d_M_keepsBoats_50 hl (k := 4) rfl ((nI_succ _).symm) (by decide) rfl (fun ls hl => ?_)
            refine lv_goto (tgt := 5) hx hb d_M_keepsBoats_53 (by decide) ?_
            have el3 : nI (mnC F w (c + 1)) = nI (mnC F w c + 1) := by rw [e3.1]
            have hl : lv_has ls 9 [(4, .int (nI (c + 1))), (3, .int (nI (mnC F w (c + 1)))), (0, .ref (ad (64))), (1, .int (nI w)), (2, .int (nI many))] := by
              have h9 := hl
              revert h9; rw [show Value.int (nI (mnC F w (c + 1))) = Value.int (nI (mnC F w c + 1)) from congrArg _ el3]; intro h9
              exact h9
            have hw := nw_W.as (wn' := mW ad tC n J bw (va_up L 2 (mnA F w (L 2) (c + 1))) bX aY S) hw (by rw [e3.2])
            exact ih5 (c + 1) (by omega) (by omega) _ _ ls hw hS (lv_sub hl [2, 3, 4, 1, 0] rfl)
  exact loop5 (many + 1) (0) (by omega) (by omega) _ _ ls hw hS (lv_sub hl [2, 3, 4, 1, 0] rfl)
