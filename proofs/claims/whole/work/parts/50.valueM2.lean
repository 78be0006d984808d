set_option maxHeartbeats 4000000 in
set_option maxRecDepth 100000 in
/-- WORTH -/
theorem c_M_value (l : Launch) (D : va_G) (tC : Nat → ClassId) (A : Nat → Prop) (ad : Nat → Nat) (n : Nat → Nat) (J : Nat → Int32) (bw : Int64) (L : Nat → Nat → Int64) (bX : Nat → Option va_E) (aY : Nat → Nat → Option (ClassId × Nat)) (F S : Nat → Nat → Nat → Int32) (hsc : scm F S) (hN : hpN n)  : nw_Met l y_M_value [Cond.code y_M_value b_M_value 6 (some .long)] ({ frames := 2, cells := 0, slots := 0, locals := 52 } : Room) D hpC A [.ref (ad (64))] (nw_pre D hpC (hpT tC) A (mW ad tC n J bw L bX aY S) ad) (nw_mx (some (.long (vlL n F J))) (fun L' S' => mW ad tC n J bw L' bX aY S') F ad (fun L' => ∀ o, o < n 4 → L' 1 o = (wkF n F J).2.2.1 o)) 0 0 := by
  refine nw_bodyK (by decide) (Nat.le_of_ble_eq_true rfl) ?_
  intro p e s m below meth cd ls args Q hSx hr hlocks hname hA hKs hw hS hl hQ
  obtain ⟨hx, hb, hml, hown, hts⟩ := id hSx
  have hK := hKs.1
  have hl : lv_has ls 6 [(0, .ref (ad (64)))] := hl
  obtain ⟨hn0, hn0', hn1, hn2, hn3, hn4⟩ := id hN
  refine lv_lconst (v := 0) hx hb d_M_value_0 (by decide) ?_
  refine lv_lstore_n (lv' := [(1, .long (0)), (0, .ref (ad (64)))]) hx hb d_M_value_1 rfl hl (by decide) rfl (fun ls hl => ?_)
  refine lv_iconst (v := nI 0) hx hb d_M_value_2 (by decide) ?_
  refine lv_istore_n (lv' := [(3, .int (nI 0)), (1, .long (0)), (0, .ref (ad (64)))]) hx hb d_M_value_3 rfl hl (by decide) rfl (fun ls hl => ?_)
  have hw := nw_W.as (wn' := mW ad tC n J bw (va_up L 1 (flL (L 1) 0)) bX aY (upR S 6 0 (flR (S 6 0) (nI 0) 0))) hw (by rw [flR_0, flL_0, upR_same, va_same])
  have loop4 : ∀ (k o : Nat), o ≤ n 4 → n 4 + 1 ≤ o + k → ∀ (H : Heap) (locs : List Loc) (ls : Array Slot), nw_W D hpC A (mW ad tC n J bw (va_up L 1 (flL (L 1) o)) bX aY (upR S 6 0 (flR (S 6 0) (nI 0) o))) ad H → va_S A s.heap H locs → lv_has ls 6 [(0, .ref (ad (64))), (1, .long (0)), (3, .int (nI o))] → W p l e ({ frames := 2, cells := 0, slots := 0, locals := 52 } : Room) s m args below meth cd H locs 0 0 Q (F0 m 4 ls []) := by
    intro k
    induction k with
    | zero => intro o h1 h2; exact absurd h2 (by omega)
    | succ k ih4 =>
      intro o hv4 hk4 H locs ls hw hS hl
      refine lv_iload_n hx hb d_M_value_4 rfl (lv_at hl 2 rfl) ?_
      refine lv_aload_n hx hb d_M_value_5 rfl (lv_at hl 0 rfl) ?_
      refine nw_get hx hb hts i_M hown hK hw (64) (mW_64) rfl 13 (by decide) (hts _ kw_672) (fun _ h9 => h9) rfl d_M_value_6 ?_
      refine lv_icmp_ge (tgt := 32) hx hb d_M_value_9 (by decide) (fun c_9 => ?_) (fun c_9 => ?_)
      · skip
        have hge9 : n 4 ≤ o := (nI_leI (by omega) (by omega)).mp c_9
        obtain rfl : n 4 = o := by omega
        refine lv_iconst (v := nI 0) hx hb d_M_value_32 (by decide) ?_
        refine lv_istore_n (lv' := [(3, .int (nI 0)), (0, .ref (ad (64))), (1, .long (0))]) hx hb d_M_value_33 rfl hl (by decide) rfl (fun ls hl => ?_)
        obtain ⟨x0, hx0⟩ : ∃ x : vX, x = (flR (S 6 0) (nI 0) (n 4), L 0, flL (L 1) (n 4), 0) := ⟨_, rfl⟩
        have hw := nw_W.as (wn' := mW ad tC n J bw (va_up (va_up L 0 ((wkS n F J x0 0).2.1)) 1 ((wkS n F J x0 0).2.2.1)) bX aY (upR S 6 0 ((wkS n F J x0 0).1))) hw (by subst hx0; show mW ad tC n J bw (va_up L 1 (flL (L 1) (n 4))) bX aY (upR S 6 0 (flR (S 6 0) (nI 0) (n 4))) = mW ad tC n J bw (va_up (va_up L 0 (L 0)) 1 (flL (L 1) (n 4))) bX aY (upR S 6 0 (flR (S 6 0) (nI 0) (n 4))); rw [va_same])
        have el1 : (wkS n F J x0 0).2.2.2 = 0 := by subst hx0; rfl
        have hl : lv_has ls 6 [(3, .int (nI 0)), (0, .ref (ad (64))), (1, .long ((wkS n F J x0 0).2.2.2))] := by
          have h9 := hl
          revert h9; rw [show Value.long ((wkS n F J x0 0).2.2.2) = Value.long (0) from congrArg _ el1]; intro h9
          exact h9
        have loop34 : ∀ (k w : Nat), w ≤ n 0 → n 0 + 1 ≤ w + k → ∀ (H : Heap) (locs : List Loc) (ls : Array Slot), nw_W D hpC A (mW ad tC n J bw (va_up (va_up L 0 ((wkS n F J x0 w).2.1)) 1 ((wkS n F J x0 w).2.2.1)) bX aY (upR S 6 0 ((wkS n F J x0 w).1))) ad H → va_S A s.heap H locs → lv_has ls 6 [(0, .ref (ad (64))), (1, .long ((wkS n F J x0 w).2.2.2)), (3, .int (nI w))] → W p l e ({ frames := 2, cells := 0, slots := 0, locals := 52 } : Room) s m args below meth cd H locs 0 0 Q (F0 m 34 ls []) := by
          intro k
          induction k with
          | zero => intro w h1 h2; exact absurd h2 (by omega)
          | succ k ih34 =>
            intro w hv34 hk34 H locs ls hw hS hl
            refine lv_iload_n hx hb d_M_value_34 rfl (lv_at hl 2 rfl) ?_
            refine lv_aload_n hx hb d_M_value_35 rfl (lv_at hl 0 rfl) ?_
            refine nw_get hx hb hts i_M hown hK hw (64) (mW_64) rfl 0 (by decide) (hts _ kw_659) (fun _ h9 => h9) rfl d_M_value_36 ?_
            refine lv_icmp_ge (tgt := 177) hx hb d_M_value_39 (by decide) (fun c_39 => ?_) (fun c_39 => ?_)
            · skip
              have hge39 : n 0 ≤ w := (nI_leI (by omega) (by omega)).mp c_39
              obtain rfl : n 0 = w := by omega
              refine lv_iconst (v := nI 0) hx hb d_M_value_177 (by decide) ?_
              refine lv_istore_n (lv' := [(3, .int (nI 0)), (0, .ref (ad (64))), (1, .long ((wkS n F J x0 (n 0)).2.2.2))]) hx hb d_M_value_178 rfl hl (by decide) rfl (fun ls hl => ?_)
              have loop179 : ∀ (k c : Nat), c ≤ n 2 → n 2 + 1 ≤ c + k → ∀ (H : Heap) (locs : List Loc) (ls : Array Slot), nw_W D hpC A (mW ad tC n J bw (va_up (va_up L 0 ((wkS n F J x0 (n 0)).2.1)) 1 ((wkS n F J x0 (n 0)).2.2.1)) bX aY (upR S 6 0 ((wkS n F J x0 (n 0)).1))) ad H → va_S A s.heap H locs → lv_has ls 6 [(0, .ref (ad (64))), (1, .long (ksS n F J (wkS n F J x0 (n 0)).2.2.2 c)), (3, .int (nI c))] → W p l e ({ frames := 2, cells := 0, slots := 0, locals := 52 } : Room) s m args below meth cd H locs 0 0 Q (F0 m 179 ls []) := by
                intro k
                induction k with
                | zero => intro c h1 h2; exact absurd h2 (by omega)
                | succ k ih179 =>
                  intro c hv179 hk179 H locs ls hw hS hl
                  refine lv_iload_n hx hb d_M_value_179 rfl (lv_at hl 2 rfl) ?_
                  refine lv_aload_n hx hb d_M_value_180 rfl (lv_at hl 0 rfl) ?_
                  refine nw_get hx hb hts i_M hown hK hw (64) (mW_64) rfl 5 (by decide) (hts _ kw_664) (fun _ h9 => h9) rfl d_M_value_181 ?_
                  refine lv_icmp_ge (tgt := 230) hx hb d_M_value_184 (by decide) (fun c_184 => ?_) (fun c_184 => ?_)
                  · skip
                    have hge184 : n 2 ≤ c := (nI_leI (by omega) (by omega)).mp c_184
                    obtain rfl : n 2 = c := by omega
                    refine lv_lload_n hx hb d_M_value_230 rfl (lv_at hl 1 rfl) ?_
                    have hwb := wk_base (n := n) hn0 (F := F) (J := J) (f := S 6 0) (g := L 0) (h := L 1)
                    rw [← hx0] at hwb
                    exact nw_lret hQ hx hb hr hlocks hw hS (nw_mxL (scm_up hsc) (fun o ho => hwb.2.2.1 o ho) (ks_base hwb.2.2.2)) (Nat.le_of_ble_eq_true rfl) (Nat.le_of_ble_eq_true rfl) d_M_value_231
                  · skip
                    have hlt : c < n 2 := Nat.not_le.mp (fun q => c_184 (nI_le q (by omega)))
                    refine lv_lload_n hx hb d_M_value_187 rfl (lv_at hl 1 rfl) ?_
                    refine lv_aload_n hx hb d_M_value_188 rfl (lv_at hl 0 rfl) ?_
                    refine nw_get hx hb hts i_M hown hK hw (64) (mW_64) rfl 24 (by decide) (hts _ kw_683) (fun _ h9 => h9) rfl d_M_value_189 ?_
                    refine lv_iload_n hx hb d_M_value_192 rfl (lv_at hl 2 rfl) ?_
                    refine nw_iald hx hb hK hw (194) 0 (mW_row (t := 5) (j := 14) (by decide) (by decide) (rfl)) rfl (c) (rfl) (by omega) (by omega) d_M_value_193 ?_
                    refine lv_ei (y := F 5 14 c) (congrFun ((scm_up hsc) 5 14 (by omega)) _) ?_
                    refine lv_aload_n hx hb d_M_value_194 rfl (lv_at hl 0 rfl) ?_
                    refine nw_get hx hb hts i_M hown hK hw (64) (mW_64) rfl 0 (by decide) (hts _ kw_659) (fun _ h9 => h9) rfl d_M_value_195 ?_
                    refine lv_icmp_ne (tgt := 221) hx hb d_M_value_198 (by decide) (fun c_198 => ?_) (fun c_198 => ?_)
                    · skip
                      have e1 := ks_f (F := F) (J := J) (s := (wkS n F J x0 (n 0)).2.2.2) c_198
                      refine lv_lconst (v := 0) hx hb d_M_value_221 (by decide) ?_
                      refine lv_ladd hx hb d_M_value_222 ?_
                      refine lv_lstore_n (lv' := [(1, .long (((ksS n F J (wkS n F J x0 (n 0)).2.2.2 c) + (0)))), (0, .ref (ad (64))), (3, .int (nI c))]) hx hb d_M_value_223 rfl hl (by decide) rfl (fun ls hl => ?_)
                      refine lv_iinc (v := nI (c + 1)) (lv' := [(3, .int (nI (c + 1))), (1, .long (((ksS n F J (wkS n F J x0 (n 0)).2.2.2 c) + (0)))), (0, .ref (ad (64)))]) hx hb d_M_value_224 hl (k := 2) rfl ((nI_succ _).symm) (by decide) rfl (fun ls hl => ?_)
                      refine lv_goto (tgt := 179) hx hb d_M_value_227 (by decide) ?_
                      have el1 : ksS n F J (wkS n F J x0 (n 0)).2.2.2 (c + 1) = ((ksS n F J (wkS n F J x0 (n 0)).2.2.2 c) + (0)) := e1
                      have hl : lv_has ls 6 [(3, .int (nI (c + 1))), (1, .long (ksS n F J (wkS n F J x0 (n 0)).2.2.2 (c + 1))), (0, .ref (ad (64)))] := by
                        have h9 := hl
                        revert h9; rw [show Value.long (ksS n F J (wkS n F J x0 (n 0)).2.2.2 (c + 1)) = Value.long (((ksS n F J (wkS n F J x0 (n 0)).2.2.2 c) + (0))) from congrArg _ el1]; intro h9
                        exact h9
                      exact ih179 (c + 1) (by omega) (by omega) _ _ ls hw hS (lv_sub hl [2, 1, 0] rfl)
                    · skip
                      have e1 := ks_t (F := F) (J := J) (s := (wkS n F J x0 (n 0)).2.2.2) c_198
                      refine lv_aload_n hx hb d_M_value_201 rfl (lv_at hl 0 rfl) ?_
                      refine lv_iload_n hx hb d_M_value_202 rfl (lv_at hl 2 rfl) ?_
                      refine lv_aload_n hx hb d_M_value_203 rfl (lv_at hl 0 rfl) ?_
                      refine nw_get hx hb hts i_M hown hK hw (64) (mW_64) rfl 0 (by decide) (hts _ kw_659) (fun _ h9 => h9) rfl d_M_value_204 ?_
                      refine lv_iconst (v := nI 1) hx hb d_M_value_207 (by decide) ?_
                      refine lv_isub hx hb d_M_value_208 ?_
                      refine lv_ei (y := nI (n 0 - 1)) (pk_sub (by omega)) ?_
                      refine nw_callD (nw_goV (n := 2) (As := [.int (nI c), .int (nI (n 0 - 1))]) (rest := [.long (ksS n F J (wkS n F J x0 (n 0)).2.2.2 c)]) hSx hA hKs hw hS (c_M_kilos l D tC A ad n J bw (va_up (va_up L 0 ((wkS n F J x0 (n 0)).2.1)) 1 ((wkS n F J x0 (n 0)).2.2.1)) bX aY F (upR S 6 0 ((wkS n F J x0 (n 0)).1)) (scm_up hsc) hN c (n 0 - 1) (by omega) (by omega)) kw_792 kw_789 kw_791 ks_M_kilos kw_8 rfl rfl (by decide +kernel) ⟨Nat.le_of_ble_eq_true rfl, Nat.le_of_ble_eq_true rfl⟩ (nw_recv hK hw (mW_64) rfl) rfl hl.1 (Nat.le_of_ble_eq_true rfl) d_M_value_209 ⟨Nat.le_of_ble_eq_true rfl, Nat.le_of_ble_eq_true rfl⟩) hS (fun H locs hw hS => ?_)
                      refine lv_aload_n hx hb d_M_value_212 rfl (lv_at hl 0 rfl) ?_
                      refine nw_get hx hb hts i_M hown hK hw (64) (mW_64) rfl 20 (by decide) (hts _ kw_679) (fun _ h9 => h9) rfl d_M_value_213 ?_
                      refine lv_i2l (v := ((J 2).toInt64)) hx hb d_M_value_216 rfl ?_
                      refine lv_lmul hx hb d_M_value_217 ?_
                      refine lv_goto (tgt := 222) hx hb d_M_value_218 (by decide) ?_
                      refine lv_ladd hx hb d_M_value_222 ?_
                      refine lv_lstore_n (lv' := [(1, .long (((ksS n F J (wkS n F J x0 (n 0)).2.2.2 c) + (((kM F c (n 0 - 1)) * (((J 2).toInt64))))))), (0, .ref (ad (64))), (3, .int (nI c))]) hx hb d_M_value_223 rfl hl (by decide) rfl (fun ls hl => ?_)
                      refine lv_iinc (v := nI (c + 1)) (lv' := [(3, .int (nI (c + 1))), (1, .long (((ksS n F J (wkS n F J x0 (n 0)).2.2.2 c) + (((kM F c (n 0 - 1)) * (((J 2).toInt64))))))), (0, .ref (ad (64)))]) hx hb d_M_value_224 hl (k := 2) rfl ((nI_succ _).symm) (by decide) rfl (fun ls hl => ?_)
                      refine lv_goto (tgt := 179) hx hb d_M_value_227 (by decide) ?_
                      have el1 : ksS n F J (wkS n F J x0 (n 0)).2.2.2 (c + 1) = ((ksS n F J (wkS n F J x0 (n 0)).2.2.2 c) + (((kM F c (n 0 - 1)) * (((J 2).toInt64))))) := e1
                      have hl : lv_has ls 6 [(3, .int (nI (c + 1))), (1, .long (ksS n F J (wkS n F J x0 (n 0)).2.2.2 (c + 1))), (0, .ref (ad (64)))] := by
                        have h9 := hl
                        revert h9; rw [show Value.long (ksS n F J (wkS n F J x0 (n 0)).2.2.2 (c + 1)) = Value.long (((ksS n F J (wkS n F J x0 (n 0)).2.2.2 c) + (((kM F c (n 0 - 1)) * (((J 2).toInt64)))))) from congrArg _ el1]; intro h9
                        exact h9
                      exact ih179 (c + 1) (by omega) (by omega) _ _ ls hw hS (lv_sub hl [2, 1, 0] rfl)
              exact loop179 (n 2 + 1) (0) (by omega) (by omega) _ _ ls hw hS (lv_sub hl [1, 2, 0] rfl)
            · skip
              have hlt : w < n 0 := Nat.not_le.mp (fun q => c_39 (nI_le q (by omega)))
              refine lv_iconst (v := nI 0) hx hb d_M_value_42 (by decide) ?_
              refine lv_istore (lv' := [(4, .int (nI 0)), (0, .ref (ad (64))), (1, .long ((wkS n F J x0 w).2.2.2)), (3, .int (nI w))]) hx hb d_M_value_43 hl (by decide) rfl (fun ls hl => ?_)
              have hw := nw_W.as (wn' := mW ad tC n J bw (va_up (va_up L 1 ((wkS n F J x0 w).2.2.1)) 0 (llA F w (wkS n F J x0 w).2.1 0)) bX aY (upR S 6 0 ((wkS n F J x0 w).1))) hw (by rw [va_comm (by decide)]; first | done | rfl)
              have loop45 : ∀ (k c : Nat), c ≤ n 2 → n 2 + 1 ≤ c + k → ∀ (H : Heap) (locs : List Loc) (ls : Array Slot), nw_W D hpC A (mW ad tC n J bw (va_up (va_up L 1 ((wkS n F J x0 w).2.2.1)) 0 (llA F w (wkS n F J x0 w).2.1 c)) bX aY (upR S 6 0 ((wkS n F J x0 w).1))) ad H → va_S A s.heap H locs → lv_has ls 6 [(0, .ref (ad (64))), (1, .long ((wkS n F J x0 w).2.2.2)), (3, .int (nI w)), (4, .int (nI c))] → W p l e ({ frames := 2, cells := 0, slots := 0, locals := 52 } : Room) s m args below meth cd H locs 0 0 Q (F0 m 45 ls []) := by
                intro k
                induction k with
                | zero => intro c h1 h2; exact absurd h2 (by omega)
                | succ k ih45 =>
                  intro c hv45 hk45 H locs ls hw hS hl
                  refine lv_iload hx hb d_M_value_45 (lv_at hl 3 rfl) ?_
                  refine lv_aload_n hx hb d_M_value_47 rfl (lv_at hl 0 rfl) ?_
                  refine nw_get hx hb hts i_M hown hK hw (64) (mW_64) rfl 5 (by decide) (hts _ kw_664) (fun _ h9 => h9) rfl d_M_value_48 ?_
                  refine lv_icmp_ge (tgt := 89) hx hb d_M_value_51 (by decide) (fun c_51 => ?_) (fun c_51 => ?_)
                  · skip
                    have hge51 : n 2 ≤ c := (nI_leI (by omega) (by omega)).mp c_51
                    obtain rfl : n 2 = c := by omega
                    refine lv_aload_n hx hb d_M_value_89 rfl (lv_at hl 0 rfl) ?_
                    refine lv_iload_n hx hb d_M_value_90 rfl (lv_at hl 2 rfl) ?_
                    obtain ⟨z0, hz0⟩ : ∃ z : vX, z = ((wkS n F J x0 w).1, llA F w (wkS n F J x0 w).2.1 (n 2), (wkS n F J x0 w).2.2) := ⟨_, rfl⟩
                    have hw := nw_W.as (wn' := mW ad tC n J bw (va_up (va_up L 0 ((z0).2.1)) 1 ((z0).2.2.1)) bX aY (upR S 6 0 ((z0).1))) hw (by rw [hz0, va_comm (by decide)])
                    have el1 : z0.2.2.2 = (wkS n F J x0 w).2.2.2 := by rw [hz0]
                    have hl : lv_has ls 6 [(0, .ref (ad (64))), (1, .long (z0.2.2.2)), (3, .int (nI w)), (4, .int (nI (n 2)))] := by
                      have h9 := hl
                      revert h9; rw [show Value.long (z0.2.2.2) = Value.long ((wkS n F J x0 w).2.2.2) from congrArg _ el1]; intro h9
                      exact h9
                    have hcu := cuS_le (F := F) (w := w) (sv := z0.1) (o := n 4)
                    refine nw_callD (nw_goV (n := 1) (As := [.int (nI w)]) (rest := []) hSx hA hKs hw hS (c_M_nextOrder l D tC A ad n J bw (va_up (va_up L 0 ((z0).2.1)) 1 ((z0).2.2.1)) bX aY F (upR S 6 0 ((z0).1)) (scm_up hsc) hN w z0.1 (upR_self)) kw_859 kw_856 kw_858 ks_M_nextOrder kw_8 rfl rfl (by decide +kernel) ⟨Nat.le_of_ble_eq_true rfl, Nat.le_of_ble_eq_true rfl⟩ (nw_recv hK hw (mW_64) rfl) rfl hl.1 (Nat.le_of_ble_eq_true rfl) d_M_value_91 ⟨Nat.le_of_ble_eq_true rfl, Nat.le_of_ble_eq_true rfl⟩) hS (fun H locs hw hS => ?_)
                    refine lv_istore (lv' := [(4, .int (oI (noF F z0.1 w (n 4)))), (0, .ref (ad (64))), (1, .long (z0.2.2.2)), (3, .int (nI w))]) hx hb d_M_value_94 hl (by decide) rfl (fun ls hl => ?_)
                    have loop96 : ∀ (k q : Nat), q ≤ n 4 → n 4 + 1 ≤ q + k → (q + cuS F w (vwS n F w z0 q).1 (n 4) ≤ n 4) → ∀ (H : Heap) (locs : List Loc) (ls : Array Slot), nw_W D hpC A (mW ad tC n J bw (va_up (va_up L 0 ((vwS n F w z0 q).2.1)) 1 ((vwS n F w z0 q).2.2.1)) bX aY (upR S 6 0 ((vwS n F w z0 q).1))) ad H → va_S A s.heap H locs → lv_has ls 6 [(0, .ref (ad (64))), (1, .long ((vwS n F w z0 q).2.2.2)), (3, .int (nI w)), (4, .int (oI (noF F (vwS n F w z0 q).1 w (n 4))))] → W p l e ({ frames := 2, cells := 0, slots := 0, locals := 52 } : Room) s m args below meth cd H locs 0 0 Q (F0 m 96 ls []) := by
                      intro k
                      induction k with
                      | zero => intro q h1 h2; exact absurd h2 (by omega)
                      | succ k ih96 =>
                        intro q hv96 hk96 hcu H locs ls hw hS hl
                        refine lv_iload hx hb d_M_value_96 (lv_at hl 3 rfl) ?_
                        refine lv_iconst (v := (-1)) hx hb d_M_value_98 (by decide) ?_
                        refine lv_icmp_eq (tgt := 122) hx hb d_M_value_99 (by decide) (fun c_99 => ?_) (fun c_99 => ?_)
                        · skip
                          have hno : noF F (vwS n F w z0 q).1 w (n 4) = none := oI_none (fun f hf => Nat.lt_trans (noF_lt _ _ hf).1 (by omega)) c_99
                          have hVn : vwS n F w z0 q = vwS n F w z0 (n 4) := by rw [← vwS_none hno (n 4 - q)]; congr 1; omega
                          rw [hVn] at hw hl
                          refine lv_iconst (v := nI 0) hx hb d_M_value_122 (by decide) ?_
                          refine lv_istore (lv' := [(5, .int (nI 0)), (0, .ref (ad (64))), (1, .long ((vwS n F w z0 (n 4)).2.2.2)), (3, .int (nI w)), (4, .int (oI (noF F (vwS n F w z0 (n 4)).1 w (n 4))))]) hx hb d_M_value_123 hl (by decide) rfl (fun ls hl => ?_)
                          have loop125 : ∀ (k c : Nat), c ≤ n 2 → n 2 + 1 ≤ c + k → ∀ (H : Heap) (locs : List Loc) (ls : Array Slot), nw_W D hpC A (mW ad tC n J bw (va_up (va_up L 0 ((vwS n F w z0 (n 4)).2.1)) 1 ((vwS n F w z0 (n 4)).2.2.1)) bX aY (upR S 6 0 ((vwS n F w z0 (n 4)).1))) ad H → va_S A s.heap H locs → lv_has ls 6 [(0, .ref (ad (64))), (1, .long (spS F J w (vwS n F w z0 (n 4)).2.1 (vwS n F w z0 (n 4)).2.2.2 c)), (3, .int (nI w)), (5, .int (nI c))] → W p l e ({ frames := 2, cells := 0, slots := 0, locals := 52 } : Room) s m args below meth cd H locs 0 0 Q (F0 m 125 ls []) := by
                            intro k
                            induction k with
                            | zero => intro c h1 h2; exact absurd h2 (by omega)
                            | succ k ih125 =>
                              intro c hv125 hk125 H locs ls hw hS hl
                              refine lv_iload hx hb d_M_value_125 (lv_at hl 3 rfl) ?_
                              refine lv_aload_n hx hb d_M_value_127 rfl (lv_at hl 0 rfl) ?_
                              refine nw_get hx hb hts i_M hown hK hw (64) (mW_64) rfl 5 (by decide) (hts _ kw_664) (fun _ h9 => h9) rfl d_M_value_128 ?_
                              refine lv_icmp_ge (tgt := 171) hx hb d_M_value_131 (by decide) (fun c_131 => ?_) (fun c_131 => ?_)
                              · skip
                                have hge131 : n 2 ≤ c := (nI_leI (by omega) (by omega)).mp c_131
                                obtain rfl : n 2 = c := by omega
                                refine lv_iinc (v := nI (w + 1)) (lv' := [(3, .int (nI (w + 1))), (0, .ref (ad (64))), (1, .long (spS F J w (vwS n F w z0 (n 4)).2.1 (vwS n F w z0 (n 4)).2.2.2 (n 2))), (5, .int (nI (n 2)))]) hx hb d_M_value_171 hl (k := 2) rfl ((nI_succ _).symm) (by decide) rfl (fun ls hl => ?_)
                                refine lv_goto (tgt := 34) hx hb d_M_value_174 (by decide) ?_
                                have el1 : (wkS n F J x0 (w + 1)).2.2.2 = spS F J w (vwS n F w z0 (n 4)).2.1 (vwS n F w z0 (n 4)).2.2.2 (n 2) := by subst hz0; rfl
                                have hl : lv_has ls 6 [(3, .int (nI (w + 1))), (0, .ref (ad (64))), (1, .long ((wkS n F J x0 (w + 1)).2.2.2)), (5, .int (nI (n 2)))] := by
                                  have h9 := hl
                                  revert h9; rw [show Value.long ((wkS n F J x0 (w + 1)).2.2.2) = Value.long (spS F J w (vwS n F w z0 (n 4)).2.1 (vwS n F w z0 (n 4)).2.2.2 (n 2)) from congrArg _ el1]; intro h9
                                  exact h9
                                have hw := nw_W.as (wn' := mW ad tC n J bw (va_up (va_up L 0 ((wkS n F J x0 (w + 1)).2.1)) 1 ((wkS n F J x0 (w + 1)).2.2.1)) bX aY (upR S 6 0 ((wkS n F J x0 (w + 1)).1))) hw (by subst hz0; rfl)
                                exact ih34 (w + 1) (by omega) (by omega) _ _ ls hw hS (lv_sub hl [1, 2, 0] rfl)
                              · skip
                                have hlt : c < n 2 := Nat.not_le.mp (fun q => c_131 (nI_le q (by omega)))
                                refine lv_lload_n hx hb d_M_value_134 rfl (lv_at hl 1 rfl) ?_
                                refine lv_aload_n hx hb d_M_value_135 rfl (lv_at hl 0 rfl) ?_
                                refine nw_get hx hb hts i_M hown hK hw (64) (mW_64) rfl 24 (by decide) (hts _ kw_683) (fun _ h9 => h9) rfl d_M_value_136 ?_
                                refine lv_iload hx hb d_M_value_139 (lv_at hl 3 rfl) ?_
                                refine nw_iald hx hb hK hw (194) 0 (mW_row (t := 5) (j := 14) (by decide) (by decide) (rfl)) rfl (c) (rfl) (by omega) (by omega) d_M_value_141 ?_
                                refine lv_ei (y := F 5 14 c) (congrFun ((scm_up hsc) 5 14 (by omega)) _) ?_
                                refine lv_iload_n hx hb d_M_value_142 rfl (lv_at hl 2 rfl) ?_
                                refine lv_icmp_ne (tgt := 162) hx hb d_M_value_143 (by decide) (fun c_143 => ?_) (fun c_143 => ?_)
                                · skip
                                  have e1 := sp_f (F := F) (J := J) (lf := (vwS n F w z0 (n 4)).2.1) (s := (vwS n F w z0 (n 4)).2.2.2) c_143
                                  refine lv_lconst (v := 0) hx hb d_M_value_162 (by decide) ?_
                                  refine lv_ladd hx hb d_M_value_163 ?_
                                  refine lv_lstore_n (lv' := [(1, .long (((spS F J w (vwS n F w z0 (n 4)).2.1 (vwS n F w z0 (n 4)).2.2.2 c) + (0)))), (0, .ref (ad (64))), (3, .int (nI w)), (5, .int (nI c))]) hx hb d_M_value_164 rfl hl (by decide) rfl (fun ls hl => ?_)
                                  refine lv_iinc (v := nI (c + 1)) (lv' := [(5, .int (nI (c + 1))), (1, .long (((spS F J w (vwS n F w z0 (n 4)).2.1 (vwS n F w z0 (n 4)).2.2.2 c) + (0)))), (0, .ref (ad (64))), (3, .int (nI w))]) hx hb d_M_value_165 hl (k := 3) rfl ((nI_succ _).symm) (by decide) rfl (fun ls hl => ?_)
                                  refine lv_goto (tgt := 125) hx hb d_M_value_168 (by decide) ?_
                                  have el1 : spS F J w (vwS n F w z0 (n 4)).2.1 (vwS n F w z0 (n 4)).2.2.2 (c + 1) = ((spS F J w (vwS n F w z0 (n 4)).2.1 (vwS n F w z0 (n 4)).2.2.2 c) + (0)) := e1
                                  have hl : lv_has ls 6 [(5, .int (nI (c + 1))), (1, .long (spS F J w (vwS n F w z0 (n 4)).2.1 (vwS n F w z0 (n 4)).2.2.2 (c + 1))), (0, .ref (ad (64))), (3, .int (nI w))] := by
                                    have h9 := hl
                                    revert h9; rw [show Value.long (spS F J w (vwS n F w z0 (n 4)).2.1 (vwS n F w z0 (n 4)).2.2.2 (c + 1)) = Value.long (((spS F J w (vwS n F w z0 (n 4)).2.1 (vwS n F w z0 (n 4)).2.2.2 c) + (0))) from congrArg _ el1]; intro h9
                                    exact h9
                                  exact ih125 (c + 1) (by omega) (by omega) _ _ ls hw hS (lv_sub hl [2, 1, 3, 0] rfl)
                                · skip
                                  have e1 := sp_t (F := F) (J := J) (lf := (vwS n F w z0 (n 4)).2.1) (s := (vwS n F w z0 (n 4)).2.2.2) c_143
                                  refine lv_aload_n hx hb d_M_value_146 rfl (lv_at hl 0 rfl) ?_
                                  refine nw_get hx hb hts i_M hown hK hw (64) (mW_64) rfl 28 (by decide) (hts _ kw_687) (fun _ h9 => h9) rfl d_M_value_147 ?_
                                  refine lv_iload hx hb d_M_value_150 (lv_at hl 3 rfl) ?_
                                  refine nw_lald hx hb hK hw (65) 1 (mW_65) rfl (c) (rfl) (by omega) (by omega) d_M_value_152 ?_
                                  refine lv_el (y := ((vwS n F w z0 (n 4)).2.1) c) (rfl) ?_
                                  refine lv_aload_n hx hb d_M_value_153 rfl (lv_at hl 0 rfl) ?_
                                  refine nw_get hx hb hts i_M hown hK hw (64) (mW_64) rfl 19 (by decide) (hts _ kw_678) (fun _ h9 => h9) rfl d_M_value_154 ?_
                                  refine lv_i2l (v := ((J 1).toInt64)) hx hb d_M_value_157 rfl ?_
                                  refine lv_lmul hx hb d_M_value_158 ?_
                                  refine lv_goto (tgt := 163) hx hb d_M_value_159 (by decide) ?_
                                  refine lv_ladd hx hb d_M_value_163 ?_
                                  refine lv_lstore_n (lv' := [(1, .long (((spS F J w (vwS n F w z0 (n 4)).2.1 (vwS n F w z0 (n 4)).2.2.2 c) + (((((vwS n F w z0 (n 4)).2.1) c) * (((J 1).toInt64))))))), (0, .ref (ad (64))), (3, .int (nI w)), (5, .int (nI c))]) hx hb d_M_value_164 rfl hl (by decide) rfl (fun ls hl => ?_)
                                  refine lv_iinc (v := nI (c + 1)) (lv' := [(5, .int (nI (c + 1))), (1, .long (((spS F J w (vwS n F w z0 (n 4)).2.1 (vwS n F w z0 (n 4)).2.2.2 c) + (((((vwS n F w z0 (n 4)).2.1) c) * (((J 1).toInt64))))))), (0, .ref (ad (64))), (3, .int (nI w))]) hx hb d_M_value_165 hl (k := 3) rfl ((nI_succ _).symm) (by decide) rfl (fun ls hl => ?_)
                                  refine lv_goto (tgt := 125) hx hb d_M_value_168 (by decide) ?_
                                  have el1 : spS F J w (vwS n F w z0 (n 4)).2.1 (vwS n F w z0 (n 4)).2.2.2 (c + 1) = ((spS F J w (vwS n F w z0 (n 4)).2.1 (vwS n F w z0 (n 4)).2.2.2 c) + (((((vwS n F w z0 (n 4)).2.1) c) * (((J 1).toInt64))))) := e1
                                  have hl : lv_has ls 6 [(5, .int (nI (c + 1))), (1, .long (spS F J w (vwS n F w z0 (n 4)).2.1 (vwS n F w z0 (n 4)).2.2.2 (c + 1))), (0, .ref (ad (64))), (3, .int (nI w))] := by
                                    have h9 := hl
                                    revert h9; rw [show Value.long (spS F J w (vwS n F w z0 (n 4)).2.1 (vwS n F w z0 (n 4)).2.2.2 (c + 1)) = Value.long (((spS F J w (vwS n F w z0 (n 4)).2.1 (vwS n F w z0 (n 4)).2.2.2 c) + (((((vwS n F w z0 (n 4)).2.1) c) * (((J 1).toInt64)))))) from congrArg _ el1]; intro h9
                                    exact h9
                                  exact ih125 (c + 1) (by omega) (by omega) _ _ ls hw hS (lv_sub hl [2, 1, 3, 0] rfl)
                          exact loop125 (n 2 + 1) (0) (by omega) (by omega) _ _ ls hw hS (lv_sub hl [1, 2, 3, 0] rfl)
                        · skip
                          obtain ⟨f, hf⟩ := oI_some c_99
                          obtain ⟨hf1, hf2, hf3⟩ := noF_lt _ _ hf
                          have hV1 : vwS n F w z0 (q + 1) = vsT n F w (vwS n F w z0 q) (some f) := by show vsT n F w (vwS n F w z0 q) (noF F (vwS n F w z0 q).1 w (n 4)) = _; rw [hf]
                          have el4 : nI f = oI (noF F (vwS n F w z0 q).1 w (n 4)) := by rw [hf]; rfl
                          have hl : lv_has ls 6 [(0, .ref (ad (64))), (1, .long ((vwS n F w z0 q).2.2.2)), (3, .int (nI w)), (4, .int (nI f))] := by
                            have h9 := hl
                            revert h9; rw [show Value.int (nI f) = Value.int (oI (noF F (vwS n F w z0 q).1 w (n 4))) from congrArg _ el4]; intro h9
                            exact h9
                          refine lv_lload_n hx hb d_M_value_102 rfl (lv_at hl 1 rfl) ?_
                          refine lv_aload_n hx hb d_M_value_103 rfl (lv_at hl 0 rfl) ?_
                          refine lv_iload hx hb d_M_value_104 (lv_at hl 3 rfl) ?_
                          refine lv_iload_n hx hb d_M_value_106 rfl (lv_at hl 2 rfl) ?_
                          refine nw_callD (nw_goV (n := 2) (As := [.int (nI f), .int (nI w)]) (rest := [.long ((vwS n F w z0 q).2.2.2)]) hSx hA hKs hw hS (c_M_serve l D tC A ad n J bw (va_up (va_up L 0 ((vwS n F w z0 q).2.1)) 1 ((vwS n F w z0 q).2.2.1)) bX aY F (upR S 6 0 ((vwS n F w z0 q).1)) (scm_up hsc) hN f w (by omega) (by omega) ((vwS n F w z0 q).1) upR_self ((vwS n F w z0 q).2.1) ((vwS n F w z0 q).2.2.1) rfl rfl) kw_863 kw_860 kw_862 ks_M_serve kw_8 rfl rfl (by decide +kernel) ⟨Nat.le_of_ble_eq_true rfl, Nat.le_of_ble_eq_true rfl⟩ (nw_recv hK hw (mW_64) rfl) rfl hl.1 (Nat.le_of_ble_eq_true rfl) d_M_value_107 ⟨Nat.le_of_ble_eq_true rfl, Nat.le_of_ble_eq_true rfl⟩) hS (fun H locs hw hS => ?_)
                          rw [upR_upR, va4 (by decide)] at hw
                          refine lv_ladd hx hb d_M_value_110 ?_
                          refine lv_lstore_n (lv' := [(1, .long ((((vwS n F w z0 q).2.2.2) + (((smS F f w ((vwS n F w z0 q).2.1) (n 2)).2 * (F 5 12 f).toInt64))))), (0, .ref (ad (64))), (3, .int (nI w)), (4, .int (nI f))]) hx hb d_M_value_111 rfl hl (by decide) rfl (fun ls hl => ?_)
                          refine lv_aload_n hx hb d_M_value_112 rfl (lv_at hl 1 rfl) ?_
                          refine lv_iload_n hx hb d_M_value_113 rfl (lv_at hl 2 rfl) ?_
                          refine nw_callD (nw_goV (n := 1) (As := [.int (nI w)]) (rest := []) hSx hA hKs hw hS (c_M_nextOrder l D tC A ad n J bw (va_up (va_up L 0 ((smS F f w ((vwS n F w z0 q).2.1) (n 2)).1)) 1 (vp_updL ((vwS n F w z0 q).2.2.1) f (smS F f w ((vwS n F w z0 q).2.1) (n 2)).2)) bX aY F (upR S 6 0 (upd ((vwS n F w z0 q).1) f (nI 1))) (scm_up hsc) hN w (upd (vwS n F w z0 q).1 f (nI 1)) (upR_self)) kw_859 kw_856 kw_858 ks_M_nextOrder kw_8 rfl rfl (by decide +kernel) ⟨Nat.le_of_ble_eq_true rfl, Nat.le_of_ble_eq_true rfl⟩ (nw_recv hK hw (mW_64) rfl) rfl hl.1 (Nat.le_of_ble_eq_true rfl) d_M_value_114 ⟨Nat.le_of_ble_eq_true rfl, Nat.le_of_ble_eq_true rfl⟩) hS (fun H locs hw hS => ?_)
                          refine lv_istore (lv' := [(4, .int (oI (noF F (upd (vwS n F w z0 q).1 f (nI 1)) w (n 4)))), (1, .long ((((vwS n F w z0 q).2.2.2) + (((smS F f w ((vwS n F w z0 q).2.1) (n 2)).2 * (F 5 12 f).toInt64))))), (0, .ref (ad (64))), (3, .int (nI w))]) hx hb d_M_value_117 hl (by decide) rfl (fun ls hl => ?_)
                          refine lv_goto (tgt := 96) hx hb d_M_value_119 (by decide) ?_
                          have hcu1 : q + 1 + cuS F w (vwS n F w z0 (q + 1)).1 (n 4) ≤ n 4 := by
                            rw [hV1]
                            have h8 := cuS_up (F := F) (w := w) hf2 hf3 (n 4)
                            rw [if_pos hf1] at h8
                            show q + 1 + cuS F w (upd (vwS n F w z0 q).1 f (nI 1)) (n 4) ≤ n 4
                            omega
                          have el1 : (vwS n F w z0 (q + 1)).2.2.2 = (((vwS n F w z0 q).2.2.2) + (((smS F f w ((vwS n F w z0 q).2.1) (n 2)).2 * (F 5 12 f).toInt64))) := by rw [hV1]; first | done | rfl
                          have el4 : oI (noF F (vwS n F w z0 (q + 1)).1 w (n 4)) = oI (noF F (upd (vwS n F w z0 q).1 f (nI 1)) w (n 4)) := by rw [hV1]; first | done | rfl
                          have hl : lv_has ls 6 [(4, .int (oI (noF F (vwS n F w z0 (q + 1)).1 w (n 4)))), (1, .long ((vwS n F w z0 (q + 1)).2.2.2)), (0, .ref (ad (64))), (3, .int (nI w))] := by
                            have h9 := hl
                            revert h9; rw [show Value.long ((vwS n F w z0 (q + 1)).2.2.2) = Value.long ((((vwS n F w z0 q).2.2.2) + (((smS F f w ((vwS n F w z0 q).2.1) (n 2)).2 * (F 5 12 f).toInt64)))) from congrArg _ el1]; intro h9
                            revert h9; rw [show Value.int (oI (noF F (vwS n F w z0 (q + 1)).1 w (n 4))) = Value.int (oI (noF F (upd (vwS n F w z0 q).1 f (nI 1)) w (n 4))) from congrArg _ el4]; intro h9
                            exact h9
                          have hw := nw_W.as (wn' := mW ad tC n J bw (va_up (va_up L 0 ((vwS n F w z0 (q + 1)).2.1)) 1 ((vwS n F w z0 (q + 1)).2.2.1)) bX aY (upR S 6 0 ((vwS n F w z0 (q + 1)).1))) hw (by rw [hV1]; first | done | rfl)
                          exact ih96 (q + 1) (by omega) (by omega) (hcu1) _ _ ls hw hS (lv_sub hl [2, 1, 3, 0] rfl)
                    exact loop96 (n 4 + 1) (0) (by omega) (by omega) (by show 0 + cuS F w z0.1 (n 4) ≤ n 4; omega) _ _ ls hw hS (lv_sub hl [1, 2, 3, 0] rfl)
                  · skip
                    have hlt : c < n 2 := Nat.not_le.mp (fun q => c_51 (nI_le q (by omega)))
                    refine lv_aload_n hx hb d_M_value_54 rfl (lv_at hl 0 rfl) ?_
                    refine nw_get hx hb hts i_M hown hK hw (64) (mW_64) rfl 28 (by decide) (hts _ kw_687) (fun _ h9 => h9) rfl d_M_value_55 ?_
                    refine lv_iload hx hb d_M_value_58 (lv_at hl 3 rfl) ?_
                    refine lv_aload_n hx hb d_M_value_60 rfl (lv_at hl 0 rfl) ?_
                    refine nw_get hx hb hts i_M hown hK hw (64) (mW_64) rfl 24 (by decide) (hts _ kw_683) (fun _ h9 => h9) rfl d_M_value_61 ?_
                    refine lv_iload hx hb d_M_value_64 (lv_at hl 3 rfl) ?_
                    refine nw_iald hx hb hK hw (194) 0 (mW_row (t := 5) (j := 14) (by decide) (by decide) (rfl)) rfl (c) (rfl) (by omega) (by omega) d_M_value_66 ?_
                    refine lv_ei (y := F 5 14 c) (congrFun ((scm_up hsc) 5 14 (by omega)) _) ?_
                    refine lv_iload_n hx hb d_M_value_67 rfl (lv_at hl 2 rfl) ?_
                    refine lv_icmp_ne (tgt := 81) hx hb d_M_value_68 (by decide) (fun c_68 => ?_) (fun c_68 => ?_)
                    · skip
                      have e0 := ll_f (F := F) (f := (wkS n F J x0 w).2.1) c_68
                      refine lv_lconst (v := 0) hx hb d_M_value_81 (by decide) ?_
                      refine nw_last hx hb hK hw hS (65) 1 (mW_65) rfl (c) (rfl) (by omega) (by omega) d_M_value_82 (fun H locs hw hS => ?_)
                      have hw := nw_W.as (wn' := mW ad tC n J bw (va_up (va_up L 1 ((wkS n F J x0 w).2.2.1)) 0 (vp_updL (llA F w (wkS n F J x0 w).2.1 c) c 0)) bX aY (upR S 6 0 ((wkS n F J x0 w).1))) (mW_setL (j := 0) (f := vp_updL ((va_up (va_up L 1 ((wkS n F J x0 w).2.2.1)) 0 (llA F w (wkS n F J x0 w).2.1 c)) 0) c 0) rfl (by decide) rfl hw) (by rw [va_up_self, bx_uu])
                      refine lv_iinc (v := nI (c + 1)) (lv' := [(4, .int (nI (c + 1))), (0, .ref (ad (64))), (1, .long ((wkS n F J x0 w).2.2.2)), (3, .int (nI w))]) hx hb d_M_value_83 hl (k := 3) rfl ((nI_succ _).symm) (by decide) rfl (fun ls hl => ?_)
                      refine lv_goto (tgt := 45) hx hb d_M_value_86 (by decide) ?_
                      have hw := nw_W.as (wn' := mW ad tC n J bw (va_up (va_up L 1 ((wkS n F J x0 w).2.2.1)) 0 (llA F w (wkS n F J x0 w).2.1 (c + 1))) bX aY (upR S 6 0 ((wkS n F J x0 w).1))) hw (by rw [e0])
                      exact ih45 (c + 1) (by omega) (by omega) _ _ ls hw hS (lv_sub hl [1, 2, 3, 0] rfl)
                    · skip
                      have e0 := ll_t (F := F) (f := (wkS n F J x0 w).2.1) c_68
                      refine lv_aload_n hx hb d_M_value_71 rfl (lv_at hl 0 rfl) ?_
                      refine lv_iload hx hb d_M_value_72 (lv_at hl 3 rfl) ?_
                      refine lv_iload_n hx hb d_M_value_74 rfl (lv_at hl 2 rfl) ?_
                      refine nw_callD (nw_goV (n := 2) (As := [.int (nI c), .int (nI w)]) (rest := [.int (nI c), .ref (ad (65))]) hSx hA hKs hw hS (c_M_kilos l D tC A ad n J bw (va_up (va_up L 1 ((wkS n F J x0 w).2.2.1)) 0 (llA F w (wkS n F J x0 w).2.1 c)) bX aY F (upR S 6 0 ((wkS n F J x0 w).1)) (scm_up hsc) hN c w (by omega) (by omega)) kw_792 kw_789 kw_791 ks_M_kilos kw_8 rfl rfl (by decide +kernel) ⟨Nat.le_of_ble_eq_true rfl, Nat.le_of_ble_eq_true rfl⟩ (nw_recv hK hw (mW_64) rfl) rfl hl.1 (Nat.le_of_ble_eq_true rfl) d_M_value_75 ⟨Nat.le_of_ble_eq_true rfl, Nat.le_of_ble_eq_true rfl⟩) hS (fun H locs hw hS => ?_)
                      refine lv_goto (tgt := 82) hx hb d_M_value_78 (by decide) ?_
                      refine nw_last hx hb hK hw hS (65) 1 (mW_65) rfl (c) (rfl) (by omega) (by omega) d_M_value_82 (fun H locs hw hS => ?_)
                      have hw := nw_W.as (wn' := mW ad tC n J bw (va_up (va_up L 1 ((wkS n F J x0 w).2.2.1)) 0 (vp_updL (llA F w (wkS n F J x0 w).2.1 c) c (kM F c w))) bX aY (upR S 6 0 ((wkS n F J x0 w).1))) (mW_setL (j := 0) (f := vp_updL ((va_up (va_up L 1 ((wkS n F J x0 w).2.2.1)) 0 (llA F w (wkS n F J x0 w).2.1 c)) 0) c (kM F c w)) rfl (by decide) rfl hw) (by rw [va_up_self, bx_uu])
                      refine lv_iinc (v := nI (c + 1)) (lv' := [(4, .int (nI (c + 1))), (0, .ref (ad (64))), (1, .long ((wkS n F J x0 w).2.2.2)), (3, .int (nI w))]) hx hb d_M_value_83 hl (k := 3) rfl ((nI_succ _).symm) (by decide) rfl (fun ls hl => ?_)
                      refine lv_goto (tgt := 45) hx hb d_M_value_86 (by decide) ?_
                      have hw := nw_W.as (wn' := mW ad tC n J bw (va_up (va_up L 1 ((wkS n F J x0 w).2.2.1)) 0 (llA F w (wkS n F J x0 w).2.1 (c + 1))) bX aY (upR S 6 0 ((wkS n F J x0 w).1))) hw (by rw [e0])
                      exact ih45 (c + 1) (by omega) (by omega) _ _ ls hw hS (lv_sub hl [1, 2, 3, 0] rfl)
              exact loop45 (n 2 + 1) (0) (by omega) (by omega) _ _ ls hw hS (lv_sub hl [1, 2, 3, 0] rfl)
        exact loop34 (n 0 + 1) (0) (by omega) (by omega) _ _ ls hw hS (lv_sub hl [1, 2, 0] rfl)
      · skip
        have hlt : o < n 4 := Nat.not_le.mp (fun q => c_9 (nI_le q (by omega)))
        refine lv_aload_n hx hb d_M_value_12 rfl (lv_at hl 0 rfl) ?_
        refine nw_get hx hb hts i_M hown hK hw (64) (mW_64) rfl 30 (by decide) (hts _ kw_689) (fun _ h9 => h9) rfl d_M_value_13 ?_
        refine lv_iload_n hx hb d_M_value_16 rfl (lv_at hl 2 rfl) ?_
        refine lv_iconst (v := nI 0) hx hb d_M_value_17 (by decide) ?_
        refine nw_zast (z := nI 0) hx hb hK hw hS (196) 2 (mW_row (t := 6) (j := 0) (by decide) (by decide) (rfl)) rfl (o) (rfl) (by omega) (by omega) (rfl) d_M_value_18 (fun H locs hw hS => ?_)
        have hw := mW_setRow (t := 6) (j := 0) (by decide) (by decide) (rfl) hw
        rw [upR_upR, upR_self] at hw
        refine lv_aload_n hx hb d_M_value_19 rfl (lv_at hl 0 rfl) ?_
        refine nw_get hx hb hts i_M hown hK hw (64) (mW_64) rfl 29 (by decide) (hts _ kw_688) (fun _ h9 => h9) rfl d_M_value_20 ?_
        refine lv_iload_n hx hb d_M_value_23 rfl (lv_at hl 2 rfl) ?_
        refine lv_lconst (v := 0) hx hb d_M_value_24 (by decide) ?_
        refine nw_last hx hb hK hw hS (66) 1 (mW_66) rfl (o) (rfl) (by omega) (by omega) d_M_value_25 (fun H locs hw hS => ?_)
        have hw := nw_W.as (wn' := mW ad tC n J bw (va_up L 1 (vp_updL (flL (L 1) o) o 0)) bX aY (upR S 6 0 (upd (flR (S 6 0) (nI 0) o) o (nI 0)))) (mW_setL (j := 1) (f := vp_updL ((va_up L 1 (flL (L 1) o)) 1) o 0) rfl (by decide) rfl hw) (by rw [va_up_self, bx_uu])
        refine lv_iinc (v := nI (o + 1)) (lv' := [(3, .int (nI (o + 1))), (0, .ref (ad (64))), (1, .long (0))]) hx hb d_M_value_26 hl (k := 2) rfl ((nI_succ _).symm) (by decide) rfl (fun ls hl => ?_)
        refine lv_goto (tgt := 4) hx hb d_M_value_29 (by decide) ?_
        have hw := nw_W.as (wn' := mW ad tC n J bw (va_up L 1 (flL (L 1) (o + 1))) bX aY (upR S 6 0 (flR (S 6 0) (nI 0) (o + 1)))) hw (by rw [flR_s, flL_s])
        exact ih4 (o + 1) (by omega) (by omega) _ _ ls hw hS (lv_sub hl [1, 2, 0] rfl)
  exact loop4 (n 4 + 1) (0) (by omega) (by omega) _ _ ls hw hS (lv_sub hl [2, 1, 0] rfl)
