set_option maxHeartbeats 4000000 in
set_option maxRecDepth 100000 in
/-- an order is served -/
theorem c_M_serve (l : Launch) (D : va_G) (tC : Nat → ClassId) (A : Nat → Prop) (ad : Nat → Nat) (n : Nat → Nat) (J : Nat → Int32) (bw : Int64) (L : Nat → Nat → Int64) (bX : Nat → Option va_E) (aY : Nat → Nat → Option (ClassId × Nat)) (F S : Nat → Nat → Nat → Int32) (hsc : scm F S) (hN : hpN n) (o w : Nat) (ho : o < n 4) (hw8 : w < n 0) (sv : Nat → Int32) (hsv : S 6 0 = sv) (lf so : Nat → Int64) (hL0 : L 0 = lf) (hL1 : L 1 = so) : nw_Met l y_M_serve [Cond.code y_M_serve b_M_serve 8 (some .long)] ({ frames := 1, cells := 0, slots := 0, locals := 25 } : Room) D hpC A [.ref (ad (64)), .int (nI o), .int (nI w)] (nw_pre D hpC (hpT tC) A (mW ad tC n J bw L bX aY S) ad) (nw_ok (some (.long ((smS F o w lf (n 2)).2 * (F 5 12 o).toInt64))) (mW ad tC n J bw (va_up (va_up L 0 ((smS F o w lf (n 2)).1)) 1 (vp_updL so o (smS F o w lf (n 2)).2)) bX aY (upR S 6 0 (upd sv o (nI 1)))) ad) 0 0 := by
  refine nw_bodyK (by decide) (Nat.le_of_ble_eq_true rfl) ?_
  intro p e s m below meth cd ls args Q hSx hr hlocks hname hA hKs hw hS hl hQ
  obtain ⟨hx, hb, hml, hown, hts⟩ := id hSx
  have hK := hKs.1
  have hl : lv_has ls 8 [(0, .ref (ad (64))), (1, .int (nI o)), (2, .int (nI w))] := hl
  obtain ⟨hn0, hn0', hn1, hn2, hn3, hn4⟩ := id hN
  refine lv_aload_n hx hb d_M_serve_0 rfl (lv_at hl 0 rfl) ?_
  refine nw_get hx hb hts i_M hown hK hw (64) (mW_64) rfl 30 (by decide) (hts _ kw_689) (fun _ h9 => h9) rfl d_M_serve_1 ?_
  refine lv_iload_n hx hb d_M_serve_4 rfl (lv_at hl 1 rfl) ?_
  refine lv_iconst (v := nI 1) hx hb d_M_serve_5 (by decide) ?_
  refine nw_zast (z := nI 1) hx hb hK hw hS (196) 2 (mW_row (t := 6) (j := 0) (by decide) (by decide) (rfl)) rfl (o) (rfl) (by omega) (by omega) (rfl) d_M_serve_6 (fun H locs hw hS => ?_)
  have hw := mW_setRow (t := 6) (j := 0) (by decide) (by decide) (rfl) hw
  rw [hsv] at hw
  refine lv_aload_n hx hb d_M_serve_7 rfl (lv_at hl 0 rfl) ?_
  refine nw_get hx hb hts i_M hown hK hw (64) (mW_64) rfl 29 (by decide) (hts _ kw_688) (fun _ h9 => h9) rfl d_M_serve_8 ?_
  refine lv_iload_n hx hb d_M_serve_11 rfl (lv_at hl 1 rfl) ?_
  refine lv_lconst (v := 0) hx hb d_M_serve_12 (by decide) ?_
  refine nw_last hx hb hK hw hS (66) 1 (mW_66) rfl (o) (rfl) (by omega) (by omega) d_M_serve_13 (fun H locs hw hS => ?_)
  have hw := nw_W.as (wn' := mW ad tC n J bw (va_up L 1 (vp_updL so o 0)) bX aY (upR S 6 0 (upd sv o (nI 1)))) (mW_setL (j := 1) (f := vp_updL (L 1) o 0) rfl (by decide) rfl hw) (by rw [hL1])
  refine lv_iconst (v := nI 0) hx hb d_M_serve_14 (by decide) ?_
  refine lv_istore_n (lv' := [(3, .int (nI 0)), (0, .ref (ad (64))), (1, .int (nI o)), (2, .int (nI w))]) hx hb d_M_serve_15 rfl hl (by decide) rfl (fun ls hl => ?_)
  have hw := nw_W.as (wn' := mW ad tC n J bw (va_up (va_up L 0 ((smS F o w lf 0).1)) 1 (vp_updL so o (smS F o w lf 0).2)) bX aY (upR S 6 0 (upd sv o (nI 1)))) hw (by rw [show (smS F o w lf 0).1 = L 0 from hL0.symm, va_same]; rfl)
  have loop16 : ∀ (k c : Nat), c ≤ n 2 → n 2 + 1 ≤ c + k → ∀ (H : Heap) (locs : List Loc) (ls : Array Slot), nw_W D hpC A (mW ad tC n J bw (va_up (va_up L 0 ((smS F o w lf c).1)) 1 (vp_updL so o (smS F o w lf c).2)) bX aY (upR S 6 0 (upd sv o (nI 1)))) ad H → va_S A s.heap H locs → lv_has ls 8 [(0, .ref (ad (64))), (1, .int (nI o)), (2, .int (nI w)), (3, .int (nI c))] → W p l e ({ frames := 1, cells := 0, slots := 0, locals := 25 } : Room) s m args below meth cd H locs 0 0 Q (F0 m 16 ls []) := by
    intro k
    induction k with
    | zero => intro c h1 h2; exact absurd h2 (by omega)
    | succ k ih16 =>
      intro c hv16 hk16 H locs ls hw hS hl
      refine lv_iload_n hx hb d_M_serve_16 rfl (lv_at hl 3 rfl) ?_
      refine lv_aload_n hx hb d_M_serve_17 rfl (lv_at hl 0 rfl) ?_
      refine nw_get hx hb hts i_M hown hK hw (64) (mW_64) rfl 5 (by decide) (hts _ kw_664) (fun _ h9 => h9) rfl d_M_serve_18 ?_
      refine lv_icmp_ge (tgt := 135) hx hb d_M_serve_21 (by decide) (fun c_21 => ?_) (fun c_21 => ?_)
      · skip
        have hge21 : n 2 ≤ c := (nI_leI (by omega) (by omega)).mp c_21
        obtain rfl : n 2 = c := by omega
        refine lv_aload_n hx hb d_M_serve_135 rfl (lv_at hl 0 rfl) ?_
        refine nw_get hx hb hts i_M hown hK hw (64) (mW_64) rfl 29 (by decide) (hts _ kw_688) (fun _ h9 => h9) rfl d_M_serve_136 ?_
        refine lv_iload_n hx hb d_M_serve_139 rfl (lv_at hl 1 rfl) ?_
        refine nw_lald hx hb hK hw (66) 1 (mW_66) rfl (o) (rfl) (by omega) (by omega) d_M_serve_140 ?_
        refine lv_el (y := (vp_updL so o (smS F o w lf (n 2)).2) o) (rfl) ?_
        refine lv_el (y := (smS F o w lf (n 2)).2) (pk_uLs) ?_
        refine lv_aload_n hx hb d_M_serve_141 rfl (lv_at hl 0 rfl) ?_
        refine nw_get hx hb hts i_M hown hK hw (64) (mW_64) rfl 18 (by decide) (hts _ kw_677) (fun _ h9 => h9) rfl d_M_serve_142 ?_
        refine lv_iload_n hx hb d_M_serve_145 rfl (lv_at hl 1 rfl) ?_
        refine nw_iald hx hb hK hw (192) 0 (mW_row (t := 5) (j := 12) (by decide) (by decide) (rfl)) rfl (o) (rfl) (by omega) (by omega) d_M_serve_146 ?_
        refine lv_ei (y := F 5 12 o) (congrFun ((scm_up hsc) 5 12 (by omega)) _) ?_
        refine lv_i2l (v := ((F 5 12 o).toInt64)) hx hb d_M_serve_147 rfl ?_
        refine lv_lmul hx hb d_M_serve_148 ?_
        exact nw_lret hQ hx hb hr hlocks hw hS (nw_ok_rf) (Nat.le_of_ble_eq_true rfl) (Nat.le_of_ble_eq_true rfl) d_M_serve_149
      · skip
        have hlt : c < n 2 := Nat.not_le.mp (fun q => c_21 (nI_le q (by omega)))
        refine lv_aload_n hx hb d_M_serve_24 rfl (lv_at hl 0 rfl) ?_
        refine nw_get hx hb hts i_M hown hK hw (64) (mW_64) rfl 24 (by decide) (hts _ kw_683) (fun _ h9 => h9) rfl d_M_serve_25 ?_
        refine lv_iload_n hx hb d_M_serve_28 rfl (lv_at hl 3 rfl) ?_
        refine nw_iald hx hb hK hw (194) 0 (mW_row (t := 5) (j := 14) (by decide) (by decide) (rfl)) rfl (c) (rfl) (by omega) (by omega) d_M_serve_29 ?_
        refine lv_ei (y := F 5 14 c) (congrFun ((scm_up hsc) 5 14 (by omega)) _) ?_
        refine lv_iload_n hx hb d_M_serve_30 rfl (lv_at hl 2 rfl) ?_
        refine lv_icmp_ne (tgt := 129) hx hb d_M_serve_31 (by decide) (fun c_31 => ?_) (fun c_31 => ?_)
        · skip
          have e0 : smS F o w lf (c + 1) = smS F o w lf c := smS_f (fun h => c_31 h.1)
          refine lv_iinc (v := nI (c + 1)) (lv' := [(3, .int (nI (c + 1))), (0, .ref (ad (64))), (1, .int (nI o)), (2, .int (nI w))]) hx hb d_M_serve_129 hl (k := 3) rfl ((nI_succ _).symm) (by decide) rfl (fun ls hl => ?_)
          refine lv_goto (tgt := 16) hx hb d_M_serve_132 (by decide) ?_
          have hw := nw_W.as (wn' := mW ad tC n J bw (va_up (va_up L 0 ((smS F o w lf (c + 1)).1)) 1 (vp_updL so o (smS F o w lf (c + 1)).2)) bX aY (upR S 6 0 (upd sv o (nI 1)))) hw (by first | (rw [e0]; done) | (rw [e0, va_comm (by decide)]; done) | (rw [e0]; rw [va_comm (by decide)]))
          exact ih16 (c + 1) (by omega) (by omega) _ _ ls hw hS (lv_sub hl [1, 2, 3, 0] rfl)
        · skip
          refine lv_aload_n hx hb d_M_serve_34 rfl (lv_at hl 0 rfl) ?_
          refine nw_get hx hb hts i_M hown hK hw (64) (mW_64) rfl 7 (by decide) (hts _ kw_666) (fun _ h9 => h9) rfl d_M_serve_35 ?_
          refine lv_bipush (v := nI 8) hx hb d_M_serve_38 (by decide) ?_
          refine lv_iload_n hx hb d_M_serve_40 rfl (lv_at hl 3 rfl) ?_
          refine lv_imul hx hb d_M_serve_41 ?_
          refine lv_iload_n hx hb d_M_serve_42 rfl (lv_at hl 2 rfl) ?_
          refine lv_iadd hx hb d_M_serve_43 ?_
          refine lv_ei (y := nI (8 * c + w)) (ix8 _ _) ?_
          refine nw_iald hx hb hK hw (183) 0 (mW_row (t := 5) (j := 3) (by decide) (by decide) (rfl)) rfl (8 * c + w) (rfl) (by omega) (by omega) d_M_serve_44 ?_
          refine lv_ei (y := F 5 3 (8 * c + w)) (congrFun ((scm_up hsc) 5 3 (by omega)) _) ?_
          refine lv_i2l (v := ((F 5 3 (8 * c + w)).toInt64)) hx hb d_M_serve_45 rfl ?_
          refine lv_aload_n hx hb d_M_serve_46 rfl (lv_at hl 0 rfl) ?_
          refine nw_get hx hb hts i_M hown hK hw (64) (mW_64) rfl 15 (by decide) (hts _ kw_674) (fun _ h9 => h9) rfl d_M_serve_47 ?_
          refine lv_iload_n hx hb d_M_serve_50 rfl (lv_at hl 1 rfl) ?_
          refine nw_iald hx hb hK hw (189) 0 (mW_row (t := 5) (j := 9) (by decide) (by decide) (rfl)) rfl (o) (rfl) (by omega) (by omega) d_M_serve_51 ?_
          refine lv_ei (y := F 5 9 o) (congrFun ((scm_up hsc) 5 9 (by omega)) _) ?_
          refine lv_i2l (v := ((F 5 9 o).toInt64)) hx hb d_M_serve_52 rfl ?_
          refine lv_aload_n hx hb d_M_serve_53 rfl (lv_at hl 0 rfl) ?_
          refine nw_get hx hb hts i_M hown hK hw (64) (mW_64) rfl 16 (by decide) (hts _ kw_675) (fun _ h9 => h9) rfl d_M_serve_54 ?_
          refine lv_iload_n hx hb d_M_serve_57 rfl (lv_at hl 1 rfl) ?_
          refine nw_iald hx hb hK hw (190) 0 (mW_row (t := 5) (j := 10) (by decide) (by decide) (rfl)) rfl (o) (rfl) (by omega) (by omega) d_M_serve_58 ?_
          refine lv_ei (y := F 5 10 o) (congrFun ((scm_up hsc) 5 10 (by omega)) _) ?_
          refine lv_i2l (v := ((F 5 10 o).toInt64)) hx hb d_M_serve_59 rfl ?_
          refine nw_callD (nw_goS (n := 3) (As := [.long (((F 5 3 (8 * c + w)).toInt64)), .long (((F 5 9 o).toInt64)), .long (((F 5 10 o).toInt64))]) (rest := []) hSx hA hKs hw hS (c_M_in l D tC A ad n J bw (va_up (va_up L 0 ((smS F o w lf c).1)) 1 (vp_updL so o (smS F o w lf c).2)) bX aY F (upR S 6 0 (upd sv o (nI 1))) (scm_up hsc) hN (((F 5 3 (8 * c + w)).toInt64)) (((F 5 9 o).toInt64)) (((F 5 10 o).toInt64))) kw_770 kw_768 kw_769 kw_8 rfl rfl (by decide +kernel) ⟨Nat.le_of_ble_eq_true rfl, Nat.le_of_ble_eq_true rfl⟩ rfl hl.1 (Nat.le_of_ble_eq_true rfl) d_M_serve_60 ⟨Nat.le_of_ble_eq_true rfl, Nat.le_of_ble_eq_true rfl⟩) hS (fun H locs hw hS => ?_)
          refine lv_if_eq (tgt := 129) hx hb d_M_serve_63 (by decide) (fun c_63 => ?_) (fun c_63 => ?_)
          · skip
            have e0 : smS F o w lf (c + 1) = smS F o w lf c := smS_f (fun h => b2_0 c_63 h.2)
            refine lv_iinc (v := nI (c + 1)) (lv' := [(3, .int (nI (c + 1))), (0, .ref (ad (64))), (1, .int (nI o)), (2, .int (nI w))]) hx hb d_M_serve_129 hl (k := 3) rfl ((nI_succ _).symm) (by decide) rfl (fun ls hl => ?_)
            refine lv_goto (tgt := 16) hx hb d_M_serve_132 (by decide) ?_
            have hw := nw_W.as (wn' := mW ad tC n J bw (va_up (va_up L 0 ((smS F o w lf (c + 1)).1)) 1 (vp_updL so o (smS F o w lf (c + 1)).2)) bX aY (upR S 6 0 (upd sv o (nI 1)))) hw (by first | (rw [e0]; done) | (rw [e0, va_comm (by decide)]; done) | (rw [e0]; rw [va_comm (by decide)]))
            exact ih16 (c + 1) (by omega) (by omega) _ _ ls hw hS (lv_sub hl [1, 2, 3, 0] rfl)
          · skip
            have e0 : smS F o w lf (c + 1) = (vp_updL (smS F o w lf c).1 c ((smS F o w lf c).1 c - gtL ((smS F o w lf c).1 c) ((F 5 11 o).toInt64 - (smS F o w lf c).2)), (smS F o w lf c).2 + gtL ((smS F o w lf c).1 c) ((F 5 11 o).toInt64 - (smS F o w lf c).2)) := smS_t c_31 (b2_1 c_63)
            refine lv_aload_n hx hb d_M_serve_66 rfl (lv_at hl 0 rfl) ?_
            refine nw_get hx hb hts i_M hown hK hw (64) (mW_64) rfl 17 (by decide) (hts _ kw_676) (fun _ h9 => h9) rfl d_M_serve_67 ?_
            refine lv_iload_n hx hb d_M_serve_70 rfl (lv_at hl 1 rfl) ?_
            refine nw_iald hx hb hK hw (191) 0 (mW_row (t := 5) (j := 11) (by decide) (by decide) (rfl)) rfl (o) (rfl) (by omega) (by omega) d_M_serve_71 ?_
            refine lv_ei (y := F 5 11 o) (congrFun ((scm_up hsc) 5 11 (by omega)) _) ?_
            refine lv_i2l (v := ((F 5 11 o).toInt64)) hx hb d_M_serve_72 rfl ?_
            refine lv_aload_n hx hb d_M_serve_73 rfl (lv_at hl 0 rfl) ?_
            refine nw_get hx hb hts i_M hown hK hw (64) (mW_64) rfl 29 (by decide) (hts _ kw_688) (fun _ h9 => h9) rfl d_M_serve_74 ?_
            refine lv_iload_n hx hb d_M_serve_77 rfl (lv_at hl 1 rfl) ?_
            refine nw_lald hx hb hK hw (66) 1 (mW_66) rfl (o) (rfl) (by omega) (by omega) d_M_serve_78 ?_
            refine lv_el (y := (vp_updL so o (smS F o w lf c).2) o) (rfl) ?_
            refine lv_el (y := (smS F o w lf c).2) (pk_uLs) ?_
            refine lv_lsub hx hb d_M_serve_79 ?_
            refine lv_lstore (lv' := [(4, .long (((((F 5 11 o).toInt64)) - ((smS F o w lf c).2)))), (0, .ref (ad (64))), (1, .int (nI o)), (2, .int (nI w)), (3, .int (nI c))]) hx hb d_M_serve_80 hl (by decide) rfl (fun ls hl => ?_)
            refine lv_aload_n hx hb d_M_serve_82 rfl (lv_at hl 1 rfl) ?_
            refine nw_get hx hb hts i_M hown hK hw (64) (mW_64) rfl 28 (by decide) (hts _ kw_687) (fun _ h9 => h9) rfl d_M_serve_83 ?_
            refine lv_iload_n hx hb d_M_serve_86 rfl (lv_at hl 4 rfl) ?_
            refine nw_lald hx hb hK hw (65) 1 (mW_65) rfl (c) (rfl) (by omega) (by omega) d_M_serve_87 ?_
            refine lv_el (y := ((smS F o w lf c).1) c) (rfl) ?_
            refine lv_lload hx hb d_M_serve_88 (lv_at hl 0 rfl) ?_
            refine W.lcmp hx hb d_M_serve_90 ?_
            refine lv_if_ge (tgt := 103) hx hb d_M_serve_91 (by decide) (fun c_91 => ?_) (fun c_91 => ?_)
            · skip
              have eg : ((F 5 11 o).toInt64 - (smS F o w lf c).2) = gtL ((smS F o w lf c).1 c) ((F 5 11 o).toInt64 - (smS F o w lf c).2) := by simp only [gtL]; rw [if_neg (Int64.not_lt.mpr ((lg_cmp_ge _ _).mp c_91))]
              refine lv_lload hx hb d_M_serve_103 (lv_at hl 0 rfl) ?_
              refine lv_el (y := gtL ((smS F o w lf c).1 c) ((F 5 11 o).toInt64 - (smS F o w lf c).2)) eg ?_
              refine lv_lstore (lv' := [(6, .long (gtL ((smS F o w lf c).1 c) ((F 5 11 o).toInt64 - (smS F o w lf c).2))), (4, .long (((((F 5 11 o).toInt64)) - ((smS F o w lf c).2)))), (0, .ref (ad (64))), (1, .int (nI o)), (2, .int (nI w)), (3, .int (nI c))]) hx hb d_M_serve_105 hl (by decide) rfl (fun ls hl => ?_)
              refine lv_aload_n hx hb d_M_serve_107 rfl (lv_at hl 2 rfl) ?_
              refine nw_get hx hb hts i_M hown hK hw (64) (mW_64) rfl 29 (by decide) (hts _ kw_688) (fun _ h9 => h9) rfl d_M_serve_108 ?_
              refine lv_iload_n hx hb d_M_serve_111 rfl (lv_at hl 3 rfl) ?_
              refine lv_dup2_11 hx hb d_M_serve_112 rfl rfl ?_
              refine nw_lald hx hb hK hw (66) 1 (mW_66) rfl (o) (rfl) (by omega) (by omega) d_M_serve_113 ?_
              refine lv_el (y := (vp_updL so o (smS F o w lf c).2) o) (rfl) ?_
              refine lv_el (y := (smS F o w lf c).2) (pk_uLs) ?_
              refine lv_lload hx hb d_M_serve_114 (lv_at hl 0 rfl) ?_
              refine lv_ladd hx hb d_M_serve_116 ?_
              refine nw_last hx hb hK hw hS (66) 1 (mW_66) rfl (o) (rfl) (by omega) (by omega) d_M_serve_117 (fun H locs hw hS => ?_)
              have hw := nw_W.as (wn' := mW ad tC n J bw (va_up (va_up L 0 ((smS F o w lf c).1)) 1 (vp_updL so o ((smS F o w lf c).2 + gtL ((smS F o w lf c).1 c) ((F 5 11 o).toInt64 - (smS F o w lf c).2)))) bX aY (upR S 6 0 (upd sv o (nI 1)))) (mW_setL (j := 1) (f := vp_updL ((va_up (va_up L 0 ((smS F o w lf c).1)) 1 (vp_updL so o (smS F o w lf c).2)) 1) o (((smS F o w lf c).2) + (gtL ((smS F o w lf c).1 c) ((F 5 11 o).toInt64 - (smS F o w lf c).2)))) rfl (by decide) rfl hw) (by rw [va_up_self, bx_uu, ul_uu])
              refine lv_aload_n hx hb d_M_serve_118 rfl (lv_at hl 2 rfl) ?_
              refine nw_get hx hb hts i_M hown hK hw (64) (mW_64) rfl 28 (by decide) (hts _ kw_687) (fun _ h9 => h9) rfl d_M_serve_119 ?_
              refine lv_iload_n hx hb d_M_serve_122 rfl (lv_at hl 5 rfl) ?_
              refine lv_dup2_11 hx hb d_M_serve_123 rfl rfl ?_
              refine nw_lald hx hb hK hw (65) 1 (mW_65) rfl (c) (rfl) (by omega) (by omega) d_M_serve_124 ?_
              refine lv_el (y := ((smS F o w lf c).1) c) (rfl) ?_
              refine lv_lload hx hb d_M_serve_125 (lv_at hl 0 rfl) ?_
              refine lv_lsub hx hb d_M_serve_127 ?_
              refine nw_last hx hb hK hw hS (65) 1 (mW_65) rfl (c) (rfl) (by omega) (by omega) d_M_serve_128 (fun H locs hw hS => ?_)
              have hw := nw_W.as (wn' := mW ad tC n J bw (va_up (va_up L 1 (vp_updL so o ((smS F o w lf c).2 + gtL ((smS F o w lf c).1 c) ((F 5 11 o).toInt64 - (smS F o w lf c).2)))) 0 (vp_updL ((smS F o w lf c).1) c ((((smS F o w lf c).1) c) - (gtL ((smS F o w lf c).1 c) ((F 5 11 o).toInt64 - (smS F o w lf c).2))))) bX aY (upR S 6 0 (upd sv o (nI 1)))) (mW_setL (j := 0) (f := vp_updL ((va_up (va_up L 0 ((smS F o w lf c).1)) 1 (vp_updL so o ((smS F o w lf c).2 + gtL ((smS F o w lf c).1 c) ((F 5 11 o).toInt64 - (smS F o w lf c).2)))) 0) c ((((smS F o w lf c).1) c) - (gtL ((smS F o w lf c).1 c) ((F 5 11 o).toInt64 - (smS F o w lf c).2)))) rfl (by decide) rfl hw) (by rw [va_up_ne _ _ (by decide), va_up_self, va_in (by decide)])
              refine lv_iinc (v := nI (c + 1)) (lv' := [(3, .int (nI (c + 1))), (6, .long (gtL ((smS F o w lf c).1 c) ((F 5 11 o).toInt64 - (smS F o w lf c).2))), (4, .long (((((F 5 11 o).toInt64)) - ((smS F o w lf c).2)))), (0, .ref (ad (64))), (1, .int (nI o)), (2, .int (nI w))]) hx hb d_M_serve_129 hl (k := 5) rfl ((nI_succ _).symm) (by decide) rfl (fun ls hl => ?_)
              refine lv_goto (tgt := 16) hx hb d_M_serve_132 (by decide) ?_
              have hw := nw_W.as (wn' := mW ad tC n J bw (va_up (va_up L 0 ((smS F o w lf (c + 1)).1)) 1 (vp_updL so o (smS F o w lf (c + 1)).2)) bX aY (upR S 6 0 (upd sv o (nI 1)))) hw (by first | (rw [e0]; done) | (rw [e0, va_comm (by decide)]; done) | (rw [e0]; rw [va_comm (by decide)]))
              exact ih16 (c + 1) (by omega) (by omega) _ _ ls hw hS (lv_sub hl [3, 4, 5, 0] rfl)
            · skip
              have eg : (smS F o w lf c).1 c = gtL ((smS F o w lf c).1 c) ((F 5 11 o).toInt64 - (smS F o w lf c).2) := by simp only [gtL]; rw [if_pos (Int64.not_le.mp (fun h => c_91 ((lg_cmp_ge _ _).mpr h)))]
              refine lv_aload_n hx hb d_M_serve_94 rfl (lv_at hl 1 rfl) ?_
              refine nw_get hx hb hts i_M hown hK hw (64) (mW_64) rfl 28 (by decide) (hts _ kw_687) (fun _ h9 => h9) rfl d_M_serve_95 ?_
              refine lv_iload_n hx hb d_M_serve_98 rfl (lv_at hl 4 rfl) ?_
              refine nw_lald hx hb hK hw (65) 1 (mW_65) rfl (c) (rfl) (by omega) (by omega) d_M_serve_99 ?_
              refine lv_el (y := ((smS F o w lf c).1) c) (rfl) ?_
              refine lv_goto (tgt := 105) hx hb d_M_serve_100 (by decide) ?_
              refine lv_el (y := gtL ((smS F o w lf c).1 c) ((F 5 11 o).toInt64 - (smS F o w lf c).2)) eg ?_
              refine lv_lstore (lv' := [(6, .long (gtL ((smS F o w lf c).1 c) ((F 5 11 o).toInt64 - (smS F o w lf c).2))), (4, .long (((((F 5 11 o).toInt64)) - ((smS F o w lf c).2)))), (0, .ref (ad (64))), (1, .int (nI o)), (2, .int (nI w)), (3, .int (nI c))]) hx hb d_M_serve_105 hl (by decide) rfl (fun ls hl => ?_)
              refine lv_aload_n hx hb d_M_serve_107 rfl (lv_at hl 2 rfl) ?_
              refine nw_get hx hb hts i_M hown hK hw (64) (mW_64) rfl 29 (by decide) (hts _ kw_688) (fun _ h9 => h9) rfl d_M_serve_108 ?_
              refine lv_iload_n hx hb d_M_serve_111 rfl (lv_at hl 3 rfl) ?_
              refine lv_dup2_11 hx hb d_M_serve_112 rfl rfl ?_
              refine nw_lald hx hb hK hw (66) 1 (mW_66) rfl (o) (rfl) (by omega) (by omega) d_M_serve_113 ?_
              refine lv_el (y := (vp_updL so o (smS F o w lf c).2) o) (rfl) ?_
              refine lv_el (y := (smS F o w lf c).2) (pk_uLs) ?_
              refine lv_lload hx hb d_M_serve_114 (lv_at hl 0 rfl) ?_
              refine lv_ladd hx hb d_M_serve_116 ?_
              refine nw_last hx hb hK hw hS (66) 1 (mW_66) rfl (o) (rfl) (by omega) (by omega) d_M_serve_117 (fun H locs hw hS => ?_)
              have hw := nw_W.as (wn' := mW ad tC n J bw (va_up (va_up L 0 ((smS F o w lf c).1)) 1 (vp_updL so o ((smS F o w lf c).2 + gtL ((smS F o w lf c).1 c) ((F 5 11 o).toInt64 - (smS F o w lf c).2)))) bX aY (upR S 6 0 (upd sv o (nI 1)))) (mW_setL (j := 1) (f := vp_updL ((va_up (va_up L 0 ((smS F o w lf c).1)) 1 (vp_updL so o (smS F o w lf c).2)) 1) o (((smS F o w lf c).2) + (gtL ((smS F o w lf c).1 c) ((F 5 11 o).toInt64 - (smS F o w lf c).2)))) rfl (by decide) rfl hw) (by rw [va_up_self, bx_uu, ul_uu])
              refine lv_aload_n hx hb d_M_serve_118 rfl (lv_at hl 2 rfl) ?_
              refine nw_get hx hb hts i_M hown hK hw (64) (mW_64) rfl 28 (by decide) (hts _ kw_687) (fun _ h9 => h9) rfl d_M_serve_119 ?_
              refine lv_iload_n hx hb d_M_serve_122 rfl (lv_at hl 5 rfl) ?_
              refine lv_dup2_11 hx hb d_M_serve_123 rfl rfl ?_
              refine nw_lald hx hb hK hw (65) 1 (mW_65) rfl (c) (rfl) (by omega) (by omega) d_M_serve_124 ?_
              refine lv_el (y := ((smS F o w lf c).1) c) (rfl) ?_
              refine lv_lload hx hb d_M_serve_125 (lv_at hl 0 rfl) ?_
              refine lv_lsub hx hb d_M_serve_127 ?_
              refine nw_last hx hb hK hw hS (65) 1 (mW_65) rfl (c) (rfl) (by omega) (by omega) d_M_serve_128 (fun H locs hw hS => ?_)
              have hw := nw_W.as (wn' := mW ad tC n J bw (va_up (va_up L 1 (vp_updL so o ((smS F o w lf c).2 + gtL ((smS F o w lf c).1 c) ((F 5 11 o).toInt64 - (smS F o w lf c).2)))) 0 (vp_updL ((smS F o w lf c).1) c ((((smS F o w lf c).1) c) - (gtL ((smS F o w lf c).1 c) ((F 5 11 o).toInt64 - (smS F o w lf c).2))))) bX aY (upR S 6 0 (upd sv o (nI 1)))) (mW_setL (j := 0) (f := vp_updL ((va_up (va_up L 0 ((smS F o w lf c).1)) 1 (vp_updL so o ((smS F o w lf c).2 + gtL ((smS F o w lf c).1 c) ((F 5 11 o).toInt64 - (smS F o w lf c).2)))) 0) c ((((smS F o w lf c).1) c) - (gtL ((smS F o w lf c).1 c) ((F 5 11 o).toInt64 - (smS F o w lf c).2)))) rfl (by decide) rfl hw) (by rw [va_up_ne _ _ (by decide), va_up_self, va_in (by decide)])
              refine lv_iinc (v := nI (c + 1)) (lv' := [(3, .int (nI (c + 1))), (6, .long (gtL ((smS F o w lf c).1 c) ((F 5 11 o).toInt64 - (smS F o w lf c).2))), (4, .long (((((F 5 11 o).toInt64)) - ((smS F o w lf c).2)))), (0, .ref (ad (64))), (1, .int (nI o)), (2, .int (nI w))]) hx hb d_M_serve_129 hl (k := 5) rfl ((nI_succ _).symm) (by decide) rfl (fun ls hl => ?_)
              refine lv_goto (tgt := 16) hx hb d_M_serve_132 (by decide) ?_
              have hw := nw_W.as (wn' := mW ad tC n J bw (va_up (va_up L 0 ((smS F o w lf (c + 1)).1)) 1 (vp_updL so o (smS F o w lf (c + 1)).2)) bX aY (upR S 6 0 (upd sv o (nI 1)))) hw (by first | (rw [e0]; done) | (rw [e0, va_comm (by decide)]; done) | (rw [e0]; rw [va_comm (by decide)]))
              exact ih16 (c + 1) (by omega) (by omega) _ _ ls hw hS (lv_sub hl [3, 4, 5, 0] rfl)
  exact loop16 (n 2 + 1) (0) (by omega) (by omega) _ _ ls hw hS (lv_sub hl [1, 2, 3, 0] rfl)

set_option maxHeartbeats 4000000 in
set_option maxRecDepth 100000 in
/-- the TOP of a cage -/
theorem c_M_top (l : Launch) (D : va_G) (tC : Nat → ClassId) (A : Nat → Prop) (ad : Nat → Nat) (n : Nat → Nat) (J : Nat → Int32) (bw : Int64) (L : Nat → Nat → Int64) (bX : Nat → Option va_E) (aY : Nat → Nat → Option (ClassId × Nat)) (F S : Nat → Nat → Nat → Int32) (hsc : scm F S) (hN : hpN n) (c t : Nat) (hc : c < n 2) (ht : t ≤ n 0) : nw_Met l y_M_top [Cond.code y_M_top b_M_top 7 (some .long)] ({ frames := 1, cells := 0, slots := 0, locals := 25 } : Room) D hpC A [.ref (ad (64)), .int (nI c), .int (nI t)] (nw_pre D hpC (hpT tC) A (mW ad tC n J bw L bX aY S) ad) (nw_ok (some (.long (mtL n J F c t))) (mW ad tC n J bw L bX aY S) ad) 0 0 := by
  refine nw_bodyK (by decide) (Nat.le_of_ble_eq_true rfl) ?_
  intro p e s m below meth cd ls args Q hSx hr hlocks hname hA hKs hw hS hl hQ
  obtain ⟨hx, hb, hml, hown, hts⟩ := id hSx
  have hK := hKs.1
  have hl : lv_has ls 7 [(0, .ref (ad (64))), (1, .int (nI c)), (2, .int (nI t))] := hl
  obtain ⟨hn0, hn0', hn1, hn2, hn3, hn4⟩ := id hN
  refine lv_iload_n hx hb d_M_top_0 rfl (lv_at hl 2 rfl) ?_
  refine lv_aload_n hx hb d_M_top_1 rfl (lv_at hl 0 rfl) ?_
  refine nw_get hx hb hts i_M hown hK hw (64) (mW_64) rfl 0 (by decide) (hts _ kw_659) (fun _ h9 => h9) rfl d_M_top_2 ?_
  refine lv_icmp_ne (tgt := 26) hx hb d_M_top_5 (by decide) (fun c_5 => ?_) (fun c_5 => ?_)
  · skip
    have htn : t < n 0 := by
      rcases Nat.lt_or_ge t (n 0) with h9 | h9
      · exact h9
      · exact absurd (by rw [show t = n 0 by omega]) c_5
    refine lv_aload_n hx hb d_M_top_26 rfl (lv_at hl 0 rfl) ?_
    refine nw_get hx hb hts i_M hown hK hw (64) (mW_64) rfl 19 (by decide) (hts _ kw_678) (fun _ h9 => h9) rfl d_M_top_27 ?_
    refine lv_i2l (v := ((J 1).toInt64)) hx hb d_M_top_30 rfl ?_
    refine lv_lstore_n (lv' := [(3, .long (((J 1).toInt64))), (0, .ref (ad (64))), (1, .int (nI c)), (2, .int (nI t))]) hx hb d_M_top_31 rfl hl (by decide) rfl (fun ls hl => ?_)
    refine lv_iconst (v := nI 0) hx hb d_M_top_32 (by decide) ?_
    refine lv_istore (lv' := [(5, .int (nI 0)), (3, .long (((J 1).toInt64))), (0, .ref (ad (64))), (1, .int (nI c)), (2, .int (nI t))]) hx hb d_M_top_33 hl (by decide) rfl (fun ls hl => ?_)
    have loop35 : ∀ (k o : Nat), o ≤ n 4 → n 4 + 1 ≤ o + k → ∀ (H : Heap) (locs : List Loc) (ls : Array Slot), nw_W D hpC A (mW ad tC n J bw L bX aY S) ad H → va_S A s.heap H locs → lv_has ls 7 [(0, .ref (ad (64))), (1, .int (nI c)), (2, .int (nI t)), (3, .long (mtS F J c t o)), (5, .int (nI o))] → W p l e ({ frames := 1, cells := 0, slots := 0, locals := 25 } : Room) s m args below meth cd H locs 0 0 Q (F0 m 35 ls []) := by
      intro k
      induction k with
      | zero => intro o h1 h2; exact absurd h2 (by omega)
      | succ k ih35 =>
        intro o hv35 hk35 H locs ls hw hS hl
        refine lv_iload hx hb d_M_top_35 (lv_at hl 4 rfl) ?_
        refine lv_aload_n hx hb d_M_top_37 rfl (lv_at hl 0 rfl) ?_
        refine nw_get hx hb hts i_M hown hK hw (64) (mW_64) rfl 13 (by decide) (hts _ kw_672) (fun _ h9 => h9) rfl d_M_top_38 ?_
        refine lv_icmp_ge (tgt := 133) hx hb d_M_top_41 (by decide) (fun c_41 => ?_) (fun c_41 => ?_)
        · skip
          have hge41 : n 4 ≤ o := (nI_leI (by omega) (by omega)).mp c_41
          obtain rfl : n 4 = o := by omega
          refine lv_aload_n hx hb d_M_top_133 rfl (lv_at hl 0 rfl) ?_
          refine lv_iload_n hx hb d_M_top_134 rfl (lv_at hl 1 rfl) ?_
          refine lv_iload_n hx hb d_M_top_135 rfl (lv_at hl 2 rfl) ?_
          refine nw_callD (nw_goV (n := 2) (As := [.int (nI c), .int (nI t)]) (rest := []) hSx hA hKs hw hS (c_M_kilos l D tC A ad n J bw L bX aY F S hsc hN c t (by omega) (by omega)) kw_792 kw_789 kw_791 ks_M_kilos kw_8 rfl rfl (by decide +kernel) ⟨Nat.le_of_ble_eq_true rfl, Nat.le_of_ble_eq_true rfl⟩ (nw_recv hK hw (mW_64) rfl) rfl hl.1 (Nat.le_of_ble_eq_true rfl) d_M_top_136 ⟨Nat.le_of_ble_eq_true rfl, Nat.le_of_ble_eq_true rfl⟩) hS (fun H locs hw hS => ?_)
          refine lv_lload_n hx hb d_M_top_139 rfl (lv_at hl 3 rfl) ?_
          refine lv_lmul hx hb d_M_top_140 ?_
          exact nw_lret hQ hx hb hr hlocks hw hS (nw_okL (by simp only [mtL]; rw [if_neg (by omega)])) (Nat.le_of_ble_eq_true rfl) (Nat.le_of_ble_eq_true rfl) d_M_top_141
        · skip
          have hlt : o < n 4 := Nat.not_le.mp (fun q => c_41 (nI_le q (by omega)))
          refine lv_aload_n hx hb d_M_top_44 rfl (lv_at hl 0 rfl) ?_
          refine nw_get hx hb hts i_M hown hK hw (64) (mW_64) rfl 14 (by decide) (hts _ kw_673) (fun _ h9 => h9) rfl d_M_top_45 ?_
          refine lv_iload hx hb d_M_top_48 (lv_at hl 4 rfl) ?_
          refine nw_iald hx hb hK hw (188) 0 (mW_row (t := 5) (j := 8) (by decide) (by decide) (rfl)) rfl (o) (rfl) (by omega) (by omega) d_M_top_50 ?_
          refine lv_ei (y := F 5 8 o) (congrFun (hsc 5 8 (by omega)) _) ?_
          refine lv_iload_n hx hb d_M_top_51 rfl (lv_at hl 2 rfl) ?_
          refine lv_icmp_ne (tgt := 93) hx hb d_M_top_52 (by decide) (fun c_52 => ?_) (fun c_52 => ?_)
          · skip
            have hft : ¬ (F 5 8 o = nI t ∧ qFit F o c t) := fun h => c_52 h.1
            refine lv_iconst (v := nI 0) hx hb d_M_top_93 (by decide) ?_
            refine lv_istore (lv' := [(6, .int (nI 0)), (0, .ref (ad (64))), (1, .int (nI c)), (2, .int (nI t)), (3, .long (mtS F J c t o)), (5, .int (nI o))]) hx hb d_M_top_94 hl (by decide) rfl (fun ls hl => ?_)
            refine lv_iload hx hb d_M_top_96 (lv_at hl 0 rfl) ?_
            refine lv_if_eq (tgt := 125) hx hb d_M_top_98 (by decide) (fun c_98 => ?_) (fun c_98 => ?_)
            · skip
              have e3 : mtS F J c t (o + 1) = mtS F J c t o := mtS_f (fun h => hft h.1)
              refine lv_lload_n hx hb d_M_top_125 rfl (lv_at hl 4 rfl) ?_
              refine lv_lstore_n (lv' := [(3, .long (mtS F J c t o)), (6, .int (nI 0)), (0, .ref (ad (64))), (1, .int (nI c)), (2, .int (nI t)), (5, .int (nI o))]) hx hb d_M_top_126 rfl hl (by decide) rfl (fun ls hl => ?_)
              refine lv_iinc (v := nI (o + 1)) (lv' := [(5, .int (nI (o + 1))), (3, .long (mtS F J c t o)), (6, .int (nI 0)), (0, .ref (ad (64))), (1, .int (nI c)), (2, .int (nI t))]) hx hb d_M_top_127 hl (k := 5) rfl ((nI_succ _).symm) (by decide) rfl (fun ls hl => ?_)
              refine lv_goto (tgt := 35) hx hb d_M_top_130 (by decide) ?_
              have el3 : mtS F J c t (o + 1) = mtS F J c t o := e3
              have hl : lv_has ls 7 [(5, .int (nI (o + 1))), (3, .long (mtS F J c t (o + 1))), (6, .int (nI 0)), (0, .ref (ad (64))), (1, .int (nI c)), (2, .int (nI t))] := by
                have h9 := hl
                revert h9; rw [show Value.long (mtS F J c t (o + 1)) = Value.long (mtS F J c t o) from congrArg _ el3]; intro h9
                exact h9
              exact ih35 (o + 1) (by omega) (by omega) _ _ ls hw hS (lv_sub hl [3, 4, 5, 1, 0] rfl)
            · skip
              first | exact absurd c_98 (by decide) | exact absurd (by decide) c_98
          · skip
            refine lv_aload_n hx hb d_M_top_55 rfl (lv_at hl 0 rfl) ?_
            refine nw_get hx hb hts i_M hown hK hw (64) (mW_64) rfl 7 (by decide) (hts _ kw_666) (fun _ h9 => h9) rfl d_M_top_56 ?_
            refine lv_bipush (v := nI 8) hx hb d_M_top_59 (by decide) ?_
            refine lv_iload_n hx hb d_M_top_61 rfl (lv_at hl 1 rfl) ?_
            refine lv_imul hx hb d_M_top_62 ?_
            refine lv_iload_n hx hb d_M_top_63 rfl (lv_at hl 2 rfl) ?_
            refine lv_iadd hx hb d_M_top_64 ?_
            refine lv_ei (y := nI (8 * c + t)) (ix8 _ _) ?_
            refine nw_iald hx hb hK hw (183) 0 (mW_row (t := 5) (j := 3) (by decide) (by decide) (rfl)) rfl (8 * c + t) (rfl) (by omega) (by omega) d_M_top_65 ?_
            refine lv_ei (y := F 5 3 (8 * c + t)) (congrFun (hsc 5 3 (by omega)) _) ?_
            refine lv_i2l (v := ((F 5 3 (8 * c + t)).toInt64)) hx hb d_M_top_66 rfl ?_
            refine lv_aload_n hx hb d_M_top_67 rfl (lv_at hl 0 rfl) ?_
            refine nw_get hx hb hts i_M hown hK hw (64) (mW_64) rfl 15 (by decide) (hts _ kw_674) (fun _ h9 => h9) rfl d_M_top_68 ?_
            refine lv_iload hx hb d_M_top_71 (lv_at hl 4 rfl) ?_
            refine nw_iald hx hb hK hw (189) 0 (mW_row (t := 5) (j := 9) (by decide) (by decide) (rfl)) rfl (o) (rfl) (by omega) (by omega) d_M_top_73 ?_
            refine lv_ei (y := F 5 9 o) (congrFun (hsc 5 9 (by omega)) _) ?_
            refine lv_i2l (v := ((F 5 9 o).toInt64)) hx hb d_M_top_74 rfl ?_
            refine lv_aload_n hx hb d_M_top_75 rfl (lv_at hl 0 rfl) ?_
            refine nw_get hx hb hts i_M hown hK hw (64) (mW_64) rfl 16 (by decide) (hts _ kw_675) (fun _ h9 => h9) rfl d_M_top_76 ?_
            refine lv_iload hx hb d_M_top_79 (lv_at hl 4 rfl) ?_
            refine nw_iald hx hb hK hw (190) 0 (mW_row (t := 5) (j := 10) (by decide) (by decide) (rfl)) rfl (o) (rfl) (by omega) (by omega) d_M_top_81 ?_
            refine lv_ei (y := F 5 10 o) (congrFun (hsc 5 10 (by omega)) _) ?_
            refine lv_i2l (v := ((F 5 10 o).toInt64)) hx hb d_M_top_82 rfl ?_
            refine nw_callD (nw_goS (n := 3) (As := [.long (((F 5 3 (8 * c + t)).toInt64)), .long (((F 5 9 o).toInt64)), .long (((F 5 10 o).toInt64))]) (rest := []) hSx hA hKs hw hS (c_M_in l D tC A ad n J bw L bX aY F S hsc hN (((F 5 3 (8 * c + t)).toInt64)) (((F 5 9 o).toInt64)) (((F 5 10 o).toInt64))) kw_770 kw_768 kw_769 kw_8 rfl rfl (by decide +kernel) ⟨Nat.le_of_ble_eq_true rfl, Nat.le_of_ble_eq_true rfl⟩ rfl hl.1 (Nat.le_of_ble_eq_true rfl) d_M_top_83 ⟨Nat.le_of_ble_eq_true rfl, Nat.le_of_ble_eq_true rfl⟩) hS (fun H locs hw hS => ?_)
            refine lv_if_eq (tgt := 93) hx hb d_M_top_86 (by decide) (fun c_86 => ?_) (fun c_86 => ?_)
            · skip
              have hft : ¬ (F 5 8 o = nI t ∧ qFit F o c t) := fun h => b2_0 c_86 h.2
              refine lv_iconst (v := nI 0) hx hb d_M_top_93 (by decide) ?_
              refine lv_istore (lv' := [(6, .int (nI 0)), (0, .ref (ad (64))), (1, .int (nI c)), (2, .int (nI t)), (3, .long (mtS F J c t o)), (5, .int (nI o))]) hx hb d_M_top_94 hl (by decide) rfl (fun ls hl => ?_)
              refine lv_iload hx hb d_M_top_96 (lv_at hl 0 rfl) ?_
              refine lv_if_eq (tgt := 125) hx hb d_M_top_98 (by decide) (fun c_98 => ?_) (fun c_98 => ?_)
              · skip
                have e3 : mtS F J c t (o + 1) = mtS F J c t o := mtS_f (fun h => hft h.1)
                refine lv_lload_n hx hb d_M_top_125 rfl (lv_at hl 4 rfl) ?_
                refine lv_lstore_n (lv' := [(3, .long (mtS F J c t o)), (6, .int (nI 0)), (0, .ref (ad (64))), (1, .int (nI c)), (2, .int (nI t)), (5, .int (nI o))]) hx hb d_M_top_126 rfl hl (by decide) rfl (fun ls hl => ?_)
                refine lv_iinc (v := nI (o + 1)) (lv' := [(5, .int (nI (o + 1))), (3, .long (mtS F J c t o)), (6, .int (nI 0)), (0, .ref (ad (64))), (1, .int (nI c)), (2, .int (nI t))]) hx hb d_M_top_127 hl (k := 5) rfl ((nI_succ _).symm) (by decide) rfl (fun ls hl => ?_)
                refine lv_goto (tgt := 35) hx hb d_M_top_130 (by decide) ?_
                have el3 : mtS F J c t (o + 1) = mtS F J c t o := e3
                have hl : lv_has ls 7 [(5, .int (nI (o + 1))), (3, .long (mtS F J c t (o + 1))), (6, .int (nI 0)), (0, .ref (ad (64))), (1, .int (nI c)), (2, .int (nI t))] := by
                  have h9 := hl
                  revert h9; rw [show Value.long (mtS F J c t (o + 1)) = Value.long (mtS F J c t o) from congrArg _ el3]; intro h9
                  exact h9
                exact ih35 (o + 1) (by omega) (by omega) _ _ ls hw hS (lv_sub hl [3, 4, 5, 1, 0] rfl)
              · skip
                first | exact absurd c_98 (by decide) | exact absurd (by decide) c_98
            · skip
              have hft : F 5 8 o = nI t ∧ qFit F o c t := ⟨c_52, b2_1 c_86⟩
              refine lv_iconst (v := nI 1) hx hb d_M_top_89 (by decide) ?_
              refine lv_goto (tgt := 94) hx hb d_M_top_90 (by decide) ?_
              refine lv_istore (lv' := [(6, .int (nI 1)), (0, .ref (ad (64))), (1, .int (nI c)), (2, .int (nI t)), (3, .long (mtS F J c t o)), (5, .int (nI o))]) hx hb d_M_top_94 hl (by decide) rfl (fun ls hl => ?_)
              refine lv_iload hx hb d_M_top_96 (lv_at hl 0 rfl) ?_
              refine lv_if_eq (tgt := 125) hx hb d_M_top_98 (by decide) (fun c_98 => ?_) (fun c_98 => ?_)
              · skip
                first | exact absurd c_98 (by decide) | exact absurd (by decide) c_98
              · skip
                refine lv_aload_n hx hb d_M_top_101 rfl (lv_at hl 1 rfl) ?_
                refine nw_get hx hb hts i_M hown hK hw (64) (mW_64) rfl 18 (by decide) (hts _ kw_677) (fun _ h9 => h9) rfl d_M_top_102 ?_
                refine lv_iload hx hb d_M_top_105 (lv_at hl 5 rfl) ?_
                refine nw_iald hx hb hK hw (192) 0 (mW_row (t := 5) (j := 12) (by decide) (by decide) (rfl)) rfl (o) (rfl) (by omega) (by omega) d_M_top_107 ?_
                refine lv_ei (y := F 5 12 o) (congrFun (hsc 5 12 (by omega)) _) ?_
                refine lv_i2l (v := ((F 5 12 o).toInt64)) hx hb d_M_top_108 rfl ?_
                refine lv_lload_n hx hb d_M_top_109 rfl (lv_at hl 4 rfl) ?_
                refine W.lcmp hx hb d_M_top_110 ?_
                refine lv_if_le (tgt := 125) hx hb d_M_top_111 (by decide) (fun c_111 => ?_) (fun c_111 => ?_)
                · skip
                  have e3 : mtS F J c t (o + 1) = mtS F J c t o := mtS_f (fun h => Int64.not_le.mpr h.2 ((lg_cmp_le _ _).mp c_111))
                  refine lv_lload_n hx hb d_M_top_125 rfl (lv_at hl 4 rfl) ?_
                  refine lv_lstore_n (lv' := [(3, .long (mtS F J c t o)), (6, .int (nI 1)), (0, .ref (ad (64))), (1, .int (nI c)), (2, .int (nI t)), (5, .int (nI o))]) hx hb d_M_top_126 rfl hl (by decide) rfl (fun ls hl => ?_)
                  refine lv_iinc (v := nI (o + 1)) (lv' := [(5, .int (nI (o + 1))), (3, .long (mtS F J c t o)), (6, .int (nI 1)), (0, .ref (ad (64))), (1, .int (nI c)), (2, .int (nI t))]) hx hb d_M_top_127 hl (k := 5) rfl ((nI_succ _).symm) (by decide) rfl (fun ls hl => ?_)
                  refine lv_goto (tgt := 35) hx hb d_M_top_130 (by decide) ?_
                  have el3 : mtS F J c t (o + 1) = mtS F J c t o := e3
                  have hl : lv_has ls 7 [(5, .int (nI (o + 1))), (3, .long (mtS F J c t (o + 1))), (6, .int (nI 1)), (0, .ref (ad (64))), (1, .int (nI c)), (2, .int (nI t))] := by
                    have h9 := hl
                    revert h9; rw [show Value.long (mtS F J c t (o + 1)) = Value.long (mtS F J c t o) from congrArg _ el3]; intro h9
                    exact h9
                  exact ih35 (o + 1) (by omega) (by omega) _ _ ls hw hS (lv_sub hl [3, 4, 5, 1, 0] rfl)
                · skip
                  have e3 : mtS F J c t (o + 1) = (F 5 12 o).toInt64 := mtS_t ⟨hft, Int64.not_le.mp (fun h => c_111 ((lg_cmp_le _ _).mpr h))⟩
                  refine lv_aload_n hx hb d_M_top_114 rfl (lv_at hl 1 rfl) ?_
                  refine nw_get hx hb hts i_M hown hK hw (64) (mW_64) rfl 18 (by decide) (hts _ kw_677) (fun _ h9 => h9) rfl d_M_top_115 ?_
                  refine lv_iload hx hb d_M_top_118 (lv_at hl 5 rfl) ?_
                  refine nw_iald hx hb hK hw (192) 0 (mW_row (t := 5) (j := 12) (by decide) (by decide) (rfl)) rfl (o) (rfl) (by omega) (by omega) d_M_top_120 ?_
                  refine lv_ei (y := F 5 12 o) (congrFun (hsc 5 12 (by omega)) _) ?_
                  refine lv_i2l (v := ((F 5 12 o).toInt64)) hx hb d_M_top_121 rfl ?_
                  refine lv_goto (tgt := 126) hx hb d_M_top_122 (by decide) ?_
                  refine lv_lstore_n (lv' := [(3, .long (((F 5 12 o).toInt64))), (6, .int (nI 1)), (0, .ref (ad (64))), (1, .int (nI c)), (2, .int (nI t)), (5, .int (nI o))]) hx hb d_M_top_126 rfl hl (by decide) rfl (fun ls hl => ?_)
                  refine lv_iinc (v := nI (o + 1)) (lv' := [(5, .int (nI (o + 1))), (3, .long (((F 5 12 o).toInt64))), (6, .int (nI 1)), (0, .ref (ad (64))), (1, .int (nI c)), (2, .int (nI t))]) hx hb d_M_top_127 hl (k := 5) rfl ((nI_succ _).symm) (by decide) rfl (fun ls hl => ?_)
                  refine lv_goto (tgt := 35) hx hb d_M_top_130 (by decide) ?_
                  have el3 : mtS F J c t (o + 1) = ((F 5 12 o).toInt64) := e3
                  have hl : lv_has ls 7 [(5, .int (nI (o + 1))), (3, .long (mtS F J c t (o + 1))), (6, .int (nI 1)), (0, .ref (ad (64))), (1, .int (nI c)), (2, .int (nI t))] := by
                    have h9 := hl
                    revert h9; rw [show Value.long (mtS F J c t (o + 1)) = Value.long (((F 5 12 o).toInt64)) from congrArg _ el3]; intro h9
                    exact h9
                  exact ih35 (o + 1) (by omega) (by omega) _ _ ls hw hS (lv_sub hl [3, 4, 5, 1, 0] rfl)
    exact loop35 (n 4 + 1) (0) (by omega) (by omega) _ _ ls hw hS (lv_sub hl [2, 3, 4, 1, 0] rfl)
  · skip
    have htn : t = n 0 := (nI_eq (by omega) (by omega)).mp c_5
    refine lv_aload_n hx hb d_M_top_8 rfl (lv_at hl 0 rfl) ?_
    refine lv_iload_n hx hb d_M_top_9 rfl (lv_at hl 1 rfl) ?_
    refine lv_aload_n hx hb d_M_top_10 rfl (lv_at hl 0 rfl) ?_
    refine nw_get hx hb hts i_M hown hK hw (64) (mW_64) rfl 0 (by decide) (hts _ kw_659) (fun _ h9 => h9) rfl d_M_top_11 ?_
    refine lv_iconst (v := nI 1) hx hb d_M_top_14 (by decide) ?_
    refine lv_isub hx hb d_M_top_15 ?_
    refine lv_ei (y := nI (n 0 - 1)) (pk_sub (by omega)) ?_
    refine nw_callD (nw_goV (n := 2) (As := [.int (nI c), .int (nI (n 0 - 1))]) (rest := []) hSx hA hKs hw hS (c_M_kilos l D tC A ad n J bw L bX aY F S hsc hN c (n 0 - 1) (by omega) (by omega)) kw_792 kw_789 kw_791 ks_M_kilos kw_8 rfl rfl (by decide +kernel) ⟨Nat.le_of_ble_eq_true rfl, Nat.le_of_ble_eq_true rfl⟩ (nw_recv hK hw (mW_64) rfl) rfl hl.1 (Nat.le_of_ble_eq_true rfl) d_M_top_16 ⟨Nat.le_of_ble_eq_true rfl, Nat.le_of_ble_eq_true rfl⟩) hS (fun H locs hw hS => ?_)
    refine lv_aload_n hx hb d_M_top_19 rfl (lv_at hl 0 rfl) ?_
    refine nw_get hx hb hts i_M hown hK hw (64) (mW_64) rfl 20 (by decide) (hts _ kw_679) (fun _ h9 => h9) rfl d_M_top_20 ?_
    refine lv_i2l (v := ((J 2).toInt64)) hx hb d_M_top_23 rfl ?_
    refine lv_lmul hx hb d_M_top_24 ?_
    exact nw_lret hQ hx hb hr hlocks hw hS (nw_okL (by simp only [mtL]; rw [if_pos htn])) (Nat.le_of_ble_eq_true rfl) (Nat.le_of_ble_eq_true rfl) d_M_top_25

set_option maxHeartbeats 4000000 in
set_option maxRecDepth 100000 in
/-- the greatest of the tops -/
theorem c_M_greatestTop (l : Launch) (D : va_G) (tC : Nat → ClassId) (A : Nat → Prop) (ad : Nat → Nat) (n : Nat → Nat) (J : Nat → Int32) (bw : Int64) (L : Nat → Nat → Int64) (bX : Nat → Option va_E) (aY : Nat → Nat → Option (ClassId × Nat)) (F S : Nat → Nat → Nat → Int32) (hsc : scm F S) (hN : hpN n) (c : Nat) (hc : c < n 2) : nw_Met l y_M_greatestTop [Cond.code y_M_greatestTop b_M_greatestTop 5 (some .long)] ({ frames := 2, cells := 0, slots := 0, locals := 51 } : Room) D hpC A [.ref (ad (64)), .int (nI c)] (nw_pre D hpC (hpT tC) A (mW ad tC n J bw L bX aY S) ad) (nw_ok (some (.long (mgS n J F c (n 0 + 1)))) (mW ad tC n J bw L bX aY S) ad) 0 0 := by
  refine nw_bodyK (by decide) (Nat.le_of_ble_eq_true rfl) ?_
  intro p e s m below meth cd ls args Q hSx hr hlocks hname hA hKs hw hS hl hQ
  obtain ⟨hx, hb, hml, hown, hts⟩ := id hSx
  have hK := hKs.1
  have hl : lv_has ls 5 [(0, .ref (ad (64))), (1, .int (nI c))] := hl
  obtain ⟨hn0, hn0', hn1, hn2, hn3, hn4⟩ := id hN
  refine lv_lconst (v := 0) hx hb d_M_greatestTop_0 (by decide) ?_
  refine lv_lstore_n (lv' := [(2, .long (0)), (0, .ref (ad (64))), (1, .int (nI c))]) hx hb d_M_greatestTop_1 rfl hl (by decide) rfl (fun ls hl => ?_)
  refine lv_iconst (v := nI 0) hx hb d_M_greatestTop_2 (by decide) ?_
  refine lv_istore (lv' := [(4, .int (nI 0)), (2, .long (0)), (0, .ref (ad (64))), (1, .int (nI c))]) hx hb d_M_greatestTop_3 hl (by decide) rfl (fun ls hl => ?_)
  have loop5 : ∀ (k t : Nat), t ≤ (n 0 + 1) → (n 0 + 1) + 1 ≤ t + k → ∀ (H : Heap) (locs : List Loc) (ls : Array Slot), nw_W D hpC A (mW ad tC n J bw L bX aY S) ad H → va_S A s.heap H locs → lv_has ls 5 [(0, .ref (ad (64))), (1, .int (nI c)), (2, .long (mgS n J F c t)), (4, .int (nI t))] → W p l e ({ frames := 2, cells := 0, slots := 0, locals := 51 } : Room) s m args below meth cd H locs 0 0 Q (F0 m 5 ls []) := by
    intro k
    induction k with
    | zero => intro t h1 h2; exact absurd h2 (by omega)
    | succ k ih5 =>
      intro t hv5 hk5 H locs ls hw hS hl
      refine lv_iload hx hb d_M_greatestTop_5 (lv_at hl 3 rfl) ?_
      refine lv_aload_n hx hb d_M_greatestTop_7 rfl (lv_at hl 0 rfl) ?_
      refine nw_get hx hb hts i_M hown hK hw (64) (mW_64) rfl 0 (by decide) (hts _ kw_659) (fun _ h9 => h9) rfl d_M_greatestTop_8 ?_
      refine lv_icmp_gt (tgt := 44) hx hb d_M_greatestTop_11 (by decide) (fun c_11 => ?_) (fun c_11 => ?_)
      · skip
        have hgt11 : n 0 < t := (nI_ltI (by omega) (by omega)).mp c_11
        obtain rfl : n 0 + 1 = t := by omega
        refine lv_lload_n hx hb d_M_greatestTop_44 rfl (lv_at hl 2 rfl) ?_
        exact nw_lret hQ hx hb hr hlocks hw hS (nw_okL rfl) (Nat.le_of_ble_eq_true rfl) (Nat.le_of_ble_eq_true rfl) d_M_greatestTop_45
      · skip
        have htn : t ≤ n 0 := Nat.not_lt.mp (fun q => c_11 (nI_lt q (by omega)))
        refine lv_aload_n hx hb d_M_greatestTop_14 rfl (lv_at hl 0 rfl) ?_
        refine lv_iload_n hx hb d_M_greatestTop_15 rfl (lv_at hl 1 rfl) ?_
        refine lv_iload hx hb d_M_greatestTop_16 (lv_at hl 3 rfl) ?_
        refine nw_callD (nw_goV (n := 2) (As := [.int (nI c), .int (nI t)]) (rest := []) hSx hA hKs hw hS (c_M_top l D tC A ad n J bw L bX aY F S hsc hN c t (by omega) (by omega)) kw_875 kw_872 kw_874 ks_M_top kw_8 rfl rfl (by decide +kernel) ⟨Nat.le_of_ble_eq_true rfl, Nat.le_of_ble_eq_true rfl⟩ (nw_recv hK hw (mW_64) rfl) rfl hl.1 (Nat.le_of_ble_eq_true rfl) d_M_greatestTop_18 ⟨Nat.le_of_ble_eq_true rfl, Nat.le_of_ble_eq_true rfl⟩) hS (fun H locs hw hS => ?_)
        refine lv_lload_n hx hb d_M_greatestTop_21 rfl (lv_at hl 2 rfl) ?_
        refine W.lcmp hx hb d_M_greatestTop_22 ?_
        refine lv_if_le (tgt := 36) hx hb d_M_greatestTop_23 (by decide) (fun c_23 => ?_) (fun c_23 => ?_)
        · skip
          have e2 : mgS n J F c (t + 1) = mgS n J F c t := by simp only [mgS]; rw [if_neg (Int64.not_lt.mpr ((lg_cmp_le _ _).mp c_23))]
          refine lv_lload_n hx hb d_M_greatestTop_36 rfl (lv_at hl 2 rfl) ?_
          refine lv_lstore_n (lv' := [(2, .long (mgS n J F c t)), (0, .ref (ad (64))), (1, .int (nI c)), (4, .int (nI t))]) hx hb d_M_greatestTop_37 rfl hl (by decide) rfl (fun ls hl => ?_)
          refine lv_iinc (v := nI (t + 1)) (lv' := [(4, .int (nI (t + 1))), (2, .long (mgS n J F c t)), (0, .ref (ad (64))), (1, .int (nI c))]) hx hb d_M_greatestTop_38 hl (k := 3) rfl ((nI_succ _).symm) (by decide) rfl (fun ls hl => ?_)
          refine lv_goto (tgt := 5) hx hb d_M_greatestTop_41 (by decide) ?_
          have el2 : mgS n J F c (t + 1) = mgS n J F c t := e2
          have hl : lv_has ls 5 [(4, .int (nI (t + 1))), (2, .long (mgS n J F c (t + 1))), (0, .ref (ad (64))), (1, .int (nI c))] := by
            have h9 := hl
            revert h9; rw [show Value.long (mgS n J F c (t + 1)) = Value.long (mgS n J F c t) from congrArg _ el2]; intro h9
            exact h9
          exact ih5 (t + 1) (by omega) (by omega) _ _ ls hw hS (lv_sub hl [2, 3, 1, 0] rfl)
        · skip
          have e2 : mgS n J F c (t + 1) = mtL n J F c t := by simp only [mgS]; rw [if_pos (Int64.not_le.mp (fun h => c_23 ((lg_cmp_le _ _).mpr h)))]
          refine lv_aload_n hx hb d_M_greatestTop_26 rfl (lv_at hl 0 rfl) ?_
          refine lv_iload_n hx hb d_M_greatestTop_27 rfl (lv_at hl 1 rfl) ?_
          refine lv_iload hx hb d_M_greatestTop_28 (lv_at hl 3 rfl) ?_
          refine nw_callD (nw_goV (n := 2) (As := [.int (nI c), .int (nI t)]) (rest := []) hSx hA hKs hw hS (c_M_top l D tC A ad n J bw L bX aY F S hsc hN c t (by omega) (by omega)) kw_875 kw_872 kw_874 ks_M_top kw_8 rfl rfl (by decide +kernel) ⟨Nat.le_of_ble_eq_true rfl, Nat.le_of_ble_eq_true rfl⟩ (nw_recv hK hw (mW_64) rfl) rfl hl.1 (Nat.le_of_ble_eq_true rfl) d_M_greatestTop_30 ⟨Nat.le_of_ble_eq_true rfl, Nat.le_of_ble_eq_true rfl⟩) hS (fun H locs hw hS => ?_)
          refine lv_goto (tgt := 37) hx hb d_M_greatestTop_33 (by decide) ?_
          refine lv_lstore_n (lv' := [(2, .long (mtL n J F c t)), (0, .ref (ad (64))), (1, .int (nI c)), (4, .int (nI t))]) hx hb d_M_greatestTop_37 rfl hl (by decide) rfl (fun ls hl => ?_)
          refine lv_iinc (v := nI (t + 1)) (lv' := [(4, .int (nI (t + 1))), (2, .long (mtL n J F c t)), (0, .ref (ad (64))), (1, .int (nI c))]) hx hb d_M_greatestTop_38 hl (k := 3) rfl ((nI_succ _).symm) (by decide) rfl (fun ls hl => ?_)
          refine lv_goto (tgt := 5) hx hb d_M_greatestTop_41 (by decide) ?_
          have el2 : mgS n J F c (t + 1) = mtL n J F c t := e2
          have hl : lv_has ls 5 [(4, .int (nI (t + 1))), (2, .long (mgS n J F c (t + 1))), (0, .ref (ad (64))), (1, .int (nI c))] := by
            have h9 := hl
            revert h9; rw [show Value.long (mgS n J F c (t + 1)) = Value.long (mtL n J F c t) from congrArg _ el2]; intro h9
            exact h9
          exact ih5 (t + 1) (by omega) (by omega) _ _ ls hw hS (lv_sub hl [2, 3, 1, 0] rfl)
  exact loop5 ((n 0 + 1) + 1) (0) (by omega) (by omega) _ _ ls hw hS (lv_sub hl [2, 3, 1, 0] rfl)

set_option maxHeartbeats 4000000 in
set_option maxRecDepth 100000 in
/-- THE HOPE -/
theorem c_M_hopeOf (l : Launch) (D : va_G) (tC : Nat → ClassId) (A : Nat → Prop) (ad : Nat → Nat) (n : Nat → Nat) (J : Nat → Int32) (bw : Int64) (L : Nat → Nat → Int64) (bX : Nat → Option va_E) (aY : Nat → Nat → Option (ClassId × Nat)) (F S : Nat → Nat → Nat → Int32) (hsc : scm F S) (hN : hpN n) (many : Nat) (hmany : many ≤ n 2) (tn : Nat → Nat) (hTn : ∀ c, c < many → F 5 14 c = nI (tn c) ∧ tn c ≤ n 0) : nw_Met l y_M_hopeOf [Cond.code y_M_hopeOf b_M_hopeOf 5 (some .long)] ({ frames := 3, cells := 0, slots := 0, locals := 75 } : Room) D hpC A [.ref (ad (64)), .int (nI many)] (nw_pre D hpC (hpT tC) A (mW ad tC n J bw L bX aY S) ad) (nw_ok (some (.long (moS n J F tn many (n 2)))) (mW ad tC n J bw L bX aY S) ad) 0 0 := by
  refine nw_bodyK (by decide) (Nat.le_of_ble_eq_true rfl) ?_
  intro p e s m below meth cd ls args Q hSx hr hlocks hname hA hKs hw hS hl hQ
  obtain ⟨hx, hb, hml, hown, hts⟩ := id hSx
  have hK := hKs.1
  have hl : lv_has ls 5 [(0, .ref (ad (64))), (1, .int (nI many))] := hl
  obtain ⟨hn0, hn0', hn1, hn2, hn3, hn4⟩ := id hN
  refine lv_lconst (v := 0) hx hb d_M_hopeOf_0 (by decide) ?_
  refine lv_lstore_n (lv' := [(2, .long (0)), (0, .ref (ad (64))), (1, .int (nI many))]) hx hb d_M_hopeOf_1 rfl hl (by decide) rfl (fun ls hl => ?_)
  refine lv_iconst (v := nI 0) hx hb d_M_hopeOf_2 (by decide) ?_
  refine lv_istore (lv' := [(4, .int (nI 0)), (2, .long (0)), (0, .ref (ad (64))), (1, .int (nI many))]) hx hb d_M_hopeOf_3 hl (by decide) rfl (fun ls hl => ?_)
  have loop5 : ∀ (k c : Nat), c ≤ n 2 → n 2 + 1 ≤ c + k → ∀ (H : Heap) (locs : List Loc) (ls : Array Slot), nw_W D hpC A (mW ad tC n J bw L bX aY S) ad H → va_S A s.heap H locs → lv_has ls 5 [(0, .ref (ad (64))), (1, .int (nI many)), (2, .long (moS n J F tn many c)), (4, .int (nI c))] → W p l e ({ frames := 3, cells := 0, slots := 0, locals := 75 } : Room) s m args below meth cd H locs 0 0 Q (F0 m 5 ls []) := by
    intro k
    induction k with
    | zero => intro c h1 h2; exact absurd h2 (by omega)
    | succ k ih5 =>
      intro c hv5 hk5 H locs ls hw hS hl
      refine lv_iload hx hb d_M_hopeOf_5 (lv_at hl 3 rfl) ?_
      refine lv_aload_n hx hb d_M_hopeOf_7 rfl (lv_at hl 0 rfl) ?_
      refine nw_get hx hb hts i_M hown hK hw (64) (mW_64) rfl 5 (by decide) (hts _ kw_664) (fun _ h9 => h9) rfl d_M_hopeOf_8 ?_
      refine lv_icmp_ge (tgt := 51) hx hb d_M_hopeOf_11 (by decide) (fun c_11 => ?_) (fun c_11 => ?_)
      · skip
        have hge11 : n 2 ≤ c := (nI_leI (by omega) (by omega)).mp c_11
        obtain rfl : n 2 = c := by omega
        refine lv_lload_n hx hb d_M_hopeOf_51 rfl (lv_at hl 2 rfl) ?_
        exact nw_lret hQ hx hb hr hlocks hw hS (nw_okL rfl) (Nat.le_of_ble_eq_true rfl) (Nat.le_of_ble_eq_true rfl) d_M_hopeOf_52
      · skip
        have hlt : c < n 2 := Nat.not_le.mp (fun q => c_11 (nI_le q (by omega)))
        refine lv_lload_n hx hb d_M_hopeOf_14 rfl (lv_at hl 2 rfl) ?_
        refine lv_iload hx hb d_M_hopeOf_15 (lv_at hl 3 rfl) ?_
        refine lv_iload_n hx hb d_M_hopeOf_17 rfl (lv_at hl 1 rfl) ?_
        refine lv_icmp_ge (tgt := 37) hx hb d_M_hopeOf_18 (by decide) (fun c_18 => ?_) (fun c_18 => ?_)
        · skip
          have e2 : moS n J F tn many (c + 1) = moS n J F tn many c + mgS n J F c (n 0 + 1) := moS_f (Nat.not_lt.mpr ((nI_leI (by omega) (by omega)).mp c_18))
          refine lv_aload_n hx hb d_M_hopeOf_37 rfl (lv_at hl 0 rfl) ?_
          refine lv_iload hx hb d_M_hopeOf_38 (lv_at hl 3 rfl) ?_
          refine nw_callD (nw_goV (n := 1) (As := [.int (nI c)]) (rest := [.long (moS n J F tn many c)]) hSx hA hKs hw hS (c_M_greatestTop l D tC A ad n J bw L bX aY F S hsc hN c (by omega)) kw_879 kw_876 kw_878 ks_M_greatestTop kw_8 rfl rfl (by decide +kernel) ⟨Nat.le_of_ble_eq_true rfl, Nat.le_of_ble_eq_true rfl⟩ (nw_recv hK hw (mW_64) rfl) rfl hl.1 (Nat.le_of_ble_eq_true rfl) d_M_hopeOf_40 ⟨Nat.le_of_ble_eq_true rfl, Nat.le_of_ble_eq_true rfl⟩) hS (fun H locs hw hS => ?_)
          refine lv_ladd hx hb d_M_hopeOf_43 ?_
          refine lv_lstore_n (lv' := [(2, .long (((moS n J F tn many c) + (mgS n J F c (n 0 + 1))))), (0, .ref (ad (64))), (1, .int (nI many)), (4, .int (nI c))]) hx hb d_M_hopeOf_44 rfl hl (by decide) rfl (fun ls hl => ?_)
          refine lv_iinc (v := nI (c + 1)) (lv' := [(4, .int (nI (c + 1))), (2, .long (((moS n J F tn many c) + (mgS n J F c (n 0 + 1))))), (0, .ref (ad (64))), (1, .int (nI many))]) hx hb d_M_hopeOf_45 hl (k := 3) rfl ((nI_succ _).symm) (by decide) rfl (fun ls hl => ?_)
          refine lv_goto (tgt := 5) hx hb d_M_hopeOf_48 (by decide) ?_
          have el2 : moS n J F tn many (c + 1) = ((moS n J F tn many c) + (mgS n J F c (n 0 + 1))) := e2
          have hl : lv_has ls 5 [(4, .int (nI (c + 1))), (2, .long (moS n J F tn many (c + 1))), (0, .ref (ad (64))), (1, .int (nI many))] := by
            have h9 := hl
            revert h9; rw [show Value.long (moS n J F tn many (c + 1)) = Value.long (((moS n J F tn many c) + (mgS n J F c (n 0 + 1)))) from congrArg _ el2]; intro h9
            exact h9
          exact ih5 (c + 1) (by omega) (by omega) _ _ ls hw hS (lv_sub hl [2, 3, 1, 0] rfl)
        · skip
          have hcm : c < many := Nat.not_le.mp (fun q => c_18 (nI_le q (by omega)))
          have e2 : moS n J F tn many (c + 1) = moS n J F tn many c + mtL n J F c (tn c) := moS_t hcm
          refine lv_aload_n hx hb d_M_hopeOf_21 rfl (lv_at hl 0 rfl) ?_
          refine lv_iload hx hb d_M_hopeOf_22 (lv_at hl 3 rfl) ?_
          refine lv_aload_n hx hb d_M_hopeOf_24 rfl (lv_at hl 0 rfl) ?_
          refine nw_get hx hb hts i_M hown hK hw (64) (mW_64) rfl 24 (by decide) (hts _ kw_683) (fun _ h9 => h9) rfl d_M_hopeOf_25 ?_
          refine lv_iload hx hb d_M_hopeOf_28 (lv_at hl 3 rfl) ?_
          refine nw_iald hx hb hK hw (194) 0 (mW_row (t := 5) (j := 14) (by decide) (by decide) (rfl)) rfl (c) (rfl) (by omega) (by omega) d_M_hopeOf_30 ?_
          refine lv_ei (y := F 5 14 c) (congrFun (hsc 5 14 (by omega)) _) ?_
          refine lv_ei (y := nI (tn c)) ((hTn c (by omega)).1) ?_
          refine nw_callD (nw_goV (n := 2) (As := [.int (nI c), .int (nI (tn c))]) (rest := [.long (moS n J F tn many c)]) hSx hA hKs hw hS (c_M_top l D tC A ad n J bw L bX aY F S hsc hN c (tn c) (by omega) ((hTn c (by omega)).2)) kw_875 kw_872 kw_874 ks_M_top kw_8 rfl rfl (by decide +kernel) ⟨Nat.le_of_ble_eq_true rfl, Nat.le_of_ble_eq_true rfl⟩ (nw_recv hK hw (mW_64) rfl) rfl hl.1 (Nat.le_of_ble_eq_true rfl) d_M_hopeOf_31 ⟨Nat.le_of_ble_eq_true rfl, Nat.le_of_ble_eq_true rfl⟩) hS (fun H locs hw hS => ?_)
          refine lv_goto (tgt := 43) hx hb d_M_hopeOf_34 (by decide) ?_
          refine lv_ladd hx hb d_M_hopeOf_43 ?_
          refine lv_lstore_n (lv' := [(2, .long (((moS n J F tn many c) + (mtL n J F c (tn c))))), (0, .ref (ad (64))), (1, .int (nI many)), (4, .int (nI c))]) hx hb d_M_hopeOf_44 rfl hl (by decide) rfl (fun ls hl => ?_)
          refine lv_iinc (v := nI (c + 1)) (lv' := [(4, .int (nI (c + 1))), (2, .long (((moS n J F tn many c) + (mtL n J F c (tn c))))), (0, .ref (ad (64))), (1, .int (nI many))]) hx hb d_M_hopeOf_45 hl (k := 3) rfl ((nI_succ _).symm) (by decide) rfl (fun ls hl => ?_)
          refine lv_goto (tgt := 5) hx hb d_M_hopeOf_48 (by decide) ?_
          have el2 : moS n J F tn many (c + 1) = ((moS n J F tn many c) + (mtL n J F c (tn c))) := e2
          have hl : lv_has ls 5 [(4, .int (nI (c + 1))), (2, .long (moS n J F tn many (c + 1))), (0, .ref (ad (64))), (1, .int (nI many))] := by
            have h9 := hl
            revert h9; rw [show Value.long (moS n J F tn many (c + 1)) = Value.long (((moS n J F tn many c) + (mtL n J F c (tn c)))) from congrArg _ el2]; intro h9
            exact h9
          exact ih5 (c + 1) (by omega) (by omega) _ _ ls hw hS (lv_sub hl [2, 3, 1, 0] rfl)
  exact loop5 (n 2 + 1) (0) (by omega) (by omega) _ _ ls hw hS (lv_sub hl [2, 3, 1, 0] rfl)
