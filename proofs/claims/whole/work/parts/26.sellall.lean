set_option maxHeartbeats 4000000 in
set_option maxRecDepth 100000 in
/-- THE WORTH of a plan -/
theorem c_Sales_sellAll (l : Launch) (D : va_G) (tC : Nat → ClassId) (A : Nat → Prop) (ad : Nat → Nat) (n : Nat → Nat) (I : Nat → Nat → Int32) (K : Nat → Int32) (bw : Int64) (LA : Nat → Int64) (bM : Nat → Option va_E) (aM : Nat → Nat → Option (ClassId × Nat)) (S0 S : Nat → Nat → Nat → Int32) (hsc : scr S0 S) (hN : hpN n) (r : Nat) (hr0 : r = 0 ∨ r = 9) (hPl : okT n (S0 0 r)) (ow : Nat → Nat) (hO : ∀ o, o < n 4 → I 4 o = nI (ow o) ∧ ow o < n 0) (sq : Nat → Nat) (hSq : ∀ k, k < n 4 → S0 0 1 k = nI (sq k) ∧ sq k < n 4) (hSo : ∀ q, q < n 4 → ∃ j, j < n 4 ∧ sq j = q) : nw_Met l y_Sales_sellAll [Cond.code y_Sales_sellAll b_Sales_sellAll 6 (some .long)] ({ frames := 2, cells := 0, slots := 0, locals := 47 } : Room) D hpC A [.ref (ad (3)), .ref (ad (100 + r))] (nw_pre D hpC (hpT tC) A (hW ad tC n I K bw LA bM aM S) ad) (nw_sx (some (.long (wrL n I ow sq S0 (S0 0 r)))) (fun S' => hW ad tC n I K bw LA bM aM S') S0 ad (fun S' => ∀ q, q < n 4 → S' 0 8 q = (saF n I ow sq S0 (S0 0 r)).2.1 q)) 0 0 := by
  refine nw_bodyK (by decide) (Nat.le_of_ble_eq_true rfl) ?_
  intro p e s m below meth cd ls args Q hSx hr hlocks hname hA hKs hw hS hl hQ
  obtain ⟨hx, hb, hml, hown, hts⟩ := id hSx
  have hK := hKs.1
  have hl : lv_has ls 6 [(0, .ref (ad (3))), (1, .ref (ad (100 + r)))] := hl
  obtain ⟨hn0, hn0', hn1, hn2, hn3, hn4⟩ := id hN
  refine lv_iconst (v := nI 0) hx hb d_Sales_sellAll_0 (by decide) ?_
  refine lv_istore_n (lv' := [(2, .int (nI 0)), (0, .ref (ad (3))), (1, .ref (ad (100 + r)))]) hx hb d_Sales_sellAll_1 rfl hl (by decide) rfl (fun ls hl => ?_)
  have hw := nw_W.as (wn' := hW ad tC n I K bw LA bM aM (upR S 0 7 (lfA (S0 0 r) (S0 3) (pwF (S0 0 r)) (S 0 7) 0))) hw (by rw [show lfA (S0 0 r) (S0 3) (pwF (S0 0 r)) (S 0 7) 0 = S 0 7 from rfl, upR_same])
  have loop2 : ∀ (k c : Nat), c ≤ n 2 → n 2 + 1 ≤ c + k → ∀ (H : Heap) (locs : List Loc) (ls : Array Slot), nw_W D hpC A (hW ad tC n I K bw LA bM aM (upR S 0 7 (lfA (S0 0 r) (S0 3) (pwF (S0 0 r)) (S 0 7) c))) ad H → va_S A s.heap H locs → lv_has ls 6 [(0, .ref (ad (3))), (1, .ref (ad (100 + r))), (2, .int (nI c))] → W p l e ({ frames := 2, cells := 0, slots := 0, locals := 47 } : Room) s m args below meth cd H locs 0 0 Q (F0 m 2 ls []) := by
    intro k
    induction k with
    | zero => intro c h1 h2; exact absurd h2 (by omega)
    | succ k ih2 =>
      intro c hv2 hk2 H locs ls hw hS hl
      refine lv_iload_n hx hb d_Sales_sellAll_2 rfl (lv_at hl 2 rfl) ?_
      refine lv_aload_n hx hb d_Sales_sellAll_3 rfl (lv_at hl 0 rfl) ?_
      refine nw_get hx hb hts i_Sales hown hK hw (3) (hW_3) rfl 0 (by decide) (hts _ kw_143) (fun _ h9 => h9) rfl d_Sales_sellAll_4 ?_
      refine nw_getN hx hb hts i_Farm hown hK hw (1) (hW_1) rfl 8 (by decide) (va_Nw.use rfl (hKs.2.2 _ kn_71 rfl)) (fun _ h9 => h9) rfl d_Sales_sellAll_7 ?_
      refine lv_icmp_ge (tgt := 52) hx hb d_Sales_sellAll_10 (by decide) (fun c_10 => ?_) (fun c_10 => ?_)
      · skip
        have hge10 : n 2 ≤ c := (nI_leI (by omega) (by omega)).mp c_10
        obtain rfl : n 2 = c := by omega
        refine lv_lconst (v := 0) hx hb d_Sales_sellAll_52 (by decide) ?_
        refine lv_lstore_n (lv' := [(2, .long (0)), (0, .ref (ad (3))), (1, .ref (ad (100 + r)))]) hx hb d_Sales_sellAll_53 rfl hl (by decide) rfl (fun ls hl => ?_)
        refine lv_iconst (v := nI 0) hx hb d_Sales_sellAll_54 (by decide) ?_
        refine lv_istore (lv' := [(4, .int (nI 0)), (2, .long (0)), (0, .ref (ad (3))), (1, .ref (ad (100 + r)))]) hx hb d_Sales_sellAll_55 hl (by decide) rfl (fun ls hl => ?_)
        have hw := nw_W.as (wn' := hW ad tC n I K bw LA bM aM (upR (upR S 0 7 ((saS n I ow sq S0 (S0 0 r) (lfA (S0 0 r) (S0 3) (pwF (S0 0 r)) (S 0 7) (n 2)) (S 0 8) 0).1)) 0 8 ((saS n I ow sq S0 (S0 0 r) (lfA (S0 0 r) (S0 3) (pwF (S0 0 r)) (S 0 7) (n 2)) (S 0 8) 0).2.1))) hw (by rw [upR_same2 (show (saS n I ow sq S0 (S0 0 r) (lfA (S0 0 r) (S0 3) (pwF (S0 0 r)) (S 0 7) (n 2)) (S 0 8) 0).2.1 = (upR S 0 7 (saS n I ow sq S0 (S0 0 r) (lfA (S0 0 r) (S0 3) (pwF (S0 0 r)) (S 0 7) (n 2)) (S 0 8) 0).1) 0 8 from (upR_ne (by omega)).symm)]; rfl)
        have loop57 : ∀ (k rk : Nat), rk ≤ n 4 → n 4 + 1 ≤ rk + k → ∀ (H : Heap) (locs : List Loc) (ls : Array Slot), nw_W D hpC A (hW ad tC n I K bw LA bM aM (upR (upR S 0 7 ((saS n I ow sq S0 (S0 0 r) (lfA (S0 0 r) (S0 3) (pwF (S0 0 r)) (S 0 7) (n 2)) (S 0 8) rk).1)) 0 8 ((saS n I ow sq S0 (S0 0 r) (lfA (S0 0 r) (S0 3) (pwF (S0 0 r)) (S 0 7) (n 2)) (S 0 8) rk).2.1))) ad H → va_S A s.heap H locs → lv_has ls 6 [(0, .ref (ad (3))), (1, .ref (ad (100 + r))), (2, .long ((saS n I ow sq S0 (S0 0 r) (lfA (S0 0 r) (S0 3) (pwF (S0 0 r)) (S 0 7) (n 2)) (S 0 8) rk).2.2)), (4, .int (nI rk))] → W p l e ({ frames := 2, cells := 0, slots := 0, locals := 47 } : Room) s m args below meth cd H locs 0 0 Q (F0 m 57 ls []) := by
          intro k
          induction k with
          | zero => intro rk h1 h2; exact absurd h2 (by omega)
          | succ k ih57 =>
            intro rk hv57 hk57 H locs ls hw hS hl
            refine lv_iload hx hb d_Sales_sellAll_57 (lv_at hl 3 rfl) ?_
            refine lv_aload_n hx hb d_Sales_sellAll_59 rfl (lv_at hl 0 rfl) ?_
            refine nw_get hx hb hts i_Sales hown hK hw (3) (hW_3) rfl 0 (by decide) (hts _ kw_143) (fun _ h9 => h9) rfl d_Sales_sellAll_60 ?_
            refine nw_getN hx hb hts i_Farm hown hK hw (1) (hW_1) rfl 10 (by decide) (va_Nw.use rfl (hKs.2.2 _ kn_79 rfl)) (fun _ h9 => h9) rfl d_Sales_sellAll_63 ?_
            refine lv_icmp_ge (tgt := 135) hx hb d_Sales_sellAll_66 (by decide) (fun c_66 => ?_) (fun c_66 => ?_)
            · skip
              have hge66 : n 4 ≤ rk := (nI_leI (by omega) (by omega)).mp c_66
              obtain rfl : n 4 = rk := by omega
              refine lv_lload_n hx hb d_Sales_sellAll_135 rfl (lv_at hl 2 rfl) ?_
              refine lv_aload_n hx hb d_Sales_sellAll_136 rfl (lv_at hl 0 rfl) ?_
              refine lv_aload_n hx hb d_Sales_sellAll_137 rfl (lv_at hl 1 rfl) ?_
              refine nw_callD (nw_goV (n := 1) (As := [.ref (ad (100 + r))]) (rest := [.long ((saS n I ow sq S0 (S0 0 r) (lfA (S0 0 r) (S0 3) (pwF (S0 0 r)) (S 0 7) (n 2)) (S 0 8) (n 4)).2.2)]) hSx hA hKs hw hS (c_Sales_priceOfRest l D tC A ad n I K bw LA bM aM S0 (upR (upR S 0 7 ((saS n I ow sq S0 (S0 0 r) (lfA (S0 0 r) (S0 3) (pwF (S0 0 r)) (S 0 7) (n 2)) (S 0 8) (n 4)).1)) 0 8 ((saS n I ow sq S0 (S0 0 r) (lfA (S0 0 r) (S0 3) (pwF (S0 0 r)) (S 0 7) (n 2)) (S 0 8) (n 4)).2.1)) (scr_up (scr_up hsc (by omega)) (by omega)) hN r hr0) kw_564 kw_561 kw_563 ks_Sales_priceOfRest kw_5 rfl rfl (by decide +kernel) ⟨Nat.le_of_ble_eq_true rfl, Nat.le_of_ble_eq_true rfl⟩ (nw_recv hK hw (hW_3) rfl) rfl hl.1 (Nat.le_of_ble_eq_true rfl) d_Sales_sellAll_138 ⟨Nat.le_of_ble_eq_true rfl, Nat.le_of_ble_eq_true rfl⟩) hS (fun H locs hw hS => ?_)
              refine lv_el (y := prS n I S0 (S0 0 r) (saS n I ow sq S0 (S0 0 r) (lfA (S0 0 r) (S0 3) (pwF (S0 0 r)) (S 0 7) (n 2)) (S 0 8) (n 4)).1 (n 2)) (by rw [upR_ne (by omega), upR_self]) ?_
              refine lv_ladd hx hb d_Sales_sellAll_141 ?_
              exact nw_lret hQ hx hb hr hlocks hw hS (nw_sxL (scr_up (scr_up hsc (by omega)) (by omega)) (fun q hq => by rw [upR_self]; exact sd_base (hSo q hq)) wr_base) (Nat.le_of_ble_eq_true rfl) (Nat.le_of_ble_eq_true rfl) d_Sales_sellAll_142
            · skip
              have hlt : rk < n 4 := Nat.not_le.mp (fun q => c_66 (nI_le q (by omega)))
              refine lv_aload_n hx hb d_Sales_sellAll_69 rfl (lv_at hl 0 rfl) ?_
              refine nw_get hx hb hts i_Sales hown hK hw (3) (hW_3) rfl 0 (by decide) (hts _ kw_143) (fun _ h9 => h9) rfl d_Sales_sellAll_70 ?_
              refine nw_getN hx hb hts i_Farm hown hK hw (1) (hW_1) rfl 5 (by decide) (va_Nw.use rfl (hKs.2.2 _ kn_64 rfl)) (fun _ h9 => h9) rfl d_Sales_sellAll_73 ?_
              refine lv_iload hx hb d_Sales_sellAll_76 (lv_at hl 3 rfl) ?_
              refine nw_iald hx hb hK hw (101) 0 (hW_row (t := 0) (j := 1) (by decide) (by omega) (rfl)) rfl (rk) (rfl) (by omega) (by omega) d_Sales_sellAll_78 ?_
              refine lv_ei (y := S0 0 1 rk) (congrFun ((scr_up (scr_up hsc (by omega)) (by omega)) 0 1 (by omega)) _) ?_
              refine lv_ei (y := nI (sq rk)) ((hSq rk (by omega)).1) ?_
              have hsq := (hSq rk (by omega)).2
              refine lv_istore (lv' := [(5, .int (nI (sq rk))), (0, .ref (ad (3))), (1, .ref (ad (100 + r))), (2, .long ((saS n I ow sq S0 (S0 0 r) (lfA (S0 0 r) (S0 3) (pwF (S0 0 r)) (S 0 7) (n 2)) (S 0 8) rk).2.2)), (4, .int (nI rk))]) hx hb d_Sales_sellAll_79 hl (by decide) rfl (fun ls hl => ?_)
              refine lv_aload_n hx hb d_Sales_sellAll_81 rfl (lv_at hl 1 rfl) ?_
              refine nw_get hx hb hts i_Sales hown hK hw (3) (hW_3) rfl 2 (by decide) (hts _ kw_145) (fun _ h9 => h9) rfl d_Sales_sellAll_82 ?_
              refine lv_iload hx hb d_Sales_sellAll_85 (lv_at hl 0 rfl) ?_
              refine lv_aload_n hx hb d_Sales_sellAll_87 rfl (lv_at hl 1 rfl) ?_
              refine lv_aload_n hx hb d_Sales_sellAll_88 rfl (lv_at hl 1 rfl) ?_
              refine nw_get hx hb hts i_Sales hown hK hw (3) (hW_3) rfl 0 (by decide) (hts _ kw_143) (fun _ h9 => h9) rfl d_Sales_sellAll_89 ?_
              refine nw_getN hx hb hts i_Farm hown hK hw (1) (hW_1) rfl 4 (by decide) (va_Nw.use rfl (hKs.2.2 _ kn_62 rfl)) (fun _ h9 => h9) rfl d_Sales_sellAll_92 ?_
              refine lv_iload hx hb d_Sales_sellAll_95 (lv_at hl 0 rfl) ?_
              refine nw_aald hx hb hK hw (9) 6 (hW_9) rfl (sq rk) (rfl) (by omega) (by omega) (y := ad (48 + (sq rk))) (if_pos (by omega)) d_Sales_sellAll_97 ?_
              refine lv_aload_n hx hb d_Sales_sellAll_98 rfl (lv_at hl 2 rfl) ?_
              refine nw_callD (nw_goV (n := 2) (As := [.ref (ad (48 + (sq rk))), .ref (ad (100 + r))]) (rest := [.int (nI (sq rk)), .ref (ad (108))]) hSx hA hKs hw hS (c_Sales_serve l D tC A ad n I K bw LA bM aM S0 (upR (upR S 0 7 ((saS n I ow sq S0 (S0 0 r) (lfA (S0 0 r) (S0 3) (pwF (S0 0 r)) (S 0 7) (n 2)) (S 0 8) rk).1)) 0 8 ((saS n I ow sq S0 (S0 0 r) (lfA (S0 0 r) (S0 3) (pwF (S0 0 r)) (S 0 7) (n 2)) (S 0 8) rk).2.1)) (scr_up (scr_up hsc (by omega)) (by omega)) hN r hr0 ow hO ((saS n I ow sq S0 (S0 0 r) (lfA (S0 0 r) (S0 3) (pwF (S0 0 r)) (S 0 7) (n 2)) (S 0 8) rk).1) (by rw [upR_ne (by omega), upR_self]) (sq rk) (by omega)) kw_558 kw_555 kw_557 ks_Sales_serve kw_5 rfl rfl (by decide +kernel) ⟨Nat.le_of_ble_eq_true rfl, Nat.le_of_ble_eq_true rfl⟩ (nw_recv hK hw (hW_3) rfl) rfl hl.1 (Nat.le_of_ble_eq_true rfl) d_Sales_sellAll_99 ⟨Nat.le_of_ble_eq_true rfl, Nat.le_of_ble_eq_true rfl⟩) hS (fun H locs hw hS => ?_)
              rw [upR_in (by omega)] at hw
              refine nw_iast hx hb hK hw hS (108) 0 (hW_row (t := 0) (j := 8) (by decide) (by omega) (rfl)) rfl (sq rk) (rfl) (by omega) (by omega) d_Sales_sellAll_102 (fun H locs hw hS => ?_)
              have hw := hW_setRow (t := 0) (j := 8) (by decide) (by omega) (rfl) hw
              rw [upR_upR, upR_self] at hw
              refine lv_lload_n hx hb d_Sales_sellAll_103 rfl (lv_at hl 3 rfl) ?_
              refine lv_aload_n hx hb d_Sales_sellAll_104 rfl (lv_at hl 1 rfl) ?_
              refine nw_get hx hb hts i_Sales hown hK hw (3) (hW_3) rfl 2 (by decide) (hts _ kw_145) (fun _ h9 => h9) rfl d_Sales_sellAll_105 ?_
              refine lv_iload hx hb d_Sales_sellAll_108 (lv_at hl 0 rfl) ?_
              refine nw_iald hx hb hK hw (108) 0 (hW_row (t := 0) (j := 8) (by decide) (by omega) (rfl)) rfl (sq rk) (rfl) (by omega) (by omega) d_Sales_sellAll_110 ?_
              refine lv_ei (y := (upd ((saS n I ow sq S0 (S0 0 r) (lfA (S0 0 r) (S0 3) (pwF (S0 0 r)) (S 0 7) (n 2)) (S 0 8) rk).2.1) (sq rk) ((svS I ow S0 (sq rk) (S0 0 r) ((saS n I ow sq S0 (S0 0 r) (lfA (S0 0 r) (S0 3) (pwF (S0 0 r)) (S 0 7) (n 2)) (S 0 8) rk).1) (n 2)).2)) (sq rk)) (congrFun upR_self _) ?_
              refine lv_ei (y := (svS I ow S0 (sq rk) (S0 0 r) ((saS n I ow sq S0 (S0 0 r) (lfA (S0 0 r) (S0 3) (pwF (S0 0 r)) (S 0 7) (n 2)) (S 0 8) rk).1) (n 2)).2) (pk_us) ?_
              refine lv_i2l (v := (((svS I ow S0 (sq rk) (S0 0 r) ((saS n I ow sq S0 (S0 0 r) (lfA (S0 0 r) (S0 3) (pwF (S0 0 r)) (S 0 7) (n 2)) (S 0 8) rk).1) (n 2)).2).toInt64)) hx hb d_Sales_sellAll_111 rfl ?_
              refine lv_aload_n hx hb d_Sales_sellAll_112 rfl (lv_at hl 1 rfl) ?_
              refine nw_get hx hb hts i_Sales hown hK hw (3) (hW_3) rfl 0 (by decide) (hts _ kw_143) (fun _ h9 => h9) rfl d_Sales_sellAll_113 ?_
              refine nw_getN hx hb hts i_Farm hown hK hw (1) (hW_1) rfl 4 (by decide) (va_Nw.use rfl (hKs.2.2 _ kn_62 rfl)) (fun _ h9 => h9) rfl d_Sales_sellAll_116 ?_
              refine lv_iload hx hb d_Sales_sellAll_119 (lv_at hl 0 rfl) ?_
              refine nw_aald hx hb hK hw (9) 6 (hW_9) rfl (sq rk) (rfl) (by omega) (by omega) (y := ad (48 + (sq rk))) (if_pos (by omega)) d_Sales_sellAll_121 ?_
              refine nw_getN hx hb hts i_Order hown hK hw (48 + (sq rk)) (hW_order hN (by omega)) rfl 4 (by decide) (va_Nw.use rfl (hKs.2.2 _ kn_498 rfl)) (fun _ h9 => h9) rfl d_Sales_sellAll_122 ?_
              refine lv_i2l (v := ((I 8 (sq rk)).toInt64)) hx hb d_Sales_sellAll_125 rfl ?_
              refine lv_lmul hx hb d_Sales_sellAll_126 ?_
              refine lv_ladd hx hb d_Sales_sellAll_127 ?_
              refine lv_lstore_n (lv' := [(2, .long ((((saS n I ow sq S0 (S0 0 r) (lfA (S0 0 r) (S0 3) (pwF (S0 0 r)) (S 0 7) (n 2)) (S 0 8) rk).2.2) + ((((((svS I ow S0 (sq rk) (S0 0 r) ((saS n I ow sq S0 (S0 0 r) (lfA (S0 0 r) (S0 3) (pwF (S0 0 r)) (S 0 7) (n 2)) (S 0 8) rk).1) (n 2)).2).toInt64)) * (((I 8 (sq rk)).toInt64))))))), (5, .int (nI (sq rk))), (0, .ref (ad (3))), (1, .ref (ad (100 + r))), (4, .int (nI rk))]) hx hb d_Sales_sellAll_128 rfl hl (by decide) rfl (fun ls hl => ?_)
              refine lv_iinc (v := nI (rk + 1)) (lv' := [(4, .int (nI (rk + 1))), (2, .long ((((saS n I ow sq S0 (S0 0 r) (lfA (S0 0 r) (S0 3) (pwF (S0 0 r)) (S 0 7) (n 2)) (S 0 8) rk).2.2) + ((((((svS I ow S0 (sq rk) (S0 0 r) ((saS n I ow sq S0 (S0 0 r) (lfA (S0 0 r) (S0 3) (pwF (S0 0 r)) (S 0 7) (n 2)) (S 0 8) rk).1) (n 2)).2).toInt64)) * (((I 8 (sq rk)).toInt64))))))), (5, .int (nI (sq rk))), (0, .ref (ad (3))), (1, .ref (ad (100 + r)))]) hx hb d_Sales_sellAll_129 hl (k := 4) rfl ((nI_succ _).symm) (by decide) rfl (fun ls hl => ?_)
              refine lv_goto (tgt := 57) hx hb d_Sales_sellAll_132 (by decide) ?_
              have el2 : (saS n I ow sq S0 (S0 0 r) (lfA (S0 0 r) (S0 3) (pwF (S0 0 r)) (S 0 7) (n 2)) (S 0 8) (rk + 1)).2.2 = (((saS n I ow sq S0 (S0 0 r) (lfA (S0 0 r) (S0 3) (pwF (S0 0 r)) (S 0 7) (n 2)) (S 0 8) rk).2.2) + ((((((svS I ow S0 (sq rk) (S0 0 r) ((saS n I ow sq S0 (S0 0 r) (lfA (S0 0 r) (S0 3) (pwF (S0 0 r)) (S 0 7) (n 2)) (S 0 8) rk).1) (n 2)).2).toInt64)) * (((I 8 (sq rk)).toInt64))))) := rfl
              have hl : lv_has ls 6 [(4, .int (nI (rk + 1))), (2, .long ((saS n I ow sq S0 (S0 0 r) (lfA (S0 0 r) (S0 3) (pwF (S0 0 r)) (S 0 7) (n 2)) (S 0 8) (rk + 1)).2.2)), (5, .int (nI (sq rk))), (0, .ref (ad (3))), (1, .ref (ad (100 + r)))] := by
                have h9 := hl
                revert h9; rw [show Value.long ((saS n I ow sq S0 (S0 0 r) (lfA (S0 0 r) (S0 3) (pwF (S0 0 r)) (S 0 7) (n 2)) (S 0 8) (rk + 1)).2.2) = Value.long ((((saS n I ow sq S0 (S0 0 r) (lfA (S0 0 r) (S0 3) (pwF (S0 0 r)) (S 0 7) (n 2)) (S 0 8) rk).2.2) + ((((((svS I ow S0 (sq rk) (S0 0 r) ((saS n I ow sq S0 (S0 0 r) (lfA (S0 0 r) (S0 3) (pwF (S0 0 r)) (S 0 7) (n 2)) (S 0 8) rk).1) (n 2)).2).toInt64)) * (((I 8 (sq rk)).toInt64)))))) from congrArg _ el2]; intro h9
                exact h9
              have hw := nw_W.as (wn' := hW ad tC n I K bw LA bM aM (upR (upR S 0 7 ((saS n I ow sq S0 (S0 0 r) (lfA (S0 0 r) (S0 3) (pwF (S0 0 r)) (S 0 7) (n 2)) (S 0 8) (rk + 1)).1)) 0 8 ((saS n I ow sq S0 (S0 0 r) (lfA (S0 0 r) (S0 3) (pwF (S0 0 r)) (S 0 7) (n 2)) (S 0 8) (rk + 1)).2.1))) hw (rfl)
              exact ih57 (rk + 1) (by omega) (by omega) _ _ ls hw hS (lv_sub hl [3, 4, 1, 0] rfl)
        exact loop57 (n 4 + 1) (0) (by omega) (by omega) _ _ ls hw hS (lv_sub hl [2, 3, 1, 0] rfl)
      · skip
        have hlt : c < n 2 := Nat.not_le.mp (fun q => c_10 (nI_le q (by omega)))
        refine lv_aload_n hx hb d_Sales_sellAll_13 rfl (lv_at hl 0 rfl) ?_
        refine nw_get hx hb hts i_Sales hown hK hw (3) (hW_3) rfl 1 (by decide) (hts _ kw_144) (fun _ h9 => h9) rfl d_Sales_sellAll_14 ?_
        refine lv_iload_n hx hb d_Sales_sellAll_17 rfl (lv_at hl 2 rfl) ?_
        refine lv_aload_n hx hb d_Sales_sellAll_18 rfl (lv_at hl 1 rfl) ?_
        refine lv_iload_n hx hb d_Sales_sellAll_19 rfl (lv_at hl 2 rfl) ?_
        refine nw_iald hx hb hK hw (100 + r) 0 (hW_row (t := 0) (j := r) (by decide) (by omega) (aX_pl hr0)) rfl (c) (rfl) (by omega) (by omega) d_Sales_sellAll_20 ?_
        refine lv_ei (y := S0 0 r c) (congrFun ((scr_up hsc (by omega)) 0 r (by omega)) _) ?_
        refine lv_iconst (v := (-1)) hx hb d_Sales_sellAll_21 (by decide) ?_
        refine lv_icmp_ne (tgt := 29) hx hb d_Sales_sellAll_22 (by decide) (fun c_22 => ?_) (fun c_22 => ?_)
        · skip
          have hpc := (okT_pw hn0' hPl c (by omega)).resolve_left c_22
          have e7 : lfA (S0 0 r) (S0 3) (pwF (S0 0 r)) (S 0 7) (c + 1) = upd (lfA (S0 0 r) (S0 3) (pwF (S0 0 r)) (S 0 7) c) c (S0 3 c (pwF (S0 0 r) c)) := lfA_f c_22
          refine lv_aload_n hx hb d_Sales_sellAll_29 rfl (lv_at hl 0 rfl) ?_
          refine nw_get hx hb hts i_Sales hown hK hw (3) (hW_3) rfl 0 (by decide) (hts _ kw_143) (fun _ h9 => h9) rfl d_Sales_sellAll_30 ?_
          refine nw_getN hx hb hts i_Farm hown hK hw (1) (hW_1) rfl 2 (by decide) (va_Nw.use rfl (hKs.2.2 _ kn_55 rfl)) (fun _ h9 => h9) rfl d_Sales_sellAll_33 ?_
          refine lv_iload_n hx hb d_Sales_sellAll_36 rfl (lv_at hl 2 rfl) ?_
          refine nw_aald hx hb hK hw (7) 4 (hW_7) rfl (c) (rfl) (by omega) (by omega) (y := ad (32 + c)) (if_pos (by omega)) d_Sales_sellAll_37 ?_
          refine nw_getN hx hb hts i_Cage hown hK hw (32 + c) (hW_cage hN (by omega)) rfl 2 (by decide) (va_Nw.use rfl (hKs.2.2 _ kn_416 rfl)) (fun _ h9 => h9) rfl d_Sales_sellAll_38 ?_
          refine lv_aload_n hx hb d_Sales_sellAll_41 rfl (lv_at hl 1 rfl) ?_
          refine lv_iload_n hx hb d_Sales_sellAll_42 rfl (lv_at hl 2 rfl) ?_
          refine nw_iald hx hb hK hw (100 + r) 0 (hW_row (t := 0) (j := r) (by decide) (by omega) (aX_pl hr0)) rfl (c) (rfl) (by omega) (by omega) d_Sales_sellAll_43 ?_
          refine lv_ei (y := S0 0 r c) (congrFun ((scr_up hsc (by omega)) 0 r (by omega)) _) ?_
          refine nw_iald hx hb hK hw (148 + c) 0 (hW_row (t := 3) (j := c) (by decide) (by omega) (aX_cage (Or.inr rfl) (by omega))) rfl (pwF (S0 0 r) c) (hpc.1) (hpc.2) (by omega) d_Sales_sellAll_44 ?_
          refine lv_ei (y := S0 3 c (pwF (S0 0 r) c)) (congrFun ((scr_up hsc (by omega)) 3 c (by omega)) _) ?_
          refine nw_iast hx hb hK hw hS (107) 0 (hW_row (t := 0) (j := 7) (by decide) (by omega) (rfl)) rfl (c) (rfl) (by omega) (by omega) d_Sales_sellAll_45 (fun H locs hw hS => ?_)
          have hw := hW_setRow (t := 0) (j := 7) (by decide) (by omega) (rfl) hw
          rw [upR_upR, upR_self] at hw
          refine lv_iinc (v := nI (c + 1)) (lv' := [(2, .int (nI (c + 1))), (0, .ref (ad (3))), (1, .ref (ad (100 + r)))]) hx hb d_Sales_sellAll_46 hl (k := 2) rfl ((nI_succ _).symm) (by decide) rfl (fun ls hl => ?_)
          refine lv_goto (tgt := 2) hx hb d_Sales_sellAll_49 (by decide) ?_
          have hw := nw_W.as (wn' := hW ad tC n I K bw LA bM aM (upR S 0 7 (lfA (S0 0 r) (S0 3) (pwF (S0 0 r)) (S 0 7) (c + 1)))) hw (by rw [e7])
          exact ih2 (c + 1) (by omega) (by omega) _ _ ls hw hS (lv_sub hl [1, 2, 0] rfl)
        · skip
          have e7 : lfA (S0 0 r) (S0 3) (pwF (S0 0 r)) (S 0 7) (c + 1) = upd (lfA (S0 0 r) (S0 3) (pwF (S0 0 r)) (S 0 7) c) c (nI 0) := lfA_t c_22
          refine lv_iconst (v := nI 0) hx hb d_Sales_sellAll_25 (by decide) ?_
          refine lv_goto (tgt := 45) hx hb d_Sales_sellAll_26 (by decide) ?_
          refine nw_iast hx hb hK hw hS (107) 0 (hW_row (t := 0) (j := 7) (by decide) (by omega) (rfl)) rfl (c) (rfl) (by omega) (by omega) d_Sales_sellAll_45 (fun H locs hw hS => ?_)
          have hw := hW_setRow (t := 0) (j := 7) (by decide) (by omega) (rfl) hw
          rw [upR_upR, upR_self] at hw
          refine lv_iinc (v := nI (c + 1)) (lv' := [(2, .int (nI (c + 1))), (0, .ref (ad (3))), (1, .ref (ad (100 + r)))]) hx hb d_Sales_sellAll_46 hl (k := 2) rfl ((nI_succ _).symm) (by decide) rfl (fun ls hl => ?_)
          refine lv_goto (tgt := 2) hx hb d_Sales_sellAll_49 (by decide) ?_
          have hw := nw_W.as (wn' := hW ad tC n I K bw LA bM aM (upR S 0 7 (lfA (S0 0 r) (S0 3) (pwF (S0 0 r)) (S 0 7) (c + 1)))) hw (by rw [e7])
          exact ih2 (c + 1) (by omega) (by omega) _ _ ls hw hS (lv_sub hl [1, 2, 0] rfl)
  exact loop2 (n 2 + 1) (0) (by omega) (by omega) _ _ ls hw hS (lv_sub hl [1, 2, 0] rfl)
