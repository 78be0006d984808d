set_option maxHeartbeats 4000000 in
set_option maxRecDepth 100000 in
/-- a plan is met -/
theorem c_M_meet (l : Launch) (D : va_G) (tC : Nat → ClassId) (A : Nat → Prop) (ad : Nat → Nat) (n : Nat → Nat) (J : Nat → Int32) (bX : Nat → Option va_E) (aY : Nat → Nat → Option (ClassId × Nat)) (F : Nat → Nat → Nat → Int32) (hN : hpN n) (sp : Bool) (hm : Nat → Nat) (hH : ∀ c, c < n 2 → F 5 2 c = nI (hm c) ∧ hm c < n 1) (mk : Nat) (ub : Bool) (bw : Int64) (tr be : Nat → Int32) (L : Nat → Nat → Int64) (S : Nat → Nat → Nat → Int32) (hsc : scm (upR (upR F 5 14 tr) 5 15 be) S) : nw_Met l y_M_meet [Cond.code y_M_meet b_M_meet 4 none] ({ frames := 4, cells := 0, slots := 0, locals := 98 } : Room) D hpC A [.ref (ad (64))] (nw_pre D hpC (hpT tC) A (mW ad tC n (va_up (va_up J 4 (nI mk)) 5 (bI ub)) bw L bX aY S) ad) (nw_mz none ad tC n J bX aY F (meM n J hm F (mk, sp, ub, bw, tr, be))) 0 0 := by
  refine nw_bodyK (by decide) (Nat.le_of_ble_eq_true rfl) ?_
  intro p e s m below meth cd ls args Q hSx hr hlocks hname hA hKs hw hS hl hQ
  obtain ⟨hx, hb, hml, hown, hts⟩ := id hSx
  have hK := hKs.1
  have hl : lv_has ls 4 [(0, .ref (ad (64)))] := hl
  obtain ⟨hn0, hn0', hn1, hn2, hn3, hn4⟩ := id hN
  refine lv_aload_n hx hb d_M_meet_0 rfl (lv_at hl 0 rfl) ?_
  refine lv_aload_n hx hb d_M_meet_1 rfl (lv_at hl 0 rfl) ?_
  refine nw_get hx hb hts i_M hown hK hw (64) (mW_64) rfl 5 (by decide) (hts _ kw_664) (fun _ h9 => h9) rfl d_M_meet_2 ?_
  refine lv_iconst (v := nI 1) hx hb d_M_meet_5 (by decide) ?_
  refine lv_ei (y := bI true) (rfl) ?_
  refine nw_call (nw_goV (n := 2) (As := [.int (nI (n 2)), .int (bI true)]) (rest := []) hSx hA hKs hw hS (c_M_keepsAll l D tC A ad n (va_up (va_up J 4 (nI mk)) 5 (bI ub)) bw L bX aY (upR (upR F 5 14 tr) 5 15 be) S hsc hN (n 2) (by omega) true hm hH) kw_827 kw_824 kw_826 ks_M_keepsAll kw_8 rfl rfl (by decide +kernel) ⟨Nat.le_of_ble_eq_true rfl, Nat.le_of_ble_eq_true rfl⟩ (nw_recv hK hw (mW_64) rfl) rfl hl.1 (Nat.le_of_ble_eq_true rfl) d_M_meet_6 ⟨Nat.le_of_ble_eq_true rfl, Nat.le_of_ble_eq_true rfl⟩) hS (fun rv wn' ad' H locs hpost hw hS => ?_)
  obtain ⟨hrv1, L1z, S1z, hsc1z, hw⟩ := nw_ms_out hpost hw
  subst hrv1
  refine lv_if_ne (tgt := 13) hx hb d_M_meet_9 (by decide) (fun c_9 => ?_) (fun c_9 => ?_)
  · skip
    refine lv_aload_n hx hb d_M_meet_13 rfl (lv_at hl 0 rfl) ?_
    refine nw_call (nw_goV (n := 0) (As := []) (rest := []) hSx hA hKs hw hS (c_M_value l D tC A ad n (va_up (va_up J 4 (nI mk)) 5 (bI ub)) bw L1z bX aY (upR (upR F 5 14 tr) 5 15 be) S1z hsc1z hN) kw_855 kw_852 kw_854 ks_M_value kw_8 rfl rfl (by decide +kernel) ⟨Nat.le_of_ble_eq_true rfl, Nat.le_of_ble_eq_true rfl⟩ (nw_recv hK hw (mW_64) rfl) rfl hl.1 (Nat.le_of_ble_eq_true rfl) d_M_meet_14 ⟨Nat.le_of_ble_eq_true rfl, Nat.le_of_ble_eq_true rfl⟩) hS (fun rv wn' ad' H locs hpost hw hS => ?_)
    obtain ⟨hrv2, L2z, S2z, hsc2z, hX2z, hw⟩ := nw_mx_out hpost hw
    subst hrv2
    refine lv_lstore_n (lv' := [(1, .long (vlL n (upR (upR F 5 14 tr) 5 15 be) (va_up (va_up J 4 (nI mk)) 5 (bI ub)))), (0, .ref (ad (64)))]) hx hb d_M_meet_17 rfl hl (by decide) rfl (fun ls hl => ?_)
    refine lv_aload_n hx hb d_M_meet_18 rfl (lv_at hl 1 rfl) ?_
    refine nw_get hx hb hts i_M hown hK hw (64) (mW_64) rfl 26 (by decide) (hts _ kw_685) (fun _ h9 => h9) rfl d_M_meet_19 ?_
    refine lv_ei (y := bI ub) (rfl) ?_
    refine lv_if_eq (tgt := 34) hx hb d_M_meet_22 (by decide) (fun c_22 => ?_) (fun c_22 => ?_)
    · skip
      have hbt : ub = false ∨ bw < vlL n (upR (upR F 5 14 tr) 5 15 be) (va_up (va_up J 4 (nI mk)) 5 (bI ub)) := Or.inl (bI_0 c_22)
      refine lv_aload_n hx hb d_M_meet_34 rfl (lv_at hl 1 rfl) ?_
      refine lv_iconst (v := nI 1) hx hb d_M_meet_35 (by decide) ?_
      refine nw_put (v := .int (nI 1)) (ty := .boolean) hx hb hts i_M t_M tk_M n_M hown hK hw hS (64) (mW_64) rfl 26 (by decide) (hts _ kw_685) (fun _ h9 => h9) rfl (by decide +kernel) (rfl) (rfl) (Nat.le_of_ble_eq_true rfl) d_M_meet_36 (fun H locs hw hS => ?_)
      have hw := nw_W.as (wn' := mW ad tC n (va_up (va_up J 4 (nI mk)) 5 (bI true)) bw L2z bX aY S2z) (mW_setO (n' := n) (J' := (va_up (va_up (va_up J 4 (nI mk)) 5 (bI ub)) 5 (nI 1))) (bw' := bw) rfl hw) (by rw [kup5]; rfl)
      refine lv_aload_n hx hb d_M_meet_39 rfl (lv_at hl 1 rfl) ?_
      refine lv_lload_n hx hb d_M_meet_40 rfl (lv_at hl 0 rfl) ?_
      refine nw_put (v := .long (vlL n (upR (upR F 5 14 tr) 5 15 be) (va_up (va_up J 4 (nI mk)) 5 (bI ub)))) (ty := .long) hx hb hts i_M t_M tk_M n_M hown hK hw hS (64) (mW_64) rfl 27 (by decide) (hts _ kw_686) (fun _ h9 => h9) rfl (by decide +kernel) (rfl) (rfl) (Nat.le_of_ble_eq_true rfl) d_M_meet_41 (fun H locs hw hS => ?_)
      have hw := nw_W.as (wn' := mW ad tC n (va_up (va_up J 4 (nI mk)) 5 (bI true)) (vlL n (upR (upR F 5 14 tr) 5 15 be) (va_up (va_up J 4 (nI mk)) 5 (bI ub))) L2z bX aY S2z) (mW_setO (n' := n) (J' := (va_up (va_up J 4 (nI mk)) 5 (bI true))) (bw' := (vlL n (upR (upR F 5 14 tr) 5 15 be) (va_up (va_up J 4 (nI mk)) 5 (bI ub)))) rfl hw) rfl
      refine lv_iconst (v := nI 0) hx hb d_M_meet_44 (by decide) ?_
      refine lv_istore_n (lv' := [(3, .int (nI 0)), (1, .long (vlL n (upR (upR F 5 14 tr) 5 15 be) (va_up (va_up J 4 (nI mk)) 5 (bI ub)))), (0, .ref (ad (64)))]) hx hb d_M_meet_45 rfl hl (by decide) rfl (fun ls hl => ?_)
      have loop46 : ∀ (k c : Nat) (Lv : Nat → Nat → Int64) (Sv : Nat → Nat → Nat → Int32), c ≤ n 2 → n 2 + 1 ≤ c + k → (scm (upR (upR F 5 14 tr) 5 15 (cpR tr be c)) Sv) → ∀ (H : Heap) (locs : List Loc) (ls : Array Slot), nw_W D hpC A (mW ad tC n (va_up (va_up J 4 (nI mk)) 5 (bI true)) (vlL n (upR (upR F 5 14 tr) 5 15 be) (va_up (va_up J 4 (nI mk)) 5 (bI ub))) Lv bX aY Sv) ad H → va_S A s.heap H locs → lv_has ls 4 [(0, .ref (ad (64))), (3, .int (nI c))] → W p l e ({ frames := 4, cells := 0, slots := 0, locals := 98 } : Room) s m args below meth cd H locs 0 0 Q (F0 m 46 ls []) := by
        intro k
        induction k with
        | zero => intro c Lv Sv h1 h2; exact absurd h2 (by omega)
        | succ k ih46 =>
          intro c Lv Sv hv46 hk46 hsv H locs ls hw hS hl
          refine lv_iload_n hx hb d_M_meet_46 rfl (lv_at hl 1 rfl) ?_
          refine lv_aload_n hx hb d_M_meet_47 rfl (lv_at hl 0 rfl) ?_
          refine nw_get hx hb hts i_M hown hK hw (64) (mW_64) rfl 5 (by decide) (hts _ kw_664) (fun _ h9 => h9) rfl d_M_meet_48 ?_
          refine lv_icmp_ge (tgt := 72) hx hb d_M_meet_51 (by decide) (fun c_51 => ?_) (fun c_51 => ?_)
          · skip
            have hge51 : n 2 ≤ c := (nI_leI (by omega) (by omega)).mp c_51
            obtain rfl : n 2 = c := by omega
            have ex : (mk, sp, true, vlL n (upR (upR F 5 14 tr) 5 15 be) (va_up (va_up J 4 (nI mk)) 5 (bI ub)), tr, cpR tr be (n 2)) = meM n J hm F (mk, sp, ub, bw, tr, be) := (pif_t ⟨b2_1 c_9, hbt⟩).symm
            exact nw_vret hQ hx hb hr hlocks hw hS (nw_mz_in (x := (mk, sp, true, vlL n (upR (upR F 5 14 tr) 5 15 be) (va_up (va_up J 4 (nI mk)) 5 (bI ub)), tr, cpR tr be (n 2))) ex rfl hsv) (Nat.le_of_ble_eq_true rfl) (Nat.le_of_ble_eq_true rfl) d_M_meet_72
          · skip
            have hlt : c < n 2 := Nat.not_le.mp (fun q => c_51 (nI_le q (by omega)))
            refine lv_aload_n hx hb d_M_meet_54 rfl (lv_at hl 0 rfl) ?_
            refine nw_get hx hb hts i_M hown hK hw (64) (mW_64) rfl 25 (by decide) (hts _ kw_684) (fun _ h9 => h9) rfl d_M_meet_55 ?_
            refine lv_iload_n hx hb d_M_meet_58 rfl (lv_at hl 1 rfl) ?_
            refine lv_aload_n hx hb d_M_meet_59 rfl (lv_at hl 0 rfl) ?_
            refine nw_get hx hb hts i_M hown hK hw (64) (mW_64) rfl 24 (by decide) (hts _ kw_683) (fun _ h9 => h9) rfl d_M_meet_60 ?_
            refine lv_iload_n hx hb d_M_meet_63 rfl (lv_at hl 1 rfl) ?_
            refine nw_iald hx hb hK hw (194) 0 (mW_row (t := 5) (j := 14) (by decide) (by decide) (rfl)) rfl (c) (rfl) (by omega) (by omega) d_M_meet_64 ?_
            refine lv_ei (y := tr c) (congrFun (hsv 5 14 (by omega)) _) ?_
            refine nw_iast hx hb hK hw hS (195) 0 (mW_row (t := 5) (j := 15) (by decide) (by decide) (rfl)) rfl (c) (rfl) (by omega) (by omega) d_M_meet_65 (fun H locs hw hS => ?_)
            have hw := mW_setRow (t := 5) (j := 15) (by decide) (by decide) (rfl) hw
            obtain ⟨St1, hst1, hw⟩ := ex_15 hsv hw
            refine lv_iinc (v := nI (c + 1)) (lv' := [(3, .int (nI (c + 1))), (0, .ref (ad (64)))]) hx hb d_M_meet_66 hl (k := 1) rfl ((nI_succ _).symm) (by decide) rfl (fun ls hl => ?_)
            refine lv_goto (tgt := 46) hx hb d_M_meet_69 (by decide) ?_
            exact ih46 (c + 1) (_) (_) (by omega) (by omega) (by have h9 := hst1; rw [cpR_s] at h9; exact h9) _ _ ls hw hS (lv_sub hl [1, 0] rfl)
      exact loop46 (n 2 + 1) (0) (_) (_) (by omega) (by omega) (by rw [cpR_0]; exact hsc2z) _ _ ls hw hS (lv_sub hl [2, 0] rfl)
    · skip
      refine lv_lload_n hx hb d_M_meet_25 rfl (lv_at hl 0 rfl) ?_
      refine lv_aload_n hx hb d_M_meet_26 rfl (lv_at hl 1 rfl) ?_
      refine nw_get hx hb hts i_M hown hK hw (64) (mW_64) rfl 27 (by decide) (hts _ kw_686) (fun _ h9 => h9) rfl d_M_meet_27 ?_
      refine W.lcmp hx hb d_M_meet_30 ?_
      refine lv_if_le (tgt := 72) hx hb d_M_meet_31 (by decide) (fun c_31 => ?_) (fun c_31 => ?_)
      · skip
        have ex : (mk, sp, ub, bw, tr, be) = meM n J hm F (mk, sp, ub, bw, tr, be) := (pif_f (fun h => h.2.elim (fun h9 => c_22 (by rw [show ub = false from h9]; rfl)) (fun h9 => Int64.not_le.mpr h9 ((lg_cmp_le _ _).mp c_31)))).symm
        exact nw_vret hQ hx hb hr hlocks hw hS (nw_mz_in (x := (mk, sp, ub, bw, tr, be)) ex rfl hsc2z) (Nat.le_of_ble_eq_true rfl) (Nat.le_of_ble_eq_true rfl) d_M_meet_72
      · skip
        have hbt : ub = false ∨ bw < vlL n (upR (upR F 5 14 tr) 5 15 be) (va_up (va_up J 4 (nI mk)) 5 (bI ub)) := Or.inr (Int64.not_le.mp (fun h => c_31 ((lg_cmp_le _ _).mpr h)))
        refine lv_aload_n hx hb d_M_meet_34 rfl (lv_at hl 1 rfl) ?_
        refine lv_iconst (v := nI 1) hx hb d_M_meet_35 (by decide) ?_
        refine nw_put (v := .int (nI 1)) (ty := .boolean) hx hb hts i_M t_M tk_M n_M hown hK hw hS (64) (mW_64) rfl 26 (by decide) (hts _ kw_685) (fun _ h9 => h9) rfl (by decide +kernel) (rfl) (rfl) (Nat.le_of_ble_eq_true rfl) d_M_meet_36 (fun H locs hw hS => ?_)
        have hw := nw_W.as (wn' := mW ad tC n (va_up (va_up J 4 (nI mk)) 5 (bI true)) bw L2z bX aY S2z) (mW_setO (n' := n) (J' := (va_up (va_up (va_up J 4 (nI mk)) 5 (bI ub)) 5 (nI 1))) (bw' := bw) rfl hw) (by rw [kup5]; rfl)
        refine lv_aload_n hx hb d_M_meet_39 rfl (lv_at hl 1 rfl) ?_
        refine lv_lload_n hx hb d_M_meet_40 rfl (lv_at hl 0 rfl) ?_
        refine nw_put (v := .long (vlL n (upR (upR F 5 14 tr) 5 15 be) (va_up (va_up J 4 (nI mk)) 5 (bI ub)))) (ty := .long) hx hb hts i_M t_M tk_M n_M hown hK hw hS (64) (mW_64) rfl 27 (by decide) (hts _ kw_686) (fun _ h9 => h9) rfl (by decide +kernel) (rfl) (rfl) (Nat.le_of_ble_eq_true rfl) d_M_meet_41 (fun H locs hw hS => ?_)
        have hw := nw_W.as (wn' := mW ad tC n (va_up (va_up J 4 (nI mk)) 5 (bI true)) (vlL n (upR (upR F 5 14 tr) 5 15 be) (va_up (va_up J 4 (nI mk)) 5 (bI ub))) L2z bX aY S2z) (mW_setO (n' := n) (J' := (va_up (va_up J 4 (nI mk)) 5 (bI true))) (bw' := (vlL n (upR (upR F 5 14 tr) 5 15 be) (va_up (va_up J 4 (nI mk)) 5 (bI ub)))) rfl hw) rfl
        refine lv_iconst (v := nI 0) hx hb d_M_meet_44 (by decide) ?_
        refine lv_istore_n (lv' := [(3, .int (nI 0)), (1, .long (vlL n (upR (upR F 5 14 tr) 5 15 be) (va_up (va_up J 4 (nI mk)) 5 (bI ub)))), (0, .ref (ad (64)))]) hx hb d_M_meet_45 rfl hl (by decide) rfl (fun ls hl => ?_)
        have loop46 : ∀ (k c : Nat) (Lv : Nat → Nat → Int64) (Sv : Nat → Nat → Nat → Int32), c ≤ n 2 → n 2 + 1 ≤ c + k → (scm (upR (upR F 5 14 tr) 5 15 (cpR tr be c)) Sv) → ∀ (H : Heap) (locs : List Loc) (ls : Array Slot), nw_W D hpC A (mW ad tC n (va_up (va_up J 4 (nI mk)) 5 (bI true)) (vlL n (upR (upR F 5 14 tr) 5 15 be) (va_up (va_up J 4 (nI mk)) 5 (bI ub))) Lv bX aY Sv) ad H → va_S A s.heap H locs → lv_has ls 4 [(0, .ref (ad (64))), (3, .int (nI c))] → W p l e ({ frames := 4, cells := 0, slots := 0, locals := 98 } : Room) s m args below meth cd H locs 0 0 Q (F0 m 46 ls []) := by
          intro k
          induction k with
          | zero => intro c Lv Sv h1 h2; exact absurd h2 (by omega)
          | succ k ih46 =>
            intro c Lv Sv hv46 hk46 hsv H locs ls hw hS hl
            refine lv_iload_n hx hb d_M_meet_46 rfl (lv_at hl 1 rfl) ?_
            refine lv_aload_n hx hb d_M_meet_47 rfl (lv_at hl 0 rfl) ?_
            refine nw_get hx hb hts i_M hown hK hw (64) (mW_64) rfl 5 (by decide) (hts _ kw_664) (fun _ h9 => h9) rfl d_M_meet_48 ?_
            refine lv_icmp_ge (tgt := 72) hx hb d_M_meet_51 (by decide) (fun c_51 => ?_) (fun c_51 => ?_)
            · skip
              have hge51 : n 2 ≤ c := (nI_leI (by omega) (by omega)).mp c_51
              obtain rfl : n 2 = c := by omega
              have ex : (mk, sp, true, vlL n (upR (upR F 5 14 tr) 5 15 be) (va_up (va_up J 4 (nI mk)) 5 (bI ub)), tr, cpR tr be (n 2)) = meM n J hm F (mk, sp, ub, bw, tr, be) := (pif_t ⟨b2_1 c_9, hbt⟩).symm
              exact nw_vret hQ hx hb hr hlocks hw hS (nw_mz_in (x := (mk, sp, true, vlL n (upR (upR F 5 14 tr) 5 15 be) (va_up (va_up J 4 (nI mk)) 5 (bI ub)), tr, cpR tr be (n 2))) ex rfl hsv) (Nat.le_of_ble_eq_true rfl) (Nat.le_of_ble_eq_true rfl) d_M_meet_72
            · skip
              have hlt : c < n 2 := Nat.not_le.mp (fun q => c_51 (nI_le q (by omega)))
              refine lv_aload_n hx hb d_M_meet_54 rfl (lv_at hl 0 rfl) ?_
              refine nw_get hx hb hts i_M hown hK hw (64) (mW_64) rfl 25 (by decide) (hts _ kw_684) (fun _ h9 => h9) rfl d_M_meet_55 ?_
              refine lv_iload_n hx hb d_M_meet_58 rfl (lv_at hl 1 rfl) ?_
              refine lv_aload_n hx hb d_M_meet_59 rfl (lv_at hl 0 rfl) ?_
              refine nw_get hx hb hts i_M hown hK hw (64) (mW_64) rfl 24 (by decide) (hts _ kw_683) (fun _ h9 => h9) rfl d_M_meet_60 ?_
              refine lv_iload_n hx hb d_M_meet_63 rfl (lv_at hl 1 rfl) ?_
              refine nw_iald hx hb hK hw (194) 0 (mW_row (t := 5) (j := 14) (by decide) (by decide) (rfl)) rfl (c) (rfl) (by omega) (by omega) d_M_meet_64 ?_
              refine lv_ei (y := tr c) (congrFun (hsv 5 14 (by omega)) _) ?_
              refine nw_iast hx hb hK hw hS (195) 0 (mW_row (t := 5) (j := 15) (by decide) (by decide) (rfl)) rfl (c) (rfl) (by omega) (by omega) d_M_meet_65 (fun H locs hw hS => ?_)
              have hw := mW_setRow (t := 5) (j := 15) (by decide) (by decide) (rfl) hw
              obtain ⟨St2, hst2, hw⟩ := ex_15 hsv hw
              refine lv_iinc (v := nI (c + 1)) (lv' := [(3, .int (nI (c + 1))), (0, .ref (ad (64)))]) hx hb d_M_meet_66 hl (k := 1) rfl ((nI_succ _).symm) (by decide) rfl (fun ls hl => ?_)
              refine lv_goto (tgt := 46) hx hb d_M_meet_69 (by decide) ?_
              exact ih46 (c + 1) (_) (_) (by omega) (by omega) (by have h9 := hst2; rw [cpR_s] at h9; exact h9) _ _ ls hw hS (lv_sub hl [1, 0] rfl)
        exact loop46 (n 2 + 1) (0) (_) (_) (by omega) (by omega) (by rw [cpR_0]; exact hsc2z) _ _ ls hw hS (lv_sub hl [2, 0] rfl)
  · skip
    have ex : (mk, sp, ub, bw, tr, be) = meM n J hm F (mk, sp, ub, bw, tr, be) := (pif_f (fun h => b2_0 c_9 h.1)).symm
    exact nw_vret hQ hx hb hr hlocks hw hS (nw_mz_in (x := (mk, sp, ub, bw, tr, be)) ex rfl hsc1z) (Nat.le_of_ble_eq_true rfl) (Nat.le_of_ble_eq_true rfl) d_M_meet_12

set_option maxHeartbeats 4000000 in
set_option maxRecDepth 100000 in
/-- THE SEARCH of the model -/
theorem c_M_search (l : Launch) (D : va_G) (tC : Nat → ClassId) (A : Nat → Prop) (ad : Nat → Nat) (n : Nat → Nat) (J : Nat → Int32) (bX : Nat → Option va_E) (aY : Nat → Nat → Option (ClassId × Nat)) (F : Nat → Nat → Nat → Int32) (hN : hpN n) (lim : Nat) (hlim : lim ≤ 5000) (hc1 : 1 ≤ n 2) (hm : Nat → Nat) (hH : ∀ c, c < n 2 → F 5 2 c = nI (hm c) ∧ hm c < n 1) (mk : Nat) (ub : Bool) (bw : Int64) (tr be : Nat → Int32) (L : Nat → Nat → Int64) (S : Nat → Nat → Nat → Int32) (hsc : scm (upR (upR F 5 14 tr) 5 15 be) S) (hmk : mk ≤ lim) : nw_Met l y_M_search [Cond.code y_M_search b_M_search 3 (some .boolean)] ({ frames := 5, cells := 0, slots := 0, locals := 121 } : Room) D hpC A [.ref (ad (64)), .int (nI lim)] (nw_pre D hpC (hpT tC) A (mW ad tC n (va_up (va_up J 4 (nI mk)) 5 (bI ub)) bw L bX aY S) ad) (nw_mz (some (.int (bI (brM n J hm F lim (n 2 - 1) 0 (mk, false, ub, bw, upd tr 0 (-1), be)).2.1))) ad tC n J bX aY F (brM n J hm F lim (n 2 - 1) 0 (mk, false, ub, bw, upd tr 0 (-1), be))) 0 0 := by
  refine nw_bodyK (by decide) (Nat.le_of_ble_eq_true rfl) ?_
  intro p e s m below meth cd ls args Q hSx hr hlocks hname hA hKs hw hS hl hQ
  obtain ⟨hx, hb, hml, hown, hts⟩ := id hSx
  have hK := hKs.1
  have hl : lv_has ls 3 [(0, .ref (ad (64))), (1, .int (nI lim))] := hl
  obtain ⟨hn0, hn0', hn1, hn2, hn3, hn4⟩ := id hN
  obtain ⟨srX, hX⟩ : ∃ x : mX, x = brM n J hm F lim (n 2 - 1) 0 (mk, false, ub, bw, upd tr 0 (-1), be) := ⟨_, rfl⟩
  rw [← hX] at hQ
  refine lv_iconst (v := nI 0) hx hb d_M_search_0 (by decide) ?_
  refine lv_istore_n (lv' := [(2, .int (nI 0)), (0, .ref (ad (64))), (1, .int (nI lim))]) hx hb d_M_search_1 rfl hl (by decide) rfl (fun ls hl => ?_)
  refine lv_aload_n hx hb d_M_search_2 rfl (lv_at hl 1 rfl) ?_
  refine nw_get hx hb hts i_M hown hK hw (64) (mW_64) rfl 24 (by decide) (hts _ kw_683) (fun _ h9 => h9) rfl d_M_search_3 ?_
  refine lv_iconst (v := nI 0) hx hb d_M_search_6 (by decide) ?_
  refine lv_iconst (v := (-1)) hx hb d_M_search_7 (by decide) ?_
  refine nw_iast hx hb hK hw hS (194) 0 (mW_row (t := 5) (j := 14) (by decide) (by decide) (rfl)) rfl (0) (rfl) (by omega) (by omega) d_M_search_8 (fun H locs hw hS => ?_)
  have hw := mW_setRow (t := 5) (j := 14) (by decide) (by decide) (rfl) hw
  obtain ⟨St3, hst3, hw⟩ := ex_14 hsc hw
  obtain ⟨Hd, hHd⟩ : ∃ Hd : Int32 → mX → Prop, Hd = fun (cv : Int32) (y : mX) => ∀ (Lv : Nat → Nat → Int64) (Sv : Nat → Nat → Nat → Int32), scm (mF F y) Sv → ∀ (H : Heap) (locs : List Loc) (ls : Array Slot), nw_W D hpC A (mW ad tC n (mJ J y) y.2.2.2.1 Lv bX aY Sv) ad H → va_S A s.heap H locs → lv_has ls 3 [(0, .ref (ad (64))), (1, .int (nI lim)), (2, .int (cv))] → W p l e ({ frames := 5, cells := 0, slots := 0, locals := 121 } : Room) s m args below meth cd H locs 0 0 Q (F0 m 9 ls []) := ⟨_, rfl⟩
  have hEnd : ∀ y : mX, y = srX → y.2.1 = false → Hd (nI 0 - 1) y := by
    intro y ex hz
    obtain ⟨mk, sp, ub, bw, tr, be⟩ := y
    obtain rfl : sp = false := hz
    rw [hHd]
    intro L S hsc H locs ls hw hS hl
    refine lv_iload_n hx hb d_M_search_9 rfl (lv_at hl 2 rfl) ?_
    refine lv_if_lt (tgt := 125) hx hb d_M_search_10 (by decide) (fun c_10 => ?_) (fun c_10 => ?_)
    · skip
      refine lv_iconst (v := nI 0) hx hb d_M_search_125 (by decide) ?_
      exact nw_zret hQ hx hb hr (by first | exact Or.inl rfl | exact Or.inr rfl) hlocks hw hS (nw_mz_in (x := (mk, false, ub, bw, tr, be)) ex (by rw [← ex]; rfl) hsc) (Nat.le_of_ble_eq_true rfl) (Nat.le_of_ble_eq_true rfl) d_M_search_126
    · skip
      exact absurd (by decide) c_10
  have step : ∀ (c t mk : Nat) (ub : Bool) (bw : Int64) (tr be : Nat → Int32), c < n 2 → t ≤ n 0 + 1 → mk ≤ lim → tr c = nI t - 1 → (∀ j, j < c → ∃ w, w ≤ n 0 ∧ tr j = nI w) → (t = n 0 + 1 → Hd (nI c - 1) (stM (mk, false, ub, bw, tr, be) c (nI t))) → (t ≤ n 0 → ¬ kpM n hm F (mk, false, ub, bw, (upd tr c (nI t)), be) c → Hd (nI c) (mk, false, ub, bw, (upd tr c (nI t)), be)) → (t ≤ n 0 → kpM n hm F (mk, false, ub, bw, (upd tr c (nI t)), be) c → mk = lim → (mk, true, ub, bw, (upd tr c (nI t)), be) = srX) → (t ≤ n 0 → kpM n hm F (mk, false, ub, bw, (upd tr c (nI t)), be) c → mk < lim → c = n 2 - 1 → Hd (nI c) (meM n J hm F (mk + 1, false, ub, bw, (upd tr c (nI t)), be))) → (t ≤ n 0 → kpM n hm F (mk, false, ub, bw, (upd tr c (nI t)), be) c → mk < lim → c ≠ n 2 - 1 → ¬ boM n J F (mk + 1, false, ub, bw, (upd tr c (nI t)), be) c → Hd (nI c) (mk + 1, false, ub, bw, (upd tr c (nI t)), be)) → (t ≤ n 0 → kpM n hm F (mk, false, ub, bw, (upd tr c (nI t)), be) c → mk < lim → c ≠ n 2 - 1 → boM n J F (mk + 1, false, ub, bw, (upd tr c (nI t)), be) c → Hd (nI (c + 1)) (stM (mk + 1, false, ub, bw, (upd tr c (nI t)), be) (c + 1) (-1))) → Hd (nI c) (mk, false, ub, bw, tr, be) := by
    intro c t mk ub bw tr be hc ht hmk htc htr K0 K1 K2 K3 K4 K5
    rw [hHd]
    intro L S hsc H locs ls hw hS hl
    refine lv_iload_n hx hb d_M_search_9 rfl (lv_at hl 2 rfl) ?_
    refine lv_if_lt (tgt := 125) hx hb d_M_search_10 (by decide) (fun c_10 => ?_) (fun c_10 => ?_)
    · skip
      exact absurd c_10 (nI_pos (by omega))
    · skip
      refine lv_aload_n hx hb d_M_search_13 rfl (lv_at hl 0 rfl) ?_
      refine nw_get hx hb hts i_M hown hK hw (64) (mW_64) rfl 24 (by decide) (hts _ kw_683) (fun _ h9 => h9) rfl d_M_search_14 ?_
      refine lv_iload_n hx hb d_M_search_17 rfl (lv_at hl 2 rfl) ?_
      refine lv_dup2_11 hx hb d_M_search_18 rfl rfl ?_
      refine nw_iald hx hb hK hw (194) 0 (mW_row (t := 5) (j := 14) (by decide) (by decide) (rfl)) rfl (c) (rfl) (by omega) (by omega) d_M_search_19 ?_
      refine lv_ei (y := tr c) (congrFun (hsc 5 14 (by omega)) _) ?_
      refine lv_iconst (v := nI 1) hx hb d_M_search_20 (by decide) ?_
      refine lv_iadd hx hb d_M_search_21 ?_
      refine lv_ei (y := nI t) (by rw [htc]; exact Int32.sub_add_cancel _ _) ?_
      refine nw_iast hx hb hK hw hS (194) 0 (mW_row (t := 5) (j := 14) (by decide) (by decide) (rfl)) rfl (c) (rfl) (by omega) (by omega) d_M_search_22 (fun H locs hw hS => ?_)
      have hw := mW_setRow (t := 5) (j := 14) (by decide) (by decide) (rfl) hw
      obtain ⟨St4, hst4, hw⟩ := ex_14 hsc hw
      refine lv_aload_n hx hb d_M_search_23 rfl (lv_at hl 0 rfl) ?_
      refine nw_get hx hb hts i_M hown hK hw (64) (mW_64) rfl 24 (by decide) (hts _ kw_683) (fun _ h9 => h9) rfl d_M_search_24 ?_
      refine lv_iload_n hx hb d_M_search_27 rfl (lv_at hl 2 rfl) ?_
      refine nw_iald hx hb hK hw (194) 0 (mW_row (t := 5) (j := 14) (by decide) (by decide) (rfl)) rfl (c) (rfl) (by omega) (by omega) d_M_search_28 ?_
      refine lv_ei (y := (upd tr c (nI t)) c) (congrFun (hst4 5 14 (by omega)) _) ?_
      refine lv_ei (y := nI t) (pk_us) ?_
      refine lv_aload_n hx hb d_M_search_29 rfl (lv_at hl 0 rfl) ?_
      refine nw_get hx hb hts i_M hown hK hw (64) (mW_64) rfl 0 (by decide) (hts _ kw_659) (fun _ h9 => h9) rfl d_M_search_30 ?_
      refine lv_icmp_le (tgt := 42) hx hb d_M_search_33 (by decide) (fun c_33 => ?_) (fun c_33 => ?_)
      · skip
        have htn : t ≤ n 0 := (nI_leI (by omega) (by omega)).mp c_33
        refine lv_aload_n hx hb d_M_search_42 rfl (lv_at hl 0 rfl) ?_
        refine lv_iload_n hx hb d_M_search_43 rfl (lv_at hl 2 rfl) ?_
        refine lv_iconst (v := nI 1) hx hb d_M_search_44 (by decide) ?_
        refine lv_iadd hx hb d_M_search_45 ?_
        refine lv_ei (y := nI (c + 1)) (nI_add _ _) ?_
        refine lv_iconst (v := nI 0) hx hb d_M_search_46 (by decide) ?_
        refine lv_ei (y := bI false) (rfl) ?_
        refine nw_call (nw_goV (n := 2) (As := [.int (nI (c + 1)), .int (bI false)]) (rest := []) hSx hA hKs hw hS (c_M_keepsAll l D tC A ad n (va_up (va_up J 4 (nI mk)) 5 (bI ub)) bw L bX aY (upR (upR F 5 14 (upd tr c (nI t))) 5 15 be) St4 hst4 hN (c + 1) (by omega) false hm hH) kw_827 kw_824 kw_826 ks_M_keepsAll kw_8 rfl rfl (by decide +kernel) ⟨Nat.le_of_ble_eq_true rfl, Nat.le_of_ble_eq_true rfl⟩ (nw_recv hK hw (mW_64) rfl) rfl hl.1 (Nat.le_of_ble_eq_true rfl) d_M_search_47 ⟨Nat.le_of_ble_eq_true rfl, Nat.le_of_ble_eq_true rfl⟩) hS (fun rv wn' ad' H locs hpost hw hS => ?_)
        obtain ⟨hrv1, L1z, S1z, hsc1z, hw⟩ := nw_ms_out hpost hw
        subst hrv1
        refine lv_if_eq (tgt := 9) hx hb d_M_search_50 (by decide) (fun c_50 => ?_) (fun c_50 => ?_)
        · skip
          have h9 := K1 htn (b2_0 c_50)
          rw [hHd] at h9
          exact h9 _ _ hsc1z _ _ ls hw hS (lv_sub hl [0, 1, 2] rfl)
        · skip
          have hkp : kpM n hm F (mk, false, ub, bw, (upd tr c (nI t)), be) c := b2_1 c_50
          refine lv_aload_n hx hb d_M_search_53 rfl (lv_at hl 0 rfl) ?_
          refine nw_get hx hb hts i_M hown hK hw (64) (mW_64) rfl 23 (by decide) (hts _ kw_682) (fun _ h9 => h9) rfl d_M_search_54 ?_
          refine lv_ei (y := nI mk) (rfl) ?_
          refine lv_iload_n hx hb d_M_search_57 rfl (lv_at hl 1 rfl) ?_
          refine lv_icmp_ne (tgt := 63) hx hb d_M_search_58 (by decide) (fun c_58 => ?_) (fun c_58 => ?_)
          · skip
            have hml2 : mk < lim := by
              rcases Nat.lt_or_ge mk lim with h9 | h9
              · exact h9
              · exact absurd (by rw [show mk = lim by omega]) c_58
            refine lv_aload_n hx hb d_M_search_63 rfl (lv_at hl 0 rfl) ?_
            refine lv_dup hx hb d_M_search_64 rfl ?_
            refine nw_get hx hb hts i_M hown hK hw (64) (mW_64) rfl 23 (by decide) (hts _ kw_682) (fun _ h9 => h9) rfl d_M_search_65 ?_
            refine lv_ei (y := nI mk) (rfl) ?_
            refine lv_iconst (v := nI 1) hx hb d_M_search_68 (by decide) ?_
            refine lv_iadd hx hb d_M_search_69 ?_
            refine lv_ei (y := nI (mk + 1)) (nI_add _ _) ?_
            refine nw_put (v := .int (nI (mk + 1))) (ty := .int) hx hb hts i_M t_M tk_M n_M hown hK hw hS (64) (mW_64) rfl 23 (by decide) (hts _ kw_682) (fun _ h9 => h9) rfl (by decide +kernel) (rfl) (rfl) (Nat.le_of_ble_eq_true rfl) d_M_search_70 (fun H locs hw hS => ?_)
            have hw := nw_W.as (wn' := mW ad tC n (va_up (va_up J 4 (nI (mk + 1))) 5 (bI ub)) bw L1z bX aY S1z) (mW_setO (n' := n) (J' := (va_up (va_up (va_up J 4 (nI mk)) 5 (bI ub)) 4 (nI (mk + 1)))) (bw' := bw) rfl hw) (by rw [kup4])
            refine lv_iload_n hx hb d_M_search_73 rfl (lv_at hl 2 rfl) ?_
            refine lv_aload_n hx hb d_M_search_74 rfl (lv_at hl 0 rfl) ?_
            refine nw_get hx hb hts i_M hown hK hw (64) (mW_64) rfl 5 (by decide) (hts _ kw_664) (fun _ h9 => h9) rfl d_M_search_75 ?_
            refine lv_iconst (v := nI 1) hx hb d_M_search_78 (by decide) ?_
            refine lv_isub hx hb d_M_search_79 ?_
            refine lv_ei (y := nI (n 2 - 1)) (pk_sub (by omega)) ?_
            refine lv_icmp_ne (tgt := 90) hx hb d_M_search_80 (by decide) (fun c_80 => ?_) (fun c_80 => ?_)
            · skip
              have hcn : c ≠ n 2 - 1 := fun h => c_80 (by rw [h])
              refine lv_aload_n hx hb d_M_search_90 rfl (lv_at hl 0 rfl) ?_
              refine nw_get hx hb hts i_M hown hK hw (64) (mW_64) rfl 26 (by decide) (hts _ kw_685) (fun _ h9 => h9) rfl d_M_search_91 ?_
              refine lv_ei (y := bI ub) (rfl) ?_
              refine lv_if_eq (tgt := 112) hx hb d_M_search_94 (by decide) (fun c_94 => ?_) (fun c_94 => ?_)
              · skip
                have hbo : boM n J F (mk + 1, false, ub, bw, (upd tr c (nI t)), be) c := Or.inl (bI_0 c_94)
                refine lv_iinc (v := nI (c + 1)) (lv' := [(2, .int (nI (c + 1))), (0, .ref (ad (64))), (1, .int (nI lim))]) hx hb d_M_search_112 hl (k := 2) rfl ((nI_succ _).symm) (by decide) rfl (fun ls hl => ?_)
                refine lv_aload_n hx hb d_M_search_115 rfl (lv_at hl 1 rfl) ?_
                refine nw_get hx hb hts i_M hown hK hw (64) (mW_64) rfl 24 (by decide) (hts _ kw_683) (fun _ h9 => h9) rfl d_M_search_116 ?_
                refine lv_iload_n hx hb d_M_search_119 rfl (lv_at hl 0 rfl) ?_
                refine lv_iconst (v := (-1)) hx hb d_M_search_120 (by decide) ?_
                refine nw_iast hx hb hK hw hS (194) 0 (mW_row (t := 5) (j := 14) (by decide) (by decide) (rfl)) rfl (c + 1) (rfl) (by omega) (by omega) d_M_search_121 (fun H locs hw hS => ?_)
                have hw := mW_setRow (t := 5) (j := 14) (by decide) (by decide) (rfl) hw
                obtain ⟨St5, hst5, hw⟩ := ex_14 hsc1z hw
                refine lv_goto (tgt := 9) hx hb d_M_search_122 (by decide) ?_
                have h9 := K5 htn hkp hml2 hcn hbo
                rw [hHd] at h9
                exact h9 _ _ hst5 _ _ ls hw hS (lv_sub hl [1, 2, 0] rfl)
              · skip
                refine lv_aload_n hx hb d_M_search_97 rfl (lv_at hl 0 rfl) ?_
                refine lv_iload_n hx hb d_M_search_98 rfl (lv_at hl 2 rfl) ?_
                refine lv_iconst (v := nI 1) hx hb d_M_search_99 (by decide) ?_
                refine lv_iadd hx hb d_M_search_100 ?_
                refine lv_ei (y := nI (c + 1)) (nI_add _ _) ?_
                have hT1 : ∀ j, j < c + 1 → (upd tr c (nI t)) j = nI ((upd tr c (nI t)) j).toNatClampNeg ∧ ((upd tr c (nI t)) j).toNatClampNeg ≤ n 0 := fun j hj => by
                  by_cases e : j = c
                  · subst e; rw [pk_us, nI_clamp (by omega)]; exact ⟨rfl, htn⟩
                  · obtain ⟨w', hw1, hw2⟩ := htr j (by omega)
                    rw [pk_un e, hw2, nI_clamp (by omega)]; exact ⟨rfl, hw1⟩
                refine nw_callD (nw_goV (n := 1) (As := [.int (nI (c + 1))]) (rest := []) hSx hA hKs hw hS (c_M_hopeOf l D tC A ad n (va_up (va_up J 4 (nI (mk + 1))) 5 (bI ub)) bw L1z bX aY (upR (upR F 5 14 (upd tr c (nI t))) 5 15 be) S1z hsc1z hN (c + 1) (by omega) (fun c' => ((upd tr c (nI t)) c').toNatClampNeg) (fun j hj => hT1 j (by omega))) kw_871 kw_868 kw_870 ks_M_hopeOf kw_8 rfl rfl (by decide +kernel) ⟨Nat.le_of_ble_eq_true rfl, Nat.le_of_ble_eq_true rfl⟩ (nw_recv hK hw (mW_64) rfl) rfl hl.1 (Nat.le_of_ble_eq_true rfl) d_M_search_101 ⟨Nat.le_of_ble_eq_true rfl, Nat.le_of_ble_eq_true rfl⟩) hS (fun H locs hw hS => ?_)
                refine lv_aload_n hx hb d_M_search_104 rfl (lv_at hl 0 rfl) ?_
                refine nw_get hx hb hts i_M hown hK hw (64) (mW_64) rfl 27 (by decide) (hts _ kw_686) (fun _ h9 => h9) rfl d_M_search_105 ?_
                refine W.lcmp hx hb d_M_search_108 ?_
                refine lv_if_le (tgt := 9) hx hb d_M_search_109 (by decide) (fun c_109 => ?_) (fun c_109 => ?_)
                · skip
                  have h9 := K4 htn hkp hml2 hcn (fun h => h.elim (fun h8 => c_94 (by rw [show ub = false from h8]; rfl)) (fun h8 => Int64.not_le.mpr h8 ((lg_cmp_le _ _).mp c_109)))
                  rw [hHd] at h9
                  exact h9 _ _ hsc1z _ _ ls hw hS (lv_sub hl [0, 1, 2] rfl)
                · skip
                  have hbo : boM n J F (mk + 1, false, ub, bw, (upd tr c (nI t)), be) c := Or.inr (Int64.not_le.mp (fun h => c_109 ((lg_cmp_le _ _).mpr h)))
                  refine lv_iinc (v := nI (c + 1)) (lv' := [(2, .int (nI (c + 1))), (0, .ref (ad (64))), (1, .int (nI lim))]) hx hb d_M_search_112 hl (k := 2) rfl ((nI_succ _).symm) (by decide) rfl (fun ls hl => ?_)
                  refine lv_aload_n hx hb d_M_search_115 rfl (lv_at hl 1 rfl) ?_
                  refine nw_get hx hb hts i_M hown hK hw (64) (mW_64) rfl 24 (by decide) (hts _ kw_683) (fun _ h9 => h9) rfl d_M_search_116 ?_
                  refine lv_iload_n hx hb d_M_search_119 rfl (lv_at hl 0 rfl) ?_
                  refine lv_iconst (v := (-1)) hx hb d_M_search_120 (by decide) ?_
                  refine nw_iast hx hb hK hw hS (194) 0 (mW_row (t := 5) (j := 14) (by decide) (by decide) (rfl)) rfl (c + 1) (rfl) (by omega) (by omega) d_M_search_121 (fun H locs hw hS => ?_)
                  have hw := mW_setRow (t := 5) (j := 14) (by decide) (by decide) (rfl) hw
                  obtain ⟨St6, hst6, hw⟩ := ex_14 hsc1z hw
                  refine lv_goto (tgt := 9) hx hb d_M_search_122 (by decide) ?_
                  have h9 := K5 htn hkp hml2 hcn hbo
                  rw [hHd] at h9
                  exact h9 _ _ hst6 _ _ ls hw hS (lv_sub hl [1, 2, 0] rfl)
            · skip
              have hcn : c = n 2 - 1 := (nI_eq (by omega) (by omega)).mp c_80
              refine lv_aload_n hx hb d_M_search_83 rfl (lv_at hl 0 rfl) ?_
              refine nw_call (nw_goV (n := 0) (As := []) (rest := []) hSx hA hKs hw hS (c_M_meet l D tC A ad n J bX aY F hN false hm hH (mk + 1) ub bw (upd tr c (nI t)) be L1z S1z hsc1z) kw_823 kw_820 kw_822 ks_M_meet kw_8 rfl rfl (by decide +kernel) ⟨Nat.le_of_ble_eq_true rfl, Nat.le_of_ble_eq_true rfl⟩ (nw_recv hK hw (mW_64) rfl) rfl hl.1 (Nat.le_of_ble_eq_true rfl) d_M_search_84 ⟨Nat.le_of_ble_eq_true rfl, Nat.le_of_ble_eq_true rfl⟩) hS (fun rv wn' ad' H locs hpost hw hS => ?_)
              obtain ⟨hrv2, L2z, S2z, hsc2z, hw⟩ := nw_mz_out hpost hw
              subst hrv2
              obtain ⟨z2, hz2⟩ : ∃ z : mX, z = meM n J hm F (mk + 1, false, ub, bw, upd tr c (nI t), be) := ⟨_, rfl⟩
              rw [← hz2] at hw hsc2z
              rw [hz2] at hw hsc2z
              refine lv_goto (tgt := 9) hx hb d_M_search_87 (by decide) ?_
              have h9 := K3 htn hkp hml2 hcn
              rw [hHd] at h9
              exact h9 _ _ hsc2z _ _ ls hw hS (lv_sub hl [0, 1, 2] rfl)
          · skip
            have hme : mk = lim := (nI_eq (by omega) (by omega)).mp c_58
            refine lv_iconst (v := nI 1) hx hb d_M_search_61 (by decide) ?_
            exact nw_zret hQ hx hb hr (by first | exact Or.inl rfl | exact Or.inr rfl) hlocks hw hS (nw_mz_in (x := (mk, true, ub, bw, (upd tr c (nI t)), be)) (K2 htn hkp hme) (by rw [← K2 htn hkp hme]; rfl) hsc1z) (Nat.le_of_ble_eq_true rfl) (Nat.le_of_ble_eq_true rfl) d_M_search_62
      · skip
        have htn : t = n 0 + 1 := by
          rcases Nat.lt_or_ge (n 0) t with h9 | h9
          · omega
          · exact absurd (nI_le h9 (by omega)) c_33
        refine lv_iinc (v := nI c - 1) (lv' := [(2, .int (nI c - 1)), (0, .ref (ad (64))), (1, .int (nI lim))]) hx hb d_M_search_36 hl (k := 2) rfl (m1_sub _) (by decide) rfl (fun ls hl => ?_)
        refine lv_goto (tgt := 9) hx hb d_M_search_39 (by decide) ?_
        have h9 := K0 htn
        rw [hHd] at h9
        exact h9 _ _ hst4 _ _ ls hw hS (lv_sub hl [1, 2, 0] rfl)
  have all : ∀ (d c : Nat) (y : mX), c + d + 1 = n 2 → y.1 ≤ lim → y.2.1 = false → y.2.2.2.2.1 c = -1 → (∀ j, j < c → ∃ w, w ≤ n 0 ∧ y.2.2.2.2.1 j = nI w) → ((brM n J hm F lim d c y).2.1 = true → brM n J hm F lim d c y = srX) → ((brM n J hm F lim d c y).2.1 = false → Hd (nI c - 1) (brM n J hm F lim d c y)) → Hd (nI c) y := by
    have lvl : ∀ (nd : mX → mX) (c : Nat) (y : mX), c < n 2 → ndK lim c nd → y.1 ≤ lim → y.2.1 = false → y.2.2.2.2.1 c = -1 → (∀ j, j < c → ∃ w, w ≤ n 0 ∧ y.2.2.2.2.1 j = nI w) → ((fiM n c (wlM n hm F lim nd c y (n 0 + 1))).2.1 = true → fiM n c (wlM n hm F lim nd c y (n 0 + 1)) = srX) → ((fiM n c (wlM n hm F lim nd c y (n 0 + 1))).2.1 = false → Hd (nI c - 1) (fiM n c (wlM n hm F lim nd c y (n 0 + 1)))) → (∀ z : mX, z.1 ≤ lim → z.2.1 = false → (∀ j, j < c + 1 → ∃ w, w ≤ n 0 ∧ z.2.2.2.2.1 j = nI w) → ((nd z).2.1 = true → nd z = srX) → ((nd z).2.1 = false → Hd (nI c) (nd z)) → (c = n 2 - 1 → Hd (nI c) (meM n J hm F z)) ∧ (c ≠ n 2 - 1 → ¬ boM n J F z c → Hd (nI c) z) ∧ (c ≠ n 2 - 1 → boM n J F z c → Hd (nI (c + 1)) (stM z (c + 1) (-1)))) → Hd (nI c) y := by
      intro nd c y hc hnd hy hf hyc hyj hsp hns hN5
      have wk := wlM_k (n := n) (hm := hm) (F := F) hnd hy hyc
      have down : ∀ k t, t + k = n 0 + 1 → (wlM n hm F lim nd c y t).2.1 = false → Hd (nI c) (wlM n hm F lim nd c y t) := by
        have fin : ∀ t, t ≤ n 0 + 1 → (wlM n hm F lim nd c y t).2.1 = true → wlM n hm F lim nd c y t = srX := by
          intro t ht h
          have h1 := wlM_sp h (n 0 + 1 - t)
          rw [show t + (n 0 + 1 - t) = n 0 + 1 by omega] at h1
          have h2 : fiM n c (wlM n hm F lim nd c y (n 0 + 1)) = wlM n hm F lim nd c y t := by rw [h1]; exact if_pos h
          rw [h2] at hsp
          exact hsp h
        intro k
        induction k with
        | zero =>
          intro t ht hz
          obtain rfl : n 0 + 1 = t := by omega
          obtain ⟨w1, w2, w3⟩ := wk (n 0 + 1)
          have h2 : fiM n c (wlM n hm F lim nd c y (n 0 + 1)) = stM (wlM n hm F lim nd c y (n 0 + 1)) c (nI (n 0 + 1)) := if_neg (by rw [hz]; decide)
          rw [h2] at hns
          obtain ⟨z, ez⟩ : ∃ z, z = wlM n hm F lim nd c y (n 0 + 1) := ⟨_, rfl⟩
          rw [← ez] at hns hz w1 w2 w3 ⊢
          obtain ⟨mk, sp, ub, bw, tr, be⟩ := z
          obtain rfl : sp = false := hz
          exact step c (n 0 + 1) mk ub bw tr be hc (by omega) w1 (w3 rfl) (fun j hj => by obtain ⟨w', a, b⟩ := hyj j hj; exact ⟨w', a, (w2 j hj).trans b⟩) (fun _ => hns rfl) (fun h => absurd h (by omega)) (fun h => absurd h (by omega)) (fun h => absurd h (by omega)) (fun h => absurd h (by omega)) (fun h => absurd h (by omega))
        | succ k ih =>
          intro t ht hz
          obtain ⟨w1, w2, w3⟩ := wk t
          have i1 := ih (t + 1) (by omega)
          have f1 := fin (t + 1) (by omega)
          have hz' : ¬ (wlM n hm F lim nd c y t).2.1 = true := by rw [hz]; decide
          have en := wlM_n (n := n) (hm := hm) (F := F) (lim := lim) (nd := nd) (c := c) (y := y) hz'
          have el := wlM_l (n := n) (hm := hm) (F := F) (lim := lim) (nd := nd) (c := c) (y := y) hz'
          have ey := wlM_y (n := n) (hm := hm) (F := F) (lim := lim) (nd := nd) (c := c) (y := y) hz'
          obtain ⟨z, ez⟩ : ∃ z, z = wlM n hm F lim nd c y t := ⟨_, rfl⟩
          rw [← ez] at hz w1 w2 w3 en el ey ⊢
          obtain ⟨mk, sp, ub, bw, tr, be⟩ := z
          obtain rfl : sp = false := hz
          have hj1 : ∀ j, j < c + 1 → ∃ w, w ≤ n 0 ∧ upd tr c (nI t) j = nI w := fun j hj => by
            by_cases e : j = c
            · subst e; exact ⟨t, by omega, pk_us⟩
            · rw [pk_un e]; obtain ⟨w', a, b⟩ := hyj j (by omega); exact ⟨w', a, (w2 j (by omega)).trans b⟩
          have nk : kpM n hm F (mk, false, ub, bw, (upd tr c (nI t)), be) c → mk < lim → _ := fun hk hl => by
            have e1 := ey hk (show ¬ mk = lim by omega)
            have h8 := hN5 (mk + 1, false, ub, bw, (upd tr c (nI t)), be) (show mk + 1 ≤ lim by omega) rfl hj1 (fun h => by have h7 := f1 (by rw [e1]; exact h); rw [e1] at h7; exact h7) (fun h => by have h7 := i1 (by rw [e1]; exact h); rw [e1] at h7; exact h7)
            exact h8
          refine step c t mk ub bw tr be hc (by omega) w1 (w3 rfl) (fun j hj => by obtain ⟨w', a, b⟩ := hyj j hj; exact ⟨w', a, (w2 j hj).trans b⟩) (fun h => absurd h (by omega)) (fun _ hk => ?_) (fun _ hk hl => ?_) (fun _ hk hl h => (nk hk hl).1 h) (fun _ hk hl h h' => (nk hk hl).2.1 h h') (fun _ hk hl h h' => (nk hk hl).2.2 h h')
          · have e1 := en hk
            have h7 := i1 (by rw [e1]; rfl)
            rw [e1] at h7
            exact h7
          · have e1 := el hk hl
            have h7 := f1 (by rw [e1])
            rw [e1] at h7
            exact h7
      exact down (n 0 + 1) 0 (by omega) hf
    intro d
    induction d with
    | zero =>
      intro c y hc hy hf hyc hyj hsp hns
      exact lvl (meM n J hm F) c y (by omega) meM_nd hy hf hyc hyj hsp hns (fun z hz hzf hzj g1 g2 => ⟨fun _ => g2 (meM_k.2.1.trans hzf), fun h => absurd h (by omega), fun h => absurd h (by omega)⟩)
    | succ d ih =>
      intro c y hc hy hf hyc hyj hsp hns
      have hnd : ndK lim c (fun z => pif (boM n J F z c) (brM n J hm F lim d (c + 1) (stM z (c + 1) (-1))) z) := fun z hz => by
        show (pif (boM n J F z c) (brM n J hm F lim d (c + 1) (stM z (c + 1) (-1))) z).1 ≤ lim ∧ ∀ j, j ≤ c → (pif (boM n J F z c) (brM n J hm F lim d (c + 1) (stM z (c + 1) (-1))) z).2.2.2.2.1 j = z.2.2.2.2.1 j
        by_cases hbo : boM n J F z c
        · rw [pif_t hbo]
          obtain ⟨a, b⟩ := brM_k (n := n) (J := J) (hm := hm) (F := F) d (c + 1) (stM z (c + 1) (-1)) hz stM_tc
          exact ⟨a, fun j hj => (b j (by omega)).trans (stM_tr (by omega))⟩
        · rw [pif_f hbo]
          exact ⟨hz, fun _ _ => rfl⟩
      refine lvl _ c y (by omega) hnd hy hf hyc hyj hsp hns (fun z hz hzf hzj g1 g2 => ⟨fun h => absurd h (by omega), fun _ hbo => ?_, fun _ hbo => ?_⟩)
      · rw [pif_f hbo] at g2
        exact g2 hzf
      · rw [pif_t hbo] at g1 g2
        refine ih (c + 1) (stM z (c + 1) (-1)) (by omega) hz hzf stM_tc (fun j hj => ?_) g1 (fun h => ?_)
        · rw [stM_tr (by omega)]; exact hzj j hj
        · have h7 := g2 h
          rw [show nI (c + 1) - 1 = nI c from nI_pred c]
          exact h7
  have hgo := all (n 2 - 1) 0 (mk, false, ub, bw, upd tr 0 (-1), be) (by omega) hmk rfl (pk_us (f := tr) (k := 0) (x := -1)) (fun j hj => absurd hj (Nat.not_lt_zero j)) (fun _ => hX.symm) (fun h => hEnd _ hX.symm h)
  rw [hHd] at hgo
  exact hgo _ _ hst3 _ _ ls hw hS (lv_sub hl [1, 2, 0] rfl)
