/-! MORE OF THE MODEL'S OPERATIONS -/
def mvP (n : Nat → Nat) (J : Nat → Int32) (S : Nat → Nat → Nat → Int32) : Nat → Int32 := if J 3 = 0 then flR (S 5 13) (nI (n 0)) (n 2) else S 5 13
theorem lbI_le {a b c d : Prop} (h : lbI a b c d ≤ 0) : lbI a b c d = 0 := by
  by_cases ha : a
  · by_cases hb : b
    · by_cases hc : c
      · by_cases hd : d
        · exact (lbI_0 ha hb hc hd).symm
        · rw [← lbI_4 ha hb hc hd] at h; exact absurd h (by decide)
      · rw [← lbI_3 ha hb hc] at h; exact absurd h (by decide)
    · rw [← lbI_2 ha hb] at h; exact absurd h (by decide)
  · rw [← lbI_1 ha] at h; exact absurd h (by decide)
/-- what the model's run leaves of the search -/
noncomputable def rnM (n : Nat → Nat) (J : Nat → Int32) (hm : Nat → Nat) (F : Nat → Nat → Nat → Int32) (lim : Nat) (bw : Int64) : mX := if n 2 = 0 then meM n J hm F (0, false, false, bw, F 5 14, F 5 15) else brM n J hm F lim (n 2 - 1) 0 (0, false, false, bw, upd (F 5 14) 0 (-1), F 5 15)
def rvM (x : mX) : Int32 := if x.2.2.1 = true then (if x.2.1 = true then nI 1 else nI 0) else (if x.2.1 = true then nI 3 else nI 2)
def plM (x : mX) (pl : Nat → Int32) (m : Nat) : Nat → Int32 := if x.2.2.1 = true then cpR x.2.2.2.2.2 pl m else pl
theorem kup35 {J : Nat → Int32} {a b v : Int32} : va_up (va_up (va_up J 3 v) 4 a) 5 b = va_up (va_up (va_up J 4 a) 5 b) 3 v := by
  funext j
  simp only [va_up]
  by_cases h : j = 3
  · subst h; simp
  · simp [h]
theorem scm_13 {F S : Nat → Nat → Nat → Int32} (h : scm F S) : scm (upR F 5 13 (F 5 13)) S := by rw [upR_same]; exact h
theorem ex_13 {D : va_G} {A : Nat → Prop} {ad : Nat → Nat} {tC : Nat → ClassId} {n : Nat → Nat} {J : Nat → Int32} {bw : Int64} {L : Nat → Nat → Int64} {bX : Nat → Option va_E} {aY : Nat → Nat → Option (ClassId × Nat)} {F S : Nat → Nat → Nat → Int32} {pl : Nat → Int32} {c : Nat} {v : Int32} {H : Heap} (h : scm (upR F 5 13 pl) S) (hw : nw_W D hpC A (mW ad tC n J bw L bX aY (upR S 5 13 (upd (S 5 13) c v))) ad H) : ∃ S', scm (upR F 5 13 (upd pl c v)) S' ∧ nw_W D hpC A (mW ad tC n J bw L bX aY S') ad H := ⟨_, fun t j hj => by
  have e9 : S 5 13 = pl := (h 5 13 (by omega)).trans upR_self
  by_cases h1 : t = 5 ∧ j = 13
  · obtain ⟨rfl, rfl⟩ := h1
    rw [upR_self, upR_self, e9]
  · rw [upR_ne h1, upR_ne h1, h t j hj, upR_ne h1], hw⟩
set_option maxHeartbeats 4000000 in
set_option maxRecDepth 100000 in
/-- order -/
theorem c_M_order (l : Launch) (D : va_G) (tC : Nat → ClassId) (A : Nat → Prop) (ad : Nat → Nat) (n : Nat → Nat) (J : Nat → Int32) (bw : Int64) (L : Nat → Nat → Int64) (bX : Nat → Option va_E) (aY : Nat → Nat → Option (ClassId × Nat)) (S : Nat → Nat → Nat → Int32) (hN : hpN n) (x1 x2 x3 x4 x5 : Int32) : nw_Met l y_M_order [Cond.code y_M_order b_M_order 7 (some .int)] ({ frames := 1, cells := 0, slots := 0, locals := 25 } : Room) D hpC A [.ref (ad (64)), .int (x1), .int (x2), .int (x3), .int (x4), .int (x5)] (nw_pre D hpC (hpT tC) A (mW ad tC n J bw L bX aY S) ad) (nw_mo (¬ ((0 ≤ x1 ∧ x1 < nI (n 0)) ∧ (nI 0 ≤ x3 ∧ x3 ≤ nI 20000) ∧ (nI 0 ≤ x2 ∧ x2 ≤ x3) ∧ (nI 0 ≤ x4 ∧ x4 ≤ 100000000) ∧ (nI 0 ≤ x5 ∧ x5 ≤ nI 10000))) (¬ (nI (n 4) < nI 6)) (fun t => mW ad tC n (va_up J 0 t) bw L bX aY S) ad (some (.int (nI 0))) 2 (fun o wn' => o = some (.int (nI (n 4))) ∧ wn' = mW ad tC (va_up n 4 (n 4 + 1)) (va_up (va_up J 0 (nI 0)) 3 (nI 0)) bw L bX aY (upR (upR (upR (upR (upR S 5 8 (upd (S 5 8) (n 4) x1)) 5 9 (upd ((upR S 5 8 (upd (S 5 8) (n 4) x1)) 5 9) (n 4) x2)) 5 10 (upd ((upR (upR S 5 8 (upd (S 5 8) (n 4) x1)) 5 9 (upd ((upR S 5 8 (upd (S 5 8) (n 4) x1)) 5 9) (n 4) x2)) 5 10) (n 4) x3)) 5 11 (upd ((upR (upR (upR S 5 8 (upd (S 5 8) (n 4) x1)) 5 9 (upd ((upR S 5 8 (upd (S 5 8) (n 4) x1)) 5 9) (n 4) x2)) 5 10 (upd ((upR (upR S 5 8 (upd (S 5 8) (n 4) x1)) 5 9 (upd ((upR S 5 8 (upd (S 5 8) (n 4) x1)) 5 9) (n 4) x2)) 5 10) (n 4) x3)) 5 11) (n 4) x4)) 5 12 (upd ((upR (upR (upR (upR S 5 8 (upd (S 5 8) (n 4) x1)) 5 9 (upd ((upR S 5 8 (upd (S 5 8) (n 4) x1)) 5 9) (n 4) x2)) 5 10 (upd ((upR (upR S 5 8 (upd (S 5 8) (n 4) x1)) 5 9 (upd ((upR S 5 8 (upd (S 5 8) (n 4) x1)) 5 9) (n 4) x2)) 5 10) (n 4) x3)) 5 11 (upd ((upR (upR (upR S 5 8 (upd (S 5 8) (n 4) x1)) 5 9 (upd ((upR S 5 8 (upd (S 5 8) (n 4) x1)) 5 9) (n 4) x2)) 5 10 (upd ((upR (upR S 5 8 (upd (S 5 8) (n 4) x1)) 5 9 (upd ((upR S 5 8 (upd (S 5 8) (n 4) x1)) 5 9) (n 4) x2)) 5 10) (n 4) x3)) 5 11) (n 4) x4)) 5 12) (n 4) x5)))) 0 0 := by
  refine nw_bodyK (by decide) (Nat.le_of_ble_eq_true rfl) ?_
  intro p e s m below meth cd ls args Q hSx hr hlocks hname hA hKs hw hS hl hQ
  obtain ⟨hx, hb, hml, hown, hts⟩ := id hSx
  have hK := hKs.1
  have hl : lv_has ls 7 [(0, .ref (ad (64))), (1, .int (x1)), (2, .int (x2)), (3, .int (x3)), (4, .int (x4)), (5, .int (x5))] := hl
  obtain ⟨hn0, hn0', hn1, hn2, hn3, hn4⟩ := id hN
  refine lv_iload_n hx hb d_M_order_0 rfl (lv_at hl 1 rfl) ?_
  refine lv_i2l (v := ((x1).toInt64)) hx hb d_M_order_1 rfl ?_
  refine lv_lconst (v := 0) hx hb d_M_order_2 (by decide) ?_
  refine lv_aload_n hx hb d_M_order_3 rfl (lv_at hl 0 rfl) ?_
  refine nw_get hx hb hts i_M hown hK hw (64) (mW_64) rfl 0 (by decide) (hts _ kw_659) (fun _ h9 => h9) rfl d_M_order_4 ?_
  refine lv_iconst (v := nI 1) hx hb d_M_order_7 (by decide) ?_
  refine lv_isub hx hb d_M_order_8 ?_
  refine lv_i2l (v := ((((nI (n 0)) - (nI 1))).toInt64)) hx hb d_M_order_9 rfl ?_
  refine nw_callD (nw_goS (n := 3) (As := [.long (((x1).toInt64)), .long (0), .long (((((nI (n 0)) - (nI 1))).toInt64))]) (rest := []) hSx hA hKs hw hS (c_M_in l D tC A ad n J bw L bX aY S S scm_rf hN (((x1).toInt64)) (0) (((((nI (n 0)) - (nI 1))).toInt64))) kw_770 kw_768 kw_769 kw_8 rfl rfl (by decide +kernel) ⟨Nat.le_of_ble_eq_true rfl, Nat.le_of_ble_eq_true rfl⟩ rfl hl.1 (Nat.le_of_ble_eq_true rfl) d_M_order_10 ⟨Nat.le_of_ble_eq_true rfl, Nat.le_of_ble_eq_true rfl⟩) hS (fun H locs hw hS => ?_)
  refine lv_if_eq (tgt := 75) hx hb d_M_order_13 (by decide) (fun c_13 => ?_) (fun c_13 => ?_)
  · skip
    have hneg : ¬ ((0 ≤ x1 ∧ x1 < nI (n 0)) ∧ (nI 0 ≤ x3 ∧ x3 ≤ nI 20000) ∧ (nI 0 ≤ x2 ∧ x2 ≤ x3) ∧ (nI 0 ≤ x4 ∧ x4 ≤ 100000000) ∧ (nI 0 ≤ x5 ∧ x5 ≤ nI 10000)) := fun h => b2_0 c_13 ((show _ ↔ (0 ≤ x1 ∧ x1 < nI (n 0)) from in_n (by omega)).mpr (h.1))
    refine lv_iconst (v := nI 0) hx hb d_M_order_75 (by decide) ?_
    refine lv_istore (lv' := [(6, .int (nI 0)), (0, .ref (ad (64))), (1, .int (x1)), (2, .int (x2)), (3, .int (x3)), (4, .int (x4)), (5, .int (x5))]) hx hb d_M_order_76 hl (by decide) rfl (fun ls hl => ?_)
    refine lv_aload_n hx hb d_M_order_78 rfl (lv_at hl 1 rfl) ?_
    refine lv_iload hx hb d_M_order_79 (lv_at hl 0 rfl) ?_
    refine lv_aload_n hx hb d_M_order_81 rfl (lv_at hl 1 rfl) ?_
    refine nw_get hx hb hts i_M hown hK hw (64) (mW_64) rfl 13 (by decide) (hts _ kw_672) (fun _ h9 => h9) rfl d_M_order_82 ?_
    refine lv_bipush (v := nI 6) hx hb d_M_order_85 (by decide) ?_
    refine lv_icmp_ge (tgt := 94) hx hb d_M_order_87 (by decide) (fun c_87 => ?_) (fun c_87 => ?_)
    · skip
      have hbsn : ¬ (nI (n 4) < nI 6) := Int32.not_lt.mpr c_87
      refine lv_iconst (v := nI 0) hx hb d_M_order_94 (by decide) ?_
      have ha9 : nI 0 = 0 ↔ ¬ ((0 ≤ x1 ∧ x1 < nI (n 0)) ∧ (nI 0 ≤ x3 ∧ x3 ≤ nI 20000) ∧ (nI 0 ≤ x2 ∧ x2 ≤ x3) ∧ (nI 0 ≤ x4 ∧ x4 ≤ 100000000) ∧ (nI 0 ≤ x5 ∧ x5 ≤ nI 10000)) := ⟨fun _ => hneg, fun _ => rfl⟩
      have hs9 : nI 0 = 0 ↔ ¬ (nI (n 4) < nI 6) := ⟨fun _ => hbsn, fun _ => rfl⟩
      refine nw_callD (nw_goV (n := 2) (As := [.int (nI 0), .int (nI 0)]) (rest := []) hSx hA hKs hw hS (c_M_refuses l D tC A ad n J bw L bX aY S hN (nI 0) (nI 0)) kw_774 kw_771 kw_773 ks_M_refuses kw_8 rfl rfl (by decide +kernel) ⟨Nat.le_of_ble_eq_true rfl, Nat.le_of_ble_eq_true rfl⟩ (nw_recv hK hw (mW_64) rfl) rfl hl.1 (Nat.le_of_ble_eq_true rfl) d_M_order_95 ⟨Nat.le_of_ble_eq_true rfl, Nat.le_of_ble_eq_true rfl⟩) hS (fun H locs hw hS => ?_)
      refine lv_if_eq (tgt := 103) hx hb d_M_order_98 (by decide) (fun c_98 => ?_) (fun c_98 => ?_)
      · skip
        have hno9 := b2_0 c_98
        have hok9 : (0 ≤ x1 ∧ x1 < nI (n 0)) ∧ (nI 0 ≤ x3 ∧ x3 ≤ nI 20000) ∧ (nI 0 ≤ x2 ∧ x2 ≤ x3) ∧ (nI 0 ≤ x4 ∧ x4 ≤ 100000000) ∧ (nI 0 ≤ x5 ∧ x5 ≤ nI 10000) := Classical.not_not.mp (fun h => hno9 (Or.inl (ha9.mpr h)))
        have hst9 : nI (n 4) < nI 6 := Classical.not_not.mp (fun h => hno9 (Or.inr (hs9.mpr h)))
        have hw := nw_W.as (wn' := mW ad tC n (va_up J 0 (nI 0)) bw L bX aY S) hw (by rw [rfI_ok hno9])
        refine lv_aload_n hx hb d_M_order_103 rfl (lv_at hl 1 rfl) ?_
        refine lv_iconst (v := nI 0) hx hb d_M_order_104 (by decide) ?_
        refine nw_put (v := .int (nI 0)) (ty := .boolean) hx hb hts i_M t_M tk_M n_M hown hK hw hS (64) (mW_64) rfl 21 (by decide) (hts _ kw_680) (fun _ h9 => h9) rfl (by decide +kernel) (rfl) (rfl) (Nat.le_of_ble_eq_true rfl) d_M_order_105 (fun H locs hw hS => ?_)
        have hw := nw_W.as (wn' := mW ad tC n (va_up (va_up J 0 (nI 0)) 3 (nI 0)) bw L bX aY S) (mW_setO (n' := n) (J' := (va_up (va_up J 0 (nI 0)) 3 (nI 0))) (bw' := bw) rfl hw) rfl
        refine lv_aload_n hx hb d_M_order_108 rfl (lv_at hl 1 rfl) ?_
        refine nw_get hx hb hts i_M hown hK hw (64) (mW_64) rfl 14 (by decide) (hts _ kw_673) (fun _ h9 => h9) rfl d_M_order_109 ?_
        refine lv_aload_n hx hb d_M_order_112 rfl (lv_at hl 1 rfl) ?_
        refine nw_get hx hb hts i_M hown hK hw (64) (mW_64) rfl 13 (by decide) (hts _ kw_672) (fun _ h9 => h9) rfl d_M_order_113 ?_
        refine lv_iload_n hx hb d_M_order_116 rfl (lv_at hl 2 rfl) ?_
        refine nw_iast hx hb hK hw hS (188) 0 (mW_row (t := 5) (j := 8) (by decide) (by decide) (rfl)) rfl (n 4) (rfl) ((nI_ltI (by omega) (by omega)).mp hst9) (by omega) d_M_order_117 (fun H locs hw hS => ?_)
        have hw := mW_setRow (t := 5) (j := 8) (by decide) (by decide) (rfl) hw
        refine lv_aload_n hx hb d_M_order_118 rfl (lv_at hl 1 rfl) ?_
        refine nw_get hx hb hts i_M hown hK hw (64) (mW_64) rfl 15 (by decide) (hts _ kw_674) (fun _ h9 => h9) rfl d_M_order_119 ?_
        refine lv_aload_n hx hb d_M_order_122 rfl (lv_at hl 1 rfl) ?_
        refine nw_get hx hb hts i_M hown hK hw (64) (mW_64) rfl 13 (by decide) (hts _ kw_672) (fun _ h9 => h9) rfl d_M_order_123 ?_
        refine lv_iload_n hx hb d_M_order_126 rfl (lv_at hl 3 rfl) ?_
        refine nw_iast hx hb hK hw hS (189) 0 (mW_row (t := 5) (j := 9) (by decide) (by decide) (rfl)) rfl (n 4) (rfl) ((nI_ltI (by omega) (by omega)).mp hst9) (by omega) d_M_order_127 (fun H locs hw hS => ?_)
        have hw := mW_setRow (t := 5) (j := 9) (by decide) (by decide) (rfl) hw
        refine lv_aload_n hx hb d_M_order_128 rfl (lv_at hl 1 rfl) ?_
        refine nw_get hx hb hts i_M hown hK hw (64) (mW_64) rfl 16 (by decide) (hts _ kw_675) (fun _ h9 => h9) rfl d_M_order_129 ?_
        refine lv_aload_n hx hb d_M_order_132 rfl (lv_at hl 1 rfl) ?_
        refine nw_get hx hb hts i_M hown hK hw (64) (mW_64) rfl 13 (by decide) (hts _ kw_672) (fun _ h9 => h9) rfl d_M_order_133 ?_
        refine lv_iload_n hx hb d_M_order_136 rfl (lv_at hl 4 rfl) ?_
        refine nw_iast hx hb hK hw hS (190) 0 (mW_row (t := 5) (j := 10) (by decide) (by decide) (rfl)) rfl (n 4) (rfl) ((nI_ltI (by omega) (by omega)).mp hst9) (by omega) d_M_order_137 (fun H locs hw hS => ?_)
        have hw := mW_setRow (t := 5) (j := 10) (by decide) (by decide) (rfl) hw
        refine lv_aload_n hx hb d_M_order_138 rfl (lv_at hl 1 rfl) ?_
        refine nw_get hx hb hts i_M hown hK hw (64) (mW_64) rfl 17 (by decide) (hts _ kw_676) (fun _ h9 => h9) rfl d_M_order_139 ?_
        refine lv_aload_n hx hb d_M_order_142 rfl (lv_at hl 1 rfl) ?_
        refine nw_get hx hb hts i_M hown hK hw (64) (mW_64) rfl 13 (by decide) (hts _ kw_672) (fun _ h9 => h9) rfl d_M_order_143 ?_
        refine lv_iload hx hb d_M_order_146 (lv_at hl 5 rfl) ?_
        refine nw_iast hx hb hK hw hS (191) 0 (mW_row (t := 5) (j := 11) (by decide) (by decide) (rfl)) rfl (n 4) (rfl) ((nI_ltI (by omega) (by omega)).mp hst9) (by omega) d_M_order_148 (fun H locs hw hS => ?_)
        have hw := mW_setRow (t := 5) (j := 11) (by decide) (by decide) (rfl) hw
        refine lv_aload_n hx hb d_M_order_149 rfl (lv_at hl 1 rfl) ?_
        refine nw_get hx hb hts i_M hown hK hw (64) (mW_64) rfl 18 (by decide) (hts _ kw_677) (fun _ h9 => h9) rfl d_M_order_150 ?_
        refine lv_aload_n hx hb d_M_order_153 rfl (lv_at hl 1 rfl) ?_
        refine nw_get hx hb hts i_M hown hK hw (64) (mW_64) rfl 13 (by decide) (hts _ kw_672) (fun _ h9 => h9) rfl d_M_order_154 ?_
        refine lv_iload hx hb d_M_order_157 (lv_at hl 6 rfl) ?_
        refine nw_iast hx hb hK hw hS (192) 0 (mW_row (t := 5) (j := 12) (by decide) (by decide) (rfl)) rfl (n 4) (rfl) ((nI_ltI (by omega) (by omega)).mp hst9) (by omega) d_M_order_159 (fun H locs hw hS => ?_)
        have hw := mW_setRow (t := 5) (j := 12) (by decide) (by decide) (rfl) hw
        refine lv_aload_n hx hb d_M_order_160 rfl (lv_at hl 1 rfl) ?_
        refine lv_dup hx hb d_M_order_161 rfl ?_
        refine nw_get hx hb hts i_M hown hK hw (64) (mW_64) rfl 13 (by decide) (hts _ kw_672) (fun _ h9 => h9) rfl d_M_order_162 ?_
        refine lv_iconst (v := nI 1) hx hb d_M_order_165 (by decide) ?_
        refine lv_iadd hx hb d_M_order_166 ?_
        refine lv_ei (y := nI (n 4 + 1)) (nI_add _ _) ?_
        refine nw_put (v := .int (nI (n 4 + 1))) (ty := .int) hx hb hts i_M t_M tk_M n_M hown hK hw hS (64) (mW_64) rfl 13 (by decide) (hts _ kw_672) (fun _ h9 => h9) rfl (by decide +kernel) (rfl) (rfl) (Nat.le_of_ble_eq_true rfl) d_M_order_167 (fun H locs hw hS => ?_)
        have hw := nw_W.as (wn' := mW ad tC (va_up n 4 (n 4 + 1)) (va_up (va_up J 0 (nI 0)) 3 (nI 0)) bw L bX aY (upR (upR (upR (upR (upR S 5 8 (upd (S 5 8) (n 4) x1)) 5 9 (upd ((upR S 5 8 (upd (S 5 8) (n 4) x1)) 5 9) (n 4) x2)) 5 10 (upd ((upR (upR S 5 8 (upd (S 5 8) (n 4) x1)) 5 9 (upd ((upR S 5 8 (upd (S 5 8) (n 4) x1)) 5 9) (n 4) x2)) 5 10) (n 4) x3)) 5 11 (upd ((upR (upR (upR S 5 8 (upd (S 5 8) (n 4) x1)) 5 9 (upd ((upR S 5 8 (upd (S 5 8) (n 4) x1)) 5 9) (n 4) x2)) 5 10 (upd ((upR (upR S 5 8 (upd (S 5 8) (n 4) x1)) 5 9 (upd ((upR S 5 8 (upd (S 5 8) (n 4) x1)) 5 9) (n 4) x2)) 5 10) (n 4) x3)) 5 11) (n 4) x4)) 5 12 (upd ((upR (upR (upR (upR S 5 8 (upd (S 5 8) (n 4) x1)) 5 9 (upd ((upR S 5 8 (upd (S 5 8) (n 4) x1)) 5 9) (n 4) x2)) 5 10 (upd ((upR (upR S 5 8 (upd (S 5 8) (n 4) x1)) 5 9 (upd ((upR S 5 8 (upd (S 5 8) (n 4) x1)) 5 9) (n 4) x2)) 5 10) (n 4) x3)) 5 11 (upd ((upR (upR (upR S 5 8 (upd (S 5 8) (n 4) x1)) 5 9 (upd ((upR S 5 8 (upd (S 5 8) (n 4) x1)) 5 9) (n 4) x2)) 5 10 (upd ((upR (upR S 5 8 (upd (S 5 8) (n 4) x1)) 5 9 (upd ((upR S 5 8 (upd (S 5 8) (n 4) x1)) 5 9) (n 4) x2)) 5 10) (n 4) x3)) 5 11) (n 4) x4)) 5 12) (n 4) x5))) (mW_setO (n' := (va_up n 4 (n 4 + 1))) (J' := (va_up (va_up J 0 (nI 0)) 3 (nI 0))) (bw' := bw) rfl hw) rfl
        refine lv_aload_n hx hb d_M_order_170 rfl (lv_at hl 1 rfl) ?_
        refine nw_get hx hb hts i_M hown hK hw (64) (mW_64) rfl 13 (by decide) (hts _ kw_672) (fun _ h9 => h9) rfl d_M_order_171 ?_
        refine lv_iconst (v := nI 1) hx hb d_M_order_174 (by decide) ?_
        refine lv_isub hx hb d_M_order_175 ?_
        refine lv_ei (y := nI (n 4)) (by show nI (n 4 + 1) - nI 1 = _; exact pk_sub (by omega)) ?_
        exact nw_iret hQ hx hb hr hlocks hw hS (nw_mo_ok (fun h => h hok9) (fun h => h hst9) (⟨rfl, rfl⟩)) (Nat.le_of_ble_eq_true rfl) (Nat.le_of_ble_eq_true rfl) d_M_order_176
      · skip
        refine lv_iconst (v := nI 0) hx hb d_M_order_101 (by decide) ?_
        exact nw_iret hQ hx hb hr hlocks hw hS (nw_mo_bad (Wb := (fun t => mW ad tC n (va_up J 0 t) bw L bX aY S)) ha9 hs9 (b2_1 c_98)) (Nat.le_of_ble_eq_true rfl) (Nat.le_of_ble_eq_true rfl) d_M_order_102
    · skip
      have hbs : nI (n 4) < nI 6 := Int32.not_le.mp c_87
      refine lv_iconst (v := nI 1) hx hb d_M_order_90 (by decide) ?_
      refine lv_goto (tgt := 95) hx hb d_M_order_91 (by decide) ?_
      have ha9 : nI 0 = 0 ↔ ¬ ((0 ≤ x1 ∧ x1 < nI (n 0)) ∧ (nI 0 ≤ x3 ∧ x3 ≤ nI 20000) ∧ (nI 0 ≤ x2 ∧ x2 ≤ x3) ∧ (nI 0 ≤ x4 ∧ x4 ≤ 100000000) ∧ (nI 0 ≤ x5 ∧ x5 ≤ nI 10000)) := ⟨fun _ => hneg, fun _ => rfl⟩
      have hs9 : nI 1 = 0 ↔ ¬ (nI (n 4) < nI 6) := ⟨fun h => absurd h (by decide), fun h => absurd hbs h⟩
      refine nw_callD (nw_goV (n := 2) (As := [.int (nI 0), .int (nI 1)]) (rest := []) hSx hA hKs hw hS (c_M_refuses l D tC A ad n J bw L bX aY S hN (nI 0) (nI 1)) kw_774 kw_771 kw_773 ks_M_refuses kw_8 rfl rfl (by decide +kernel) ⟨Nat.le_of_ble_eq_true rfl, Nat.le_of_ble_eq_true rfl⟩ (nw_recv hK hw (mW_64) rfl) rfl hl.1 (Nat.le_of_ble_eq_true rfl) d_M_order_95 ⟨Nat.le_of_ble_eq_true rfl, Nat.le_of_ble_eq_true rfl⟩) hS (fun H locs hw hS => ?_)
      refine lv_if_eq (tgt := 103) hx hb d_M_order_98 (by decide) (fun c_98 => ?_) (fun c_98 => ?_)
      · skip
        have hno9 := b2_0 c_98
        have hok9 : (0 ≤ x1 ∧ x1 < nI (n 0)) ∧ (nI 0 ≤ x3 ∧ x3 ≤ nI 20000) ∧ (nI 0 ≤ x2 ∧ x2 ≤ x3) ∧ (nI 0 ≤ x4 ∧ x4 ≤ 100000000) ∧ (nI 0 ≤ x5 ∧ x5 ≤ nI 10000) := Classical.not_not.mp (fun h => hno9 (Or.inl (ha9.mpr h)))
        have hst9 : nI (n 4) < nI 6 := Classical.not_not.mp (fun h => hno9 (Or.inr (hs9.mpr h)))
        have hw := nw_W.as (wn' := mW ad tC n (va_up J 0 (nI 0)) bw L bX aY S) hw (by rw [rfI_ok hno9])
        refine lv_aload_n hx hb d_M_order_103 rfl (lv_at hl 1 rfl) ?_
        refine lv_iconst (v := nI 0) hx hb d_M_order_104 (by decide) ?_
        refine nw_put (v := .int (nI 0)) (ty := .boolean) hx hb hts i_M t_M tk_M n_M hown hK hw hS (64) (mW_64) rfl 21 (by decide) (hts _ kw_680) (fun _ h9 => h9) rfl (by decide +kernel) (rfl) (rfl) (Nat.le_of_ble_eq_true rfl) d_M_order_105 (fun H locs hw hS => ?_)
        have hw := nw_W.as (wn' := mW ad tC n (va_up (va_up J 0 (nI 0)) 3 (nI 0)) bw L bX aY S) (mW_setO (n' := n) (J' := (va_up (va_up J 0 (nI 0)) 3 (nI 0))) (bw' := bw) rfl hw) rfl
        refine lv_aload_n hx hb d_M_order_108 rfl (lv_at hl 1 rfl) ?_
        refine nw_get hx hb hts i_M hown hK hw (64) (mW_64) rfl 14 (by decide) (hts _ kw_673) (fun _ h9 => h9) rfl d_M_order_109 ?_
        refine lv_aload_n hx hb d_M_order_112 rfl (lv_at hl 1 rfl) ?_
        refine nw_get hx hb hts i_M hown hK hw (64) (mW_64) rfl 13 (by decide) (hts _ kw_672) (fun _ h9 => h9) rfl d_M_order_113 ?_
        refine lv_iload_n hx hb d_M_order_116 rfl (lv_at hl 2 rfl) ?_
        refine nw_iast hx hb hK hw hS (188) 0 (mW_row (t := 5) (j := 8) (by decide) (by decide) (rfl)) rfl (n 4) (rfl) ((nI_ltI (by omega) (by omega)).mp hst9) (by omega) d_M_order_117 (fun H locs hw hS => ?_)
        have hw := mW_setRow (t := 5) (j := 8) (by decide) (by decide) (rfl) hw
        refine lv_aload_n hx hb d_M_order_118 rfl (lv_at hl 1 rfl) ?_
        refine nw_get hx hb hts i_M hown hK hw (64) (mW_64) rfl 15 (by decide) (hts _ kw_674) (fun _ h9 => h9) rfl d_M_order_119 ?_
        refine lv_aload_n hx hb d_M_order_122 rfl (lv_at hl 1 rfl) ?_
        refine nw_get hx hb hts i_M hown hK hw (64) (mW_64) rfl 13 (by decide) (hts _ kw_672) (fun _ h9 => h9) rfl d_M_order_123 ?_
        refine lv_iload_n hx hb d_M_order_126 rfl (lv_at hl 3 rfl) ?_
        refine nw_iast hx hb hK hw hS (189) 0 (mW_row (t := 5) (j := 9) (by decide) (by decide) (rfl)) rfl (n 4) (rfl) ((nI_ltI (by omega) (by omega)).mp hst9) (by omega) d_M_order_127 (fun H locs hw hS => ?_)
        have hw := mW_setRow (t := 5) (j := 9) (by decide) (by decide) (rfl) hw
        refine lv_aload_n hx hb d_M_order_128 rfl (lv_at hl 1 rfl) ?_
        refine nw_get hx hb hts i_M hown hK hw (64) (mW_64) rfl 16 (by decide) (hts _ kw_675) (fun _ h9 => h9) rfl d_M_order_129 ?_
        refine lv_aload_n hx hb d_M_order_132 rfl (lv_at hl 1 rfl) ?_
        refine nw_get hx hb hts i_M hown hK hw (64) (mW_64) rfl 13 (by decide) (hts _ kw_672) (fun _ h9 => h9) rfl d_M_order_133 ?_
        refine lv_iload_n hx hb d_M_order_136 rfl (lv_at hl 4 rfl) ?_
        refine nw_iast hx hb hK hw hS (190) 0 (mW_row (t := 5) (j := 10) (by decide) (by decide) (rfl)) rfl (n 4) (rfl) ((nI_ltI (by omega) (by omega)).mp hst9) (by omega) d_M_order_137 (fun H locs hw hS => ?_)
        have hw := mW_setRow (t := 5) (j := 10) (by decide) (by decide) (rfl) hw
        refine lv_aload_n hx hb d_M_order_138 rfl (lv_at hl 1 rfl) ?_
        refine nw_get hx hb hts i_M hown hK hw (64) (mW_64) rfl 17 (by decide) (hts _ kw_676) (fun _ h9 => h9) rfl d_M_order_139 ?_
        refine lv_aload_n hx hb d_M_order_142 rfl (lv_at hl 1 rfl) ?_
        refine nw_get hx hb hts i_M hown hK hw (64) (mW_64) rfl 13 (by decide) (hts _ kw_672) (fun _ h9 => h9) rfl d_M_order_143 ?_
        refine lv_iload hx hb d_M_order_146 (lv_at hl 5 rfl) ?_
        refine nw_iast hx hb hK hw hS (191) 0 (mW_row (t := 5) (j := 11) (by decide) (by decide) (rfl)) rfl (n 4) (rfl) ((nI_ltI (by omega) (by omega)).mp hst9) (by omega) d_M_order_148 (fun H locs hw hS => ?_)
        have hw := mW_setRow (t := 5) (j := 11) (by decide) (by decide) (rfl) hw
        refine lv_aload_n hx hb d_M_order_149 rfl (lv_at hl 1 rfl) ?_
        refine nw_get hx hb hts i_M hown hK hw (64) (mW_64) rfl 18 (by decide) (hts _ kw_677) (fun _ h9 => h9) rfl d_M_order_150 ?_
        refine lv_aload_n hx hb d_M_order_153 rfl (lv_at hl 1 rfl) ?_
        refine nw_get hx hb hts i_M hown hK hw (64) (mW_64) rfl 13 (by decide) (hts _ kw_672) (fun _ h9 => h9) rfl d_M_order_154 ?_
        refine lv_iload hx hb d_M_order_157 (lv_at hl 6 rfl) ?_
        refine nw_iast hx hb hK hw hS (192) 0 (mW_row (t := 5) (j := 12) (by decide) (by decide) (rfl)) rfl (n 4) (rfl) ((nI_ltI (by omega) (by omega)).mp hst9) (by omega) d_M_order_159 (fun H locs hw hS => ?_)
        have hw := mW_setRow (t := 5) (j := 12) (by decide) (by decide) (rfl) hw
        refine lv_aload_n hx hb d_M_order_160 rfl (lv_at hl 1 rfl) ?_
        refine lv_dup hx hb d_M_order_161 rfl ?_
        refine nw_get hx hb hts i_M hown hK hw (64) (mW_64) rfl 13 (by decide) (hts _ kw_672) (fun _ h9 => h9) rfl d_M_order_162 ?_
        refine lv_iconst (v := nI 1) hx hb d_M_order_165 (by decide) ?_
        refine lv_iadd hx hb d_M_order_166 ?_
        refine lv_ei (y := nI (n 4 + 1)) (nI_add _ _) ?_
        refine nw_put (v := .int (nI (n 4 + 1))) (ty := .int) hx hb hts i_M t_M tk_M n_M hown hK hw hS (64) (mW_64) rfl 13 (by decide) (hts _ kw_672) (fun _ h9 => h9) rfl (by decide +kernel) (rfl) (rfl) (Nat.le_of_ble_eq_true rfl) d_M_order_167 (fun H locs hw hS => ?_)
        have hw := nw_W.as (wn' := mW ad tC (va_up n 4 (n 4 + 1)) (va_up (va_up J 0 (nI 0)) 3 (nI 0)) bw L bX aY (upR (upR (upR (upR (upR S 5 8 (upd (S 5 8) (n 4) x1)) 5 9 (upd ((upR S 5 8 (upd (S 5 8) (n 4) x1)) 5 9) (n 4) x2)) 5 10 (upd ((upR (upR S 5 8 (upd (S 5 8) (n 4) x1)) 5 9 (upd ((upR S 5 8 (upd (S 5 8) (n 4) x1)) 5 9) (n 4) x2)) 5 10) (n 4) x3)) 5 11 (upd ((upR (upR (upR S 5 8 (upd (S 5 8) (n 4) x1)) 5 9 (upd ((upR S 5 8 (upd (S 5 8) (n 4) x1)) 5 9) (n 4) x2)) 5 10 (upd ((upR (upR S 5 8 (upd (S 5 8) (n 4) x1)) 5 9 (upd ((upR S 5 8 (upd (S 5 8) (n 4) x1)) 5 9) (n 4) x2)) 5 10) (n 4) x3)) 5 11) (n 4) x4)) 5 12 (upd ((upR (upR (upR (upR S 5 8 (upd (S 5 8) (n 4) x1)) 5 9 (upd ((upR S 5 8 (upd (S 5 8) (n 4) x1)) 5 9) (n 4) x2)) 5 10 (upd ((upR (upR S 5 8 (upd (S 5 8) (n 4) x1)) 5 9 (upd ((upR S 5 8 (upd (S 5 8) (n 4) x1)) 5 9) (n 4) x2)) 5 10) (n 4) x3)) 5 11 (upd ((upR (upR (upR S 5 8 (upd (S 5 8) (n 4) x1)) 5 9 (upd ((upR S 5 8 (upd (S 5 8) (n 4) x1)) 5 9) (n 4) x2)) 5 10 (upd ((upR (upR S 5 8 (upd (S 5 8) (n 4) x1)) 5 9 (upd ((upR S 5 8 (upd (S 5 8) (n 4) x1)) 5 9) (n 4) x2)) 5 10) (n 4) x3)) 5 11) (n 4) x4)) 5 12) (n 4) x5))) (mW_setO (n' := (va_up n 4 (n 4 + 1))) (J' := (va_up (va_up J 0 (nI 0)) 3 (nI 0))) (bw' := bw) rfl hw) rfl
        refine lv_aload_n hx hb d_M_order_170 rfl (lv_at hl 1 rfl) ?_
        refine nw_get hx hb hts i_M hown hK hw (64) (mW_64) rfl 13 (by decide) (hts _ kw_672) (fun _ h9 => h9) rfl d_M_order_171 ?_
        refine lv_iconst (v := nI 1) hx hb d_M_order_174 (by decide) ?_
        refine lv_isub hx hb d_M_order_175 ?_
        refine lv_ei (y := nI (n 4)) (by show nI (n 4 + 1) - nI 1 = _; exact pk_sub (by omega)) ?_
        exact nw_iret hQ hx hb hr hlocks hw hS (nw_mo_ok (fun h => h hok9) (fun h => h hst9) (⟨rfl, rfl⟩)) (Nat.le_of_ble_eq_true rfl) (Nat.le_of_ble_eq_true rfl) d_M_order_176
      · skip
        refine lv_iconst (v := nI 0) hx hb d_M_order_101 (by decide) ?_
        exact nw_iret hQ hx hb hr hlocks hw hS (nw_mo_bad (Wb := (fun t => mW ad tC n (va_up J 0 t) bw L bX aY S)) ha9 hs9 (b2_1 c_98)) (Nat.le_of_ble_eq_true rfl) (Nat.le_of_ble_eq_true rfl) d_M_order_102
  · skip
    have h1 : 0 ≤ x1 ∧ x1 < nI (n 0) := (show _ ↔ (0 ≤ x1 ∧ x1 < nI (n 0)) from in_n (by omega)).mp (b2_1 c_13)
    refine lv_iload_n hx hb d_M_order_16 rfl (lv_at hl 2 rfl) ?_
    refine lv_i2l (v := ((x2).toInt64)) hx hb d_M_order_17 rfl ?_
    refine lv_lconst (v := 0) hx hb d_M_order_18 (by decide) ?_
    refine lv_ldc2 (v := 20000) hx hb hown (hts _ kw_787) d_M_order_19 ?_
    refine nw_callD (nw_goS (n := 3) (As := [.long (((x2).toInt64)), .long (0), .long (20000)]) (rest := []) hSx hA hKs hw hS (c_M_in l D tC A ad n J bw L bX aY S S scm_rf hN (((x2).toInt64)) (0) (20000)) kw_770 kw_768 kw_769 kw_8 rfl rfl (by decide +kernel) ⟨Nat.le_of_ble_eq_true rfl, Nat.le_of_ble_eq_true rfl⟩ rfl hl.1 (Nat.le_of_ble_eq_true rfl) d_M_order_22 ⟨Nat.le_of_ble_eq_true rfl, Nat.le_of_ble_eq_true rfl⟩) hS (fun H locs hw hS => ?_)
    refine lv_if_eq (tgt := 75) hx hb d_M_order_25 (by decide) (fun c_25 => ?_) (fun c_25 => ?_)
    · skip
      have hneg : ¬ ((0 ≤ x1 ∧ x1 < nI (n 0)) ∧ (nI 0 ≤ x3 ∧ x3 ≤ nI 20000) ∧ (nI 0 ≤ x2 ∧ x2 ≤ x3) ∧ (nI 0 ≤ x4 ∧ x4 ≤ 100000000) ∧ (nI 0 ≤ x5 ∧ x5 ≤ nI 10000)) := fun h => b2_0 c_25 ((in_c (a := nI 0) (b := nI 20000) rfl rfl).mpr ⟨h.2.2.1.1, Int32.le_trans h.2.2.1.2 h.2.1.2⟩)
      refine lv_iconst (v := nI 0) hx hb d_M_order_75 (by decide) ?_
      refine lv_istore (lv' := [(6, .int (nI 0)), (0, .ref (ad (64))), (1, .int (x1)), (2, .int (x2)), (3, .int (x3)), (4, .int (x4)), (5, .int (x5))]) hx hb d_M_order_76 hl (by decide) rfl (fun ls hl => ?_)
      refine lv_aload_n hx hb d_M_order_78 rfl (lv_at hl 1 rfl) ?_
      refine lv_iload hx hb d_M_order_79 (lv_at hl 0 rfl) ?_
      refine lv_aload_n hx hb d_M_order_81 rfl (lv_at hl 1 rfl) ?_
      refine nw_get hx hb hts i_M hown hK hw (64) (mW_64) rfl 13 (by decide) (hts _ kw_672) (fun _ h9 => h9) rfl d_M_order_82 ?_
      refine lv_bipush (v := nI 6) hx hb d_M_order_85 (by decide) ?_
      refine lv_icmp_ge (tgt := 94) hx hb d_M_order_87 (by decide) (fun c_87 => ?_) (fun c_87 => ?_)
      · skip
        have hbsn : ¬ (nI (n 4) < nI 6) := Int32.not_lt.mpr c_87
        refine lv_iconst (v := nI 0) hx hb d_M_order_94 (by decide) ?_
        have ha9 : nI 0 = 0 ↔ ¬ ((0 ≤ x1 ∧ x1 < nI (n 0)) ∧ (nI 0 ≤ x3 ∧ x3 ≤ nI 20000) ∧ (nI 0 ≤ x2 ∧ x2 ≤ x3) ∧ (nI 0 ≤ x4 ∧ x4 ≤ 100000000) ∧ (nI 0 ≤ x5 ∧ x5 ≤ nI 10000)) := ⟨fun _ => hneg, fun _ => rfl⟩
        have hs9 : nI 0 = 0 ↔ ¬ (nI (n 4) < nI 6) := ⟨fun _ => hbsn, fun _ => rfl⟩
        refine nw_callD (nw_goV (n := 2) (As := [.int (nI 0), .int (nI 0)]) (rest := []) hSx hA hKs hw hS (c_M_refuses l D tC A ad n J bw L bX aY S hN (nI 0) (nI 0)) kw_774 kw_771 kw_773 ks_M_refuses kw_8 rfl rfl (by decide +kernel) ⟨Nat.le_of_ble_eq_true rfl, Nat.le_of_ble_eq_true rfl⟩ (nw_recv hK hw (mW_64) rfl) rfl hl.1 (Nat.le_of_ble_eq_true rfl) d_M_order_95 ⟨Nat.le_of_ble_eq_true rfl, Nat.le_of_ble_eq_true rfl⟩) hS (fun H locs hw hS => ?_)
        refine lv_if_eq (tgt := 103) hx hb d_M_order_98 (by decide) (fun c_98 => ?_) (fun c_98 => ?_)
        · skip
          have hno9 := b2_0 c_98
          have hok9 : (0 ≤ x1 ∧ x1 < nI (n 0)) ∧ (nI 0 ≤ x3 ∧ x3 ≤ nI 20000) ∧ (nI 0 ≤ x2 ∧ x2 ≤ x3) ∧ (nI 0 ≤ x4 ∧ x4 ≤ 100000000) ∧ (nI 0 ≤ x5 ∧ x5 ≤ nI 10000) := Classical.not_not.mp (fun h => hno9 (Or.inl (ha9.mpr h)))
          have hst9 : nI (n 4) < nI 6 := Classical.not_not.mp (fun h => hno9 (Or.inr (hs9.mpr h)))
          have hw := nw_W.as (wn' := mW ad tC n (va_up J 0 (nI 0)) bw L bX aY S) hw (by rw [rfI_ok hno9])
          refine lv_aload_n hx hb d_M_order_103 rfl (lv_at hl 1 rfl) ?_
          refine lv_iconst (v := nI 0) hx hb d_M_order_104 (by decide) ?_
          refine nw_put (v := .int (nI 0)) (ty := .boolean) hx hb hts i_M t_M tk_M n_M hown hK hw hS (64) (mW_64) rfl 21 (by decide) (hts _ kw_680) (fun _ h9 => h9) rfl (by decide +kernel) (rfl) (rfl) (Nat.le_of_ble_eq_true rfl) d_M_order_105 (fun H locs hw hS => ?_)
          have hw := nw_W.as (wn' := mW ad tC n (va_up (va_up J 0 (nI 0)) 3 (nI 0)) bw L bX aY S) (mW_setO (n' := n) (J' := (va_up (va_up J 0 (nI 0)) 3 (nI 0))) (bw' := bw) rfl hw) rfl
          refine lv_aload_n hx hb d_M_order_108 rfl (lv_at hl 1 rfl) ?_
          refine nw_get hx hb hts i_M hown hK hw (64) (mW_64) rfl 14 (by decide) (hts _ kw_673) (fun _ h9 => h9) rfl d_M_order_109 ?_
          refine lv_aload_n hx hb d_M_order_112 rfl (lv_at hl 1 rfl) ?_
          refine nw_get hx hb hts i_M hown hK hw (64) (mW_64) rfl 13 (by decide) (hts _ kw_672) (fun _ h9 => h9) rfl d_M_order_113 ?_
          refine lv_iload_n hx hb d_M_order_116 rfl (lv_at hl 2 rfl) ?_
          refine nw_iast hx hb hK hw hS (188) 0 (mW_row (t := 5) (j := 8) (by decide) (by decide) (rfl)) rfl (n 4) (rfl) ((nI_ltI (by omega) (by omega)).mp hst9) (by omega) d_M_order_117 (fun H locs hw hS => ?_)
          have hw := mW_setRow (t := 5) (j := 8) (by decide) (by decide) (rfl) hw
          refine lv_aload_n hx hb d_M_order_118 rfl (lv_at hl 1 rfl) ?_
          refine nw_get hx hb hts i_M hown hK hw (64) (mW_64) rfl 15 (by decide) (hts _ kw_674) (fun _ h9 => h9) rfl d_M_order_119 ?_
          refine lv_aload_n hx hb d_M_order_122 rfl (lv_at hl 1 rfl) ?_
          refine nw_get hx hb hts i_M hown hK hw (64) (mW_64) rfl 13 (by decide) (hts _ kw_672) (fun _ h9 => h9) rfl d_M_order_123 ?_
          refine lv_iload_n hx hb d_M_order_126 rfl (lv_at hl 3 rfl) ?_
          refine nw_iast hx hb hK hw hS (189) 0 (mW_row (t := 5) (j := 9) (by decide) (by decide) (rfl)) rfl (n 4) (rfl) ((nI_ltI (by omega) (by omega)).mp hst9) (by omega) d_M_order_127 (fun H locs hw hS => ?_)
          have hw := mW_setRow (t := 5) (j := 9) (by decide) (by decide) (rfl) hw
          refine lv_aload_n hx hb d_M_order_128 rfl (lv_at hl 1 rfl) ?_
          refine nw_get hx hb hts i_M hown hK hw (64) (mW_64) rfl 16 (by decide) (hts _ kw_675) (fun _ h9 => h9) rfl d_M_order_129 ?_
          refine lv_aload_n hx hb d_M_order_132 rfl (lv_at hl 1 rfl) ?_
          refine nw_get hx hb hts i_M hown hK hw (64) (mW_64) rfl 13 (by decide) (hts _ kw_672) (fun _ h9 => h9) rfl d_M_order_133 ?_
          refine lv_iload_n hx hb d_M_order_136 rfl (lv_at hl 4 rfl) ?_
          refine nw_iast hx hb hK hw hS (190) 0 (mW_row (t := 5) (j := 10) (by decide) (by decide) (rfl)) rfl (n 4) (rfl) ((nI_ltI (by omega) (by omega)).mp hst9) (by omega) d_M_order_137 (fun H locs hw hS => ?_)
          have hw := mW_setRow (t := 5) (j := 10) (by decide) (by decide) (rfl) hw
          refine lv_aload_n hx hb d_M_order_138 rfl (lv_at hl 1 rfl) ?_
          refine nw_get hx hb hts i_M hown hK hw (64) (mW_64) rfl 17 (by decide) (hts _ kw_676) (fun _ h9 => h9) rfl d_M_order_139 ?_
          refine lv_aload_n hx hb d_M_order_142 rfl (lv_at hl 1 rfl) ?_
          refine nw_get hx hb hts i_M hown hK hw (64) (mW_64) rfl 13 (by decide) (hts _ kw_672) (fun _ h9 => h9) rfl d_M_order_143 ?_
          refine lv_iload hx hb d_M_order_146 (lv_at hl 5 rfl) ?_
          refine nw_iast hx hb hK hw hS (191) 0 (mW_row (t := 5) (j := 11) (by decide) (by decide) (rfl)) rfl (n 4) (rfl) ((nI_ltI (by omega) (by omega)).mp hst9) (by omega) d_M_order_148 (fun H locs hw hS => ?_)
          have hw := mW_setRow (t := 5) (j := 11) (by decide) (by decide) (rfl) hw
          refine lv_aload_n hx hb d_M_order_149 rfl (lv_at hl 1 rfl) ?_
          refine nw_get hx hb hts i_M hown hK hw (64) (mW_64) rfl 18 (by decide) (hts _ kw_677) (fun _ h9 => h9) rfl d_M_order_150 ?_
          refine lv_aload_n hx hb d_M_order_153 rfl (lv_at hl 1 rfl) ?_
          refine nw_get hx hb hts i_M hown hK hw (64) (mW_64) rfl 13 (by decide) (hts _ kw_672) (fun _ h9 => h9) rfl d_M_order_154 ?_
          refine lv_iload hx hb d_M_order_157 (lv_at hl 6 rfl) ?_
          refine nw_iast hx hb hK hw hS (192) 0 (mW_row (t := 5) (j := 12) (by decide) (by decide) (rfl)) rfl (n 4) (rfl) ((nI_ltI (by omega) (by omega)).mp hst9) (by omega) d_M_order_159 (fun H locs hw hS => ?_)
          have hw := mW_setRow (t := 5) (j := 12) (by decide) (by decide) (rfl) hw
          refine lv_aload_n hx hb d_M_order_160 rfl (lv_at hl 1 rfl) ?_
          refine lv_dup hx hb d_M_order_161 rfl ?_
          refine nw_get hx hb hts i_M hown hK hw (64) (mW_64) rfl 13 (by decide) (hts _ kw_672) (fun _ h9 => h9) rfl d_M_order_162 ?_
          refine lv_iconst (v := nI 1) hx hb d_M_order_165 (by decide) ?_
          refine lv_iadd hx hb d_M_order_166 ?_
          refine lv_ei (y := nI (n 4 + 1)) (nI_add _ _) ?_
          refine nw_put (v := .int (nI (n 4 + 1))) (ty := .int) hx hb hts i_M t_M tk_M n_M hown hK hw hS (64) (mW_64) rfl 13 (by decide) (hts _ kw_672) (fun _ h9 => h9) rfl (by decide +kernel) (rfl) (rfl) (Nat.le_of_ble_eq_true rfl) d_M_order_167 (fun H locs hw hS => ?_)
          have hw := nw_W.as (wn' := mW ad tC (va_up n 4 (n 4 + 1)) (va_up (va_up J 0 (nI 0)) 3 (nI 0)) bw L bX aY (upR (upR (upR (upR (upR S 5 8 (upd (S 5 8) (n 4) x1)) 5 9 (upd ((upR S 5 8 (upd (S 5 8) (n 4) x1)) 5 9) (n 4) x2)) 5 10 (upd ((upR (upR S 5 8 (upd (S 5 8) (n 4) x1)) 5 9 (upd ((upR S 5 8 (upd (S 5 8) (n 4) x1)) 5 9) (n 4) x2)) 5 10) (n 4) x3)) 5 11 (upd ((upR (upR (upR S 5 8 (upd (S 5 8) (n 4) x1)) 5 9 (upd ((upR S 5 8 (upd (S 5 8) (n 4) x1)) 5 9) (n 4) x2)) 5 10 (upd ((upR (upR S 5 8 (upd (S 5 8) (n 4) x1)) 5 9 (upd ((upR S 5 8 (upd (S 5 8) (n 4) x1)) 5 9) (n 4) x2)) 5 10) (n 4) x3)) 5 11) (n 4) x4)) 5 12 (upd ((upR (upR (upR (upR S 5 8 (upd (S 5 8) (n 4) x1)) 5 9 (upd ((upR S 5 8 (upd (S 5 8) (n 4) x1)) 5 9) (n 4) x2)) 5 10 (upd ((upR (upR S 5 8 (upd (S 5 8) (n 4) x1)) 5 9 (upd ((upR S 5 8 (upd (S 5 8) (n 4) x1)) 5 9) (n 4) x2)) 5 10) (n 4) x3)) 5 11 (upd ((upR (upR (upR S 5 8 (upd (S 5 8) (n 4) x1)) 5 9 (upd ((upR S 5 8 (upd (S 5 8) (n 4) x1)) 5 9) (n 4) x2)) 5 10 (upd ((upR (upR S 5 8 (upd (S 5 8) (n 4) x1)) 5 9 (upd ((upR S 5 8 (upd (S 5 8) (n 4) x1)) 5 9) (n 4) x2)) 5 10) (n 4) x3)) 5 11) (n 4) x4)) 5 12) (n 4) x5))) (mW_setO (n' := (va_up n 4 (n 4 + 1))) (J' := (va_up (va_up J 0 (nI 0)) 3 (nI 0))) (bw' := bw) rfl hw) rfl
          refine lv_aload_n hx hb d_M_order_170 rfl (lv_at hl 1 rfl) ?_
          refine nw_get hx hb hts i_M hown hK hw (64) (mW_64) rfl 13 (by decide) (hts _ kw_672) (fun _ h9 => h9) rfl d_M_order_171 ?_
          refine lv_iconst (v := nI 1) hx hb d_M_order_174 (by decide) ?_
          refine lv_isub hx hb d_M_order_175 ?_
          refine lv_ei (y := nI (n 4)) (by show nI (n 4 + 1) - nI 1 = _; exact pk_sub (by omega)) ?_
          exact nw_iret hQ hx hb hr hlocks hw hS (nw_mo_ok (fun h => h hok9) (fun h => h hst9) (⟨rfl, rfl⟩)) (Nat.le_of_ble_eq_true rfl) (Nat.le_of_ble_eq_true rfl) d_M_order_176
        · skip
          refine lv_iconst (v := nI 0) hx hb d_M_order_101 (by decide) ?_
          exact nw_iret hQ hx hb hr hlocks hw hS (nw_mo_bad (Wb := (fun t => mW ad tC n (va_up J 0 t) bw L bX aY S)) ha9 hs9 (b2_1 c_98)) (Nat.le_of_ble_eq_true rfl) (Nat.le_of_ble_eq_true rfl) d_M_order_102
      · skip
        have hbs : nI (n 4) < nI 6 := Int32.not_le.mp c_87
        refine lv_iconst (v := nI 1) hx hb d_M_order_90 (by decide) ?_
        refine lv_goto (tgt := 95) hx hb d_M_order_91 (by decide) ?_
        have ha9 : nI 0 = 0 ↔ ¬ ((0 ≤ x1 ∧ x1 < nI (n 0)) ∧ (nI 0 ≤ x3 ∧ x3 ≤ nI 20000) ∧ (nI 0 ≤ x2 ∧ x2 ≤ x3) ∧ (nI 0 ≤ x4 ∧ x4 ≤ 100000000) ∧ (nI 0 ≤ x5 ∧ x5 ≤ nI 10000)) := ⟨fun _ => hneg, fun _ => rfl⟩
        have hs9 : nI 1 = 0 ↔ ¬ (nI (n 4) < nI 6) := ⟨fun h => absurd h (by decide), fun h => absurd hbs h⟩
        refine nw_callD (nw_goV (n := 2) (As := [.int (nI 0), .int (nI 1)]) (rest := []) hSx hA hKs hw hS (c_M_refuses l D tC A ad n J bw L bX aY S hN (nI 0) (nI 1)) kw_774 kw_771 kw_773 ks_M_refuses kw_8 rfl rfl (by decide +kernel) ⟨Nat.le_of_ble_eq_true rfl, Nat.le_of_ble_eq_true rfl⟩ (nw_recv hK hw (mW_64) rfl) rfl hl.1 (Nat.le_of_ble_eq_true rfl) d_M_order_95 ⟨Nat.le_of_ble_eq_true rfl, Nat.le_of_ble_eq_true rfl⟩) hS (fun H locs hw hS => ?_)
        refine lv_if_eq (tgt := 103) hx hb d_M_order_98 (by decide) (fun c_98 => ?_) (fun c_98 => ?_)
        · skip
          have hno9 := b2_0 c_98
          have hok9 : (0 ≤ x1 ∧ x1 < nI (n 0)) ∧ (nI 0 ≤ x3 ∧ x3 ≤ nI 20000) ∧ (nI 0 ≤ x2 ∧ x2 ≤ x3) ∧ (nI 0 ≤ x4 ∧ x4 ≤ 100000000) ∧ (nI 0 ≤ x5 ∧ x5 ≤ nI 10000) := Classical.not_not.mp (fun h => hno9 (Or.inl (ha9.mpr h)))
          have hst9 : nI (n 4) < nI 6 := Classical.not_not.mp (fun h => hno9 (Or.inr (hs9.mpr h)))
          have hw := nw_W.as (wn' := mW ad tC n (va_up J 0 (nI 0)) bw L bX aY S) hw (by rw [rfI_ok hno9])
          refine lv_aload_n hx hb d_M_order_103 rfl (lv_at hl 1 rfl) ?_
          refine lv_iconst (v := nI 0) hx hb d_M_order_104 (by decide) ?_
          refine nw_put (v := .int (nI 0)) (ty := .boolean) hx hb hts i_M t_M tk_M n_M hown hK hw hS (64) (mW_64) rfl 21 (by decide) (hts _ kw_680) (fun _ h9 => h9) rfl (by decide +kernel) (rfl) (rfl) (Nat.le_of_ble_eq_true rfl) d_M_order_105 (fun H locs hw hS => ?_)
          have hw := nw_W.as (wn' := mW ad tC n (va_up (va_up J 0 (nI 0)) 3 (nI 0)) bw L bX aY S) (mW_setO (n' := n) (J' := (va_up (va_up J 0 (nI 0)) 3 (nI 0))) (bw' := bw) rfl hw) rfl
          refine lv_aload_n hx hb d_M_order_108 rfl (lv_at hl 1 rfl) ?_
          refine nw_get hx hb hts i_M hown hK hw (64) (mW_64) rfl 14 (by decide) (hts _ kw_673) (fun _ h9 => h9) rfl d_M_order_109 ?_
          refine lv_aload_n hx hb d_M_order_112 rfl (lv_at hl 1 rfl) ?_
          refine nw_get hx hb hts i_M hown hK hw (64) (mW_64) rfl 13 (by decide) (hts _ kw_672) (fun _ h9 => h9) rfl d_M_order_113 ?_
          refine lv_iload_n hx hb d_M_order_116 rfl (lv_at hl 2 rfl) ?_
          refine nw_iast hx hb hK hw hS (188) 0 (mW_row (t := 5) (j := 8) (by decide) (by decide) (rfl)) rfl (n 4) (rfl) ((nI_ltI (by omega) (by omega)).mp hst9) (by omega) d_M_order_117 (fun H locs hw hS => ?_)
          have hw := mW_setRow (t := 5) (j := 8) (by decide) (by decide) (rfl) hw
          refine lv_aload_n hx hb d_M_order_118 rfl (lv_at hl 1 rfl) ?_
          refine nw_get hx hb hts i_M hown hK hw (64) (mW_64) rfl 15 (by decide) (hts _ kw_674) (fun _ h9 => h9) rfl d_M_order_119 ?_
          refine lv_aload_n hx hb d_M_order_122 rfl (lv_at hl 1 rfl) ?_
          refine nw_get hx hb hts i_M hown hK hw (64) (mW_64) rfl 13 (by decide) (hts _ kw_672) (fun _ h9 => h9) rfl d_M_order_123 ?_
          refine lv_iload_n hx hb d_M_order_126 rfl (lv_at hl 3 rfl) ?_
          refine nw_iast hx hb hK hw hS (189) 0 (mW_row (t := 5) (j := 9) (by decide) (by decide) (rfl)) rfl (n 4) (rfl) ((nI_ltI (by omega) (by omega)).mp hst9) (by omega) d_M_order_127 (fun H locs hw hS => ?_)
          have hw := mW_setRow (t := 5) (j := 9) (by decide) (by decide) (rfl) hw
          refine lv_aload_n hx hb d_M_order_128 rfl (lv_at hl 1 rfl) ?_
          refine nw_get hx hb hts i_M hown hK hw (64) (mW_64) rfl 16 (by decide) (hts _ kw_675) (fun _ h9 => h9) rfl d_M_order_129 ?_
          refine lv_aload_n hx hb d_M_order_132 rfl (lv_at hl 1 rfl) ?_
          refine nw_get hx hb hts i_M hown hK hw (64) (mW_64) rfl 13 (by decide) (hts _ kw_672) (fun _ h9 => h9) rfl d_M_order_133 ?_
          refine lv_iload_n hx hb d_M_order_136 rfl (lv_at hl 4 rfl) ?_
          refine nw_iast hx hb hK hw hS (190) 0 (mW_row (t := 5) (j := 10) (by decide) (by decide) (rfl)) rfl (n 4) (rfl) ((nI_ltI (by omega) (by omega)).mp hst9) (by omega) d_M_order_137 (fun H locs hw hS => ?_)
          have hw := mW_setRow (t := 5) (j := 10) (by decide) (by decide) (rfl) hw
          refine lv_aload_n hx hb d_M_order_138 rfl (lv_at hl 1 rfl) ?_
          refine nw_get hx hb hts i_M hown hK hw (64) (mW_64) rfl 17 (by decide) (hts _ kw_676) (fun _ h9 => h9) rfl d_M_order_139 ?_
          refine lv_aload_n hx hb d_M_order_142 rfl (lv_at hl 1 rfl) ?_
          refine nw_get hx hb hts i_M hown hK hw (64) (mW_64) rfl 13 (by decide) (hts _ kw_672) (fun _ h9 => h9) rfl d_M_order_143 ?_
          refine lv_iload hx hb d_M_order_146 (lv_at hl 5 rfl) ?_
          refine nw_iast hx hb hK hw hS (191) 0 (mW_row (t := 5) (j := 11) (by decide) (by decide) (rfl)) rfl (n 4) (rfl) ((nI_ltI (by omega) (by omega)).mp hst9) (by omega) d_M_order_148 (fun H locs hw hS => ?_)
          have hw := mW_setRow (t := 5) (j := 11) (by decide) (by decide) (rfl) hw
          refine lv_aload_n hx hb d_M_order_149 rfl (lv_at hl 1 rfl) ?_
          refine nw_get hx hb hts i_M hown hK hw (64) (mW_64) rfl 18 (by decide) (hts _ kw_677) (fun _ h9 => h9) rfl d_M_order_150 ?_
          refine lv_aload_n hx hb d_M_order_153 rfl (lv_at hl 1 rfl) ?_
          refine nw_get hx hb hts i_M hown hK hw (64) (mW_64) rfl 13 (by decide) (hts _ kw_672) (fun _ h9 => h9) rfl d_M_order_154 ?_
          refine lv_iload hx hb d_M_order_157 (lv_at hl 6 rfl) ?_
          refine nw_iast hx hb hK hw hS (192) 0 (mW_row (t := 5) (j := 12) (by decide) (by decide) (rfl)) rfl (n 4) (rfl) ((nI_ltI (by omega) (by omega)).mp hst9) (by omega) d_M_order_159 (fun H locs hw hS => ?_)
          have hw := mW_setRow (t := 5) (j := 12) (by decide) (by decide) (rfl) hw
          refine lv_aload_n hx hb d_M_order_160 rfl (lv_at hl 1 rfl) ?_
          refine lv_dup hx hb d_M_order_161 rfl ?_
          refine nw_get hx hb hts i_M hown hK hw (64) (mW_64) rfl 13 (by decide) (hts _ kw_672) (fun _ h9 => h9) rfl d_M_order_162 ?_
          refine lv_iconst (v := nI 1) hx hb d_M_order_165 (by decide) ?_
          refine lv_iadd hx hb d_M_order_166 ?_
          refine lv_ei (y := nI (n 4 + 1)) (nI_add _ _) ?_
          refine nw_put (v := .int (nI (n 4 + 1))) (ty := .int) hx hb hts i_M t_M tk_M n_M hown hK hw hS (64) (mW_64) rfl 13 (by decide) (hts _ kw_672) (fun _ h9 => h9) rfl (by decide +kernel) (rfl) (rfl) (Nat.le_of_ble_eq_true rfl) d_M_order_167 (fun H locs hw hS => ?_)
          have hw := nw_W.as (wn' := mW ad tC (va_up n 4 (n 4 + 1)) (va_up (va_up J 0 (nI 0)) 3 (nI 0)) bw L bX aY (upR (upR (upR (upR (upR S 5 8 (upd (S 5 8) (n 4) x1)) 5 9 (upd ((upR S 5 8 (upd (S 5 8) (n 4) x1)) 5 9) (n 4) x2)) 5 10 (upd ((upR (upR S 5 8 (upd (S 5 8) (n 4) x1)) 5 9 (upd ((upR S 5 8 (upd (S 5 8) (n 4) x1)) 5 9) (n 4) x2)) 5 10) (n 4) x3)) 5 11 (upd ((upR (upR (upR S 5 8 (upd (S 5 8) (n 4) x1)) 5 9 (upd ((upR S 5 8 (upd (S 5 8) (n 4) x1)) 5 9) (n 4) x2)) 5 10 (upd ((upR (upR S 5 8 (upd (S 5 8) (n 4) x1)) 5 9 (upd ((upR S 5 8 (upd (S 5 8) (n 4) x1)) 5 9) (n 4) x2)) 5 10) (n 4) x3)) 5 11) (n 4) x4)) 5 12 (upd ((upR (upR (upR (upR S 5 8 (upd (S 5 8) (n 4) x1)) 5 9 (upd ((upR S 5 8 (upd (S 5 8) (n 4) x1)) 5 9) (n 4) x2)) 5 10 (upd ((upR (upR S 5 8 (upd (S 5 8) (n 4) x1)) 5 9 (upd ((upR S 5 8 (upd (S 5 8) (n 4) x1)) 5 9) (n 4) x2)) 5 10) (n 4) x3)) 5 11 (upd ((upR (upR (upR S 5 8 (upd (S 5 8) (n 4) x1)) 5 9 (upd ((upR S 5 8 (upd (S 5 8) (n 4) x1)) 5 9) (n 4) x2)) 5 10 (upd ((upR (upR S 5 8 (upd (S 5 8) (n 4) x1)) 5 9 (upd ((upR S 5 8 (upd (S 5 8) (n 4) x1)) 5 9) (n 4) x2)) 5 10) (n 4) x3)) 5 11) (n 4) x4)) 5 12) (n 4) x5))) (mW_setO (n' := (va_up n 4 (n 4 + 1))) (J' := (va_up (va_up J 0 (nI 0)) 3 (nI 0))) (bw' := bw) rfl hw) rfl
          refine lv_aload_n hx hb d_M_order_170 rfl (lv_at hl 1 rfl) ?_
          refine nw_get hx hb hts i_M hown hK hw (64) (mW_64) rfl 13 (by decide) (hts _ kw_672) (fun _ h9 => h9) rfl d_M_order_171 ?_
          refine lv_iconst (v := nI 1) hx hb d_M_order_174 (by decide) ?_
          refine lv_isub hx hb d_M_order_175 ?_
          refine lv_ei (y := nI (n 4)) (by show nI (n 4 + 1) - nI 1 = _; exact pk_sub (by omega)) ?_
          exact nw_iret hQ hx hb hr hlocks hw hS (nw_mo_ok (fun h => h hok9) (fun h => h hst9) (⟨rfl, rfl⟩)) (Nat.le_of_ble_eq_true rfl) (Nat.le_of_ble_eq_true rfl) d_M_order_176
        · skip
          refine lv_iconst (v := nI 0) hx hb d_M_order_101 (by decide) ?_
          exact nw_iret hQ hx hb hr hlocks hw hS (nw_mo_bad (Wb := (fun t => mW ad tC n (va_up J 0 t) bw L bX aY S)) ha9 hs9 (b2_1 c_98)) (Nat.le_of_ble_eq_true rfl) (Nat.le_of_ble_eq_true rfl) d_M_order_102
    · skip
      have h2a := (in_c (a := nI 0) (b := nI 20000) rfl rfl).mp (b2_1 c_25)
      refine lv_iload_n hx hb d_M_order_28 rfl (lv_at hl 3 rfl) ?_
      refine lv_i2l (v := ((x3).toInt64)) hx hb d_M_order_29 rfl ?_
      refine lv_lconst (v := 0) hx hb d_M_order_30 (by decide) ?_
      refine lv_ldc2 (v := 20000) hx hb hown (hts _ kw_787) d_M_order_31 ?_
      refine nw_callD (nw_goS (n := 3) (As := [.long (((x3).toInt64)), .long (0), .long (20000)]) (rest := []) hSx hA hKs hw hS (c_M_in l D tC A ad n J bw L bX aY S S scm_rf hN (((x3).toInt64)) (0) (20000)) kw_770 kw_768 kw_769 kw_8 rfl rfl (by decide +kernel) ⟨Nat.le_of_ble_eq_true rfl, Nat.le_of_ble_eq_true rfl⟩ rfl hl.1 (Nat.le_of_ble_eq_true rfl) d_M_order_34 ⟨Nat.le_of_ble_eq_true rfl, Nat.le_of_ble_eq_true rfl⟩) hS (fun H locs hw hS => ?_)
      refine lv_if_eq (tgt := 75) hx hb d_M_order_37 (by decide) (fun c_37 => ?_) (fun c_37 => ?_)
      · skip
        have hneg : ¬ ((0 ≤ x1 ∧ x1 < nI (n 0)) ∧ (nI 0 ≤ x3 ∧ x3 ≤ nI 20000) ∧ (nI 0 ≤ x2 ∧ x2 ≤ x3) ∧ (nI 0 ≤ x4 ∧ x4 ≤ 100000000) ∧ (nI 0 ≤ x5 ∧ x5 ≤ nI 10000)) := fun h => b2_0 c_37 ((show _ ↔ (nI 0 ≤ x3 ∧ x3 ≤ nI 20000) from in_c rfl rfl).mpr (h.2.1))
        refine lv_iconst (v := nI 0) hx hb d_M_order_75 (by decide) ?_
        refine lv_istore (lv' := [(6, .int (nI 0)), (0, .ref (ad (64))), (1, .int (x1)), (2, .int (x2)), (3, .int (x3)), (4, .int (x4)), (5, .int (x5))]) hx hb d_M_order_76 hl (by decide) rfl (fun ls hl => ?_)
        refine lv_aload_n hx hb d_M_order_78 rfl (lv_at hl 1 rfl) ?_
        refine lv_iload hx hb d_M_order_79 (lv_at hl 0 rfl) ?_
        refine lv_aload_n hx hb d_M_order_81 rfl (lv_at hl 1 rfl) ?_
        refine nw_get hx hb hts i_M hown hK hw (64) (mW_64) rfl 13 (by decide) (hts _ kw_672) (fun _ h9 => h9) rfl d_M_order_82 ?_
        refine lv_bipush (v := nI 6) hx hb d_M_order_85 (by decide) ?_
        refine lv_icmp_ge (tgt := 94) hx hb d_M_order_87 (by decide) (fun c_87 => ?_) (fun c_87 => ?_)
        · skip
          have hbsn : ¬ (nI (n 4) < nI 6) := Int32.not_lt.mpr c_87
          refine lv_iconst (v := nI 0) hx hb d_M_order_94 (by decide) ?_
          have ha9 : nI 0 = 0 ↔ ¬ ((0 ≤ x1 ∧ x1 < nI (n 0)) ∧ (nI 0 ≤ x3 ∧ x3 ≤ nI 20000) ∧ (nI 0 ≤ x2 ∧ x2 ≤ x3) ∧ (nI 0 ≤ x4 ∧ x4 ≤ 100000000) ∧ (nI 0 ≤ x5 ∧ x5 ≤ nI 10000)) := ⟨fun _ => hneg, fun _ => rfl⟩
          have hs9 : nI 0 = 0 ↔ ¬ (nI (n 4) < nI 6) := ⟨fun _ => hbsn, fun _ => rfl⟩
          refine nw_callD (nw_goV (n := 2) (As := [.int (nI 0), .int (nI 0)]) (rest := []) hSx hA hKs hw hS (c_M_refuses l D tC A ad n J bw L bX aY S hN (nI 0) (nI 0)) kw_774 kw_771 kw_773 ks_M_refuses kw_8 rfl rfl (by decide +kernel) ⟨Nat.le_of_ble_eq_true rfl, Nat.le_of_ble_eq_true rfl⟩ (nw_recv hK hw (mW_64) rfl) rfl hl.1 (Nat.le_of_ble_eq_true rfl) d_M_order_95 ⟨Nat.le_of_ble_eq_true rfl, Nat.le_of_ble_eq_true rfl⟩) hS (fun H locs hw hS => ?_)
          refine lv_if_eq (tgt := 103) hx hb d_M_order_98 (by decide) (fun c_98 => ?_) (fun c_98 => ?_)
          · skip
            have hno9 := b2_0 c_98
            have hok9 : (0 ≤ x1 ∧ x1 < nI (n 0)) ∧ (nI 0 ≤ x3 ∧ x3 ≤ nI 20000) ∧ (nI 0 ≤ x2 ∧ x2 ≤ x3) ∧ (nI 0 ≤ x4 ∧ x4 ≤ 100000000) ∧ (nI 0 ≤ x5 ∧ x5 ≤ nI 10000) := Classical.not_not.mp (fun h => hno9 (Or.inl (ha9.mpr h)))
            have hst9 : nI (n 4) < nI 6 := Classical.not_not.mp (fun h => hno9 (Or.inr (hs9.mpr h)))
            have hw := nw_W.as (wn' := mW ad tC n (va_up J 0 (nI 0)) bw L bX aY S) hw (by rw [rfI_ok hno9])
            refine lv_aload_n hx hb d_M_order_103 rfl (lv_at hl 1 rfl) ?_
            refine lv_iconst (v := nI 0) hx hb d_M_order_104 (by decide) ?_
            refine nw_put (v := .int (nI 0)) (ty := .boolean) hx hb hts i_M t_M tk_M n_M hown hK hw hS (64) (mW_64) rfl 21 (by decide) (hts _ kw_680) (fun _ h9 => h9) rfl (by decide +kernel) (rfl) (rfl) (Nat.le_of_ble_eq_true rfl) d_M_order_105 (fun H locs hw hS => ?_)
            have hw := nw_W.as (wn' := mW ad tC n (va_up (va_up J 0 (nI 0)) 3 (nI 0)) bw L bX aY S) (mW_setO (n' := n) (J' := (va_up (va_up J 0 (nI 0)) 3 (nI 0))) (bw' := bw) rfl hw) rfl
            refine lv_aload_n hx hb d_M_order_108 rfl (lv_at hl 1 rfl) ?_
            refine nw_get hx hb hts i_M hown hK hw (64) (mW_64) rfl 14 (by decide) (hts _ kw_673) (fun _ h9 => h9) rfl d_M_order_109 ?_
            refine lv_aload_n hx hb d_M_order_112 rfl (lv_at hl 1 rfl) ?_
            refine nw_get hx hb hts i_M hown hK hw (64) (mW_64) rfl 13 (by decide) (hts _ kw_672) (fun _ h9 => h9) rfl d_M_order_113 ?_
            refine lv_iload_n hx hb d_M_order_116 rfl (lv_at hl 2 rfl) ?_
            refine nw_iast hx hb hK hw hS (188) 0 (mW_row (t := 5) (j := 8) (by decide) (by decide) (rfl)) rfl (n 4) (rfl) ((nI_ltI (by omega) (by omega)).mp hst9) (by omega) d_M_order_117 (fun H locs hw hS => ?_)
            have hw := mW_setRow (t := 5) (j := 8) (by decide) (by decide) (rfl) hw
            refine lv_aload_n hx hb d_M_order_118 rfl (lv_at hl 1 rfl) ?_
            refine nw_get hx hb hts i_M hown hK hw (64) (mW_64) rfl 15 (by decide) (hts _ kw_674) (fun _ h9 => h9) rfl d_M_order_119 ?_
            refine lv_aload_n hx hb d_M_order_122 rfl (lv_at hl 1 rfl) ?_
            refine nw_get hx hb hts i_M hown hK hw (64) (mW_64) rfl 13 (by decide) (hts _ kw_672) (fun _ h9 => h9) rfl d_M_order_123 ?_
            refine lv_iload_n hx hb d_M_order_126 rfl (lv_at hl 3 rfl) ?_
            refine nw_iast hx hb hK hw hS (189) 0 (mW_row (t := 5) (j := 9) (by decide) (by decide) (rfl)) rfl (n 4) (rfl) ((nI_ltI (by omega) (by omega)).mp hst9) (by omega) d_M_order_127 (fun H locs hw hS => ?_)
            have hw := mW_setRow (t := 5) (j := 9) (by decide) (by decide) (rfl) hw
            refine lv_aload_n hx hb d_M_order_128 rfl (lv_at hl 1 rfl) ?_
            refine nw_get hx hb hts i_M hown hK hw (64) (mW_64) rfl 16 (by decide) (hts _ kw_675) (fun _ h9 => h9) rfl d_M_order_129 ?_
            refine lv_aload_n hx hb d_M_order_132 rfl (lv_at hl 1 rfl) ?_
            refine nw_get hx hb hts i_M hown hK hw (64) (mW_64) rfl 13 (by decide) (hts _ kw_672) (fun _ h9 => h9) rfl d_M_order_133 ?_
            refine lv_iload_n hx hb d_M_order_136 rfl (lv_at hl 4 rfl) ?_
            refine nw_iast hx hb hK hw hS (190) 0 (mW_row (t := 5) (j := 10) (by decide) (by decide) (rfl)) rfl (n 4) (rfl) ((nI_ltI (by omega) (by omega)).mp hst9) (by omega) d_M_order_137 (fun H locs hw hS => ?_)
            have hw := mW_setRow (t := 5) (j := 10) (by decide) (by decide) (rfl) hw
            refine lv_aload_n hx hb d_M_order_138 rfl (lv_at hl 1 rfl) ?_
            refine nw_get hx hb hts i_M hown hK hw (64) (mW_64) rfl 17 (by decide) (hts _ kw_676) (fun _ h9 => h9) rfl d_M_order_139 ?_
            refine lv_aload_n hx hb d_M_order_142 rfl (lv_at hl 1 rfl) ?_
            refine nw_get hx hb hts i_M hown hK hw (64) (mW_64) rfl 13 (by decide) (hts _ kw_672) (fun _ h9 => h9) rfl d_M_order_143 ?_
            refine lv_iload hx hb d_M_order_146 (lv_at hl 5 rfl) ?_
            refine nw_iast hx hb hK hw hS (191) 0 (mW_row (t := 5) (j := 11) (by decide) (by decide) (rfl)) rfl (n 4) (rfl) ((nI_ltI (by omega) (by omega)).mp hst9) (by omega) d_M_order_148 (fun H locs hw hS => ?_)
            have hw := mW_setRow (t := 5) (j := 11) (by decide) (by decide) (rfl) hw
            refine lv_aload_n hx hb d_M_order_149 rfl (lv_at hl 1 rfl) ?_
            refine nw_get hx hb hts i_M hown hK hw (64) (mW_64) rfl 18 (by decide) (hts _ kw_677) (fun _ h9 => h9) rfl d_M_order_150 ?_
            refine lv_aload_n hx hb d_M_order_153 rfl (lv_at hl 1 rfl) ?_
            refine nw_get hx hb hts i_M hown hK hw (64) (mW_64) rfl 13 (by decide) (hts _ kw_672) (fun _ h9 => h9) rfl d_M_order_154 ?_
            refine lv_iload hx hb d_M_order_157 (lv_at hl 6 rfl) ?_
            refine nw_iast hx hb hK hw hS (192) 0 (mW_row (t := 5) (j := 12) (by decide) (by decide) (rfl)) rfl (n 4) (rfl) ((nI_ltI (by omega) (by omega)).mp hst9) (by omega) d_M_order_159 (fun H locs hw hS => ?_)
            have hw := mW_setRow (t := 5) (j := 12) (by decide) (by decide) (rfl) hw
            refine lv_aload_n hx hb d_M_order_160 rfl (lv_at hl 1 rfl) ?_
            refine lv_dup hx hb d_M_order_161 rfl ?_
            refine nw_get hx hb hts i_M hown hK hw (64) (mW_64) rfl 13 (by decide) (hts _ kw_672) (fun _ h9 => h9) rfl d_M_order_162 ?_
            refine lv_iconst (v := nI 1) hx hb d_M_order_165 (by decide) ?_
            refine lv_iadd hx hb d_M_order_166 ?_
            refine lv_ei (y := nI (n 4 + 1)) (nI_add _ _) ?_
            refine nw_put (v := .int (nI (n 4 + 1))) (ty := .int) hx hb hts i_M t_M tk_M n_M hown hK hw hS (64) (mW_64) rfl 13 (by decide) (hts _ kw_672) (fun _ h9 => h9) rfl (by decide +kernel) (rfl) (rfl) (Nat.le_of_ble_eq_true rfl) d_M_order_167 (fun H locs hw hS => ?_)
            have hw := nw_W.as (wn' := mW ad tC (va_up n 4 (n 4 + 1)) (va_up (va_up J 0 (nI 0)) 3 (nI 0)) bw L bX aY (upR (upR (upR (upR (upR S 5 8 (upd (S 5 8) (n 4) x1)) 5 9 (upd ((upR S 5 8 (upd (S 5 8) (n 4) x1)) 5 9) (n 4) x2)) 5 10 (upd ((upR (upR S 5 8 (upd (S 5 8) (n 4) x1)) 5 9 (upd ((upR S 5 8 (upd (S 5 8) (n 4) x1)) 5 9) (n 4) x2)) 5 10) (n 4) x3)) 5 11 (upd ((upR (upR (upR S 5 8 (upd (S 5 8) (n 4) x1)) 5 9 (upd ((upR S 5 8 (upd (S 5 8) (n 4) x1)) 5 9) (n 4) x2)) 5 10 (upd ((upR (upR S 5 8 (upd (S 5 8) (n 4) x1)) 5 9 (upd ((upR S 5 8 (upd (S 5 8) (n 4) x1)) 5 9) (n 4) x2)) 5 10) (n 4) x3)) 5 11) (n 4) x4)) 5 12 (upd ((upR (upR (upR (upR S 5 8 (upd (S 5 8) (n 4) x1)) 5 9 (upd ((upR S 5 8 (upd (S 5 8) (n 4) x1)) 5 9) (n 4) x2)) 5 10 (upd ((upR (upR S 5 8 (upd (S 5 8) (n 4) x1)) 5 9 (upd ((upR S 5 8 (upd (S 5 8) (n 4) x1)) 5 9) (n 4) x2)) 5 10) (n 4) x3)) 5 11 (upd ((upR (upR (upR S 5 8 (upd (S 5 8) (n 4) x1)) 5 9 (upd ((upR S 5 8 (upd (S 5 8) (n 4) x1)) 5 9) (n 4) x2)) 5 10 (upd ((upR (upR S 5 8 (upd (S 5 8) (n 4) x1)) 5 9 (upd ((upR S 5 8 (upd (S 5 8) (n 4) x1)) 5 9) (n 4) x2)) 5 10) (n 4) x3)) 5 11) (n 4) x4)) 5 12) (n 4) x5))) (mW_setO (n' := (va_up n 4 (n 4 + 1))) (J' := (va_up (va_up J 0 (nI 0)) 3 (nI 0))) (bw' := bw) rfl hw) rfl
            refine lv_aload_n hx hb d_M_order_170 rfl (lv_at hl 1 rfl) ?_
            refine nw_get hx hb hts i_M hown hK hw (64) (mW_64) rfl 13 (by decide) (hts _ kw_672) (fun _ h9 => h9) rfl d_M_order_171 ?_
            refine lv_iconst (v := nI 1) hx hb d_M_order_174 (by decide) ?_
            refine lv_isub hx hb d_M_order_175 ?_
            refine lv_ei (y := nI (n 4)) (by show nI (n 4 + 1) - nI 1 = _; exact pk_sub (by omega)) ?_
            exact nw_iret hQ hx hb hr hlocks hw hS (nw_mo_ok (fun h => h hok9) (fun h => h hst9) (⟨rfl, rfl⟩)) (Nat.le_of_ble_eq_true rfl) (Nat.le_of_ble_eq_true rfl) d_M_order_176
          · skip
            refine lv_iconst (v := nI 0) hx hb d_M_order_101 (by decide) ?_
            exact nw_iret hQ hx hb hr hlocks hw hS (nw_mo_bad (Wb := (fun t => mW ad tC n (va_up J 0 t) bw L bX aY S)) ha9 hs9 (b2_1 c_98)) (Nat.le_of_ble_eq_true rfl) (Nat.le_of_ble_eq_true rfl) d_M_order_102
        · skip
          have hbs : nI (n 4) < nI 6 := Int32.not_le.mp c_87
          refine lv_iconst (v := nI 1) hx hb d_M_order_90 (by decide) ?_
          refine lv_goto (tgt := 95) hx hb d_M_order_91 (by decide) ?_
          have ha9 : nI 0 = 0 ↔ ¬ ((0 ≤ x1 ∧ x1 < nI (n 0)) ∧ (nI 0 ≤ x3 ∧ x3 ≤ nI 20000) ∧ (nI 0 ≤ x2 ∧ x2 ≤ x3) ∧ (nI 0 ≤ x4 ∧ x4 ≤ 100000000) ∧ (nI 0 ≤ x5 ∧ x5 ≤ nI 10000)) := ⟨fun _ => hneg, fun _ => rfl⟩
          have hs9 : nI 1 = 0 ↔ ¬ (nI (n 4) < nI 6) := ⟨fun h => absurd h (by decide), fun h => absurd hbs h⟩
          refine nw_callD (nw_goV (n := 2) (As := [.int (nI 0), .int (nI 1)]) (rest := []) hSx hA hKs hw hS (c_M_refuses l D tC A ad n J bw L bX aY S hN (nI 0) (nI 1)) kw_774 kw_771 kw_773 ks_M_refuses kw_8 rfl rfl (by decide +kernel) ⟨Nat.le_of_ble_eq_true rfl, Nat.le_of_ble_eq_true rfl⟩ (nw_recv hK hw (mW_64) rfl) rfl hl.1 (Nat.le_of_ble_eq_true rfl) d_M_order_95 ⟨Nat.le_of_ble_eq_true rfl, Nat.le_of_ble_eq_true rfl⟩) hS (fun H locs hw hS => ?_)
          refine lv_if_eq (tgt := 103) hx hb d_M_order_98 (by decide) (fun c_98 => ?_) (fun c_98 => ?_)
          · skip
            have hno9 := b2_0 c_98
            have hok9 : (0 ≤ x1 ∧ x1 < nI (n 0)) ∧ (nI 0 ≤ x3 ∧ x3 ≤ nI 20000) ∧ (nI 0 ≤ x2 ∧ x2 ≤ x3) ∧ (nI 0 ≤ x4 ∧ x4 ≤ 100000000) ∧ (nI 0 ≤ x5 ∧ x5 ≤ nI 10000) := Classical.not_not.mp (fun h => hno9 (Or.inl (ha9.mpr h)))
            have hst9 : nI (n 4) < nI 6 := Classical.not_not.mp (fun h => hno9 (Or.inr (hs9.mpr h)))
            have hw := nw_W.as (wn' := mW ad tC n (va_up J 0 (nI 0)) bw L bX aY S) hw (by rw [rfI_ok hno9])
            refine lv_aload_n hx hb d_M_order_103 rfl (lv_at hl 1 rfl) ?_
            refine lv_iconst (v := nI 0) hx hb d_M_order_104 (by decide) ?_
            refine nw_put (v := .int (nI 0)) (ty := .boolean) hx hb hts i_M t_M tk_M n_M hown hK hw hS (64) (mW_64) rfl 21 (by decide) (hts _ kw_680) (fun _ h9 => h9) rfl (by decide +kernel) (rfl) (rfl) (Nat.le_of_ble_eq_true rfl) d_M_order_105 (fun H locs hw hS => ?_)
            have hw := nw_W.as (wn' := mW ad tC n (va_up (va_up J 0 (nI 0)) 3 (nI 0)) bw L bX aY S) (mW_setO (n' := n) (J' := (va_up (va_up J 0 (nI 0)) 3 (nI 0))) (bw' := bw) rfl hw) rfl
            refine lv_aload_n hx hb d_M_order_108 rfl (lv_at hl 1 rfl) ?_
            refine nw_get hx hb hts i_M hown hK hw (64) (mW_64) rfl 14 (by decide) (hts _ kw_673) (fun _ h9 => h9) rfl d_M_order_109 ?_
            refine lv_aload_n hx hb d_M_order_112 rfl (lv_at hl 1 rfl) ?_
            refine nw_get hx hb hts i_M hown hK hw (64) (mW_64) rfl 13 (by decide) (hts _ kw_672) (fun _ h9 => h9) rfl d_M_order_113 ?_
            refine lv_iload_n hx hb d_M_order_116 rfl (lv_at hl 2 rfl) ?_
            refine nw_iast hx hb hK hw hS (188) 0 (mW_row (t := 5) (j := 8) (by decide) (by decide) (rfl)) rfl (n 4) (rfl) ((nI_ltI (by omega) (by omega)).mp hst9) (by omega) d_M_order_117 (fun H locs hw hS => ?_)
            have hw := mW_setRow (t := 5) (j := 8) (by decide) (by decide) (rfl) hw
            refine lv_aload_n hx hb d_M_order_118 rfl (lv_at hl 1 rfl) ?_
            refine nw_get hx hb hts i_M hown hK hw (64) (mW_64) rfl 15 (by decide) (hts _ kw_674) (fun _ h9 => h9) rfl d_M_order_119 ?_
            refine lv_aload_n hx hb d_M_order_122 rfl (lv_at hl 1 rfl) ?_
            refine nw_get hx hb hts i_M hown hK hw (64) (mW_64) rfl 13 (by decide) (hts _ kw_672) (fun _ h9 => h9) rfl d_M_order_123 ?_
            refine lv_iload_n hx hb d_M_order_126 rfl (lv_at hl 3 rfl) ?_
            refine nw_iast hx hb hK hw hS (189) 0 (mW_row (t := 5) (j := 9) (by decide) (by decide) (rfl)) rfl (n 4) (rfl) ((nI_ltI (by omega) (by omega)).mp hst9) (by omega) d_M_order_127 (fun H locs hw hS => ?_)
            have hw := mW_setRow (t := 5) (j := 9) (by decide) (by decide) (rfl) hw
            refine lv_aload_n hx hb d_M_order_128 rfl (lv_at hl 1 rfl) ?_
            refine nw_get hx hb hts i_M hown hK hw (64) (mW_64) rfl 16 (by decide) (hts _ kw_675) (fun _ h9 => h9) rfl d_M_order_129 ?_
            refine lv_aload_n hx hb d_M_order_132 rfl (lv_at hl 1 rfl) ?_
            refine nw_get hx hb hts i_M hown hK hw (64) (mW_64) rfl 13 (by decide) (hts _ kw_672) (fun _ h9 => h9) rfl d_M_order_133 ?_
            refine lv_iload_n hx hb d_M_order_136 rfl (lv_at hl 4 rfl) ?_
            refine nw_iast hx hb hK hw hS (190) 0 (mW_row (t := 5) (j := 10) (by decide) (by decide) (rfl)) rfl (n 4) (rfl) ((nI_ltI (by omega) (by omega)).mp hst9) (by omega) d_M_order_137 (fun H locs hw hS => ?_)
            have hw := mW_setRow (t := 5) (j := 10) (by decide) (by decide) (rfl) hw
            refine lv_aload_n hx hb d_M_order_138 rfl (lv_at hl 1 rfl) ?_
            refine nw_get hx hb hts i_M hown hK hw (64) (mW_64) rfl 17 (by decide) (hts _ kw_676) (fun _ h9 => h9) rfl d_M_order_139 ?_
            refine lv_aload_n hx hb d_M_order_142 rfl (lv_at hl 1 rfl) ?_
            refine nw_get hx hb hts i_M hown hK hw (64) (mW_64) rfl 13 (by decide) (hts _ kw_672) (fun _ h9 => h9) rfl d_M_order_143 ?_
            refine lv_iload hx hb d_M_order_146 (lv_at hl 5 rfl) ?_
            refine nw_iast hx hb hK hw hS (191) 0 (mW_row (t := 5) (j := 11) (by decide) (by decide) (rfl)) rfl (n 4) (rfl) ((nI_ltI (by omega) (by omega)).mp hst9) (by omega) d_M_order_148 (fun H locs hw hS => ?_)
            have hw := mW_setRow (t := 5) (j := 11) (by decide) (by decide) (rfl) hw
            refine lv_aload_n hx hb d_M_order_149 rfl (lv_at hl 1 rfl) ?_
            refine nw_get hx hb hts i_M hown hK hw (64) (mW_64) rfl 18 (by decide) (hts _ kw_677) (fun _ h9 => h9) rfl d_M_order_150 ?_
            refine lv_aload_n hx hb d_M_order_153 rfl (lv_at hl 1 rfl) ?_
            refine nw_get hx hb hts i_M hown hK hw (64) (mW_64) rfl 13 (by decide) (hts _ kw_672) (fun _ h9 => h9) rfl d_M_order_154 ?_
            refine lv_iload hx hb d_M_order_157 (lv_at hl 6 rfl) ?_
            refine nw_iast hx hb hK hw hS (192) 0 (mW_row (t := 5) (j := 12) (by decide) (by decide) (rfl)) rfl (n 4) (rfl) ((nI_ltI (by omega) (by omega)).mp hst9) (by omega) d_M_order_159 (fun H locs hw hS => ?_)
            have hw := mW_setRow (t := 5) (j := 12) (by decide) (by decide) (rfl) hw
            refine lv_aload_n hx hb d_M_order_160 rfl (lv_at hl 1 rfl) ?_
            refine lv_dup hx hb d_M_order_161 rfl ?_
            refine nw_get hx hb hts i_M hown hK hw (64) (mW_64) rfl 13 (by decide) (hts _ kw_672) (fun _ h9 => h9) rfl d_M_order_162 ?_
            refine lv_iconst (v := nI 1) hx hb d_M_order_165 (by decide) ?_
            refine lv_iadd hx hb d_M_order_166 ?_
            refine lv_ei (y := nI (n 4 + 1)) (nI_add _ _) ?_
            refine nw_put (v := .int (nI (n 4 + 1))) (ty := .int) hx hb hts i_M t_M tk_M n_M hown hK hw hS (64) (mW_64) rfl 13 (by decide) (hts _ kw_672) (fun _ h9 => h9) rfl (by decide +kernel) (rfl) (rfl) (Nat.le_of_ble_eq_true rfl) d_M_order_167 (fun H locs hw hS => ?_)
            have hw := nw_W.as (wn' := mW ad tC (va_up n 4 (n 4 + 1)) (va_up (va_up J 0 (nI 0)) 3 (nI 0)) bw L bX aY (upR (upR (upR (upR (upR S 5 8 (upd (S 5 8) (n 4) x1)) 5 9 (upd ((upR S 5 8 (upd (S 5 8) (n 4) x1)) 5 9) (n 4) x2)) 5 10 (upd ((upR (upR S 5 8 (upd (S 5 8) (n 4) x1)) 5 9 (upd ((upR S 5 8 (upd (S 5 8) (n 4) x1)) 5 9) (n 4) x2)) 5 10) (n 4) x3)) 5 11 (upd ((upR (upR (upR S 5 8 (upd (S 5 8) (n 4) x1)) 5 9 (upd ((upR S 5 8 (upd (S 5 8) (n 4) x1)) 5 9) (n 4) x2)) 5 10 (upd ((upR (upR S 5 8 (upd (S 5 8) (n 4) x1)) 5 9 (upd ((upR S 5 8 (upd (S 5 8) (n 4) x1)) 5 9) (n 4) x2)) 5 10) (n 4) x3)) 5 11) (n 4) x4)) 5 12 (upd ((upR (upR (upR (upR S 5 8 (upd (S 5 8) (n 4) x1)) 5 9 (upd ((upR S 5 8 (upd (S 5 8) (n 4) x1)) 5 9) (n 4) x2)) 5 10 (upd ((upR (upR S 5 8 (upd (S 5 8) (n 4) x1)) 5 9 (upd ((upR S 5 8 (upd (S 5 8) (n 4) x1)) 5 9) (n 4) x2)) 5 10) (n 4) x3)) 5 11 (upd ((upR (upR (upR S 5 8 (upd (S 5 8) (n 4) x1)) 5 9 (upd ((upR S 5 8 (upd (S 5 8) (n 4) x1)) 5 9) (n 4) x2)) 5 10 (upd ((upR (upR S 5 8 (upd (S 5 8) (n 4) x1)) 5 9 (upd ((upR S 5 8 (upd (S 5 8) (n 4) x1)) 5 9) (n 4) x2)) 5 10) (n 4) x3)) 5 11) (n 4) x4)) 5 12) (n 4) x5))) (mW_setO (n' := (va_up n 4 (n 4 + 1))) (J' := (va_up (va_up J 0 (nI 0)) 3 (nI 0))) (bw' := bw) rfl hw) rfl
            refine lv_aload_n hx hb d_M_order_170 rfl (lv_at hl 1 rfl) ?_
            refine nw_get hx hb hts i_M hown hK hw (64) (mW_64) rfl 13 (by decide) (hts _ kw_672) (fun _ h9 => h9) rfl d_M_order_171 ?_
            refine lv_iconst (v := nI 1) hx hb d_M_order_174 (by decide) ?_
            refine lv_isub hx hb d_M_order_175 ?_
            refine lv_ei (y := nI (n 4)) (by show nI (n 4 + 1) - nI 1 = _; exact pk_sub (by omega)) ?_
            exact nw_iret hQ hx hb hr hlocks hw hS (nw_mo_ok (fun h => h hok9) (fun h => h hst9) (⟨rfl, rfl⟩)) (Nat.le_of_ble_eq_true rfl) (Nat.le_of_ble_eq_true rfl) d_M_order_176
          · skip
            refine lv_iconst (v := nI 0) hx hb d_M_order_101 (by decide) ?_
            exact nw_iret hQ hx hb hr hlocks hw hS (nw_mo_bad (Wb := (fun t => mW ad tC n (va_up J 0 t) bw L bX aY S)) ha9 hs9 (b2_1 c_98)) (Nat.le_of_ble_eq_true rfl) (Nat.le_of_ble_eq_true rfl) d_M_order_102
      · skip
        have h2 : nI 0 ≤ x3 ∧ x3 ≤ nI 20000 := (show _ ↔ (nI 0 ≤ x3 ∧ x3 ≤ nI 20000) from in_c rfl rfl).mp (b2_1 c_37)
        refine lv_iload_n hx hb d_M_order_40 rfl (lv_at hl 2 rfl) ?_
        refine lv_iload_n hx hb d_M_order_41 rfl (lv_at hl 3 rfl) ?_
        refine lv_icmp_gt (tgt := 75) hx hb d_M_order_42 (by decide) (fun c_42 => ?_) (fun c_42 => ?_)
        · skip
          have hneg : ¬ ((0 ≤ x1 ∧ x1 < nI (n 0)) ∧ (nI 0 ≤ x3 ∧ x3 ≤ nI 20000) ∧ (nI 0 ≤ x2 ∧ x2 ≤ x3) ∧ (nI 0 ≤ x4 ∧ x4 ≤ 100000000) ∧ (nI 0 ≤ x5 ∧ x5 ≤ nI 10000)) := fun h => Int32.not_le.mpr c_42 h.2.2.1.2
          refine lv_iconst (v := nI 0) hx hb d_M_order_75 (by decide) ?_
          refine lv_istore (lv' := [(6, .int (nI 0)), (0, .ref (ad (64))), (1, .int (x1)), (2, .int (x2)), (3, .int (x3)), (4, .int (x4)), (5, .int (x5))]) hx hb d_M_order_76 hl (by decide) rfl (fun ls hl => ?_)
          refine lv_aload_n hx hb d_M_order_78 rfl (lv_at hl 1 rfl) ?_
          refine lv_iload hx hb d_M_order_79 (lv_at hl 0 rfl) ?_
          refine lv_aload_n hx hb d_M_order_81 rfl (lv_at hl 1 rfl) ?_
          refine nw_get hx hb hts i_M hown hK hw (64) (mW_64) rfl 13 (by decide) (hts _ kw_672) (fun _ h9 => h9) rfl d_M_order_82 ?_
          refine lv_bipush (v := nI 6) hx hb d_M_order_85 (by decide) ?_
          refine lv_icmp_ge (tgt := 94) hx hb d_M_order_87 (by decide) (fun c_87 => ?_) (fun c_87 => ?_)
          · skip
            have hbsn : ¬ (nI (n 4) < nI 6) := Int32.not_lt.mpr c_87
            refine lv_iconst (v := nI 0) hx hb d_M_order_94 (by decide) ?_
            have ha9 : nI 0 = 0 ↔ ¬ ((0 ≤ x1 ∧ x1 < nI (n 0)) ∧ (nI 0 ≤ x3 ∧ x3 ≤ nI 20000) ∧ (nI 0 ≤ x2 ∧ x2 ≤ x3) ∧ (nI 0 ≤ x4 ∧ x4 ≤ 100000000) ∧ (nI 0 ≤ x5 ∧ x5 ≤ nI 10000)) := ⟨fun _ => hneg, fun _ => rfl⟩
            have hs9 : nI 0 = 0 ↔ ¬ (nI (n 4) < nI 6) := ⟨fun _ => hbsn, fun _ => rfl⟩
            refine nw_callD (nw_goV (n := 2) (As := [.int (nI 0), .int (nI 0)]) (rest := []) hSx hA hKs hw hS (c_M_refuses l D tC A ad n J bw L bX aY S hN (nI 0) (nI 0)) kw_774 kw_771 kw_773 ks_M_refuses kw_8 rfl rfl (by decide +kernel) ⟨Nat.le_of_ble_eq_true rfl, Nat.le_of_ble_eq_true rfl⟩ (nw_recv hK hw (mW_64) rfl) rfl hl.1 (Nat.le_of_ble_eq_true rfl) d_M_order_95 ⟨Nat.le_of_ble_eq_true rfl, Nat.le_of_ble_eq_true rfl⟩) hS (fun H locs hw hS => ?_)
            refine lv_if_eq (tgt := 103) hx hb d_M_order_98 (by decide) (fun c_98 => ?_) (fun c_98 => ?_)
            · skip
              have hno9 := b2_0 c_98
              have hok9 : (0 ≤ x1 ∧ x1 < nI (n 0)) ∧ (nI 0 ≤ x3 ∧ x3 ≤ nI 20000) ∧ (nI 0 ≤ x2 ∧ x2 ≤ x3) ∧ (nI 0 ≤ x4 ∧ x4 ≤ 100000000) ∧ (nI 0 ≤ x5 ∧ x5 ≤ nI 10000) := Classical.not_not.mp (fun h => hno9 (Or.inl (ha9.mpr h)))
              have hst9 : nI (n 4) < nI 6 := Classical.not_not.mp (fun h => hno9 (Or.inr (hs9.mpr h)))
              have hw := nw_W.as (wn' := mW ad tC n (va_up J 0 (nI 0)) bw L bX aY S) hw (by rw [rfI_ok hno9])
              refine lv_aload_n hx hb d_M_order_103 rfl (lv_at hl 1 rfl) ?_
              refine lv_iconst (v := nI 0) hx hb d_M_order_104 (by decide) ?_
              refine nw_put (v := .int (nI 0)) (ty := .boolean) hx hb hts i_M t_M tk_M n_M hown hK hw hS (64) (mW_64) rfl 21 (by decide) (hts _ kw_680) (fun _ h9 => h9) rfl (by decide +kernel) (rfl) (rfl) (Nat.le_of_ble_eq_true rfl) d_M_order_105 (fun H locs hw hS => ?_)
              have hw := nw_W.as (wn' := mW ad tC n (va_up (va_up J 0 (nI 0)) 3 (nI 0)) bw L bX aY S) (mW_setO (n' := n) (J' := (va_up (va_up J 0 (nI 0)) 3 (nI 0))) (bw' := bw) rfl hw) rfl
              refine lv_aload_n hx hb d_M_order_108 rfl (lv_at hl 1 rfl) ?_
              refine nw_get hx hb hts i_M hown hK hw (64) (mW_64) rfl 14 (by decide) (hts _ kw_673) (fun _ h9 => h9) rfl d_M_order_109 ?_
              refine lv_aload_n hx hb d_M_order_112 rfl (lv_at hl 1 rfl) ?_
              refine nw_get hx hb hts i_M hown hK hw (64) (mW_64) rfl 13 (by decide) (hts _ kw_672) (fun _ h9 => h9) rfl d_M_order_113 ?_
              refine lv_iload_n hx hb d_M_order_116 rfl (lv_at hl 2 rfl) ?_
              refine nw_iast hx hb hK hw hS (188) 0 (mW_row (t := 5) (j := 8) (by decide) (by decide) (rfl)) rfl (n 4) (rfl) ((nI_ltI (by omega) (by omega)).mp hst9) (by omega) d_M_order_117 (fun H locs hw hS => ?_)
              have hw := mW_setRow (t := 5) (j := 8) (by decide) (by decide) (rfl) hw
              refine lv_aload_n hx hb d_M_order_118 rfl (lv_at hl 1 rfl) ?_
              refine nw_get hx hb hts i_M hown hK hw (64) (mW_64) rfl 15 (by decide) (hts _ kw_674) (fun _ h9 => h9) rfl d_M_order_119 ?_
              refine lv_aload_n hx hb d_M_order_122 rfl (lv_at hl 1 rfl) ?_
              refine nw_get hx hb hts i_M hown hK hw (64) (mW_64) rfl 13 (by decide) (hts _ kw_672) (fun _ h9 => h9) rfl d_M_order_123 ?_
              refine lv_iload_n hx hb d_M_order_126 rfl (lv_at hl 3 rfl) ?_
              refine nw_iast hx hb hK hw hS (189) 0 (mW_row (t := 5) (j := 9) (by decide) (by decide) (rfl)) rfl (n 4) (rfl) ((nI_ltI (by omega) (by omega)).mp hst9) (by omega) d_M_order_127 (fun H locs hw hS => ?_)
              have hw := mW_setRow (t := 5) (j := 9) (by decide) (by decide) (rfl) hw
              refine lv_aload_n hx hb d_M_order_128 rfl (lv_at hl 1 rfl) ?_
              refine nw_get hx hb hts i_M hown hK hw (64) (mW_64) rfl 16 (by decide) (hts _ kw_675) (fun _ h9 => h9) rfl d_M_order_129 ?_
              refine lv_aload_n hx hb d_M_order_132 rfl (lv_at hl 1 rfl) ?_
              refine nw_get hx hb hts i_M hown hK hw (64) (mW_64) rfl 13 (by decide) (hts _ kw_672) (fun _ h9 => h9) rfl d_M_order_133 ?_
              refine lv_iload_n hx hb d_M_order_136 rfl (lv_at hl 4 rfl) ?_
              refine nw_iast hx hb hK hw hS (190) 0 (mW_row (t := 5) (j := 10) (by decide) (by decide) (rfl)) rfl (n 4) (rfl) ((nI_ltI (by omega) (by omega)).mp hst9) (by omega) d_M_order_137 (fun H locs hw hS => ?_)
              have hw := mW_setRow (t := 5) (j := 10) (by decide) (by decide) (rfl) hw
              refine lv_aload_n hx hb d_M_order_138 rfl (lv_at hl 1 rfl) ?_
              refine nw_get hx hb hts i_M hown hK hw (64) (mW_64) rfl 17 (by decide) (hts _ kw_676) (fun _ h9 => h9) rfl d_M_order_139 ?_
              refine lv_aload_n hx hb d_M_order_142 rfl (lv_at hl 1 rfl) ?_
              refine nw_get hx hb hts i_M hown hK hw (64) (mW_64) rfl 13 (by decide) (hts _ kw_672) (fun _ h9 => h9) rfl d_M_order_143 ?_
              refine lv_iload hx hb d_M_order_146 (lv_at hl 5 rfl) ?_
              refine nw_iast hx hb hK hw hS (191) 0 (mW_row (t := 5) (j := 11) (by decide) (by decide) (rfl)) rfl (n 4) (rfl) ((nI_ltI (by omega) (by omega)).mp hst9) (by omega) d_M_order_148 (fun H locs hw hS => ?_)
              have hw := mW_setRow (t := 5) (j := 11) (by decide) (by decide) (rfl) hw
              refine lv_aload_n hx hb d_M_order_149 rfl (lv_at hl 1 rfl) ?_
              refine nw_get hx hb hts i_M hown hK hw (64) (mW_64) rfl 18 (by decide) (hts _ kw_677) (fun _ h9 => h9) rfl d_M_order_150 ?_
              refine lv_aload_n hx hb d_M_order_153 rfl (lv_at hl 1 rfl) ?_
              refine nw_get hx hb hts i_M hown hK hw (64) (mW_64) rfl 13 (by decide) (hts _ kw_672) (fun _ h9 => h9) rfl d_M_order_154 ?_
              refine lv_iload hx hb d_M_order_157 (lv_at hl 6 rfl) ?_
              refine nw_iast hx hb hK hw hS (192) 0 (mW_row (t := 5) (j := 12) (by decide) (by decide) (rfl)) rfl (n 4) (rfl) ((nI_ltI (by omega) (by omega)).mp hst9) (by omega) d_M_order_159 (fun H locs hw hS => ?_)
              have hw := mW_setRow (t := 5) (j := 12) (by decide) (by decide) (rfl) hw
              refine lv_aload_n hx hb d_M_order_160 rfl (lv_at hl 1 rfl) ?_
              refine lv_dup hx hb d_M_order_161 rfl ?_
              refine nw_get hx hb hts i_M hown hK hw (64) (mW_64) rfl 13 (by decide) (hts _ kw_672) (fun _ h9 => h9) rfl d_M_order_162 ?_
              refine lv_iconst (v := nI 1) hx hb d_M_order_165 (by decide) ?_
              refine lv_iadd hx hb d_M_order_166 ?_
              refine lv_ei (y := nI (n 4 + 1)) (nI_add _ _) ?_
              refine nw_put (v := .int (nI (n 4 + 1))) (ty := .int) hx hb hts i_M t_M tk_M n_M hown hK hw hS (64) (mW_64) rfl 13 (by decide) (hts _ kw_672) (fun _ h9 => h9) rfl (by decide +kernel) (rfl) (rfl) (Nat.le_of_ble_eq_true rfl) d_M_order_167 (fun H locs hw hS => ?_)
              have hw := nw_W.as (wn' := mW ad tC (va_up n 4 (n 4 + 1)) (va_up (va_up J 0 (nI 0)) 3 (nI 0)) bw L bX aY (upR (upR (upR (upR (upR S 5 8 (upd (S 5 8) (n 4) x1)) 5 9 (upd ((upR S 5 8 (upd (S 5 8) (n 4) x1)) 5 9) (n 4) x2)) 5 10 (upd ((upR (upR S 5 8 (upd (S 5 8) (n 4) x1)) 5 9 (upd ((upR S 5 8 (upd (S 5 8) (n 4) x1)) 5 9) (n 4) x2)) 5 10) (n 4) x3)) 5 11 (upd ((upR (upR (upR S 5 8 (upd (S 5 8) (n 4) x1)) 5 9 (upd ((upR S 5 8 (upd (S 5 8) (n 4) x1)) 5 9) (n 4) x2)) 5 10 (upd ((upR (upR S 5 8 (upd (S 5 8) (n 4) x1)) 5 9 (upd ((upR S 5 8 (upd (S 5 8) (n 4) x1)) 5 9) (n 4) x2)) 5 10) (n 4) x3)) 5 11) (n 4) x4)) 5 12 (upd ((upR (upR (upR (upR S 5 8 (upd (S 5 8) (n 4) x1)) 5 9 (upd ((upR S 5 8 (upd (S 5 8) (n 4) x1)) 5 9) (n 4) x2)) 5 10 (upd ((upR (upR S 5 8 (upd (S 5 8) (n 4) x1)) 5 9 (upd ((upR S 5 8 (upd (S 5 8) (n 4) x1)) 5 9) (n 4) x2)) 5 10) (n 4) x3)) 5 11 (upd ((upR (upR (upR S 5 8 (upd (S 5 8) (n 4) x1)) 5 9 (upd ((upR S 5 8 (upd (S 5 8) (n 4) x1)) 5 9) (n 4) x2)) 5 10 (upd ((upR (upR S 5 8 (upd (S 5 8) (n 4) x1)) 5 9 (upd ((upR S 5 8 (upd (S 5 8) (n 4) x1)) 5 9) (n 4) x2)) 5 10) (n 4) x3)) 5 11) (n 4) x4)) 5 12) (n 4) x5))) (mW_setO (n' := (va_up n 4 (n 4 + 1))) (J' := (va_up (va_up J 0 (nI 0)) 3 (nI 0))) (bw' := bw) rfl hw) rfl
              refine lv_aload_n hx hb d_M_order_170 rfl (lv_at hl 1 rfl) ?_
              refine nw_get hx hb hts i_M hown hK hw (64) (mW_64) rfl 13 (by decide) (hts _ kw_672) (fun _ h9 => h9) rfl d_M_order_171 ?_
              refine lv_iconst (v := nI 1) hx hb d_M_order_174 (by decide) ?_
              refine lv_isub hx hb d_M_order_175 ?_
              refine lv_ei (y := nI (n 4)) (by show nI (n 4 + 1) - nI 1 = _; exact pk_sub (by omega)) ?_
              exact nw_iret hQ hx hb hr hlocks hw hS (nw_mo_ok (fun h => h hok9) (fun h => h hst9) (⟨rfl, rfl⟩)) (Nat.le_of_ble_eq_true rfl) (Nat.le_of_ble_eq_true rfl) d_M_order_176
            · skip
              refine lv_iconst (v := nI 0) hx hb d_M_order_101 (by decide) ?_
              exact nw_iret hQ hx hb hr hlocks hw hS (nw_mo_bad (Wb := (fun t => mW ad tC n (va_up J 0 t) bw L bX aY S)) ha9 hs9 (b2_1 c_98)) (Nat.le_of_ble_eq_true rfl) (Nat.le_of_ble_eq_true rfl) d_M_order_102
          · skip
            have hbs : nI (n 4) < nI 6 := Int32.not_le.mp c_87
            refine lv_iconst (v := nI 1) hx hb d_M_order_90 (by decide) ?_
            refine lv_goto (tgt := 95) hx hb d_M_order_91 (by decide) ?_
            have ha9 : nI 0 = 0 ↔ ¬ ((0 ≤ x1 ∧ x1 < nI (n 0)) ∧ (nI 0 ≤ x3 ∧ x3 ≤ nI 20000) ∧ (nI 0 ≤ x2 ∧ x2 ≤ x3) ∧ (nI 0 ≤ x4 ∧ x4 ≤ 100000000) ∧ (nI 0 ≤ x5 ∧ x5 ≤ nI 10000)) := ⟨fun _ => hneg, fun _ => rfl⟩
            have hs9 : nI 1 = 0 ↔ ¬ (nI (n 4) < nI 6) := ⟨fun h => absurd h (by decide), fun h => absurd hbs h⟩
            refine nw_callD (nw_goV (n := 2) (As := [.int (nI 0), .int (nI 1)]) (rest := []) hSx hA hKs hw hS (c_M_refuses l D tC A ad n J bw L bX aY S hN (nI 0) (nI 1)) kw_774 kw_771 kw_773 ks_M_refuses kw_8 rfl rfl (by decide +kernel) ⟨Nat.le_of_ble_eq_true rfl, Nat.le_of_ble_eq_true rfl⟩ (nw_recv hK hw (mW_64) rfl) rfl hl.1 (Nat.le_of_ble_eq_true rfl) d_M_order_95 ⟨Nat.le_of_ble_eq_true rfl, Nat.le_of_ble_eq_true rfl⟩) hS (fun H locs hw hS => ?_)
            refine lv_if_eq (tgt := 103) hx hb d_M_order_98 (by decide) (fun c_98 => ?_) (fun c_98 => ?_)
            · skip
              have hno9 := b2_0 c_98
              have hok9 : (0 ≤ x1 ∧ x1 < nI (n 0)) ∧ (nI 0 ≤ x3 ∧ x3 ≤ nI 20000) ∧ (nI 0 ≤ x2 ∧ x2 ≤ x3) ∧ (nI 0 ≤ x4 ∧ x4 ≤ 100000000) ∧ (nI 0 ≤ x5 ∧ x5 ≤ nI 10000) := Classical.not_not.mp (fun h => hno9 (Or.inl (ha9.mpr h)))
              have hst9 : nI (n 4) < nI 6 := Classical.not_not.mp (fun h => hno9 (Or.inr (hs9.mpr h)))
              have hw := nw_W.as (wn' := mW ad tC n (va_up J 0 (nI 0)) bw L bX aY S) hw (by rw [rfI_ok hno9])
              refine lv_aload_n hx hb d_M_order_103 rfl (lv_at hl 1 rfl) ?_
              refine lv_iconst (v := nI 0) hx hb d_M_order_104 (by decide) ?_
              refine nw_put (v := .int (nI 0)) (ty := .boolean) hx hb hts i_M t_M tk_M n_M hown hK hw hS (64) (mW_64) rfl 21 (by decide) (hts _ kw_680) (fun _ h9 => h9) rfl (by decide +kernel) (rfl) (rfl) (Nat.le_of_ble_eq_true rfl) d_M_order_105 (fun H locs hw hS => ?_)
              have hw := nw_W.as (wn' := mW ad tC n (va_up (va_up J 0 (nI 0)) 3 (nI 0)) bw L bX aY S) (mW_setO (n' := n) (J' := (va_up (va_up J 0 (nI 0)) 3 (nI 0))) (bw' := bw) rfl hw) rfl
              refine lv_aload_n hx hb d_M_order_108 rfl (lv_at hl 1 rfl) ?_
              refine nw_get hx hb hts i_M hown hK hw (64) (mW_64) rfl 14 (by decide) (hts _ kw_673) (fun _ h9 => h9) rfl d_M_order_109 ?_
              refine lv_aload_n hx hb d_M_order_112 rfl (lv_at hl 1 rfl) ?_
              refine nw_get hx hb hts i_M hown hK hw (64) (mW_64) rfl 13 (by decide) (hts _ kw_672) (fun _ h9 => h9) rfl d_M_order_113 ?_
              refine lv_iload_n hx hb d_M_order_116 rfl (lv_at hl 2 rfl) ?_
              refine nw_iast hx hb hK hw hS (188) 0 (mW_row (t := 5) (j := 8) (by decide) (by decide) (rfl)) rfl (n 4) (rfl) ((nI_ltI (by omega) (by omega)).mp hst9) (by omega) d_M_order_117 (fun H locs hw hS => ?_)
              have hw := mW_setRow (t := 5) (j := 8) (by decide) (by decide) (rfl) hw
              refine lv_aload_n hx hb d_M_order_118 rfl (lv_at hl 1 rfl) ?_
              refine nw_get hx hb hts i_M hown hK hw (64) (mW_64) rfl 15 (by decide) (hts _ kw_674) (fun _ h9 => h9) rfl d_M_order_119 ?_
              refine lv_aload_n hx hb d_M_order_122 rfl (lv_at hl 1 rfl) ?_
              refine nw_get hx hb hts i_M hown hK hw (64) (mW_64) rfl 13 (by decide) (hts _ kw_672) (fun _ h9 => h9) rfl d_M_order_123 ?_
              refine lv_iload_n hx hb d_M_order_126 rfl (lv_at hl 3 rfl) ?_
              refine nw_iast hx hb hK hw hS (189) 0 (mW_row (t := 5) (j := 9) (by decide) (by decide) (rfl)) rfl (n 4) (rfl) ((nI_ltI (by omega) (by omega)).mp hst9) (by omega) d_M_order_127 (fun H locs hw hS => ?_)
              have hw := mW_setRow (t := 5) (j := 9) (by decide) (by decide) (rfl) hw
              refine lv_aload_n hx hb d_M_order_128 rfl (lv_at hl 1 rfl) ?_
              refine nw_get hx hb hts i_M hown hK hw (64) (mW_64) rfl 16 (by decide) (hts _ kw_675) (fun _ h9 => h9) rfl d_M_order_129 ?_
              refine lv_aload_n hx hb d_M_order_132 rfl (lv_at hl 1 rfl) ?_
              refine nw_get hx hb hts i_M hown hK hw (64) (mW_64) rfl 13 (by decide) (hts _ kw_672) (fun _ h9 => h9) rfl d_M_order_133 ?_
              refine lv_iload_n hx hb d_M_order_136 rfl (lv_at hl 4 rfl) ?_
              refine nw_iast hx hb hK hw hS (190) 0 (mW_row (t := 5) (j := 10) (by decide) (by decide) (rfl)) rfl (n 4) (rfl) ((nI_ltI (by omega) (by omega)).mp hst9) (by omega) d_M_order_137 (fun H locs hw hS => ?_)
              have hw := mW_setRow (t := 5) (j := 10) (by decide) (by decide) (rfl) hw
              refine lv_aload_n hx hb d_M_order_138 rfl (lv_at hl 1 rfl) ?_
              refine nw_get hx hb hts i_M hown hK hw (64) (mW_64) rfl 17 (by decide) (hts _ kw_676) (fun _ h9 => h9) rfl d_M_order_139 ?_
              refine lv_aload_n hx hb d_M_order_142 rfl (lv_at hl 1 rfl) ?_
              refine nw_get hx hb hts i_M hown hK hw (64) (mW_64) rfl 13 (by decide) (hts _ kw_672) (fun _ h9 => h9) rfl d_M_order_143 ?_
              refine lv_iload hx hb d_M_order_146 (lv_at hl 5 rfl) ?_
              refine nw_iast hx hb hK hw hS (191) 0 (mW_row (t := 5) (j := 11) (by decide) (by decide) (rfl)) rfl (n 4) (rfl) ((nI_ltI (by omega) (by omega)).mp hst9) (by omega) d_M_order_148 (fun H locs hw hS => ?_)
              have hw := mW_setRow (t := 5) (j := 11) (by decide) (by decide) (rfl) hw
              refine lv_aload_n hx hb d_M_order_149 rfl (lv_at hl 1 rfl) ?_
              refine nw_get hx hb hts i_M hown hK hw (64) (mW_64) rfl 18 (by decide) (hts _ kw_677) (fun _ h9 => h9) rfl d_M_order_150 ?_
              refine lv_aload_n hx hb d_M_order_153 rfl (lv_at hl 1 rfl) ?_
              refine nw_get hx hb hts i_M hown hK hw (64) (mW_64) rfl 13 (by decide) (hts _ kw_672) (fun _ h9 => h9) rfl d_M_order_154 ?_
              refine lv_iload hx hb d_M_order_157 (lv_at hl 6 rfl) ?_
              refine nw_iast hx hb hK hw hS (192) 0 (mW_row (t := 5) (j := 12) (by decide) (by decide) (rfl)) rfl (n 4) (rfl) ((nI_ltI (by omega) (by omega)).mp hst9) (by omega) d_M_order_159 (fun H locs hw hS => ?_)
              have hw := mW_setRow (t := 5) (j := 12) (by decide) (by decide) (rfl) hw
              refine lv_aload_n hx hb d_M_order_160 rfl (lv_at hl 1 rfl) ?_
              refine lv_dup hx hb d_M_order_161 rfl ?_
              refine nw_get hx hb hts i_M hown hK hw (64) (mW_64) rfl 13 (by decide) (hts _ kw_672) (fun _ h9 => h9) rfl d_M_order_162 ?_
              refine lv_iconst (v := nI 1) hx hb d_M_order_165 (by decide) ?_
              refine lv_iadd hx hb d_M_order_166 ?_
              refine lv_ei (y := nI (n 4 + 1)) (nI_add _ _) ?_
              refine nw_put (v := .int (nI (n 4 + 1))) (ty := .int) hx hb hts i_M t_M tk_M n_M hown hK hw hS (64) (mW_64) rfl 13 (by decide) (hts _ kw_672) (fun _ h9 => h9) rfl (by decide +kernel) (rfl) (rfl) (Nat.le_of_ble_eq_true rfl) d_M_order_167 (fun H locs hw hS => ?_)
              have hw := nw_W.as (wn' := mW ad tC (va_up n 4 (n 4 + 1)) (va_up (va_up J 0 (nI 0)) 3 (nI 0)) bw L bX aY (upR (upR (upR (upR (upR S 5 8 (upd (S 5 8) (n 4) x1)) 5 9 (upd ((upR S 5 8 (upd (S 5 8) (n 4) x1)) 5 9) (n 4) x2)) 5 10 (upd ((upR (upR S 5 8 (upd (S 5 8) (n 4) x1)) 5 9 (upd ((upR S 5 8 (upd (S 5 8) (n 4) x1)) 5 9) (n 4) x2)) 5 10) (n 4) x3)) 5 11 (upd ((upR (upR (upR S 5 8 (upd (S 5 8) (n 4) x1)) 5 9 (upd ((upR S 5 8 (upd (S 5 8) (n 4) x1)) 5 9) (n 4) x2)) 5 10 (upd ((upR (upR S 5 8 (upd (S 5 8) (n 4) x1)) 5 9 (upd ((upR S 5 8 (upd (S 5 8) (n 4) x1)) 5 9) (n 4) x2)) 5 10) (n 4) x3)) 5 11) (n 4) x4)) 5 12 (upd ((upR (upR (upR (upR S 5 8 (upd (S 5 8) (n 4) x1)) 5 9 (upd ((upR S 5 8 (upd (S 5 8) (n 4) x1)) 5 9) (n 4) x2)) 5 10 (upd ((upR (upR S 5 8 (upd (S 5 8) (n 4) x1)) 5 9 (upd ((upR S 5 8 (upd (S 5 8) (n 4) x1)) 5 9) (n 4) x2)) 5 10) (n 4) x3)) 5 11 (upd ((upR (upR (upR S 5 8 (upd (S 5 8) (n 4) x1)) 5 9 (upd ((upR S 5 8 (upd (S 5 8) (n 4) x1)) 5 9) (n 4) x2)) 5 10 (upd ((upR (upR S 5 8 (upd (S 5 8) (n 4) x1)) 5 9 (upd ((upR S 5 8 (upd (S 5 8) (n 4) x1)) 5 9) (n 4) x2)) 5 10) (n 4) x3)) 5 11) (n 4) x4)) 5 12) (n 4) x5))) (mW_setO (n' := (va_up n 4 (n 4 + 1))) (J' := (va_up (va_up J 0 (nI 0)) 3 (nI 0))) (bw' := bw) rfl hw) rfl
              refine lv_aload_n hx hb d_M_order_170 rfl (lv_at hl 1 rfl) ?_
              refine nw_get hx hb hts i_M hown hK hw (64) (mW_64) rfl 13 (by decide) (hts _ kw_672) (fun _ h9 => h9) rfl d_M_order_171 ?_
              refine lv_iconst (v := nI 1) hx hb d_M_order_174 (by decide) ?_
              refine lv_isub hx hb d_M_order_175 ?_
              refine lv_ei (y := nI (n 4)) (by show nI (n 4 + 1) - nI 1 = _; exact pk_sub (by omega)) ?_
              exact nw_iret hQ hx hb hr hlocks hw hS (nw_mo_ok (fun h => h hok9) (fun h => h hst9) (⟨rfl, rfl⟩)) (Nat.le_of_ble_eq_true rfl) (Nat.le_of_ble_eq_true rfl) d_M_order_176
            · skip
              refine lv_iconst (v := nI 0) hx hb d_M_order_101 (by decide) ?_
              exact nw_iret hQ hx hb hr hlocks hw hS (nw_mo_bad (Wb := (fun t => mW ad tC n (va_up J 0 t) bw L bX aY S)) ha9 hs9 (b2_1 c_98)) (Nat.le_of_ble_eq_true rfl) (Nat.le_of_ble_eq_true rfl) d_M_order_102
        · skip
          have h3 : nI 0 ≤ x2 ∧ x2 ≤ x3 := ⟨h2a.1, Int32.not_lt.mp c_42⟩
          refine lv_iload hx hb d_M_order_45 (lv_at hl 4 rfl) ?_
          refine lv_i2l (v := ((x4).toInt64)) hx hb d_M_order_47 rfl ?_
          refine lv_lconst (v := 0) hx hb d_M_order_48 (by decide) ?_
          refine lv_ldc2 (v := 100000000) hx hb hown (hts _ kw_767) d_M_order_49 ?_
          refine nw_callD (nw_goS (n := 3) (As := [.long (((x4).toInt64)), .long (0), .long (100000000)]) (rest := []) hSx hA hKs hw hS (c_M_in l D tC A ad n J bw L bX aY S S scm_rf hN (((x4).toInt64)) (0) (100000000)) kw_770 kw_768 kw_769 kw_8 rfl rfl (by decide +kernel) ⟨Nat.le_of_ble_eq_true rfl, Nat.le_of_ble_eq_true rfl⟩ rfl hl.1 (Nat.le_of_ble_eq_true rfl) d_M_order_52 ⟨Nat.le_of_ble_eq_true rfl, Nat.le_of_ble_eq_true rfl⟩) hS (fun H locs hw hS => ?_)
          refine lv_if_eq (tgt := 75) hx hb d_M_order_55 (by decide) (fun c_55 => ?_) (fun c_55 => ?_)
          · skip
            have hneg : ¬ ((0 ≤ x1 ∧ x1 < nI (n 0)) ∧ (nI 0 ≤ x3 ∧ x3 ≤ nI 20000) ∧ (nI 0 ≤ x2 ∧ x2 ≤ x3) ∧ (nI 0 ≤ x4 ∧ x4 ≤ 100000000) ∧ (nI 0 ≤ x5 ∧ x5 ≤ nI 10000)) := fun h => b2_0 c_55 ((show _ ↔ (nI 0 ≤ x4 ∧ x4 ≤ 100000000) from in_c rfl rfl).mpr (h.2.2.2.1))
            refine lv_iconst (v := nI 0) hx hb d_M_order_75 (by decide) ?_
            refine lv_istore (lv' := [(6, .int (nI 0)), (0, .ref (ad (64))), (1, .int (x1)), (2, .int (x2)), (3, .int (x3)), (4, .int (x4)), (5, .int (x5))]) hx hb d_M_order_76 hl (by decide) rfl (fun ls hl => ?_)
            refine lv_aload_n hx hb d_M_order_78 rfl (lv_at hl 1 rfl) ?_
            refine lv_iload hx hb d_M_order_79 (lv_at hl 0 rfl) ?_
            refine lv_aload_n hx hb d_M_order_81 rfl (lv_at hl 1 rfl) ?_
            refine nw_get hx hb hts i_M hown hK hw (64) (mW_64) rfl 13 (by decide) (hts _ kw_672) (fun _ h9 => h9) rfl d_M_order_82 ?_
            refine lv_bipush (v := nI 6) hx hb d_M_order_85 (by decide) ?_
            refine lv_icmp_ge (tgt := 94) hx hb d_M_order_87 (by decide) (fun c_87 => ?_) (fun c_87 => ?_)
            · skip
              have hbsn : ¬ (nI (n 4) < nI 6) := Int32.not_lt.mpr c_87
              refine lv_iconst (v := nI 0) hx hb d_M_order_94 (by decide) ?_
              have ha9 : nI 0 = 0 ↔ ¬ ((0 ≤ x1 ∧ x1 < nI (n 0)) ∧ (nI 0 ≤ x3 ∧ x3 ≤ nI 20000) ∧ (nI 0 ≤ x2 ∧ x2 ≤ x3) ∧ (nI 0 ≤ x4 ∧ x4 ≤ 100000000) ∧ (nI 0 ≤ x5 ∧ x5 ≤ nI 10000)) := ⟨fun _ => hneg, fun _ => rfl⟩
              have hs9 : nI 0 = 0 ↔ ¬ (nI (n 4) < nI 6) := ⟨fun _ => hbsn, fun _ => rfl⟩
              refine nw_callD (nw_goV (n := 2) (As := [.int (nI 0), .int (nI 0)]) (rest := []) hSx hA hKs hw hS (c_M_refuses l D tC A ad n J bw L bX aY S hN (nI 0) (nI 0)) kw_774 kw_771 kw_773 ks_M_refuses kw_8 rfl rfl (by decide +kernel) ⟨Nat.le_of_ble_eq_true rfl, Nat.le_of_ble_eq_true rfl⟩ (nw_recv hK hw (mW_64) rfl) rfl hl.1 (Nat.le_of_ble_eq_true rfl) d_M_order_95 ⟨Nat.le_of_ble_eq_true rfl, Nat.le_of_ble_eq_true rfl⟩) hS (fun H locs hw hS => ?_)
              refine lv_if_eq (tgt := 103) hx hb d_M_order_98 (by decide) (fun c_98 => ?_) (fun c_98 => ?_)
              · skip
                have hno9 := b2_0 c_98
                have hok9 : (0 ≤ x1 ∧ x1 < nI (n 0)) ∧ (nI 0 ≤ x3 ∧ x3 ≤ nI 20000) ∧ (nI 0 ≤ x2 ∧ x2 ≤ x3) ∧ (nI 0 ≤ x4 ∧ x4 ≤ 100000000) ∧ (nI 0 ≤ x5 ∧ x5 ≤ nI 10000) := Classical.not_not.mp (fun h => hno9 (Or.inl (ha9.mpr h)))
                have hst9 : nI (n 4) < nI 6 := Classical.not_not.mp (fun h => hno9 (Or.inr (hs9.mpr h)))
                have hw := nw_W.as (wn' := mW ad tC n (va_up J 0 (nI 0)) bw L bX aY S) hw (by rw [rfI_ok hno9])
                refine lv_aload_n hx hb d_M_order_103 rfl (lv_at hl 1 rfl) ?_
                refine lv_iconst (v := nI 0) hx hb d_M_order_104 (by decide) ?_
                refine nw_put (v := .int (nI 0)) (ty := .boolean) hx hb hts i_M t_M tk_M n_M hown hK hw hS (64) (mW_64) rfl 21 (by decide) (hts _ kw_680) (fun _ h9 => h9) rfl (by decide +kernel) (rfl) (rfl) (Nat.le_of_ble_eq_true rfl) d_M_order_105 (fun H locs hw hS => ?_)
                have hw := nw_W.as (wn' := mW ad tC n (va_up (va_up J 0 (nI 0)) 3 (nI 0)) bw L bX aY S) (mW_setO (n' := n) (J' := (va_up (va_up J 0 (nI 0)) 3 (nI 0))) (bw' := bw) rfl hw) rfl
                refine lv_aload_n hx hb d_M_order_108 rfl (lv_at hl 1 rfl) ?_
                refine nw_get hx hb hts i_M hown hK hw (64) (mW_64) rfl 14 (by decide) (hts _ kw_673) (fun _ h9 => h9) rfl d_M_order_109 ?_
                refine lv_aload_n hx hb d_M_order_112 rfl (lv_at hl 1 rfl) ?_
                refine nw_get hx hb hts i_M hown hK hw (64) (mW_64) rfl 13 (by decide) (hts _ kw_672) (fun _ h9 => h9) rfl d_M_order_113 ?_
                refine lv_iload_n hx hb d_M_order_116 rfl (lv_at hl 2 rfl) ?_
                refine nw_iast hx hb hK hw hS (188) 0 (mW_row (t := 5) (j := 8) (by decide) (by decide) (rfl)) rfl (n 4) (rfl) ((nI_ltI (by omega) (by omega)).mp hst9) (by omega) d_M_order_117 (fun H locs hw hS => ?_)
                have hw := mW_setRow (t := 5) (j := 8) (by decide) (by decide) (rfl) hw
                refine lv_aload_n hx hb d_M_order_118 rfl (lv_at hl 1 rfl) ?_
                refine nw_get hx hb hts i_M hown hK hw (64) (mW_64) rfl 15 (by decide) (hts _ kw_674) (fun _ h9 => h9) rfl d_M_order_119 ?_
                refine lv_aload_n hx hb d_M_order_122 rfl (lv_at hl 1 rfl) ?_
                refine nw_get hx hb hts i_M hown hK hw (64) (mW_64) rfl 13 (by decide) (hts _ kw_672) (fun _ h9 => h9) rfl d_M_order_123 ?_
                refine lv_iload_n hx hb d_M_order_126 rfl (lv_at hl 3 rfl) ?_
                refine nw_iast hx hb hK hw hS (189) 0 (mW_row (t := 5) (j := 9) (by decide) (by decide) (rfl)) rfl (n 4) (rfl) ((nI_ltI (by omega) (by omega)).mp hst9) (by omega) d_M_order_127 (fun H locs hw hS => ?_)
                have hw := mW_setRow (t := 5) (j := 9) (by decide) (by decide) (rfl) hw
                refine lv_aload_n hx hb d_M_order_128 rfl (lv_at hl 1 rfl) ?_
                refine nw_get hx hb hts i_M hown hK hw (64) (mW_64) rfl 16 (by decide) (hts _ kw_675) (fun _ h9 => h9) rfl d_M_order_129 ?_
                refine lv_aload_n hx hb d_M_order_132 rfl (lv_at hl 1 rfl) ?_
                refine nw_get hx hb hts i_M hown hK hw (64) (mW_64) rfl 13 (by decide) (hts _ kw_672) (fun _ h9 => h9) rfl d_M_order_133 ?_
                refine lv_iload_n hx hb d_M_order_136 rfl (lv_at hl 4 rfl) ?_
                refine nw_iast hx hb hK hw hS (190) 0 (mW_row (t := 5) (j := 10) (by decide) (by decide) (rfl)) rfl (n 4) (rfl) ((nI_ltI (by omega) (by omega)).mp hst9) (by omega) d_M_order_137 (fun H locs hw hS => ?_)
                have hw := mW_setRow (t := 5) (j := 10) (by decide) (by decide) (rfl) hw
                refine lv_aload_n hx hb d_M_order_138 rfl (lv_at hl 1 rfl) ?_
                refine nw_get hx hb hts i_M hown hK hw (64) (mW_64) rfl 17 (by decide) (hts _ kw_676) (fun _ h9 => h9) rfl d_M_order_139 ?_
                refine lv_aload_n hx hb d_M_order_142 rfl (lv_at hl 1 rfl) ?_
                refine nw_get hx hb hts i_M hown hK hw (64) (mW_64) rfl 13 (by decide) (hts _ kw_672) (fun _ h9 => h9) rfl d_M_order_143 ?_
                refine lv_iload hx hb d_M_order_146 (lv_at hl 5 rfl) ?_
                refine nw_iast hx hb hK hw hS (191) 0 (mW_row (t := 5) (j := 11) (by decide) (by decide) (rfl)) rfl (n 4) (rfl) ((nI_ltI (by omega) (by omega)).mp hst9) (by omega) d_M_order_148 (fun H locs hw hS => ?_)
                have hw := mW_setRow (t := 5) (j := 11) (by decide) (by decide) (rfl) hw
                refine lv_aload_n hx hb d_M_order_149 rfl (lv_at hl 1 rfl) ?_
                refine nw_get hx hb hts i_M hown hK hw (64) (mW_64) rfl 18 (by decide) (hts _ kw_677) (fun _ h9 => h9) rfl d_M_order_150 ?_
                refine lv_aload_n hx hb d_M_order_153 rfl (lv_at hl 1 rfl) ?_
                refine nw_get hx hb hts i_M hown hK hw (64) (mW_64) rfl 13 (by decide) (hts _ kw_672) (fun _ h9 => h9) rfl d_M_order_154 ?_
                refine lv_iload hx hb d_M_order_157 (lv_at hl 6 rfl) ?_
                refine nw_iast hx hb hK hw hS (192) 0 (mW_row (t := 5) (j := 12) (by decide) (by decide) (rfl)) rfl (n 4) (rfl) ((nI_ltI (by omega) (by omega)).mp hst9) (by omega) d_M_order_159 (fun H locs hw hS => ?_)
                have hw := mW_setRow (t := 5) (j := 12) (by decide) (by decide) (rfl) hw
                refine lv_aload_n hx hb d_M_order_160 rfl (lv_at hl 1 rfl) ?_
                refine lv_dup hx hb d_M_order_161 rfl ?_
                refine nw_get hx hb hts i_M hown hK hw (64) (mW_64) rfl 13 (by decide) (hts _ kw_672) (fun _ h9 => h9) rfl d_M_order_162 ?_
                refine lv_iconst (v := nI 1) hx hb d_M_order_165 (by decide) ?_
                refine lv_iadd hx hb d_M_order_166 ?_
                refine lv_ei (y := nI (n 4 + 1)) (nI_add _ _) ?_
                refine nw_put (v := .int (nI (n 4 + 1))) (ty := .int) hx hb hts i_M t_M tk_M n_M hown hK hw hS (64) (mW_64) rfl 13 (by decide) (hts _ kw_672) (fun _ h9 => h9) rfl (by decide +kernel) (rfl) (rfl) (Nat.le_of_ble_eq_true rfl) d_M_order_167 (fun H locs hw hS => ?_)
                have hw := nw_W.as (wn' := mW ad tC (va_up n 4 (n 4 + 1)) (va_up (va_up J 0 (nI 0)) 3 (nI 0)) bw L bX aY (upR (upR (upR (upR (upR S 5 8 (upd (S 5 8) (n 4) x1)) 5 9 (upd ((upR S 5 8 (upd (S 5 8) (n 4) x1)) 5 9) (n 4) x2)) 5 10 (upd ((upR (upR S 5 8 (upd (S 5 8) (n 4) x1)) 5 9 (upd ((upR S 5 8 (upd (S 5 8) (n 4) x1)) 5 9) (n 4) x2)) 5 10) (n 4) x3)) 5 11 (upd ((upR (upR (upR S 5 8 (upd (S 5 8) (n 4) x1)) 5 9 (upd ((upR S 5 8 (upd (S 5 8) (n 4) x1)) 5 9) (n 4) x2)) 5 10 (upd ((upR (upR S 5 8 (upd (S 5 8) (n 4) x1)) 5 9 (upd ((upR S 5 8 (upd (S 5 8) (n 4) x1)) 5 9) (n 4) x2)) 5 10) (n 4) x3)) 5 11) (n 4) x4)) 5 12 (upd ((upR (upR (upR (upR S 5 8 (upd (S 5 8) (n 4) x1)) 5 9 (upd ((upR S 5 8 (upd (S 5 8) (n 4) x1)) 5 9) (n 4) x2)) 5 10 (upd ((upR (upR S 5 8 (upd (S 5 8) (n 4) x1)) 5 9 (upd ((upR S 5 8 (upd (S 5 8) (n 4) x1)) 5 9) (n 4) x2)) 5 10) (n 4) x3)) 5 11 (upd ((upR (upR (upR S 5 8 (upd (S 5 8) (n 4) x1)) 5 9 (upd ((upR S 5 8 (upd (S 5 8) (n 4) x1)) 5 9) (n 4) x2)) 5 10 (upd ((upR (upR S 5 8 (upd (S 5 8) (n 4) x1)) 5 9 (upd ((upR S 5 8 (upd (S 5 8) (n 4) x1)) 5 9) (n 4) x2)) 5 10) (n 4) x3)) 5 11) (n 4) x4)) 5 12) (n 4) x5))) (mW_setO (n' := (va_up n 4 (n 4 + 1))) (J' := (va_up (va_up J 0 (nI 0)) 3 (nI 0))) (bw' := bw) rfl hw) rfl
                refine lv_aload_n hx hb d_M_order_170 rfl (lv_at hl 1 rfl) ?_
                refine nw_get hx hb hts i_M hown hK hw (64) (mW_64) rfl 13 (by decide) (hts _ kw_672) (fun _ h9 => h9) rfl d_M_order_171 ?_
                refine lv_iconst (v := nI 1) hx hb d_M_order_174 (by decide) ?_
                refine lv_isub hx hb d_M_order_175 ?_
                refine lv_ei (y := nI (n 4)) (by show nI (n 4 + 1) - nI 1 = _; exact pk_sub (by omega)) ?_
                exact nw_iret hQ hx hb hr hlocks hw hS (nw_mo_ok (fun h => h hok9) (fun h => h hst9) (⟨rfl, rfl⟩)) (Nat.le_of_ble_eq_true rfl) (Nat.le_of_ble_eq_true rfl) d_M_order_176
              · skip
                refine lv_iconst (v := nI 0) hx hb d_M_order_101 (by decide) ?_
                exact nw_iret hQ hx hb hr hlocks hw hS (nw_mo_bad (Wb := (fun t => mW ad tC n (va_up J 0 t) bw L bX aY S)) ha9 hs9 (b2_1 c_98)) (Nat.le_of_ble_eq_true rfl) (Nat.le_of_ble_eq_true rfl) d_M_order_102
            · skip
              have hbs : nI (n 4) < nI 6 := Int32.not_le.mp c_87
              refine lv_iconst (v := nI 1) hx hb d_M_order_90 (by decide) ?_
              refine lv_goto (tgt := 95) hx hb d_M_order_91 (by decide) ?_
              have ha9 : nI 0 = 0 ↔ ¬ ((0 ≤ x1 ∧ x1 < nI (n 0)) ∧ (nI 0 ≤ x3 ∧ x3 ≤ nI 20000) ∧ (nI 0 ≤ x2 ∧ x2 ≤ x3) ∧ (nI 0 ≤ x4 ∧ x4 ≤ 100000000) ∧ (nI 0 ≤ x5 ∧ x5 ≤ nI 10000)) := ⟨fun _ => hneg, fun _ => rfl⟩
              have hs9 : nI 1 = 0 ↔ ¬ (nI (n 4) < nI 6) := ⟨fun h => absurd h (by decide), fun h => absurd hbs h⟩
              refine nw_callD (nw_goV (n := 2) (As := [.int (nI 0), .int (nI 1)]) (rest := []) hSx hA hKs hw hS (c_M_refuses l D tC A ad n J bw L bX aY S hN (nI 0) (nI 1)) kw_774 kw_771 kw_773 ks_M_refuses kw_8 rfl rfl (by decide +kernel) ⟨Nat.le_of_ble_eq_true rfl, Nat.le_of_ble_eq_true rfl⟩ (nw_recv hK hw (mW_64) rfl) rfl hl.1 (Nat.le_of_ble_eq_true rfl) d_M_order_95 ⟨Nat.le_of_ble_eq_true rfl, Nat.le_of_ble_eq_true rfl⟩) hS (fun H locs hw hS => ?_)
              refine lv_if_eq (tgt := 103) hx hb d_M_order_98 (by decide) (fun c_98 => ?_) (fun c_98 => ?_)
              · skip
                have hno9 := b2_0 c_98
                have hok9 : (0 ≤ x1 ∧ x1 < nI (n 0)) ∧ (nI 0 ≤ x3 ∧ x3 ≤ nI 20000) ∧ (nI 0 ≤ x2 ∧ x2 ≤ x3) ∧ (nI 0 ≤ x4 ∧ x4 ≤ 100000000) ∧ (nI 0 ≤ x5 ∧ x5 ≤ nI 10000) := Classical.not_not.mp (fun h => hno9 (Or.inl (ha9.mpr h)))
                have hst9 : nI (n 4) < nI 6 := Classical.not_not.mp (fun h => hno9 (Or.inr (hs9.mpr h)))
                have hw := nw_W.as (wn' := mW ad tC n (va_up J 0 (nI 0)) bw L bX aY S) hw (by rw [rfI_ok hno9])
                refine lv_aload_n hx hb d_M_order_103 rfl (lv_at hl 1 rfl) ?_
                refine lv_iconst (v := nI 0) hx hb d_M_order_104 (by decide) ?_
                refine nw_put (v := .int (nI 0)) (ty := .boolean) hx hb hts i_M t_M tk_M n_M hown hK hw hS (64) (mW_64) rfl 21 (by decide) (hts _ kw_680) (fun _ h9 => h9) rfl (by decide +kernel) (rfl) (rfl) (Nat.le_of_ble_eq_true rfl) d_M_order_105 (fun H locs hw hS => ?_)
                have hw := nw_W.as (wn' := mW ad tC n (va_up (va_up J 0 (nI 0)) 3 (nI 0)) bw L bX aY S) (mW_setO (n' := n) (J' := (va_up (va_up J 0 (nI 0)) 3 (nI 0))) (bw' := bw) rfl hw) rfl
                refine lv_aload_n hx hb d_M_order_108 rfl (lv_at hl 1 rfl) ?_
                refine nw_get hx hb hts i_M hown hK hw (64) (mW_64) rfl 14 (by decide) (hts _ kw_673) (fun _ h9 => h9) rfl d_M_order_109 ?_
                refine lv_aload_n hx hb d_M_order_112 rfl (lv_at hl 1 rfl) ?_
                refine nw_get hx hb hts i_M hown hK hw (64) (mW_64) rfl 13 (by decide) (hts _ kw_672) (fun _ h9 => h9) rfl d_M_order_113 ?_
                refine lv_iload_n hx hb d_M_order_116 rfl (lv_at hl 2 rfl) ?_
                refine nw_iast hx hb hK hw hS (188) 0 (mW_row (t := 5) (j := 8) (by decide) (by decide) (rfl)) rfl (n 4) (rfl) ((nI_ltI (by omega) (by omega)).mp hst9) (by omega) d_M_order_117 (fun H locs hw hS => ?_)
                have hw := mW_setRow (t := 5) (j := 8) (by decide) (by decide) (rfl) hw
                refine lv_aload_n hx hb d_M_order_118 rfl (lv_at hl 1 rfl) ?_
                refine nw_get hx hb hts i_M hown hK hw (64) (mW_64) rfl 15 (by decide) (hts _ kw_674) (fun _ h9 => h9) rfl d_M_order_119 ?_
                refine lv_aload_n hx hb d_M_order_122 rfl (lv_at hl 1 rfl) ?_
                refine nw_get hx hb hts i_M hown hK hw (64) (mW_64) rfl 13 (by decide) (hts _ kw_672) (fun _ h9 => h9) rfl d_M_order_123 ?_
                refine lv_iload_n hx hb d_M_order_126 rfl (lv_at hl 3 rfl) ?_
                refine nw_iast hx hb hK hw hS (189) 0 (mW_row (t := 5) (j := 9) (by decide) (by decide) (rfl)) rfl (n 4) (rfl) ((nI_ltI (by omega) (by omega)).mp hst9) (by omega) d_M_order_127 (fun H locs hw hS => ?_)
                have hw := mW_setRow (t := 5) (j := 9) (by decide) (by decide) (rfl) hw
                refine lv_aload_n hx hb d_M_order_128 rfl (lv_at hl 1 rfl) ?_
                refine nw_get hx hb hts i_M hown hK hw (64) (mW_64) rfl 16 (by decide) (hts _ kw_675) (fun _ h9 => h9) rfl d_M_order_129 ?_
                refine lv_aload_n hx hb d_M_order_132 rfl (lv_at hl 1 rfl) ?_
                refine nw_get hx hb hts i_M hown hK hw (64) (mW_64) rfl 13 (by decide) (hts _ kw_672) (fun _ h9 => h9) rfl d_M_order_133 ?_
                refine lv_iload_n hx hb d_M_order_136 rfl (lv_at hl 4 rfl) ?_
                refine nw_iast hx hb hK hw hS (190) 0 (mW_row (t := 5) (j := 10) (by decide) (by decide) (rfl)) rfl (n 4) (rfl) ((nI_ltI (by omega) (by omega)).mp hst9) (by omega) d_M_order_137 (fun H locs hw hS => ?_)
                have hw := mW_setRow (t := 5) (j := 10) (by decide) (by decide) (rfl) hw
                refine lv_aload_n hx hb d_M_order_138 rfl (lv_at hl 1 rfl) ?_
                refine nw_get hx hb hts i_M hown hK hw (64) (mW_64) rfl 17 (by decide) (hts _ kw_676) (fun _ h9 => h9) rfl d_M_order_139 ?_
                refine lv_aload_n hx hb d_M_order_142 rfl (lv_at hl 1 rfl) ?_
                refine nw_get hx hb hts i_M hown hK hw (64) (mW_64) rfl 13 (by decide) (hts _ kw_672) (fun _ h9 => h9) rfl d_M_order_143 ?_
                refine lv_iload hx hb d_M_order_146 (lv_at hl 5 rfl) ?_
                refine nw_iast hx hb hK hw hS (191) 0 (mW_row (t := 5) (j := 11) (by decide) (by decide) (rfl)) rfl (n 4) (rfl) ((nI_ltI (by omega) (by omega)).mp hst9) (by omega) d_M_order_148 (fun H locs hw hS => ?_)
                have hw := mW_setRow (t := 5) (j := 11) (by decide) (by decide) (rfl) hw
                refine lv_aload_n hx hb d_M_order_149 rfl (lv_at hl 1 rfl) ?_
                refine nw_get hx hb hts i_M hown hK hw (64) (mW_64) rfl 18 (by decide) (hts _ kw_677) (fun _ h9 => h9) rfl d_M_order_150 ?_
                refine lv_aload_n hx hb d_M_order_153 rfl (lv_at hl 1 rfl) ?_
                refine nw_get hx hb hts i_M hown hK hw (64) (mW_64) rfl 13 (by decide) (hts _ kw_672) (fun _ h9 => h9) rfl d_M_order_154 ?_
                refine lv_iload hx hb d_M_order_157 (lv_at hl 6 rfl) ?_
                refine nw_iast hx hb hK hw hS (192) 0 (mW_row (t := 5) (j := 12) (by decide) (by decide) (rfl)) rfl (n 4) (rfl) ((nI_ltI (by omega) (by omega)).mp hst9) (by omega) d_M_order_159 (fun H locs hw hS => ?_)
                have hw := mW_setRow (t := 5) (j := 12) (by decide) (by decide) (rfl) hw
                refine lv_aload_n hx hb d_M_order_160 rfl (lv_at hl 1 rfl) ?_
                refine lv_dup hx hb d_M_order_161 rfl ?_
                refine nw_get hx hb hts i_M hown hK hw (64) (mW_64) rfl 13 (by decide) (hts _ kw_672) (fun _ h9 => h9) rfl d_M_order_162 ?_
                refine lv_iconst (v := nI 1) hx hb d_M_order_165 (by decide) ?_
                refine lv_iadd hx hb d_M_order_166 ?_
                refine lv_ei (y := nI (n 4 + 1)) (nI_add _ _) ?_
                refine nw_put (v := .int (nI (n 4 + 1))) (ty := .int) hx hb hts i_M t_M tk_M n_M hown hK hw hS (64) (mW_64) rfl 13 (by decide) (hts _ kw_672) (fun _ h9 => h9) rfl (by decide +kernel) (rfl) (rfl) (Nat.le_of_ble_eq_true rfl) d_M_order_167 (fun H locs hw hS => ?_)
                have hw := nw_W.as (wn' := mW ad tC (va_up n 4 (n 4 + 1)) (va_up (va_up J 0 (nI 0)) 3 (nI 0)) bw L bX aY (upR (upR (upR (upR (upR S 5 8 (upd (S 5 8) (n 4) x1)) 5 9 (upd ((upR S 5 8 (upd (S 5 8) (n 4) x1)) 5 9) (n 4) x2)) 5 10 (upd ((upR (upR S 5 8 (upd (S 5 8) (n 4) x1)) 5 9 (upd ((upR S 5 8 (upd (S 5 8) (n 4) x1)) 5 9) (n 4) x2)) 5 10) (n 4) x3)) 5 11 (upd ((upR (upR (upR S 5 8 (upd (S 5 8) (n 4) x1)) 5 9 (upd ((upR S 5 8 (upd (S 5 8) (n 4) x1)) 5 9) (n 4) x2)) 5 10 (upd ((upR (upR S 5 8 (upd (S 5 8) (n 4) x1)) 5 9 (upd ((upR S 5 8 (upd (S 5 8) (n 4) x1)) 5 9) (n 4) x2)) 5 10) (n 4) x3)) 5 11) (n 4) x4)) 5 12 (upd ((upR (upR (upR (upR S 5 8 (upd (S 5 8) (n 4) x1)) 5 9 (upd ((upR S 5 8 (upd (S 5 8) (n 4) x1)) 5 9) (n 4) x2)) 5 10 (upd ((upR (upR S 5 8 (upd (S 5 8) (n 4) x1)) 5 9 (upd ((upR S 5 8 (upd (S 5 8) (n 4) x1)) 5 9) (n 4) x2)) 5 10) (n 4) x3)) 5 11 (upd ((upR (upR (upR S 5 8 (upd (S 5 8) (n 4) x1)) 5 9 (upd ((upR S 5 8 (upd (S 5 8) (n 4) x1)) 5 9) (n 4) x2)) 5 10 (upd ((upR (upR S 5 8 (upd (S 5 8) (n 4) x1)) 5 9 (upd ((upR S 5 8 (upd (S 5 8) (n 4) x1)) 5 9) (n 4) x2)) 5 10) (n 4) x3)) 5 11) (n 4) x4)) 5 12) (n 4) x5))) (mW_setO (n' := (va_up n 4 (n 4 + 1))) (J' := (va_up (va_up J 0 (nI 0)) 3 (nI 0))) (bw' := bw) rfl hw) rfl
                refine lv_aload_n hx hb d_M_order_170 rfl (lv_at hl 1 rfl) ?_
                refine nw_get hx hb hts i_M hown hK hw (64) (mW_64) rfl 13 (by decide) (hts _ kw_672) (fun _ h9 => h9) rfl d_M_order_171 ?_
                refine lv_iconst (v := nI 1) hx hb d_M_order_174 (by decide) ?_
                refine lv_isub hx hb d_M_order_175 ?_
                refine lv_ei (y := nI (n 4)) (by show nI (n 4 + 1) - nI 1 = _; exact pk_sub (by omega)) ?_
                exact nw_iret hQ hx hb hr hlocks hw hS (nw_mo_ok (fun h => h hok9) (fun h => h hst9) (⟨rfl, rfl⟩)) (Nat.le_of_ble_eq_true rfl) (Nat.le_of_ble_eq_true rfl) d_M_order_176
              · skip
                refine lv_iconst (v := nI 0) hx hb d_M_order_101 (by decide) ?_
                exact nw_iret hQ hx hb hr hlocks hw hS (nw_mo_bad (Wb := (fun t => mW ad tC n (va_up J 0 t) bw L bX aY S)) ha9 hs9 (b2_1 c_98)) (Nat.le_of_ble_eq_true rfl) (Nat.le_of_ble_eq_true rfl) d_M_order_102
          · skip
            have h4 : nI 0 ≤ x4 ∧ x4 ≤ 100000000 := (show _ ↔ (nI 0 ≤ x4 ∧ x4 ≤ 100000000) from in_c rfl rfl).mp (b2_1 c_55)
            refine lv_iload hx hb d_M_order_58 (lv_at hl 5 rfl) ?_
            refine lv_i2l (v := ((x5).toInt64)) hx hb d_M_order_60 rfl ?_
            refine lv_lconst (v := 0) hx hb d_M_order_61 (by decide) ?_
            refine lv_ldc2 (v := 10000) hx hb hown (hts _ kw_810) d_M_order_62 ?_
            refine nw_callD (nw_goS (n := 3) (As := [.long (((x5).toInt64)), .long (0), .long (10000)]) (rest := []) hSx hA hKs hw hS (c_M_in l D tC A ad n J bw L bX aY S S scm_rf hN (((x5).toInt64)) (0) (10000)) kw_770 kw_768 kw_769 kw_8 rfl rfl (by decide +kernel) ⟨Nat.le_of_ble_eq_true rfl, Nat.le_of_ble_eq_true rfl⟩ rfl hl.1 (Nat.le_of_ble_eq_true rfl) d_M_order_65 ⟨Nat.le_of_ble_eq_true rfl, Nat.le_of_ble_eq_true rfl⟩) hS (fun H locs hw hS => ?_)
            refine lv_if_eq (tgt := 75) hx hb d_M_order_68 (by decide) (fun c_68 => ?_) (fun c_68 => ?_)
            · skip
              have hneg : ¬ ((0 ≤ x1 ∧ x1 < nI (n 0)) ∧ (nI 0 ≤ x3 ∧ x3 ≤ nI 20000) ∧ (nI 0 ≤ x2 ∧ x2 ≤ x3) ∧ (nI 0 ≤ x4 ∧ x4 ≤ 100000000) ∧ (nI 0 ≤ x5 ∧ x5 ≤ nI 10000)) := fun h => b2_0 c_68 ((show _ ↔ (nI 0 ≤ x5 ∧ x5 ≤ nI 10000) from in_c rfl rfl).mpr (h.2.2.2.2))
              refine lv_iconst (v := nI 0) hx hb d_M_order_75 (by decide) ?_
              refine lv_istore (lv' := [(6, .int (nI 0)), (0, .ref (ad (64))), (1, .int (x1)), (2, .int (x2)), (3, .int (x3)), (4, .int (x4)), (5, .int (x5))]) hx hb d_M_order_76 hl (by decide) rfl (fun ls hl => ?_)
              refine lv_aload_n hx hb d_M_order_78 rfl (lv_at hl 1 rfl) ?_
              refine lv_iload hx hb d_M_order_79 (lv_at hl 0 rfl) ?_
              refine lv_aload_n hx hb d_M_order_81 rfl (lv_at hl 1 rfl) ?_
              refine nw_get hx hb hts i_M hown hK hw (64) (mW_64) rfl 13 (by decide) (hts _ kw_672) (fun _ h9 => h9) rfl d_M_order_82 ?_
              refine lv_bipush (v := nI 6) hx hb d_M_order_85 (by decide) ?_
              refine lv_icmp_ge (tgt := 94) hx hb d_M_order_87 (by decide) (fun c_87 => ?_) (fun c_87 => ?_)
              · skip
                have hbsn : ¬ (nI (n 4) < nI 6) := Int32.not_lt.mpr c_87
                refine lv_iconst (v := nI 0) hx hb d_M_order_94 (by decide) ?_
                have ha9 : nI 0 = 0 ↔ ¬ ((0 ≤ x1 ∧ x1 < nI (n 0)) ∧ (nI 0 ≤ x3 ∧ x3 ≤ nI 20000) ∧ (nI 0 ≤ x2 ∧ x2 ≤ x3) ∧ (nI 0 ≤ x4 ∧ x4 ≤ 100000000) ∧ (nI 0 ≤ x5 ∧ x5 ≤ nI 10000)) := ⟨fun _ => hneg, fun _ => rfl⟩
                have hs9 : nI 0 = 0 ↔ ¬ (nI (n 4) < nI 6) := ⟨fun _ => hbsn, fun _ => rfl⟩
                refine nw_callD (nw_goV (n := 2) (As := [.int (nI 0), .int (nI 0)]) (rest := []) hSx hA hKs hw hS (c_M_refuses l D tC A ad n J bw L bX aY S hN (nI 0) (nI 0)) kw_774 kw_771 kw_773 ks_M_refuses kw_8 rfl rfl (by decide +kernel) ⟨Nat.le_of_ble_eq_true rfl, Nat.le_of_ble_eq_true rfl⟩ (nw_recv hK hw (mW_64) rfl) rfl hl.1 (Nat.le_of_ble_eq_true rfl) d_M_order_95 ⟨Nat.le_of_ble_eq_true rfl, Nat.le_of_ble_eq_true rfl⟩) hS (fun H locs hw hS => ?_)
                refine lv_if_eq (tgt := 103) hx hb d_M_order_98 (by decide) (fun c_98 => ?_) (fun c_98 => ?_)
                · skip
                  have hno9 := b2_0 c_98
                  have hok9 : (0 ≤ x1 ∧ x1 < nI (n 0)) ∧ (nI 0 ≤ x3 ∧ x3 ≤ nI 20000) ∧ (nI 0 ≤ x2 ∧ x2 ≤ x3) ∧ (nI 0 ≤ x4 ∧ x4 ≤ 100000000) ∧ (nI 0 ≤ x5 ∧ x5 ≤ nI 10000) := Classical.not_not.mp (fun h => hno9 (Or.inl (ha9.mpr h)))
                  have hst9 : nI (n 4) < nI 6 := Classical.not_not.mp (fun h => hno9 (Or.inr (hs9.mpr h)))
                  have hw := nw_W.as (wn' := mW ad tC n (va_up J 0 (nI 0)) bw L bX aY S) hw (by rw [rfI_ok hno9])
                  refine lv_aload_n hx hb d_M_order_103 rfl (lv_at hl 1 rfl) ?_
                  refine lv_iconst (v := nI 0) hx hb d_M_order_104 (by decide) ?_
                  refine nw_put (v := .int (nI 0)) (ty := .boolean) hx hb hts i_M t_M tk_M n_M hown hK hw hS (64) (mW_64) rfl 21 (by decide) (hts _ kw_680) (fun _ h9 => h9) rfl (by decide +kernel) (rfl) (rfl) (Nat.le_of_ble_eq_true rfl) d_M_order_105 (fun H locs hw hS => ?_)
                  have hw := nw_W.as (wn' := mW ad tC n (va_up (va_up J 0 (nI 0)) 3 (nI 0)) bw L bX aY S) (mW_setO (n' := n) (J' := (va_up (va_up J 0 (nI 0)) 3 (nI 0))) (bw' := bw) rfl hw) rfl
                  refine lv_aload_n hx hb d_M_order_108 rfl (lv_at hl 1 rfl) ?_
                  refine nw_get hx hb hts i_M hown hK hw (64) (mW_64) rfl 14 (by decide) (hts _ kw_673) (fun _ h9 => h9) rfl d_M_order_109 ?_
                  refine lv_aload_n hx hb d_M_order_112 rfl (lv_at hl 1 rfl) ?_
                  refine nw_get hx hb hts i_M hown hK hw (64) (mW_64) rfl 13 (by decide) (hts _ kw_672) (fun _ h9 => h9) rfl d_M_order_113 ?_
                  refine lv_iload_n hx hb d_M_order_116 rfl (lv_at hl 2 rfl) ?_
                  refine nw_iast hx hb hK hw hS (188) 0 (mW_row (t := 5) (j := 8) (by decide) (by decide) (rfl)) rfl (n 4) (rfl) ((nI_ltI (by omega) (by omega)).mp hst9) (by omega) d_M_order_117 (fun H locs hw hS => ?_)
                  have hw := mW_setRow (t := 5) (j := 8) (by decide) (by decide) (rfl) hw
                  refine lv_aload_n hx hb d_M_order_118 rfl (lv_at hl 1 rfl) ?_
                  refine nw_get hx hb hts i_M hown hK hw (64) (mW_64) rfl 15 (by decide) (hts _ kw_674) (fun _ h9 => h9) rfl d_M_order_119 ?_
                  refine lv_aload_n hx hb d_M_order_122 rfl (lv_at hl 1 rfl) ?_
                  refine nw_get hx hb hts i_M hown hK hw (64) (mW_64) rfl 13 (by decide) (hts _ kw_672) (fun _ h9 => h9) rfl d_M_order_123 ?_
                  refine lv_iload_n hx hb d_M_order_126 rfl (lv_at hl 3 rfl) ?_
                  refine nw_iast hx hb hK hw hS (189) 0 (mW_row (t := 5) (j := 9) (by decide) (by decide) (rfl)) rfl (n 4) (rfl) ((nI_ltI (by omega) (by omega)).mp hst9) (by omega) d_M_order_127 (fun H locs hw hS => ?_)
                  have hw := mW_setRow (t := 5) (j := 9) (by decide) (by decide) (rfl) hw
                  refine lv_aload_n hx hb d_M_order_128 rfl (lv_at hl 1 rfl) ?_
                  refine nw_get hx hb hts i_M hown hK hw (64) (mW_64) rfl 16 (by decide) (hts _ kw_675) (fun _ h9 => h9) rfl d_M_order_129 ?_
                  refine lv_aload_n hx hb d_M_order_132 rfl (lv_at hl 1 rfl) ?_
                  refine nw_get hx hb hts i_M hown hK hw (64) (mW_64) rfl 13 (by decide) (hts _ kw_672) (fun _ h9 => h9) rfl d_M_order_133 ?_
                  refine lv_iload_n hx hb d_M_order_136 rfl (lv_at hl 4 rfl) ?_
                  refine nw_iast hx hb hK hw hS (190) 0 (mW_row (t := 5) (j := 10) (by decide) (by decide) (rfl)) rfl (n 4) (rfl) ((nI_ltI (by omega) (by omega)).mp hst9) (by omega) d_M_order_137 (fun H locs hw hS => ?_)
                  have hw := mW_setRow (t := 5) (j := 10) (by decide) (by decide) (rfl) hw
                  refine lv_aload_n hx hb d_M_order_138 rfl (lv_at hl 1 rfl) ?_
                  refine nw_get hx hb hts i_M hown hK hw (64) (mW_64) rfl 17 (by decide) (hts _ kw_676) (fun _ h9 => h9) rfl d_M_order_139 ?_
                  refine lv_aload_n hx hb d_M_order_142 rfl (lv_at hl 1 rfl) ?_
                  refine nw_get hx hb hts i_M hown hK hw (64) (mW_64) rfl 13 (by decide) (hts _ kw_672) (fun _ h9 => h9) rfl d_M_order_143 ?_
                  refine lv_iload hx hb d_M_order_146 (lv_at hl 5 rfl) ?_
                  refine nw_iast hx hb hK hw hS (191) 0 (mW_row (t := 5) (j := 11) (by decide) (by decide) (rfl)) rfl (n 4) (rfl) ((nI_ltI (by omega) (by omega)).mp hst9) (by omega) d_M_order_148 (fun H locs hw hS => ?_)
                  have hw := mW_setRow (t := 5) (j := 11) (by decide) (by decide) (rfl) hw
                  refine lv_aload_n hx hb d_M_order_149 rfl (lv_at hl 1 rfl) ?_
                  refine nw_get hx hb hts i_M hown hK hw (64) (mW_64) rfl 18 (by decide) (hts _ kw_677) (fun _ h9 => h9) rfl d_M_order_150 ?_
                  refine lv_aload_n hx hb d_M_order_153 rfl (lv_at hl 1 rfl) ?_
                  refine nw_get hx hb hts i_M hown hK hw (64) (mW_64) rfl 13 (by decide) (hts _ kw_672) (fun _ h9 => h9) rfl d_M_order_154 ?_
                  refine lv_iload hx hb d_M_order_157 (lv_at hl 6 rfl) ?_
                  refine nw_iast hx hb hK hw hS (192) 0 (mW_row (t := 5) (j := 12) (by decide) (by decide) (rfl)) rfl (n 4) (rfl) ((nI_ltI (by omega) (by omega)).mp hst9) (by omega) d_M_order_159 (fun H locs hw hS => ?_)
                  have hw := mW_setRow (t := 5) (j := 12) (by decide) (by decide) (rfl) hw
                  refine lv_aload_n hx hb d_M_order_160 rfl (lv_at hl 1 rfl) ?_
                  refine lv_dup hx hb d_M_order_161 rfl ?_
                  refine nw_get hx hb hts i_M hown hK hw (64) (mW_64) rfl 13 (by decide) (hts _ kw_672) (fun _ h9 => h9) rfl d_M_order_162 ?_
                  refine lv_iconst (v := nI 1) hx hb d_M_order_165 (by decide) ?_
                  refine lv_iadd hx hb d_M_order_166 ?_
                  refine lv_ei (y := nI (n 4 + 1)) (nI_add _ _) ?_
                  refine nw_put (v := .int (nI (n 4 + 1))) (ty := .int) hx hb hts i_M t_M tk_M n_M hown hK hw hS (64) (mW_64) rfl 13 (by decide) (hts _ kw_672) (fun _ h9 => h9) rfl (by decide +kernel) (rfl) (rfl) (Nat.le_of_ble_eq_true rfl) d_M_order_167 (fun H locs hw hS => ?_)
                  have hw := nw_W.as (wn' := mW ad tC (va_up n 4 (n 4 + 1)) (va_up (va_up J 0 (nI 0)) 3 (nI 0)) bw L bX aY (upR (upR (upR (upR (upR S 5 8 (upd (S 5 8) (n 4) x1)) 5 9 (upd ((upR S 5 8 (upd (S 5 8) (n 4) x1)) 5 9) (n 4) x2)) 5 10 (upd ((upR (upR S 5 8 (upd (S 5 8) (n 4) x1)) 5 9 (upd ((upR S 5 8 (upd (S 5 8) (n 4) x1)) 5 9) (n 4) x2)) 5 10) (n 4) x3)) 5 11 (upd ((upR (upR (upR S 5 8 (upd (S 5 8) (n 4) x1)) 5 9 (upd ((upR S 5 8 (upd (S 5 8) (n 4) x1)) 5 9) (n 4) x2)) 5 10 (upd ((upR (upR S 5 8 (upd (S 5 8) (n 4) x1)) 5 9 (upd ((upR S 5 8 (upd (S 5 8) (n 4) x1)) 5 9) (n 4) x2)) 5 10) (n 4) x3)) 5 11) (n 4) x4)) 5 12 (upd ((upR (upR (upR (upR S 5 8 (upd (S 5 8) (n 4) x1)) 5 9 (upd ((upR S 5 8 (upd (S 5 8) (n 4) x1)) 5 9) (n 4) x2)) 5 10 (upd ((upR (upR S 5 8 (upd (S 5 8) (n 4) x1)) 5 9 (upd ((upR S 5 8 (upd (S 5 8) (n 4) x1)) 5 9) (n 4) x2)) 5 10) (n 4) x3)) 5 11 (upd ((upR (upR (upR S 5 8 (upd (S 5 8) (n 4) x1)) 5 9 (upd ((upR S 5 8 (upd (S 5 8) (n 4) x1)) 5 9) (n 4) x2)) 5 10 (upd ((upR (upR S 5 8 (upd (S 5 8) (n 4) x1)) 5 9 (upd ((upR S 5 8 (upd (S 5 8) (n 4) x1)) 5 9) (n 4) x2)) 5 10) (n 4) x3)) 5 11) (n 4) x4)) 5 12) (n 4) x5))) (mW_setO (n' := (va_up n 4 (n 4 + 1))) (J' := (va_up (va_up J 0 (nI 0)) 3 (nI 0))) (bw' := bw) rfl hw) rfl
                  refine lv_aload_n hx hb d_M_order_170 rfl (lv_at hl 1 rfl) ?_
                  refine nw_get hx hb hts i_M hown hK hw (64) (mW_64) rfl 13 (by decide) (hts _ kw_672) (fun _ h9 => h9) rfl d_M_order_171 ?_
                  refine lv_iconst (v := nI 1) hx hb d_M_order_174 (by decide) ?_
                  refine lv_isub hx hb d_M_order_175 ?_
                  refine lv_ei (y := nI (n 4)) (by show nI (n 4 + 1) - nI 1 = _; exact pk_sub (by omega)) ?_
                  exact nw_iret hQ hx hb hr hlocks hw hS (nw_mo_ok (fun h => h hok9) (fun h => h hst9) (⟨rfl, rfl⟩)) (Nat.le_of_ble_eq_true rfl) (Nat.le_of_ble_eq_true rfl) d_M_order_176
                · skip
                  refine lv_iconst (v := nI 0) hx hb d_M_order_101 (by decide) ?_
                  exact nw_iret hQ hx hb hr hlocks hw hS (nw_mo_bad (Wb := (fun t => mW ad tC n (va_up J 0 t) bw L bX aY S)) ha9 hs9 (b2_1 c_98)) (Nat.le_of_ble_eq_true rfl) (Nat.le_of_ble_eq_true rfl) d_M_order_102
              · skip
                have hbs : nI (n 4) < nI 6 := Int32.not_le.mp c_87
                refine lv_iconst (v := nI 1) hx hb d_M_order_90 (by decide) ?_
                refine lv_goto (tgt := 95) hx hb d_M_order_91 (by decide) ?_
                have ha9 : nI 0 = 0 ↔ ¬ ((0 ≤ x1 ∧ x1 < nI (n 0)) ∧ (nI 0 ≤ x3 ∧ x3 ≤ nI 20000) ∧ (nI 0 ≤ x2 ∧ x2 ≤ x3) ∧ (nI 0 ≤ x4 ∧ x4 ≤ 100000000) ∧ (nI 0 ≤ x5 ∧ x5 ≤ nI 10000)) := ⟨fun _ => hneg, fun _ => rfl⟩
                have hs9 : nI 1 = 0 ↔ ¬ (nI (n 4) < nI 6) := ⟨fun h => absurd h (by decide), fun h => absurd hbs h⟩
                refine nw_callD (nw_goV (n := 2) (As := [.int (nI 0), .int (nI 1)]) (rest := []) hSx hA hKs hw hS (c_M_refuses l D tC A ad n J bw L bX aY S hN (nI 0) (nI 1)) kw_774 kw_771 kw_773 ks_M_refuses kw_8 rfl rfl (by decide +kernel) ⟨Nat.le_of_ble_eq_true rfl, Nat.le_of_ble_eq_true rfl⟩ (nw_recv hK hw (mW_64) rfl) rfl hl.1 (Nat.le_of_ble_eq_true rfl) d_M_order_95 ⟨Nat.le_of_ble_eq_true rfl, Nat.le_of_ble_eq_true rfl⟩) hS (fun H locs hw hS => ?_)
                refine lv_if_eq (tgt := 103) hx hb d_M_order_98 (by decide) (fun c_98 => ?_) (fun c_98 => ?_)
                · skip
                  have hno9 := b2_0 c_98
                  have hok9 : (0 ≤ x1 ∧ x1 < nI (n 0)) ∧ (nI 0 ≤ x3 ∧ x3 ≤ nI 20000) ∧ (nI 0 ≤ x2 ∧ x2 ≤ x3) ∧ (nI 0 ≤ x4 ∧ x4 ≤ 100000000) ∧ (nI 0 ≤ x5 ∧ x5 ≤ nI 10000) := Classical.not_not.mp (fun h => hno9 (Or.inl (ha9.mpr h)))
                  have hst9 : nI (n 4) < nI 6 := Classical.not_not.mp (fun h => hno9 (Or.inr (hs9.mpr h)))
                  have hw := nw_W.as (wn' := mW ad tC n (va_up J 0 (nI 0)) bw L bX aY S) hw (by rw [rfI_ok hno9])
                  refine lv_aload_n hx hb d_M_order_103 rfl (lv_at hl 1 rfl) ?_
                  refine lv_iconst (v := nI 0) hx hb d_M_order_104 (by decide) ?_
                  refine nw_put (v := .int (nI 0)) (ty := .boolean) hx hb hts i_M t_M tk_M n_M hown hK hw hS (64) (mW_64) rfl 21 (by decide) (hts _ kw_680) (fun _ h9 => h9) rfl (by decide +kernel) (rfl) (rfl) (Nat.le_of_ble_eq_true rfl) d_M_order_105 (fun H locs hw hS => ?_)
                  have hw := nw_W.as (wn' := mW ad tC n (va_up (va_up J 0 (nI 0)) 3 (nI 0)) bw L bX aY S) (mW_setO (n' := n) (J' := (va_up (va_up J 0 (nI 0)) 3 (nI 0))) (bw' := bw) rfl hw) rfl
                  refine lv_aload_n hx hb d_M_order_108 rfl (lv_at hl 1 rfl) ?_
                  refine nw_get hx hb hts i_M hown hK hw (64) (mW_64) rfl 14 (by decide) (hts _ kw_673) (fun _ h9 => h9) rfl d_M_order_109 ?_
                  refine lv_aload_n hx hb d_M_order_112 rfl (lv_at hl 1 rfl) ?_
                  refine nw_get hx hb hts i_M hown hK hw (64) (mW_64) rfl 13 (by decide) (hts _ kw_672) (fun _ h9 => h9) rfl d_M_order_113 ?_
                  refine lv_iload_n hx hb d_M_order_116 rfl (lv_at hl 2 rfl) ?_
                  refine nw_iast hx hb hK hw hS (188) 0 (mW_row (t := 5) (j := 8) (by decide) (by decide) (rfl)) rfl (n 4) (rfl) ((nI_ltI (by omega) (by omega)).mp hst9) (by omega) d_M_order_117 (fun H locs hw hS => ?_)
                  have hw := mW_setRow (t := 5) (j := 8) (by decide) (by decide) (rfl) hw
                  refine lv_aload_n hx hb d_M_order_118 rfl (lv_at hl 1 rfl) ?_
                  refine nw_get hx hb hts i_M hown hK hw (64) (mW_64) rfl 15 (by decide) (hts _ kw_674) (fun _ h9 => h9) rfl d_M_order_119 ?_
                  refine lv_aload_n hx hb d_M_order_122 rfl (lv_at hl 1 rfl) ?_
                  refine nw_get hx hb hts i_M hown hK hw (64) (mW_64) rfl 13 (by decide) (hts _ kw_672) (fun _ h9 => h9) rfl d_M_order_123 ?_
                  refine lv_iload_n hx hb d_M_order_126 rfl (lv_at hl 3 rfl) ?_
                  refine nw_iast hx hb hK hw hS (189) 0 (mW_row (t := 5) (j := 9) (by decide) (by decide) (rfl)) rfl (n 4) (rfl) ((nI_ltI (by omega) (by omega)).mp hst9) (by omega) d_M_order_127 (fun H locs hw hS => ?_)
                  have hw := mW_setRow (t := 5) (j := 9) (by decide) (by decide) (rfl) hw
                  refine lv_aload_n hx hb d_M_order_128 rfl (lv_at hl 1 rfl) ?_
                  refine nw_get hx hb hts i_M hown hK hw (64) (mW_64) rfl 16 (by decide) (hts _ kw_675) (fun _ h9 => h9) rfl d_M_order_129 ?_
                  refine lv_aload_n hx hb d_M_order_132 rfl (lv_at hl 1 rfl) ?_
                  refine nw_get hx hb hts i_M hown hK hw (64) (mW_64) rfl 13 (by decide) (hts _ kw_672) (fun _ h9 => h9) rfl d_M_order_133 ?_
                  refine lv_iload_n hx hb d_M_order_136 rfl (lv_at hl 4 rfl) ?_
                  refine nw_iast hx hb hK hw hS (190) 0 (mW_row (t := 5) (j := 10) (by decide) (by decide) (rfl)) rfl (n 4) (rfl) ((nI_ltI (by omega) (by omega)).mp hst9) (by omega) d_M_order_137 (fun H locs hw hS => ?_)
                  have hw := mW_setRow (t := 5) (j := 10) (by decide) (by decide) (rfl) hw
                  refine lv_aload_n hx hb d_M_order_138 rfl (lv_at hl 1 rfl) ?_
                  refine nw_get hx hb hts i_M hown hK hw (64) (mW_64) rfl 17 (by decide) (hts _ kw_676) (fun _ h9 => h9) rfl d_M_order_139 ?_
                  refine lv_aload_n hx hb d_M_order_142 rfl (lv_at hl 1 rfl) ?_
                  refine nw_get hx hb hts i_M hown hK hw (64) (mW_64) rfl 13 (by decide) (hts _ kw_672) (fun _ h9 => h9) rfl d_M_order_143 ?_
                  refine lv_iload hx hb d_M_order_146 (lv_at hl 5 rfl) ?_
                  refine nw_iast hx hb hK hw hS (191) 0 (mW_row (t := 5) (j := 11) (by decide) (by decide) (rfl)) rfl (n 4) (rfl) ((nI_ltI (by omega) (by omega)).mp hst9) (by omega) d_M_order_148 (fun H locs hw hS => ?_)
                  have hw := mW_setRow (t := 5) (j := 11) (by decide) (by decide) (rfl) hw
                  refine lv_aload_n hx hb d_M_order_149 rfl (lv_at hl 1 rfl) ?_
                  refine nw_get hx hb hts i_M hown hK hw (64) (mW_64) rfl 18 (by decide) (hts _ kw_677) (fun _ h9 => h9) rfl d_M_order_150 ?_
                  refine lv_aload_n hx hb d_M_order_153 rfl (lv_at hl 1 rfl) ?_
                  refine nw_get hx hb hts i_M hown hK hw (64) (mW_64) rfl 13 (by decide) (hts _ kw_672) (fun _ h9 => h9) rfl d_M_order_154 ?_
                  refine lv_iload hx hb d_M_order_157 (lv_at hl 6 rfl) ?_
                  refine nw_iast hx hb hK hw hS (192) 0 (mW_row (t := 5) (j := 12) (by decide) (by decide) (rfl)) rfl (n 4) (rfl) ((nI_ltI (by omega) (by omega)).mp hst9) (by omega) d_M_order_159 (fun H locs hw hS => ?_)
                  have hw := mW_setRow (t := 5) (j := 12) (by decide) (by decide) (rfl) hw
                  refine lv_aload_n hx hb d_M_order_160 rfl (lv_at hl 1 rfl) ?_
                  refine lv_dup hx hb d_M_order_161 rfl ?_
                  refine nw_get hx hb hts i_M hown hK hw (64) (mW_64) rfl 13 (by decide) (hts _ kw_672) (fun _ h9 => h9) rfl d_M_order_162 ?_
                  refine lv_iconst (v := nI 1) hx hb d_M_order_165 (by decide) ?_
                  refine lv_iadd hx hb d_M_order_166 ?_
                  refine lv_ei (y := nI (n 4 + 1)) (nI_add _ _) ?_
                  refine nw_put (v := .int (nI (n 4 + 1))) (ty := .int) hx hb hts i_M t_M tk_M n_M hown hK hw hS (64) (mW_64) rfl 13 (by decide) (hts _ kw_672) (fun _ h9 => h9) rfl (by decide +kernel) (rfl) (rfl) (Nat.le_of_ble_eq_true rfl) d_M_order_167 (fun H locs hw hS => ?_)
                  have hw := nw_W.as (wn' := mW ad tC (va_up n 4 (n 4 + 1)) (va_up (va_up J 0 (nI 0)) 3 (nI 0)) bw L bX aY (upR (upR (upR (upR (upR S 5 8 (upd (S 5 8) (n 4) x1)) 5 9 (upd ((upR S 5 8 (upd (S 5 8) (n 4) x1)) 5 9) (n 4) x2)) 5 10 (upd ((upR (upR S 5 8 (upd (S 5 8) (n 4) x1)) 5 9 (upd ((upR S 5 8 (upd (S 5 8) (n 4) x1)) 5 9) (n 4) x2)) 5 10) (n 4) x3)) 5 11 (upd ((upR (upR (upR S 5 8 (upd (S 5 8) (n 4) x1)) 5 9 (upd ((upR S 5 8 (upd (S 5 8) (n 4) x1)) 5 9) (n 4) x2)) 5 10 (upd ((upR (upR S 5 8 (upd (S 5 8) (n 4) x1)) 5 9 (upd ((upR S 5 8 (upd (S 5 8) (n 4) x1)) 5 9) (n 4) x2)) 5 10) (n 4) x3)) 5 11) (n 4) x4)) 5 12 (upd ((upR (upR (upR (upR S 5 8 (upd (S 5 8) (n 4) x1)) 5 9 (upd ((upR S 5 8 (upd (S 5 8) (n 4) x1)) 5 9) (n 4) x2)) 5 10 (upd ((upR (upR S 5 8 (upd (S 5 8) (n 4) x1)) 5 9 (upd ((upR S 5 8 (upd (S 5 8) (n 4) x1)) 5 9) (n 4) x2)) 5 10) (n 4) x3)) 5 11 (upd ((upR (upR (upR S 5 8 (upd (S 5 8) (n 4) x1)) 5 9 (upd ((upR S 5 8 (upd (S 5 8) (n 4) x1)) 5 9) (n 4) x2)) 5 10 (upd ((upR (upR S 5 8 (upd (S 5 8) (n 4) x1)) 5 9 (upd ((upR S 5 8 (upd (S 5 8) (n 4) x1)) 5 9) (n 4) x2)) 5 10) (n 4) x3)) 5 11) (n 4) x4)) 5 12) (n 4) x5))) (mW_setO (n' := (va_up n 4 (n 4 + 1))) (J' := (va_up (va_up J 0 (nI 0)) 3 (nI 0))) (bw' := bw) rfl hw) rfl
                  refine lv_aload_n hx hb d_M_order_170 rfl (lv_at hl 1 rfl) ?_
                  refine nw_get hx hb hts i_M hown hK hw (64) (mW_64) rfl 13 (by decide) (hts _ kw_672) (fun _ h9 => h9) rfl d_M_order_171 ?_
                  refine lv_iconst (v := nI 1) hx hb d_M_order_174 (by decide) ?_
                  refine lv_isub hx hb d_M_order_175 ?_
                  refine lv_ei (y := nI (n 4)) (by show nI (n 4 + 1) - nI 1 = _; exact pk_sub (by omega)) ?_
                  exact nw_iret hQ hx hb hr hlocks hw hS (nw_mo_ok (fun h => h hok9) (fun h => h hst9) (⟨rfl, rfl⟩)) (Nat.le_of_ble_eq_true rfl) (Nat.le_of_ble_eq_true rfl) d_M_order_176
                · skip
                  refine lv_iconst (v := nI 0) hx hb d_M_order_101 (by decide) ?_
                  exact nw_iret hQ hx hb hr hlocks hw hS (nw_mo_bad (Wb := (fun t => mW ad tC n (va_up J 0 t) bw L bX aY S)) ha9 hs9 (b2_1 c_98)) (Nat.le_of_ble_eq_true rfl) (Nat.le_of_ble_eq_true rfl) d_M_order_102
            · skip
              have h5 : nI 0 ≤ x5 ∧ x5 ≤ nI 10000 := (show _ ↔ (nI 0 ≤ x5 ∧ x5 ≤ nI 10000) from in_c rfl rfl).mp (b2_1 c_68)
              refine lv_iconst (v := nI 1) hx hb d_M_order_71 (by decide) ?_
              refine lv_goto (tgt := 76) hx hb d_M_order_72 (by decide) ?_
              refine lv_istore (lv' := [(6, .int (nI 1)), (0, .ref (ad (64))), (1, .int (x1)), (2, .int (x2)), (3, .int (x3)), (4, .int (x4)), (5, .int (x5))]) hx hb d_M_order_76 hl (by decide) rfl (fun ls hl => ?_)
              refine lv_aload_n hx hb d_M_order_78 rfl (lv_at hl 1 rfl) ?_
              refine lv_iload hx hb d_M_order_79 (lv_at hl 0 rfl) ?_
              refine lv_aload_n hx hb d_M_order_81 rfl (lv_at hl 1 rfl) ?_
              refine nw_get hx hb hts i_M hown hK hw (64) (mW_64) rfl 13 (by decide) (hts _ kw_672) (fun _ h9 => h9) rfl d_M_order_82 ?_
              refine lv_bipush (v := nI 6) hx hb d_M_order_85 (by decide) ?_
              refine lv_icmp_ge (tgt := 94) hx hb d_M_order_87 (by decide) (fun c_87 => ?_) (fun c_87 => ?_)
              · skip
                have hbsn : ¬ (nI (n 4) < nI 6) := Int32.not_lt.mpr c_87
                refine lv_iconst (v := nI 0) hx hb d_M_order_94 (by decide) ?_
                have ha9 : nI 1 = 0 ↔ ¬ ((0 ≤ x1 ∧ x1 < nI (n 0)) ∧ (nI 0 ≤ x3 ∧ x3 ≤ nI 20000) ∧ (nI 0 ≤ x2 ∧ x2 ≤ x3) ∧ (nI 0 ≤ x4 ∧ x4 ≤ 100000000) ∧ (nI 0 ≤ x5 ∧ x5 ≤ nI 10000)) := ⟨fun h => absurd h (by decide), fun h => absurd ⟨h1, h2, h3, h4, h5⟩ h⟩
                have hs9 : nI 0 = 0 ↔ ¬ (nI (n 4) < nI 6) := ⟨fun _ => hbsn, fun _ => rfl⟩
                refine nw_callD (nw_goV (n := 2) (As := [.int (nI 1), .int (nI 0)]) (rest := []) hSx hA hKs hw hS (c_M_refuses l D tC A ad n J bw L bX aY S hN (nI 1) (nI 0)) kw_774 kw_771 kw_773 ks_M_refuses kw_8 rfl rfl (by decide +kernel) ⟨Nat.le_of_ble_eq_true rfl, Nat.le_of_ble_eq_true rfl⟩ (nw_recv hK hw (mW_64) rfl) rfl hl.1 (Nat.le_of_ble_eq_true rfl) d_M_order_95 ⟨Nat.le_of_ble_eq_true rfl, Nat.le_of_ble_eq_true rfl⟩) hS (fun H locs hw hS => ?_)
                refine lv_if_eq (tgt := 103) hx hb d_M_order_98 (by decide) (fun c_98 => ?_) (fun c_98 => ?_)
                · skip
                  have hno9 := b2_0 c_98
                  have hok9 : (0 ≤ x1 ∧ x1 < nI (n 0)) ∧ (nI 0 ≤ x3 ∧ x3 ≤ nI 20000) ∧ (nI 0 ≤ x2 ∧ x2 ≤ x3) ∧ (nI 0 ≤ x4 ∧ x4 ≤ 100000000) ∧ (nI 0 ≤ x5 ∧ x5 ≤ nI 10000) := Classical.not_not.mp (fun h => hno9 (Or.inl (ha9.mpr h)))
                  have hst9 : nI (n 4) < nI 6 := Classical.not_not.mp (fun h => hno9 (Or.inr (hs9.mpr h)))
                  have hw := nw_W.as (wn' := mW ad tC n (va_up J 0 (nI 0)) bw L bX aY S) hw (by rw [rfI_ok hno9])
                  refine lv_aload_n hx hb d_M_order_103 rfl (lv_at hl 1 rfl) ?_
                  refine lv_iconst (v := nI 0) hx hb d_M_order_104 (by decide) ?_
                  refine nw_put (v := .int (nI 0)) (ty := .boolean) hx hb hts i_M t_M tk_M n_M hown hK hw hS (64) (mW_64) rfl 21 (by decide) (hts _ kw_680) (fun _ h9 => h9) rfl (by decide +kernel) (rfl) (rfl) (Nat.le_of_ble_eq_true rfl) d_M_order_105 (fun H locs hw hS => ?_)
                  have hw := nw_W.as (wn' := mW ad tC n (va_up (va_up J 0 (nI 0)) 3 (nI 0)) bw L bX aY S) (mW_setO (n' := n) (J' := (va_up (va_up J 0 (nI 0)) 3 (nI 0))) (bw' := bw) rfl hw) rfl
                  refine lv_aload_n hx hb d_M_order_108 rfl (lv_at hl 1 rfl) ?_
                  refine nw_get hx hb hts i_M hown hK hw (64) (mW_64) rfl 14 (by decide) (hts _ kw_673) (fun _ h9 => h9) rfl d_M_order_109 ?_
                  refine lv_aload_n hx hb d_M_order_112 rfl (lv_at hl 1 rfl) ?_
                  refine nw_get hx hb hts i_M hown hK hw (64) (mW_64) rfl 13 (by decide) (hts _ kw_672) (fun _ h9 => h9) rfl d_M_order_113 ?_
                  refine lv_iload_n hx hb d_M_order_116 rfl (lv_at hl 2 rfl) ?_
                  refine nw_iast hx hb hK hw hS (188) 0 (mW_row (t := 5) (j := 8) (by decide) (by decide) (rfl)) rfl (n 4) (rfl) ((nI_ltI (by omega) (by omega)).mp hst9) (by omega) d_M_order_117 (fun H locs hw hS => ?_)
                  have hw := mW_setRow (t := 5) (j := 8) (by decide) (by decide) (rfl) hw
                  refine lv_aload_n hx hb d_M_order_118 rfl (lv_at hl 1 rfl) ?_
                  refine nw_get hx hb hts i_M hown hK hw (64) (mW_64) rfl 15 (by decide) (hts _ kw_674) (fun _ h9 => h9) rfl d_M_order_119 ?_
                  refine lv_aload_n hx hb d_M_order_122 rfl (lv_at hl 1 rfl) ?_
                  refine nw_get hx hb hts i_M hown hK hw (64) (mW_64) rfl 13 (by decide) (hts _ kw_672) (fun _ h9 => h9) rfl d_M_order_123 ?_
                  refine lv_iload_n hx hb d_M_order_126 rfl (lv_at hl 3 rfl) ?_
                  refine nw_iast hx hb hK hw hS (189) 0 (mW_row (t := 5) (j := 9) (by decide) (by decide) (rfl)) rfl (n 4) (rfl) ((nI_ltI (by omega) (by omega)).mp hst9) (by omega) d_M_order_127 (fun H locs hw hS => ?_)
                  have hw := mW_setRow (t := 5) (j := 9) (by decide) (by decide) (rfl) hw
                  refine lv_aload_n hx hb d_M_order_128 rfl (lv_at hl 1 rfl) ?_
                  refine nw_get hx hb hts i_M hown hK hw (64) (mW_64) rfl 16 (by decide) (hts _ kw_675) (fun _ h9 => h9) rfl d_M_order_129 ?_
                  refine lv_aload_n hx hb d_M_order_132 rfl (lv_at hl 1 rfl) ?_
                  refine nw_get hx hb hts i_M hown hK hw (64) (mW_64) rfl 13 (by decide) (hts _ kw_672) (fun _ h9 => h9) rfl d_M_order_133 ?_
                  refine lv_iload_n hx hb d_M_order_136 rfl (lv_at hl 4 rfl) ?_
                  refine nw_iast hx hb hK hw hS (190) 0 (mW_row (t := 5) (j := 10) (by decide) (by decide) (rfl)) rfl (n 4) (rfl) ((nI_ltI (by omega) (by omega)).mp hst9) (by omega) d_M_order_137 (fun H locs hw hS => ?_)
                  have hw := mW_setRow (t := 5) (j := 10) (by decide) (by decide) (rfl) hw
                  refine lv_aload_n hx hb d_M_order_138 rfl (lv_at hl 1 rfl) ?_
                  refine nw_get hx hb hts i_M hown hK hw (64) (mW_64) rfl 17 (by decide) (hts _ kw_676) (fun _ h9 => h9) rfl d_M_order_139 ?_
                  refine lv_aload_n hx hb d_M_order_142 rfl (lv_at hl 1 rfl) ?_
                  refine nw_get hx hb hts i_M hown hK hw (64) (mW_64) rfl 13 (by decide) (hts _ kw_672) (fun _ h9 => h9) rfl d_M_order_143 ?_
                  refine lv_iload hx hb d_M_order_146 (lv_at hl 5 rfl) ?_
                  refine nw_iast hx hb hK hw hS (191) 0 (mW_row (t := 5) (j := 11) (by decide) (by decide) (rfl)) rfl (n 4) (rfl) ((nI_ltI (by omega) (by omega)).mp hst9) (by omega) d_M_order_148 (fun H locs hw hS => ?_)
                  have hw := mW_setRow (t := 5) (j := 11) (by decide) (by decide) (rfl) hw
                  refine lv_aload_n hx hb d_M_order_149 rfl (lv_at hl 1 rfl) ?_
                  refine nw_get hx hb hts i_M hown hK hw (64) (mW_64) rfl 18 (by decide) (hts _ kw_677) (fun _ h9 => h9) rfl d_M_order_150 ?_
                  refine lv_aload_n hx hb d_M_order_153 rfl (lv_at hl 1 rfl) ?_
                  refine nw_get hx hb hts i_M hown hK hw (64) (mW_64) rfl 13 (by decide) (hts _ kw_672) (fun _ h9 => h9) rfl d_M_order_154 ?_
                  refine lv_iload hx hb d_M_order_157 (lv_at hl 6 rfl) ?_
                  refine nw_iast hx hb hK hw hS (192) 0 (mW_row (t := 5) (j := 12) (by decide) (by decide) (rfl)) rfl (n 4) (rfl) ((nI_ltI (by omega) (by omega)).mp hst9) (by omega) d_M_order_159 (fun H locs hw hS => ?_)
                  have hw := mW_setRow (t := 5) (j := 12) (by decide) (by decide) (rfl) hw
                  refine lv_aload_n hx hb d_M_order_160 rfl (lv_at hl 1 rfl) ?_
                  refine lv_dup hx hb d_M_order_161 rfl ?_
                  refine nw_get hx hb hts i_M hown hK hw (64) (mW_64) rfl 13 (by decide) (hts _ kw_672) (fun _ h9 => h9) rfl d_M_order_162 ?_
                  refine lv_iconst (v := nI 1) hx hb d_M_order_165 (by decide) ?_
                  refine lv_iadd hx hb d_M_order_166 ?_
                  refine lv_ei (y := nI (n 4 + 1)) (nI_add _ _) ?_
                  refine nw_put (v := .int (nI (n 4 + 1))) (ty := .int) hx hb hts i_M t_M tk_M n_M hown hK hw hS (64) (mW_64) rfl 13 (by decide) (hts _ kw_672) (fun _ h9 => h9) rfl (by decide +kernel) (rfl) (rfl) (Nat.le_of_ble_eq_true rfl) d_M_order_167 (fun H locs hw hS => ?_)
                  have hw := nw_W.as (wn' := mW ad tC (va_up n 4 (n 4 + 1)) (va_up (va_up J 0 (nI 0)) 3 (nI 0)) bw L bX aY (upR (upR (upR (upR (upR S 5 8 (upd (S 5 8) (n 4) x1)) 5 9 (upd ((upR S 5 8 (upd (S 5 8) (n 4) x1)) 5 9) (n 4) x2)) 5 10 (upd ((upR (upR S 5 8 (upd (S 5 8) (n 4) x1)) 5 9 (upd ((upR S 5 8 (upd (S 5 8) (n 4) x1)) 5 9) (n 4) x2)) 5 10) (n 4) x3)) 5 11 (upd ((upR (upR (upR S 5 8 (upd (S 5 8) (n 4) x1)) 5 9 (upd ((upR S 5 8 (upd (S 5 8) (n 4) x1)) 5 9) (n 4) x2)) 5 10 (upd ((upR (upR S 5 8 (upd (S 5 8) (n 4) x1)) 5 9 (upd ((upR S 5 8 (upd (S 5 8) (n 4) x1)) 5 9) (n 4) x2)) 5 10) (n 4) x3)) 5 11) (n 4) x4)) 5 12 (upd ((upR (upR (upR (upR S 5 8 (upd (S 5 8) (n 4) x1)) 5 9 (upd ((upR S 5 8 (upd (S 5 8) (n 4) x1)) 5 9) (n 4) x2)) 5 10 (upd ((upR (upR S 5 8 (upd (S 5 8) (n 4) x1)) 5 9 (upd ((upR S 5 8 (upd (S 5 8) (n 4) x1)) 5 9) (n 4) x2)) 5 10) (n 4) x3)) 5 11 (upd ((upR (upR (upR S 5 8 (upd (S 5 8) (n 4) x1)) 5 9 (upd ((upR S 5 8 (upd (S 5 8) (n 4) x1)) 5 9) (n 4) x2)) 5 10 (upd ((upR (upR S 5 8 (upd (S 5 8) (n 4) x1)) 5 9 (upd ((upR S 5 8 (upd (S 5 8) (n 4) x1)) 5 9) (n 4) x2)) 5 10) (n 4) x3)) 5 11) (n 4) x4)) 5 12) (n 4) x5))) (mW_setO (n' := (va_up n 4 (n 4 + 1))) (J' := (va_up (va_up J 0 (nI 0)) 3 (nI 0))) (bw' := bw) rfl hw) rfl
                  refine lv_aload_n hx hb d_M_order_170 rfl (lv_at hl 1 rfl) ?_
                  refine nw_get hx hb hts i_M hown hK hw (64) (mW_64) rfl 13 (by decide) (hts _ kw_672) (fun _ h9 => h9) rfl d_M_order_171 ?_
                  refine lv_iconst (v := nI 1) hx hb d_M_order_174 (by decide) ?_
                  refine lv_isub hx hb d_M_order_175 ?_
                  refine lv_ei (y := nI (n 4)) (by show nI (n 4 + 1) - nI 1 = _; exact pk_sub (by omega)) ?_
                  exact nw_iret hQ hx hb hr hlocks hw hS (nw_mo_ok (fun h => h hok9) (fun h => h hst9) (⟨rfl, rfl⟩)) (Nat.le_of_ble_eq_true rfl) (Nat.le_of_ble_eq_true rfl) d_M_order_176
                · skip
                  refine lv_iconst (v := nI 0) hx hb d_M_order_101 (by decide) ?_
                  exact nw_iret hQ hx hb hr hlocks hw hS (nw_mo_bad (Wb := (fun t => mW ad tC n (va_up J 0 t) bw L bX aY S)) ha9 hs9 (b2_1 c_98)) (Nat.le_of_ble_eq_true rfl) (Nat.le_of_ble_eq_true rfl) d_M_order_102
              · skip
                have hbs : nI (n 4) < nI 6 := Int32.not_le.mp c_87
                refine lv_iconst (v := nI 1) hx hb d_M_order_90 (by decide) ?_
                refine lv_goto (tgt := 95) hx hb d_M_order_91 (by decide) ?_
                have ha9 : nI 1 = 0 ↔ ¬ ((0 ≤ x1 ∧ x1 < nI (n 0)) ∧ (nI 0 ≤ x3 ∧ x3 ≤ nI 20000) ∧ (nI 0 ≤ x2 ∧ x2 ≤ x3) ∧ (nI 0 ≤ x4 ∧ x4 ≤ 100000000) ∧ (nI 0 ≤ x5 ∧ x5 ≤ nI 10000)) := ⟨fun h => absurd h (by decide), fun h => absurd ⟨h1, h2, h3, h4, h5⟩ h⟩
                have hs9 : nI 1 = 0 ↔ ¬ (nI (n 4) < nI 6) := ⟨fun h => absurd h (by decide), fun h => absurd hbs h⟩
                refine nw_callD (nw_goV (n := 2) (As := [.int (nI 1), .int (nI 1)]) (rest := []) hSx hA hKs hw hS (c_M_refuses l D tC A ad n J bw L bX aY S hN (nI 1) (nI 1)) kw_774 kw_771 kw_773 ks_M_refuses kw_8 rfl rfl (by decide +kernel) ⟨Nat.le_of_ble_eq_true rfl, Nat.le_of_ble_eq_true rfl⟩ (nw_recv hK hw (mW_64) rfl) rfl hl.1 (Nat.le_of_ble_eq_true rfl) d_M_order_95 ⟨Nat.le_of_ble_eq_true rfl, Nat.le_of_ble_eq_true rfl⟩) hS (fun H locs hw hS => ?_)
                refine lv_if_eq (tgt := 103) hx hb d_M_order_98 (by decide) (fun c_98 => ?_) (fun c_98 => ?_)
                · skip
                  have hno9 := b2_0 c_98
                  have hok9 : (0 ≤ x1 ∧ x1 < nI (n 0)) ∧ (nI 0 ≤ x3 ∧ x3 ≤ nI 20000) ∧ (nI 0 ≤ x2 ∧ x2 ≤ x3) ∧ (nI 0 ≤ x4 ∧ x4 ≤ 100000000) ∧ (nI 0 ≤ x5 ∧ x5 ≤ nI 10000) := Classical.not_not.mp (fun h => hno9 (Or.inl (ha9.mpr h)))
                  have hst9 : nI (n 4) < nI 6 := Classical.not_not.mp (fun h => hno9 (Or.inr (hs9.mpr h)))
                  have hw := nw_W.as (wn' := mW ad tC n (va_up J 0 (nI 0)) bw L bX aY S) hw (by rw [rfI_ok hno9])
                  refine lv_aload_n hx hb d_M_order_103 rfl (lv_at hl 1 rfl) ?_
                  refine lv_iconst (v := nI 0) hx hb d_M_order_104 (by decide) ?_
                  refine nw_put (v := .int (nI 0)) (ty := .boolean) hx hb hts i_M t_M tk_M n_M hown hK hw hS (64) (mW_64) rfl 21 (by decide) (hts _ kw_680) (fun _ h9 => h9) rfl (by decide +kernel) (rfl) (rfl) (Nat.le_of_ble_eq_true rfl) d_M_order_105 (fun H locs hw hS => ?_)
                  have hw := nw_W.as (wn' := mW ad tC n (va_up (va_up J 0 (nI 0)) 3 (nI 0)) bw L bX aY S) (mW_setO (n' := n) (J' := (va_up (va_up J 0 (nI 0)) 3 (nI 0))) (bw' := bw) rfl hw) rfl
                  refine lv_aload_n hx hb d_M_order_108 rfl (lv_at hl 1 rfl) ?_
                  refine nw_get hx hb hts i_M hown hK hw (64) (mW_64) rfl 14 (by decide) (hts _ kw_673) (fun _ h9 => h9) rfl d_M_order_109 ?_
                  refine lv_aload_n hx hb d_M_order_112 rfl (lv_at hl 1 rfl) ?_
                  refine nw_get hx hb hts i_M hown hK hw (64) (mW_64) rfl 13 (by decide) (hts _ kw_672) (fun _ h9 => h9) rfl d_M_order_113 ?_
                  refine lv_iload_n hx hb d_M_order_116 rfl (lv_at hl 2 rfl) ?_
                  refine nw_iast hx hb hK hw hS (188) 0 (mW_row (t := 5) (j := 8) (by decide) (by decide) (rfl)) rfl (n 4) (rfl) ((nI_ltI (by omega) (by omega)).mp hst9) (by omega) d_M_order_117 (fun H locs hw hS => ?_)
                  have hw := mW_setRow (t := 5) (j := 8) (by decide) (by decide) (rfl) hw
                  refine lv_aload_n hx hb d_M_order_118 rfl (lv_at hl 1 rfl) ?_
                  refine nw_get hx hb hts i_M hown hK hw (64) (mW_64) rfl 15 (by decide) (hts _ kw_674) (fun _ h9 => h9) rfl d_M_order_119 ?_
                  refine lv_aload_n hx hb d_M_order_122 rfl (lv_at hl 1 rfl) ?_
                  refine nw_get hx hb hts i_M hown hK hw (64) (mW_64) rfl 13 (by decide) (hts _ kw_672) (fun _ h9 => h9) rfl d_M_order_123 ?_
                  refine lv_iload_n hx hb d_M_order_126 rfl (lv_at hl 3 rfl) ?_
                  refine nw_iast hx hb hK hw hS (189) 0 (mW_row (t := 5) (j := 9) (by decide) (by decide) (rfl)) rfl (n 4) (rfl) ((nI_ltI (by omega) (by omega)).mp hst9) (by omega) d_M_order_127 (fun H locs hw hS => ?_)
                  have hw := mW_setRow (t := 5) (j := 9) (by decide) (by decide) (rfl) hw
                  refine lv_aload_n hx hb d_M_order_128 rfl (lv_at hl 1 rfl) ?_
                  refine nw_get hx hb hts i_M hown hK hw (64) (mW_64) rfl 16 (by decide) (hts _ kw_675) (fun _ h9 => h9) rfl d_M_order_129 ?_
                  refine lv_aload_n hx hb d_M_order_132 rfl (lv_at hl 1 rfl) ?_
                  refine nw_get hx hb hts i_M hown hK hw (64) (mW_64) rfl 13 (by decide) (hts _ kw_672) (fun _ h9 => h9) rfl d_M_order_133 ?_
                  refine lv_iload_n hx hb d_M_order_136 rfl (lv_at hl 4 rfl) ?_
                  refine nw_iast hx hb hK hw hS (190) 0 (mW_row (t := 5) (j := 10) (by decide) (by decide) (rfl)) rfl (n 4) (rfl) ((nI_ltI (by omega) (by omega)).mp hst9) (by omega) d_M_order_137 (fun H locs hw hS => ?_)
                  have hw := mW_setRow (t := 5) (j := 10) (by decide) (by decide) (rfl) hw
                  refine lv_aload_n hx hb d_M_order_138 rfl (lv_at hl 1 rfl) ?_
                  refine nw_get hx hb hts i_M hown hK hw (64) (mW_64) rfl 17 (by decide) (hts _ kw_676) (fun _ h9 => h9) rfl d_M_order_139 ?_
                  refine lv_aload_n hx hb d_M_order_142 rfl (lv_at hl 1 rfl) ?_
                  refine nw_get hx hb hts i_M hown hK hw (64) (mW_64) rfl 13 (by decide) (hts _ kw_672) (fun _ h9 => h9) rfl d_M_order_143 ?_
                  refine lv_iload hx hb d_M_order_146 (lv_at hl 5 rfl) ?_
                  refine nw_iast hx hb hK hw hS (191) 0 (mW_row (t := 5) (j := 11) (by decide) (by decide) (rfl)) rfl (n 4) (rfl) ((nI_ltI (by omega) (by omega)).mp hst9) (by omega) d_M_order_148 (fun H locs hw hS => ?_)
                  have hw := mW_setRow (t := 5) (j := 11) (by decide) (by decide) (rfl) hw
                  refine lv_aload_n hx hb d_M_order_149 rfl (lv_at hl 1 rfl) ?_
                  refine nw_get hx hb hts i_M hown hK hw (64) (mW_64) rfl 18 (by decide) (hts _ kw_677) (fun _ h9 => h9) rfl d_M_order_150 ?_
                  refine lv_aload_n hx hb d_M_order_153 rfl (lv_at hl 1 rfl) ?_
                  refine nw_get hx hb hts i_M hown hK hw (64) (mW_64) rfl 13 (by decide) (hts _ kw_672) (fun _ h9 => h9) rfl d_M_order_154 ?_
                  refine lv_iload hx hb d_M_order_157 (lv_at hl 6 rfl) ?_
                  refine nw_iast hx hb hK hw hS (192) 0 (mW_row (t := 5) (j := 12) (by decide) (by decide) (rfl)) rfl (n 4) (rfl) ((nI_ltI (by omega) (by omega)).mp hst9) (by omega) d_M_order_159 (fun H locs hw hS => ?_)
                  have hw := mW_setRow (t := 5) (j := 12) (by decide) (by decide) (rfl) hw
                  refine lv_aload_n hx hb d_M_order_160 rfl (lv_at hl 1 rfl) ?_
                  refine lv_dup hx hb d_M_order_161 rfl ?_
                  refine nw_get hx hb hts i_M hown hK hw (64) (mW_64) rfl 13 (by decide) (hts _ kw_672) (fun _ h9 => h9) rfl d_M_order_162 ?_
                  refine lv_iconst (v := nI 1) hx hb d_M_order_165 (by decide) ?_
                  refine lv_iadd hx hb d_M_order_166 ?_
                  refine lv_ei (y := nI (n 4 + 1)) (nI_add _ _) ?_
                  refine nw_put (v := .int (nI (n 4 + 1))) (ty := .int) hx hb hts i_M t_M tk_M n_M hown hK hw hS (64) (mW_64) rfl 13 (by decide) (hts _ kw_672) (fun _ h9 => h9) rfl (by decide +kernel) (rfl) (rfl) (Nat.le_of_ble_eq_true rfl) d_M_order_167 (fun H locs hw hS => ?_)
                  have hw := nw_W.as (wn' := mW ad tC (va_up n 4 (n 4 + 1)) (va_up (va_up J 0 (nI 0)) 3 (nI 0)) bw L bX aY (upR (upR (upR (upR (upR S 5 8 (upd (S 5 8) (n 4) x1)) 5 9 (upd ((upR S 5 8 (upd (S 5 8) (n 4) x1)) 5 9) (n 4) x2)) 5 10 (upd ((upR (upR S 5 8 (upd (S 5 8) (n 4) x1)) 5 9 (upd ((upR S 5 8 (upd (S 5 8) (n 4) x1)) 5 9) (n 4) x2)) 5 10) (n 4) x3)) 5 11 (upd ((upR (upR (upR S 5 8 (upd (S 5 8) (n 4) x1)) 5 9 (upd ((upR S 5 8 (upd (S 5 8) (n 4) x1)) 5 9) (n 4) x2)) 5 10 (upd ((upR (upR S 5 8 (upd (S 5 8) (n 4) x1)) 5 9 (upd ((upR S 5 8 (upd (S 5 8) (n 4) x1)) 5 9) (n 4) x2)) 5 10) (n 4) x3)) 5 11) (n 4) x4)) 5 12 (upd ((upR (upR (upR (upR S 5 8 (upd (S 5 8) (n 4) x1)) 5 9 (upd ((upR S 5 8 (upd (S 5 8) (n 4) x1)) 5 9) (n 4) x2)) 5 10 (upd ((upR (upR S 5 8 (upd (S 5 8) (n 4) x1)) 5 9 (upd ((upR S 5 8 (upd (S 5 8) (n 4) x1)) 5 9) (n 4) x2)) 5 10) (n 4) x3)) 5 11 (upd ((upR (upR (upR S 5 8 (upd (S 5 8) (n 4) x1)) 5 9 (upd ((upR S 5 8 (upd (S 5 8) (n 4) x1)) 5 9) (n 4) x2)) 5 10 (upd ((upR (upR S 5 8 (upd (S 5 8) (n 4) x1)) 5 9 (upd ((upR S 5 8 (upd (S 5 8) (n 4) x1)) 5 9) (n 4) x2)) 5 10) (n 4) x3)) 5 11) (n 4) x4)) 5 12) (n 4) x5))) (mW_setO (n' := (va_up n 4 (n 4 + 1))) (J' := (va_up (va_up J 0 (nI 0)) 3 (nI 0))) (bw' := bw) rfl hw) rfl
                  refine lv_aload_n hx hb d_M_order_170 rfl (lv_at hl 1 rfl) ?_
                  refine nw_get hx hb hts i_M hown hK hw (64) (mW_64) rfl 13 (by decide) (hts _ kw_672) (fun _ h9 => h9) rfl d_M_order_171 ?_
                  refine lv_iconst (v := nI 1) hx hb d_M_order_174 (by decide) ?_
                  refine lv_isub hx hb d_M_order_175 ?_
                  refine lv_ei (y := nI (n 4)) (by show nI (n 4 + 1) - nI 1 = _; exact pk_sub (by omega)) ?_
                  exact nw_iret hQ hx hb hr hlocks hw hS (nw_mo_ok (fun h => h hok9) (fun h => h hst9) (⟨rfl, rfl⟩)) (Nat.le_of_ble_eq_true rfl) (Nat.le_of_ble_eq_true rfl) d_M_order_176
                · skip
                  refine lv_iconst (v := nI 0) hx hb d_M_order_101 (by decide) ?_
                  exact nw_iret hQ hx hb hr hlocks hw hS (nw_mo_bad (Wb := (fun t => mW ad tC n (va_up J 0 t) bw L bX aY S)) ha9 hs9 (b2_1 c_98)) (Nat.le_of_ble_eq_true rfl) (Nat.le_of_ble_eq_true rfl) d_M_order_102

set_option maxHeartbeats 4000000 in
set_option maxRecDepth 100000 in
/-- what the last call threw -/
theorem c_M_thrown (l : Launch) (D : va_G) (tC : Nat → ClassId) (A : Nat → Prop) (ad : Nat → Nat) (n : Nat → Nat) (J : Nat → Int32) (bw : Int64) (L : Nat → Nat → Int64) (bX : Nat → Option va_E) (aY : Nat → Nat → Option (ClassId × Nat)) (S : Nat → Nat → Nat → Int32) (hN : hpN n)  : nw_Met l y_M_thrown [Cond.code y_M_thrown b_M_thrown 1 (some .int)] ({ frames := 0, cells := 0, slots := 0, locals := 0 } : Room) D hpC A [.ref (ad (64))] (nw_pre D hpC (hpT tC) A (mW ad tC n J bw L bX aY S) ad) (nw_ok (some (.int (J 0))) (mW ad tC n J bw L bX aY S) ad) 0 0 := by
  refine nw_bodyK (by decide) (Nat.le_of_ble_eq_true rfl) ?_
  intro p e s m below meth cd ls args Q hSx hr hlocks hname hA hKs hw hS hl hQ
  obtain ⟨hx, hb, hml, hown, hts⟩ := id hSx
  have hK := hKs.1
  have hl : lv_has ls 1 [(0, .ref (ad (64)))] := hl
  obtain ⟨hn0, hn0', hn1, hn2, hn3, hn4⟩ := id hN
  refine lv_aload_n hx hb d_M_thrown_0 rfl (lv_at hl 0 rfl) ?_
  refine nw_get hx hb hts i_M hown hK hw (64) (mW_64) rfl 1 (by decide) (hts _ kw_660) (fun _ h9 => h9) rfl d_M_thrown_1 ?_
  exact nw_iret hQ hx hb hr hlocks hw hS (nw_ok_rf) (Nat.le_of_ble_eq_true rfl) (Nat.le_of_ble_eq_true rfl) d_M_thrown_4

set_option maxHeartbeats 4000000 in
set_option maxRecDepth 100000 in
/-- how many nodes -/
theorem c_M_nodes (l : Launch) (D : va_G) (tC : Nat → ClassId) (A : Nat → Prop) (ad : Nat → Nat) (n : Nat → Nat) (J : Nat → Int32) (bw : Int64) (L : Nat → Nat → Int64) (bX : Nat → Option va_E) (aY : Nat → Nat → Option (ClassId × Nat)) (S : Nat → Nat → Nat → Int32) (hN : hpN n)  : nw_Met l y_M_nodes [Cond.code y_M_nodes b_M_nodes 1 (some .int)] ({ frames := 0, cells := 0, slots := 0, locals := 0 } : Room) D hpC A [.ref (ad (64))] (nw_pre D hpC (hpT tC) A (mW ad tC n J bw L bX aY S) ad) (nw_ok (some (.int (J 4))) (mW ad tC n (va_up J 0 (nI 0)) bw L bX aY S) ad) 0 0 := by
  refine nw_bodyK (by decide) (Nat.le_of_ble_eq_true rfl) ?_
  intro p e s m below meth cd ls args Q hSx hr hlocks hname hA hKs hw hS hl hQ
  obtain ⟨hx, hb, hml, hown, hts⟩ := id hSx
  have hK := hKs.1
  have hl : lv_has ls 1 [(0, .ref (ad (64)))] := hl
  obtain ⟨hn0, hn0', hn1, hn2, hn3, hn4⟩ := id hN
  refine lv_aload_n hx hb d_M_nodes_0 rfl (lv_at hl 0 rfl) ?_
  refine lv_iconst (v := nI 0) hx hb d_M_nodes_1 (by decide) ?_
  refine nw_put (v := .int (nI 0)) (ty := .int) hx hb hts i_M t_M tk_M n_M hown hK hw hS (64) (mW_64) rfl 1 (by decide) (hts _ kw_660) (fun _ h9 => h9) rfl (by decide +kernel) (rfl) (rfl) (Nat.le_of_ble_eq_true rfl) d_M_nodes_2 (fun H locs hw hS => ?_)
  have hw := nw_W.as (wn' := mW ad tC n (va_up J 0 (nI 0)) bw L bX aY S) (mW_setO (n' := n) (J' := (va_up J 0 (nI 0))) (bw' := bw) rfl hw) rfl
  refine lv_aload_n hx hb d_M_nodes_5 rfl (lv_at hl 0 rfl) ?_
  refine nw_get hx hb hts i_M hown hK hw (64) (mW_64) rfl 23 (by decide) (hts _ kw_682) (fun _ h9 => h9) rfl d_M_nodes_6 ?_
  exact nw_iret hQ hx hb hr hlocks hw hS (nw_ok_rf) (Nat.le_of_ble_eq_true rfl) (Nat.le_of_ble_eq_true rfl) d_M_nodes_9

set_option maxHeartbeats 4000000 in
set_option maxRecDepth 100000 in
/-- THE HOPE before any cage -/
theorem c_M_hope (l : Launch) (D : va_G) (tC : Nat → ClassId) (A : Nat → Prop) (ad : Nat → Nat) (n : Nat → Nat) (J : Nat → Int32) (bw : Int64) (L : Nat → Nat → Int64) (bX : Nat → Option va_E) (aY : Nat → Nat → Option (ClassId × Nat)) (S : Nat → Nat → Nat → Int32) (hN : hpN n)  : nw_Met l y_M_hope [Cond.code y_M_hope b_M_hope 1 (some .long)] ({ frames := 4, cells := 0, slots := 0, locals := 99 } : Room) D hpC A [.ref (ad (64))] (nw_pre D hpC (hpT tC) A (mW ad tC n J bw L bX aY S) ad) (nw_ok (some (.long (moS n (va_up J 0 (nI 0)) S (fun _ => 0) 0 (n 2)))) (mW ad tC n (va_up J 0 (nI 0)) bw L bX aY S) ad) 0 0 := by
  refine nw_bodyK (by decide) (Nat.le_of_ble_eq_true rfl) ?_
  intro p e s m below meth cd ls args Q hSx hr hlocks hname hA hKs hw hS hl hQ
  obtain ⟨hx, hb, hml, hown, hts⟩ := id hSx
  have hK := hKs.1
  have hl : lv_has ls 1 [(0, .ref (ad (64)))] := hl
  obtain ⟨hn0, hn0', hn1, hn2, hn3, hn4⟩ := id hN
  refine lv_aload_n hx hb d_M_hope_0 rfl (lv_at hl 0 rfl) ?_
  refine lv_iconst (v := nI 0) hx hb d_M_hope_1 (by decide) ?_
  refine nw_put (v := .int (nI 0)) (ty := .int) hx hb hts i_M t_M tk_M n_M hown hK hw hS (64) (mW_64) rfl 1 (by decide) (hts _ kw_660) (fun _ h9 => h9) rfl (by decide +kernel) (rfl) (rfl) (Nat.le_of_ble_eq_true rfl) d_M_hope_2 (fun H locs hw hS => ?_)
  have hw := nw_W.as (wn' := mW ad tC n (va_up J 0 (nI 0)) bw L bX aY S) (mW_setO (n' := n) (J' := (va_up J 0 (nI 0))) (bw' := bw) rfl hw) rfl
  refine lv_aload_n hx hb d_M_hope_5 rfl (lv_at hl 0 rfl) ?_
  refine lv_iconst (v := nI 0) hx hb d_M_hope_6 (by decide) ?_
  refine nw_callD (nw_goV (n := 1) (As := [.int (nI 0)]) (rest := []) hSx hA hKs hw hS (c_M_hopeOf l D tC A ad n (va_up J 0 (nI 0)) bw L bX aY S S scm_rf hN 0 (by omega) (fun _ => 0) (fun c hc => absurd hc (Nat.not_lt_zero c))) kw_871 kw_868 kw_870 ks_M_hopeOf kw_8 rfl rfl (by decide +kernel) ⟨Nat.le_of_ble_eq_true rfl, Nat.le_of_ble_eq_true rfl⟩ (nw_recv hK hw (mW_64) rfl) rfl hl.1 (Nat.le_of_ble_eq_true rfl) d_M_hope_7 ⟨Nat.le_of_ble_eq_true rfl, Nat.le_of_ble_eq_true rfl⟩) hS (fun H locs hw hS => ?_)
  exact nw_lret hQ hx hb hr hlocks hw hS (nw_ok_rf) (Nat.le_of_ble_eq_true rfl) (Nat.le_of_ble_eq_true rfl) d_M_hope_10

set_option maxHeartbeats 4000000 in
set_option maxRecDepth 100000 in
/-- taken -/
theorem c_M_taken (l : Launch) (D : va_G) (tC : Nat → ClassId) (A : Nat → Prop) (ad : Nat → Nat) (n : Nat → Nat) (J : Nat → Int32) (bw : Int64) (L : Nat → Nat → Int64) (bX : Nat → Option va_E) (aY : Nat → Nat → Option (ClassId × Nat)) (S : Nat → Nat → Nat → Int32) (hN : hpN n) (x1 : Int32) : nw_Met l y_M_taken [Cond.code y_M_taken b_M_taken 2 (some .int)] ({ frames := 1, cells := 0, slots := 0, locals := 25 } : Room) D hpC A [.ref (ad (64)), .int (x1)] (nw_pre D hpC (hpT tC) A (mW ad tC n J bw L bX aY S) ad) (nw_mo (¬ ((0 ≤ x1 ∧ x1 < nI (n 2)))) (¬ (True)) (fun t => mW ad tC n (va_up J 0 t) bw L bX aY S) ad (some (.int (nI 0))) 2 (fun o wn' => o = some (.int (if J 3 = 0 ∨ S 5 13 (x1.toNatClampNeg) = nI (n 0) then -1 else S 5 13 (x1.toNatClampNeg))) ∧ wn' = mW ad tC n (va_up J 0 (nI 0)) bw L bX aY S)) 0 0 := by
  refine nw_bodyK (by decide) (Nat.le_of_ble_eq_true rfl) ?_
  intro p e s m below meth cd ls args Q hSx hr hlocks hname hA hKs hw hS hl hQ
  obtain ⟨hx, hb, hml, hown, hts⟩ := id hSx
  have hK := hKs.1
  have hl : lv_has ls 2 [(0, .ref (ad (64))), (1, .int (x1))] := hl
  obtain ⟨hn0, hn0', hn1, hn2, hn3, hn4⟩ := id hN
  refine lv_aload_n hx hb d_M_taken_0 rfl (lv_at hl 0 rfl) ?_
  refine lv_iload_n hx hb d_M_taken_1 rfl (lv_at hl 1 rfl) ?_
  refine lv_i2l (v := ((x1).toInt64)) hx hb d_M_taken_2 rfl ?_
  refine lv_lconst (v := 0) hx hb d_M_taken_3 (by decide) ?_
  refine lv_aload_n hx hb d_M_taken_4 rfl (lv_at hl 0 rfl) ?_
  refine nw_get hx hb hts i_M hown hK hw (64) (mW_64) rfl 5 (by decide) (hts _ kw_664) (fun _ h9 => h9) rfl d_M_taken_5 ?_
  refine lv_iconst (v := nI 1) hx hb d_M_taken_8 (by decide) ?_
  refine lv_isub hx hb d_M_taken_9 ?_
  refine lv_i2l (v := ((((nI (n 2)) - (nI 1))).toInt64)) hx hb d_M_taken_10 rfl ?_
  refine nw_callD (nw_goS (n := 3) (As := [.long (((x1).toInt64)), .long (0), .long (((((nI (n 2)) - (nI 1))).toInt64))]) (rest := [.ref (ad (64))]) hSx hA hKs hw hS (c_M_in l D tC A ad n J bw L bX aY S S scm_rf hN (((x1).toInt64)) (0) (((((nI (n 2)) - (nI 1))).toInt64))) kw_770 kw_768 kw_769 kw_8 rfl rfl (by decide +kernel) ⟨Nat.le_of_ble_eq_true rfl, Nat.le_of_ble_eq_true rfl⟩ rfl hl.1 (Nat.le_of_ble_eq_true rfl) d_M_taken_11 ⟨Nat.le_of_ble_eq_true rfl, Nat.le_of_ble_eq_true rfl⟩) hS (fun H locs hw hS => ?_)
  refine lv_iconst (v := nI 1) hx hb d_M_taken_14 (by decide) ?_
  have ha9 : b2 ((0) ≤ (((x1).toInt64)) ∧ (((x1).toInt64)) ≤ (((((nI (n 2)) - (nI 1))).toInt64))) = 0 ↔ ¬ ((0 ≤ x1 ∧ x1 < nI (n 2))) := b2_not.trans (not_congr (in_n (by omega)))
  have hs9 : nI 1 = 0 ↔ ¬ (True) := ⟨fun h => absurd h (by decide), fun h => absurd trivial h⟩
  refine nw_callD (nw_goV (n := 2) (As := [.int (b2 ((0) ≤ (((x1).toInt64)) ∧ (((x1).toInt64)) ≤ (((((nI (n 2)) - (nI 1))).toInt64)))), .int (nI 1)]) (rest := []) hSx hA hKs hw hS (c_M_refuses l D tC A ad n J bw L bX aY S hN (b2 ((0) ≤ (((x1).toInt64)) ∧ (((x1).toInt64)) ≤ (((((nI (n 2)) - (nI 1))).toInt64)))) (nI 1)) kw_774 kw_771 kw_773 ks_M_refuses kw_8 rfl rfl (by decide +kernel) ⟨Nat.le_of_ble_eq_true rfl, Nat.le_of_ble_eq_true rfl⟩ (nw_recv hK hw (mW_64) rfl) rfl hl.1 (Nat.le_of_ble_eq_true rfl) d_M_taken_15 ⟨Nat.le_of_ble_eq_true rfl, Nat.le_of_ble_eq_true rfl⟩) hS (fun H locs hw hS => ?_)
  refine lv_if_eq (tgt := 23) hx hb d_M_taken_18 (by decide) (fun c_18 => ?_) (fun c_18 => ?_)
  · skip
    have hno9 := b2_0 c_18
    have hok9 : (0 ≤ x1 ∧ x1 < nI (n 2)) := Classical.not_not.mp (fun h => hno9 (Or.inl (ha9.mpr h)))
    have hst9 : True := Classical.not_not.mp (fun h => hno9 (Or.inr (hs9.mpr h)))
    obtain ⟨i1, rfl, hi1⟩ := nat_of (by omega) hok9
    have hw := nw_W.as (wn' := mW ad tC n (va_up J 0 (nI 0)) bw L bX aY S) hw (by rw [rfI_ok hno9])
    refine lv_aload_n hx hb d_M_taken_23 rfl (lv_at hl 0 rfl) ?_
    refine nw_get hx hb hts i_M hown hK hw (64) (mW_64) rfl 21 (by decide) (hts _ kw_680) (fun _ h9 => h9) rfl d_M_taken_24 ?_
    refine lv_if_eq (tgt := 43) hx hb d_M_taken_27 (by decide) (fun c_27 => ?_) (fun c_27 => ?_)
    · skip
      have hres : ((-1) : Int32) = (if J 3 = 0 ∨ S 5 13 i1 = nI (n 0) then -1 else S 5 13 i1) := by rw [if_pos (Or.inl (show J 3 = 0 from c_27))]
      refine lv_iconst (v := (-1)) hx hb d_M_taken_43 (by decide) ?_
      refine lv_goto (tgt := 53) hx hb d_M_taken_44 (by decide) ?_
      exact nw_iret hQ hx hb hr hlocks hw hS (nw_mo_ok (fun h => h hok9) (fun h => h hst9) (by rw [nI_clamp (n := i1) (by omega), ← hres]; exact ⟨rfl, rfl⟩)) (Nat.le_of_ble_eq_true rfl) (Nat.le_of_ble_eq_true rfl) d_M_taken_53
    · skip
      refine lv_aload_n hx hb d_M_taken_30 rfl (lv_at hl 0 rfl) ?_
      refine nw_get hx hb hts i_M hown hK hw (64) (mW_64) rfl 22 (by decide) (hts _ kw_681) (fun _ h9 => h9) rfl d_M_taken_31 ?_
      refine lv_iload_n hx hb d_M_taken_34 rfl (lv_at hl 1 rfl) ?_
      refine nw_iald hx hb hK hw (193) 0 (mW_row (t := 5) (j := 13) (by decide) (by decide) (rfl)) rfl (i1) (rfl) (by omega) (by omega) d_M_taken_35 ?_
      refine lv_ei (y := S 5 13 i1) (congrFun (scm_rf 5 13 (by omega)) _) ?_
      refine lv_aload_n hx hb d_M_taken_36 rfl (lv_at hl 0 rfl) ?_
      refine nw_get hx hb hts i_M hown hK hw (64) (mW_64) rfl 0 (by decide) (hts _ kw_659) (fun _ h9 => h9) rfl d_M_taken_37 ?_
      refine lv_icmp_ne (tgt := 47) hx hb d_M_taken_40 (by decide) (fun c_40 => ?_) (fun c_40 => ?_)
      · skip
        have hres : S 5 13 i1 = (if J 3 = 0 ∨ S 5 13 i1 = nI (n 0) then -1 else S 5 13 i1) := by rw [if_neg (fun h => h.elim (fun h9 => c_27 h9) c_40)]
        refine lv_aload_n hx hb d_M_taken_47 rfl (lv_at hl 0 rfl) ?_
        refine nw_get hx hb hts i_M hown hK hw (64) (mW_64) rfl 22 (by decide) (hts _ kw_681) (fun _ h9 => h9) rfl d_M_taken_48 ?_
        refine lv_iload_n hx hb d_M_taken_51 rfl (lv_at hl 1 rfl) ?_
        refine nw_iald hx hb hK hw (193) 0 (mW_row (t := 5) (j := 13) (by decide) (by decide) (rfl)) rfl (i1) (rfl) (by omega) (by omega) d_M_taken_52 ?_
        refine lv_ei (y := S 5 13 i1) (congrFun (scm_rf 5 13 (by omega)) _) ?_
        exact nw_iret hQ hx hb hr hlocks hw hS (nw_mo_ok (fun h => h hok9) (fun h => h hst9) (by rw [nI_clamp (n := i1) (by omega), ← hres]; exact ⟨rfl, rfl⟩)) (Nat.le_of_ble_eq_true rfl) (Nat.le_of_ble_eq_true rfl) d_M_taken_53
      · skip
        have hres : ((-1) : Int32) = (if J 3 = 0 ∨ S 5 13 i1 = nI (n 0) then -1 else S 5 13 i1) := by rw [if_pos (Or.inr c_40)]
        refine lv_iconst (v := (-1)) hx hb d_M_taken_43 (by decide) ?_
        refine lv_goto (tgt := 53) hx hb d_M_taken_44 (by decide) ?_
        exact nw_iret hQ hx hb hr hlocks hw hS (nw_mo_ok (fun h => h hok9) (fun h => h hst9) (by rw [nI_clamp (n := i1) (by omega), ← hres]; exact ⟨rfl, rfl⟩)) (Nat.le_of_ble_eq_true rfl) (Nat.le_of_ble_eq_true rfl) d_M_taken_53
  · skip
    refine lv_iconst (v := nI 0) hx hb d_M_taken_21 (by decide) ?_
    exact nw_iret hQ hx hb hr hlocks hw hS (nw_mo_bad (Wb := (fun t => mW ad tC n (va_up J 0 t) bw L bX aY S)) ha9 hs9 (b2_1 c_18)) (Nat.le_of_ble_eq_true rfl) (Nat.le_of_ble_eq_true rfl) d_M_taken_22

set_option maxHeartbeats 4000000 in
set_option maxRecDepth 100000 in
/-- move -/
theorem c_M_move (l : Launch) (D : va_G) (tC : Nat → ClassId) (A : Nat → Prop) (ad : Nat → Nat) (n : Nat → Nat) (J : Nat → Int32) (bw : Int64) (L : Nat → Nat → Int64) (bX : Nat → Option va_E) (aY : Nat → Nat → Option (ClassId × Nat)) (S : Nat → Nat → Nat → Int32) (hN : hpN n) (x1 x2 : Int32) : nw_Met l y_M_move [Cond.code y_M_move b_M_move 4 (some .int)] ({ frames := 1, cells := 0, slots := 0, locals := 25 } : Room) D hpC A [.ref (ad (64)), .int (x1), .int (x2)] (nw_pre D hpC (hpT tC) A (mW ad tC n J bw L bX aY S) ad) (nw_mo (¬ ((0 ≤ x1 ∧ x1 < nI (n 2)) ∧ (x2 = -1 ∨ (0 ≤ x2 ∧ x2 < nI (n 0))))) (¬ (True)) (fun t => mW ad tC n (va_up J 0 t) bw L bX aY S) ad (some (.int (nI 0))) 2 (fun o wn' => o = some (.int (if (mvP n J S) (x1.toNatClampNeg) = nI (n 0) then -1 else (mvP n J S) (x1.toNatClampNeg))) ∧ wn' = mW ad tC n (va_up (va_up J 0 (nI 0)) 3 (nI 1)) bw L bX aY (upR S 5 13 (upd (mvP n J S) (x1.toNatClampNeg) (if x2 = -1 then nI (n 0) else x2))))) 0 0 := by
  refine nw_bodyK (by decide) (Nat.le_of_ble_eq_true rfl) ?_
  intro p e s m below meth cd ls args Q hSx hr hlocks hname hA hKs hw hS hl hQ
  obtain ⟨hx, hb, hml, hown, hts⟩ := id hSx
  have hK := hKs.1
  have hl : lv_has ls 4 [(0, .ref (ad (64))), (1, .int (x1)), (2, .int (x2))] := hl
  obtain ⟨hn0, hn0', hn1, hn2, hn3, hn4⟩ := id hN
  refine lv_aload_n hx hb d_M_move_0 rfl (lv_at hl 0 rfl) ?_
  refine lv_iload_n hx hb d_M_move_1 rfl (lv_at hl 1 rfl) ?_
  refine lv_i2l (v := ((x1).toInt64)) hx hb d_M_move_2 rfl ?_
  refine lv_lconst (v := 0) hx hb d_M_move_3 (by decide) ?_
  refine lv_aload_n hx hb d_M_move_4 rfl (lv_at hl 0 rfl) ?_
  refine nw_get hx hb hts i_M hown hK hw (64) (mW_64) rfl 5 (by decide) (hts _ kw_664) (fun _ h9 => h9) rfl d_M_move_5 ?_
  refine lv_iconst (v := nI 1) hx hb d_M_move_8 (by decide) ?_
  refine lv_isub hx hb d_M_move_9 ?_
  refine lv_i2l (v := ((((nI (n 2)) - (nI 1))).toInt64)) hx hb d_M_move_10 rfl ?_
  refine nw_callD (nw_goS (n := 3) (As := [.long (((x1).toInt64)), .long (0), .long (((((nI (n 2)) - (nI 1))).toInt64))]) (rest := [.ref (ad (64))]) hSx hA hKs hw hS (c_M_in l D tC A ad n J bw L bX aY S S scm_rf hN (((x1).toInt64)) (0) (((((nI (n 2)) - (nI 1))).toInt64))) kw_770 kw_768 kw_769 kw_8 rfl rfl (by decide +kernel) ⟨Nat.le_of_ble_eq_true rfl, Nat.le_of_ble_eq_true rfl⟩ rfl hl.1 (Nat.le_of_ble_eq_true rfl) d_M_move_11 ⟨Nat.le_of_ble_eq_true rfl, Nat.le_of_ble_eq_true rfl⟩) hS (fun H locs hw hS => ?_)
  refine lv_if_eq (tgt := 39) hx hb d_M_move_14 (by decide) (fun c_14 => ?_) (fun c_14 => ?_)
  · skip
    have hneg : ¬ ((0 ≤ x1 ∧ x1 < nI (n 2)) ∧ (x2 = -1 ∨ (0 ≤ x2 ∧ x2 < nI (n 0)))) := fun h => b2_0 c_14 ((show _ ↔ (0 ≤ x1 ∧ x1 < nI (n 2)) from in_n (by omega)).mpr (h.1))
    refine lv_iconst (v := nI 0) hx hb d_M_move_39 (by decide) ?_
    refine lv_iconst (v := nI 1) hx hb d_M_move_40 (by decide) ?_
    have ha9 : nI 0 = 0 ↔ ¬ ((0 ≤ x1 ∧ x1 < nI (n 2)) ∧ (x2 = -1 ∨ (0 ≤ x2 ∧ x2 < nI (n 0)))) := ⟨fun _ => hneg, fun _ => rfl⟩
    have hs9 : nI 1 = 0 ↔ ¬ (True) := ⟨fun h => absurd h (by decide), fun h => absurd trivial h⟩
    refine nw_callD (nw_goV (n := 2) (As := [.int (nI 0), .int (nI 1)]) (rest := []) hSx hA hKs hw hS (c_M_refuses l D tC A ad n J bw L bX aY S hN (nI 0) (nI 1)) kw_774 kw_771 kw_773 ks_M_refuses kw_8 rfl rfl (by decide +kernel) ⟨Nat.le_of_ble_eq_true rfl, Nat.le_of_ble_eq_true rfl⟩ (nw_recv hK hw (mW_64) rfl) rfl hl.1 (Nat.le_of_ble_eq_true rfl) d_M_move_41 ⟨Nat.le_of_ble_eq_true rfl, Nat.le_of_ble_eq_true rfl⟩) hS (fun H locs hw hS => ?_)
    refine lv_if_eq (tgt := 49) hx hb d_M_move_44 (by decide) (fun c_44 => ?_) (fun c_44 => ?_)
    · skip
      have hno9 := b2_0 c_44
      have hok9 : (0 ≤ x1 ∧ x1 < nI (n 2)) ∧ (x2 = -1 ∨ (0 ≤ x2 ∧ x2 < nI (n 0))) := Classical.not_not.mp (fun h => hno9 (Or.inl (ha9.mpr h)))
      have hst9 : True := Classical.not_not.mp (fun h => hno9 (Or.inr (hs9.mpr h)))
      obtain ⟨i1, rfl, hi1⟩ := nat_of (by omega) hok9.1
      have hw := nw_W.as (wn' := mW ad tC n (va_up J 0 (nI 0)) bw L bX aY S) hw (by rw [rfI_ok hno9])
      refine lv_iconst (v := nI 0) hx hb d_M_move_49 (by decide) ?_
      refine lv_istore_n (lv' := [(3, .int (nI 0)), (0, .ref (ad (64))), (1, .int (nI i1)), (2, .int (x2))]) hx hb d_M_move_50 rfl hl (by decide) rfl (fun ls hl => ?_)
      have hw := nw_W.as (wn' := mW ad tC n (va_up J 0 (nI 0)) bw L bX aY (upR S 5 13 (flR (S 5 13) (nI (n 0)) 0))) hw (by rw [flR_0, upR_same])
      have loop51 : ∀ (k c : Nat), c ≤ n 2 → n 2 + 1 ≤ c + k → (¬ J 3 = 0 → c = 0) → ∀ (H : Heap) (locs : List Loc) (ls : Array Slot), nw_W D hpC A (mW ad tC n (va_up J 0 (nI 0)) bw L bX aY (upR S 5 13 (flR (S 5 13) (nI (n 0)) c))) ad H → va_S A s.heap H locs → lv_has ls 4 [(0, .ref (ad (64))), (1, .int (nI i1)), (2, .int (x2)), (3, .int (nI c))] → W p l e ({ frames := 1, cells := 0, slots := 0, locals := 25 } : Room) s m args below meth cd H locs 0 0 Q (F0 m 51 ls []) := by
        intro k
        induction k with
        | zero => intro c h1 h2; exact absurd h2 (by omega)
        | succ k ih51 =>
          intro c hv51 hk51 hc0 H locs ls hw hS hl
          refine lv_iload_n hx hb d_M_move_51 rfl (lv_at hl 3 rfl) ?_
          refine lv_aload_n hx hb d_M_move_52 rfl (lv_at hl 0 rfl) ?_
          refine nw_get hx hb hts i_M hown hK hw (64) (mW_64) rfl 5 (by decide) (hts _ kw_664) (fun _ h9 => h9) rfl d_M_move_53 ?_
          refine lv_icmp_ge (tgt := 82) hx hb d_M_move_56 (by decide) (fun c_56 => ?_) (fun c_56 => ?_)
          · skip
            have hge : n 2 ≤ c := (nI_leI (by omega) (by omega)).mp c_56
            obtain rfl : n 2 = c := by omega
            have hmv : flR (S 5 13) (nI (n 0)) (n 2) = mvP n J S := by
              unfold mvP
              by_cases h9 : J 3 = 0
              · rw [if_pos h9]
              · rw [if_neg h9, hc0 h9, flR_0]
            have hw := nw_W.as (wn' := mW ad tC n (va_up J 0 (nI 0)) bw L bX aY (upR S 5 13 (mvP n J S))) hw (by rw [hmv])
            refine lv_aload_n hx hb d_M_move_82 rfl (lv_at hl 0 rfl) ?_
            refine lv_iconst (v := nI 1) hx hb d_M_move_83 (by decide) ?_
            refine nw_put (v := .int (nI 1)) (ty := .boolean) hx hb hts i_M t_M tk_M n_M hown hK hw hS (64) (mW_64) rfl 21 (by decide) (hts _ kw_680) (fun _ h9 => h9) rfl (by decide +kernel) (rfl) (rfl) (Nat.le_of_ble_eq_true rfl) d_M_move_84 (fun H locs hw hS => ?_)
            have hw := nw_W.as (wn' := mW ad tC n (va_up (va_up J 0 (nI 0)) 3 (nI 1)) bw L bX aY (upR S 5 13 (mvP n J S))) (mW_setO (n' := n) (J' := (va_up (va_up J 0 (nI 0)) 3 (nI 1))) (bw' := bw) rfl hw) rfl
            refine lv_aload_n hx hb d_M_move_87 rfl (lv_at hl 0 rfl) ?_
            refine nw_get hx hb hts i_M hown hK hw (64) (mW_64) rfl 22 (by decide) (hts _ kw_681) (fun _ h9 => h9) rfl d_M_move_88 ?_
            refine lv_iload_n hx hb d_M_move_91 rfl (lv_at hl 1 rfl) ?_
            refine nw_iald hx hb hK hw (193) 0 (mW_row (t := 5) (j := 13) (by decide) (by decide) (rfl)) rfl (i1) (rfl) (by omega) (by omega) d_M_move_92 ?_
            refine lv_ei (y := (upR S 5 13 (mvP n J S)) 5 13 i1) (congrFun (scm_rf 5 13 (by omega)) _) ?_
            refine lv_ei (y := (mvP n J S) i1) (congrFun upR_self _) ?_
            refine lv_istore_n (lv' := [(3, .int ((mvP n J S) i1)), (0, .ref (ad (64))), (1, .int (nI i1)), (2, .int (x2))]) hx hb d_M_move_93 rfl hl (by decide) rfl (fun ls hl => ?_)
            refine lv_aload_n hx hb d_M_move_94 rfl (lv_at hl 1 rfl) ?_
            refine nw_get hx hb hts i_M hown hK hw (64) (mW_64) rfl 22 (by decide) (hts _ kw_681) (fun _ h9 => h9) rfl d_M_move_95 ?_
            refine lv_iload_n hx hb d_M_move_98 rfl (lv_at hl 2 rfl) ?_
            refine lv_iload_n hx hb d_M_move_99 rfl (lv_at hl 3 rfl) ?_
            refine lv_iconst (v := (-1)) hx hb d_M_move_100 (by decide) ?_
            refine lv_icmp_ne (tgt := 111) hx hb d_M_move_101 (by decide) (fun c_101 => ?_) (fun c_101 => ?_)
            · skip
              have ex2 : x2 = (if x2 = -1 then nI (n 0) else x2) := (if_neg c_101).symm
              refine lv_iload_n hx hb d_M_move_111 rfl (lv_at hl 3 rfl) ?_
              refine lv_ei (y := (if x2 = -1 then nI (n 0) else x2)) ex2 ?_
              refine nw_iast hx hb hK hw hS (193) 0 (mW_row (t := 5) (j := 13) (by decide) (by decide) (rfl)) rfl (i1) (rfl) (by omega) (by omega) d_M_move_112 (fun H locs hw hS => ?_)
              have hw := mW_setRow (t := 5) (j := 13) (by decide) (by decide) (rfl) hw
              have hw := nw_W.as (wn' := mW ad tC n (va_up (va_up J 0 (nI 0)) 3 (nI 1)) bw L bX aY (upR S 5 13 (upd (mvP n J S) i1 (if x2 = -1 then nI (n 0) else x2)))) hw (by rw [upR_upR, upR_self])
              refine lv_iload_n hx hb d_M_move_113 rfl (lv_at hl 0 rfl) ?_
              refine lv_aload_n hx hb d_M_move_114 rfl (lv_at hl 1 rfl) ?_
              refine nw_get hx hb hts i_M hown hK hw (64) (mW_64) rfl 0 (by decide) (hts _ kw_659) (fun _ h9 => h9) rfl d_M_move_115 ?_
              refine lv_icmp_ne (tgt := 125) hx hb d_M_move_118 (by decide) (fun c_118 => ?_) (fun c_118 => ?_)
              · skip
                have hres : (mvP n J S) i1 = (if (mvP n J S) i1 = nI (n 0) then -1 else (mvP n J S) i1) := (if_neg c_118).symm
                refine lv_iload_n hx hb d_M_move_125 rfl (lv_at hl 0 rfl) ?_
                refine lv_ei (y := (if (mvP n J S) i1 = nI (n 0) then -1 else (mvP n J S) i1)) hres ?_
                exact nw_iret hQ hx hb hr hlocks hw hS (nw_mo_ok (fun h => h hok9) (fun h => h hst9) (by rw [nI_clamp (n := i1) (by omega)]; exact ⟨rfl, rfl⟩)) (Nat.le_of_ble_eq_true rfl) (Nat.le_of_ble_eq_true rfl) d_M_move_126
              · skip
                have hres : ((-1) : Int32) = (if (mvP n J S) i1 = nI (n 0) then -1 else (mvP n J S) i1) := (if_pos c_118).symm
                refine lv_iconst (v := (-1)) hx hb d_M_move_121 (by decide) ?_
                refine lv_goto (tgt := 126) hx hb d_M_move_122 (by decide) ?_
                refine lv_ei (y := (if (mvP n J S) i1 = nI (n 0) then -1 else (mvP n J S) i1)) hres ?_
                exact nw_iret hQ hx hb hr hlocks hw hS (nw_mo_ok (fun h => h hok9) (fun h => h hst9) (by rw [nI_clamp (n := i1) (by omega)]; exact ⟨rfl, rfl⟩)) (Nat.le_of_ble_eq_true rfl) (Nat.le_of_ble_eq_true rfl) d_M_move_126
            · skip
              have ex2 : nI (n 0) = (if x2 = -1 then nI (n 0) else x2) := (if_pos c_101).symm
              refine lv_aload_n hx hb d_M_move_104 rfl (lv_at hl 1 rfl) ?_
              refine nw_get hx hb hts i_M hown hK hw (64) (mW_64) rfl 0 (by decide) (hts _ kw_659) (fun _ h9 => h9) rfl d_M_move_105 ?_
              refine lv_goto (tgt := 112) hx hb d_M_move_108 (by decide) ?_
              refine lv_ei (y := (if x2 = -1 then nI (n 0) else x2)) ex2 ?_
              refine nw_iast hx hb hK hw hS (193) 0 (mW_row (t := 5) (j := 13) (by decide) (by decide) (rfl)) rfl (i1) (rfl) (by omega) (by omega) d_M_move_112 (fun H locs hw hS => ?_)
              have hw := mW_setRow (t := 5) (j := 13) (by decide) (by decide) (rfl) hw
              have hw := nw_W.as (wn' := mW ad tC n (va_up (va_up J 0 (nI 0)) 3 (nI 1)) bw L bX aY (upR S 5 13 (upd (mvP n J S) i1 (if x2 = -1 then nI (n 0) else x2)))) hw (by rw [upR_upR, upR_self])
              refine lv_iload_n hx hb d_M_move_113 rfl (lv_at hl 0 rfl) ?_
              refine lv_aload_n hx hb d_M_move_114 rfl (lv_at hl 1 rfl) ?_
              refine nw_get hx hb hts i_M hown hK hw (64) (mW_64) rfl 0 (by decide) (hts _ kw_659) (fun _ h9 => h9) rfl d_M_move_115 ?_
              refine lv_icmp_ne (tgt := 125) hx hb d_M_move_118 (by decide) (fun c_118 => ?_) (fun c_118 => ?_)
              · skip
                have hres : (mvP n J S) i1 = (if (mvP n J S) i1 = nI (n 0) then -1 else (mvP n J S) i1) := (if_neg c_118).symm
                refine lv_iload_n hx hb d_M_move_125 rfl (lv_at hl 0 rfl) ?_
                refine lv_ei (y := (if (mvP n J S) i1 = nI (n 0) then -1 else (mvP n J S) i1)) hres ?_
                exact nw_iret hQ hx hb hr hlocks hw hS (nw_mo_ok (fun h => h hok9) (fun h => h hst9) (by rw [nI_clamp (n := i1) (by omega)]; exact ⟨rfl, rfl⟩)) (Nat.le_of_ble_eq_true rfl) (Nat.le_of_ble_eq_true rfl) d_M_move_126
              · skip
                have hres : ((-1) : Int32) = (if (mvP n J S) i1 = nI (n 0) then -1 else (mvP n J S) i1) := (if_pos c_118).symm
                refine lv_iconst (v := (-1)) hx hb d_M_move_121 (by decide) ?_
                refine lv_goto (tgt := 126) hx hb d_M_move_122 (by decide) ?_
                refine lv_ei (y := (if (mvP n J S) i1 = nI (n 0) then -1 else (mvP n J S) i1)) hres ?_
                exact nw_iret hQ hx hb hr hlocks hw hS (nw_mo_ok (fun h => h hok9) (fun h => h hst9) (by rw [nI_clamp (n := i1) (by omega)]; exact ⟨rfl, rfl⟩)) (Nat.le_of_ble_eq_true rfl) (Nat.le_of_ble_eq_true rfl) d_M_move_126
          · skip
            have hlt : c < n 2 := Nat.not_le.mp (fun q => c_56 (nI_le q (by omega)))
            refine lv_aload_n hx hb d_M_move_59 rfl (lv_at hl 0 rfl) ?_
            refine nw_get hx hb hts i_M hown hK hw (64) (mW_64) rfl 21 (by decide) (hts _ kw_680) (fun _ h9 => h9) rfl d_M_move_60 ?_
            refine lv_if_ne (tgt := 82) hx hb d_M_move_63 (by decide) (fun c_63 => ?_) (fun c_63 => ?_)
            · skip
              have hmv : flR (S 5 13) (nI (n 0)) c = mvP n J S := by
                unfold mvP
                rw [if_neg (show ¬ J 3 = 0 from c_63), hc0 c_63, flR_0]
              have hw := nw_W.as (wn' := mW ad tC n (va_up J 0 (nI 0)) bw L bX aY (upR S 5 13 (mvP n J S))) hw (by rw [hmv])
              refine lv_aload_n hx hb d_M_move_82 rfl (lv_at hl 0 rfl) ?_
              refine lv_iconst (v := nI 1) hx hb d_M_move_83 (by decide) ?_
              refine nw_put (v := .int (nI 1)) (ty := .boolean) hx hb hts i_M t_M tk_M n_M hown hK hw hS (64) (mW_64) rfl 21 (by decide) (hts _ kw_680) (fun _ h9 => h9) rfl (by decide +kernel) (rfl) (rfl) (Nat.le_of_ble_eq_true rfl) d_M_move_84 (fun H locs hw hS => ?_)
              have hw := nw_W.as (wn' := mW ad tC n (va_up (va_up J 0 (nI 0)) 3 (nI 1)) bw L bX aY (upR S 5 13 (mvP n J S))) (mW_setO (n' := n) (J' := (va_up (va_up J 0 (nI 0)) 3 (nI 1))) (bw' := bw) rfl hw) rfl
              refine lv_aload_n hx hb d_M_move_87 rfl (lv_at hl 0 rfl) ?_
              refine nw_get hx hb hts i_M hown hK hw (64) (mW_64) rfl 22 (by decide) (hts _ kw_681) (fun _ h9 => h9) rfl d_M_move_88 ?_
              refine lv_iload_n hx hb d_M_move_91 rfl (lv_at hl 1 rfl) ?_
              refine nw_iald hx hb hK hw (193) 0 (mW_row (t := 5) (j := 13) (by decide) (by decide) (rfl)) rfl (i1) (rfl) (by omega) (by omega) d_M_move_92 ?_
              refine lv_ei (y := (upR S 5 13 (mvP n J S)) 5 13 i1) (congrFun (scm_rf 5 13 (by omega)) _) ?_
              refine lv_ei (y := (mvP n J S) i1) (congrFun upR_self _) ?_
              refine lv_istore_n (lv' := [(3, .int ((mvP n J S) i1)), (0, .ref (ad (64))), (1, .int (nI i1)), (2, .int (x2))]) hx hb d_M_move_93 rfl hl (by decide) rfl (fun ls hl => ?_)
              refine lv_aload_n hx hb d_M_move_94 rfl (lv_at hl 1 rfl) ?_
              refine nw_get hx hb hts i_M hown hK hw (64) (mW_64) rfl 22 (by decide) (hts _ kw_681) (fun _ h9 => h9) rfl d_M_move_95 ?_
              refine lv_iload_n hx hb d_M_move_98 rfl (lv_at hl 2 rfl) ?_
              refine lv_iload_n hx hb d_M_move_99 rfl (lv_at hl 3 rfl) ?_
              refine lv_iconst (v := (-1)) hx hb d_M_move_100 (by decide) ?_
              refine lv_icmp_ne (tgt := 111) hx hb d_M_move_101 (by decide) (fun c_101 => ?_) (fun c_101 => ?_)
              · skip
                have ex2 : x2 = (if x2 = -1 then nI (n 0) else x2) := (if_neg c_101).symm
                refine lv_iload_n hx hb d_M_move_111 rfl (lv_at hl 3 rfl) ?_
                refine lv_ei (y := (if x2 = -1 then nI (n 0) else x2)) ex2 ?_
                refine nw_iast hx hb hK hw hS (193) 0 (mW_row (t := 5) (j := 13) (by decide) (by decide) (rfl)) rfl (i1) (rfl) (by omega) (by omega) d_M_move_112 (fun H locs hw hS => ?_)
                have hw := mW_setRow (t := 5) (j := 13) (by decide) (by decide) (rfl) hw
                have hw := nw_W.as (wn' := mW ad tC n (va_up (va_up J 0 (nI 0)) 3 (nI 1)) bw L bX aY (upR S 5 13 (upd (mvP n J S) i1 (if x2 = -1 then nI (n 0) else x2)))) hw (by rw [upR_upR, upR_self])
                refine lv_iload_n hx hb d_M_move_113 rfl (lv_at hl 0 rfl) ?_
                refine lv_aload_n hx hb d_M_move_114 rfl (lv_at hl 1 rfl) ?_
                refine nw_get hx hb hts i_M hown hK hw (64) (mW_64) rfl 0 (by decide) (hts _ kw_659) (fun _ h9 => h9) rfl d_M_move_115 ?_
                refine lv_icmp_ne (tgt := 125) hx hb d_M_move_118 (by decide) (fun c_118 => ?_) (fun c_118 => ?_)
                · skip
                  have hres : (mvP n J S) i1 = (if (mvP n J S) i1 = nI (n 0) then -1 else (mvP n J S) i1) := (if_neg c_118).symm
                  refine lv_iload_n hx hb d_M_move_125 rfl (lv_at hl 0 rfl) ?_
                  refine lv_ei (y := (if (mvP n J S) i1 = nI (n 0) then -1 else (mvP n J S) i1)) hres ?_
                  exact nw_iret hQ hx hb hr hlocks hw hS (nw_mo_ok (fun h => h hok9) (fun h => h hst9) (by rw [nI_clamp (n := i1) (by omega)]; exact ⟨rfl, rfl⟩)) (Nat.le_of_ble_eq_true rfl) (Nat.le_of_ble_eq_true rfl) d_M_move_126
                · skip
                  have hres : ((-1) : Int32) = (if (mvP n J S) i1 = nI (n 0) then -1 else (mvP n J S) i1) := (if_pos c_118).symm
                  refine lv_iconst (v := (-1)) hx hb d_M_move_121 (by decide) ?_
                  refine lv_goto (tgt := 126) hx hb d_M_move_122 (by decide) ?_
                  refine lv_ei (y := (if (mvP n J S) i1 = nI (n 0) then -1 else (mvP n J S) i1)) hres ?_
                  exact nw_iret hQ hx hb hr hlocks hw hS (nw_mo_ok (fun h => h hok9) (fun h => h hst9) (by rw [nI_clamp (n := i1) (by omega)]; exact ⟨rfl, rfl⟩)) (Nat.le_of_ble_eq_true rfl) (Nat.le_of_ble_eq_true rfl) d_M_move_126
              · skip
                have ex2 : nI (n 0) = (if x2 = -1 then nI (n 0) else x2) := (if_pos c_101).symm
                refine lv_aload_n hx hb d_M_move_104 rfl (lv_at hl 1 rfl) ?_
                refine nw_get hx hb hts i_M hown hK hw (64) (mW_64) rfl 0 (by decide) (hts _ kw_659) (fun _ h9 => h9) rfl d_M_move_105 ?_
                refine lv_goto (tgt := 112) hx hb d_M_move_108 (by decide) ?_
                refine lv_ei (y := (if x2 = -1 then nI (n 0) else x2)) ex2 ?_
                refine nw_iast hx hb hK hw hS (193) 0 (mW_row (t := 5) (j := 13) (by decide) (by decide) (rfl)) rfl (i1) (rfl) (by omega) (by omega) d_M_move_112 (fun H locs hw hS => ?_)
                have hw := mW_setRow (t := 5) (j := 13) (by decide) (by decide) (rfl) hw
                have hw := nw_W.as (wn' := mW ad tC n (va_up (va_up J 0 (nI 0)) 3 (nI 1)) bw L bX aY (upR S 5 13 (upd (mvP n J S) i1 (if x2 = -1 then nI (n 0) else x2)))) hw (by rw [upR_upR, upR_self])
                refine lv_iload_n hx hb d_M_move_113 rfl (lv_at hl 0 rfl) ?_
                refine lv_aload_n hx hb d_M_move_114 rfl (lv_at hl 1 rfl) ?_
                refine nw_get hx hb hts i_M hown hK hw (64) (mW_64) rfl 0 (by decide) (hts _ kw_659) (fun _ h9 => h9) rfl d_M_move_115 ?_
                refine lv_icmp_ne (tgt := 125) hx hb d_M_move_118 (by decide) (fun c_118 => ?_) (fun c_118 => ?_)
                · skip
                  have hres : (mvP n J S) i1 = (if (mvP n J S) i1 = nI (n 0) then -1 else (mvP n J S) i1) := (if_neg c_118).symm
                  refine lv_iload_n hx hb d_M_move_125 rfl (lv_at hl 0 rfl) ?_
                  refine lv_ei (y := (if (mvP n J S) i1 = nI (n 0) then -1 else (mvP n J S) i1)) hres ?_
                  exact nw_iret hQ hx hb hr hlocks hw hS (nw_mo_ok (fun h => h hok9) (fun h => h hst9) (by rw [nI_clamp (n := i1) (by omega)]; exact ⟨rfl, rfl⟩)) (Nat.le_of_ble_eq_true rfl) (Nat.le_of_ble_eq_true rfl) d_M_move_126
                · skip
                  have hres : ((-1) : Int32) = (if (mvP n J S) i1 = nI (n 0) then -1 else (mvP n J S) i1) := (if_pos c_118).symm
                  refine lv_iconst (v := (-1)) hx hb d_M_move_121 (by decide) ?_
                  refine lv_goto (tgt := 126) hx hb d_M_move_122 (by decide) ?_
                  refine lv_ei (y := (if (mvP n J S) i1 = nI (n 0) then -1 else (mvP n J S) i1)) hres ?_
                  exact nw_iret hQ hx hb hr hlocks hw hS (nw_mo_ok (fun h => h hok9) (fun h => h hst9) (by rw [nI_clamp (n := i1) (by omega)]; exact ⟨rfl, rfl⟩)) (Nat.le_of_ble_eq_true rfl) (Nat.le_of_ble_eq_true rfl) d_M_move_126
            · skip
              refine lv_aload_n hx hb d_M_move_66 rfl (lv_at hl 0 rfl) ?_
              refine nw_get hx hb hts i_M hown hK hw (64) (mW_64) rfl 22 (by decide) (hts _ kw_681) (fun _ h9 => h9) rfl d_M_move_67 ?_
              refine lv_iload_n hx hb d_M_move_70 rfl (lv_at hl 3 rfl) ?_
              refine lv_aload_n hx hb d_M_move_71 rfl (lv_at hl 0 rfl) ?_
              refine nw_get hx hb hts i_M hown hK hw (64) (mW_64) rfl 0 (by decide) (hts _ kw_659) (fun _ h9 => h9) rfl d_M_move_72 ?_
              refine nw_iast hx hb hK hw hS (193) 0 (mW_row (t := 5) (j := 13) (by decide) (by decide) (rfl)) rfl (c) (rfl) (by omega) (by omega) d_M_move_75 (fun H locs hw hS => ?_)
              have hw := mW_setRow (t := 5) (j := 13) (by decide) (by decide) (rfl) hw
              refine lv_iinc (v := nI (c + 1)) (lv' := [(3, .int (nI (c + 1))), (0, .ref (ad (64))), (1, .int (nI i1)), (2, .int (x2))]) hx hb d_M_move_76 hl (k := 3) rfl ((nI_succ _).symm) (by decide) rfl (fun ls hl => ?_)
              refine lv_goto (tgt := 51) hx hb d_M_move_79 (by decide) ?_
              have hw := nw_W.as (wn' := mW ad tC n (va_up J 0 (nI 0)) bw L bX aY (upR S 5 13 (flR (S 5 13) (nI (n 0)) (c + 1)))) hw (by rw [upR_upR, upR_self, flR_s])
              exact ih51 (c + 1) (by omega) (by omega) (fun h => absurd (show J 3 = 0 from c_63) h) _ _ ls hw hS (lv_sub hl [1, 2, 3, 0] rfl)
      exact loop51 (n 2 + 1) (0) (by omega) (by omega) (fun _ => rfl) _ _ ls hw hS (lv_sub hl [1, 2, 3, 0] rfl)
    · skip
      refine lv_iconst (v := nI 0) hx hb d_M_move_47 (by decide) ?_
      exact nw_iret hQ hx hb hr hlocks hw hS (nw_mo_bad (Wb := (fun t => mW ad tC n (va_up J 0 t) bw L bX aY S)) ha9 hs9 (b2_1 c_44)) (Nat.le_of_ble_eq_true rfl) (Nat.le_of_ble_eq_true rfl) d_M_move_48
  · skip
    have h1 : 0 ≤ x1 ∧ x1 < nI (n 2) := (show _ ↔ (0 ≤ x1 ∧ x1 < nI (n 2)) from in_n (by omega)).mp (b2_1 c_14)
    refine lv_iload_n hx hb d_M_move_17 rfl (lv_at hl 2 rfl) ?_
    refine lv_i2l (v := ((x2).toInt64)) hx hb d_M_move_18 rfl ?_
    refine lv_ldc2 (v := (-1)) hx hb hown (hts _ kw_892) d_M_move_19 ?_
    refine lv_aload_n hx hb d_M_move_22 rfl (lv_at hl 0 rfl) ?_
    refine nw_get hx hb hts i_M hown hK hw (64) (mW_64) rfl 0 (by decide) (hts _ kw_659) (fun _ h9 => h9) rfl d_M_move_23 ?_
    refine lv_iconst (v := nI 1) hx hb d_M_move_26 (by decide) ?_
    refine lv_isub hx hb d_M_move_27 ?_
    refine lv_i2l (v := ((((nI (n 0)) - (nI 1))).toInt64)) hx hb d_M_move_28 rfl ?_
    refine nw_callD (nw_goS (n := 3) (As := [.long (((x2).toInt64)), .long ((-1)), .long (((((nI (n 0)) - (nI 1))).toInt64))]) (rest := [.ref (ad (64))]) hSx hA hKs hw hS (c_M_in l D tC A ad n J bw L bX aY S S scm_rf hN (((x2).toInt64)) ((-1)) (((((nI (n 0)) - (nI 1))).toInt64))) kw_770 kw_768 kw_769 kw_8 rfl rfl (by decide +kernel) ⟨Nat.le_of_ble_eq_true rfl, Nat.le_of_ble_eq_true rfl⟩ rfl hl.1 (Nat.le_of_ble_eq_true rfl) d_M_move_29 ⟨Nat.le_of_ble_eq_true rfl, Nat.le_of_ble_eq_true rfl⟩) hS (fun H locs hw hS => ?_)
    refine lv_if_eq (tgt := 39) hx hb d_M_move_32 (by decide) (fun c_32 => ?_) (fun c_32 => ?_)
    · skip
      have hneg : ¬ ((0 ≤ x1 ∧ x1 < nI (n 2)) ∧ (x2 = -1 ∨ (0 ≤ x2 ∧ x2 < nI (n 0)))) := fun h => b2_0 c_32 ((show _ ↔ (x2 = -1 ∨ (0 ≤ x2 ∧ x2 < nI (n 0))) from in_m (by omega)).mpr (h.2))
      refine lv_iconst (v := nI 0) hx hb d_M_move_39 (by decide) ?_
      refine lv_iconst (v := nI 1) hx hb d_M_move_40 (by decide) ?_
      have ha9 : nI 0 = 0 ↔ ¬ ((0 ≤ x1 ∧ x1 < nI (n 2)) ∧ (x2 = -1 ∨ (0 ≤ x2 ∧ x2 < nI (n 0)))) := ⟨fun _ => hneg, fun _ => rfl⟩
      have hs9 : nI 1 = 0 ↔ ¬ (True) := ⟨fun h => absurd h (by decide), fun h => absurd trivial h⟩
      refine nw_callD (nw_goV (n := 2) (As := [.int (nI 0), .int (nI 1)]) (rest := []) hSx hA hKs hw hS (c_M_refuses l D tC A ad n J bw L bX aY S hN (nI 0) (nI 1)) kw_774 kw_771 kw_773 ks_M_refuses kw_8 rfl rfl (by decide +kernel) ⟨Nat.le_of_ble_eq_true rfl, Nat.le_of_ble_eq_true rfl⟩ (nw_recv hK hw (mW_64) rfl) rfl hl.1 (Nat.le_of_ble_eq_true rfl) d_M_move_41 ⟨Nat.le_of_ble_eq_true rfl, Nat.le_of_ble_eq_true rfl⟩) hS (fun H locs hw hS => ?_)
      refine lv_if_eq (tgt := 49) hx hb d_M_move_44 (by decide) (fun c_44 => ?_) (fun c_44 => ?_)
      · skip
        have hno9 := b2_0 c_44
        have hok9 : (0 ≤ x1 ∧ x1 < nI (n 2)) ∧ (x2 = -1 ∨ (0 ≤ x2 ∧ x2 < nI (n 0))) := Classical.not_not.mp (fun h => hno9 (Or.inl (ha9.mpr h)))
        have hst9 : True := Classical.not_not.mp (fun h => hno9 (Or.inr (hs9.mpr h)))
        obtain ⟨i1, rfl, hi1⟩ := nat_of (by omega) hok9.1
        have hw := nw_W.as (wn' := mW ad tC n (va_up J 0 (nI 0)) bw L bX aY S) hw (by rw [rfI_ok hno9])
        refine lv_iconst (v := nI 0) hx hb d_M_move_49 (by decide) ?_
        refine lv_istore_n (lv' := [(3, .int (nI 0)), (0, .ref (ad (64))), (1, .int (nI i1)), (2, .int (x2))]) hx hb d_M_move_50 rfl hl (by decide) rfl (fun ls hl => ?_)
        have hw := nw_W.as (wn' := mW ad tC n (va_up J 0 (nI 0)) bw L bX aY (upR S 5 13 (flR (S 5 13) (nI (n 0)) 0))) hw (by rw [flR_0, upR_same])
        have loop51 : ∀ (k c : Nat), c ≤ n 2 → n 2 + 1 ≤ c + k → (¬ J 3 = 0 → c = 0) → ∀ (H : Heap) (locs : List Loc) (ls : Array Slot), nw_W D hpC A (mW ad tC n (va_up J 0 (nI 0)) bw L bX aY (upR S 5 13 (flR (S 5 13) (nI (n 0)) c))) ad H → va_S A s.heap H locs → lv_has ls 4 [(0, .ref (ad (64))), (1, .int (nI i1)), (2, .int (x2)), (3, .int (nI c))] → W p l e ({ frames := 1, cells := 0, slots := 0, locals := 25 } : Room) s m args below meth cd H locs 0 0 Q (F0 m 51 ls []) := by
          intro k
          induction k with
          | zero => intro c h1 h2; exact absurd h2 (by omega)
          | succ k ih51 =>
            intro c hv51 hk51 hc0 H locs ls hw hS hl
            refine lv_iload_n hx hb d_M_move_51 rfl (lv_at hl 3 rfl) ?_
            refine lv_aload_n hx hb d_M_move_52 rfl (lv_at hl 0 rfl) ?_
            refine nw_get hx hb hts i_M hown hK hw (64) (mW_64) rfl 5 (by decide) (hts _ kw_664) (fun _ h9 => h9) rfl d_M_move_53 ?_
            refine lv_icmp_ge (tgt := 82) hx hb d_M_move_56 (by decide) (fun c_56 => ?_) (fun c_56 => ?_)
            · skip
              have hge : n 2 ≤ c := (nI_leI (by omega) (by omega)).mp c_56
              obtain rfl : n 2 = c := by omega
              have hmv : flR (S 5 13) (nI (n 0)) (n 2) = mvP n J S := by
                unfold mvP
                by_cases h9 : J 3 = 0
                · rw [if_pos h9]
                · rw [if_neg h9, hc0 h9, flR_0]
              have hw := nw_W.as (wn' := mW ad tC n (va_up J 0 (nI 0)) bw L bX aY (upR S 5 13 (mvP n J S))) hw (by rw [hmv])
              refine lv_aload_n hx hb d_M_move_82 rfl (lv_at hl 0 rfl) ?_
              refine lv_iconst (v := nI 1) hx hb d_M_move_83 (by decide) ?_
              refine nw_put (v := .int (nI 1)) (ty := .boolean) hx hb hts i_M t_M tk_M n_M hown hK hw hS (64) (mW_64) rfl 21 (by decide) (hts _ kw_680) (fun _ h9 => h9) rfl (by decide +kernel) (rfl) (rfl) (Nat.le_of_ble_eq_true rfl) d_M_move_84 (fun H locs hw hS => ?_)
              have hw := nw_W.as (wn' := mW ad tC n (va_up (va_up J 0 (nI 0)) 3 (nI 1)) bw L bX aY (upR S 5 13 (mvP n J S))) (mW_setO (n' := n) (J' := (va_up (va_up J 0 (nI 0)) 3 (nI 1))) (bw' := bw) rfl hw) rfl
              refine lv_aload_n hx hb d_M_move_87 rfl (lv_at hl 0 rfl) ?_
              refine nw_get hx hb hts i_M hown hK hw (64) (mW_64) rfl 22 (by decide) (hts _ kw_681) (fun _ h9 => h9) rfl d_M_move_88 ?_
              refine lv_iload_n hx hb d_M_move_91 rfl (lv_at hl 1 rfl) ?_
              refine nw_iald hx hb hK hw (193) 0 (mW_row (t := 5) (j := 13) (by decide) (by decide) (rfl)) rfl (i1) (rfl) (by omega) (by omega) d_M_move_92 ?_
              refine lv_ei (y := (upR S 5 13 (mvP n J S)) 5 13 i1) (congrFun (scm_rf 5 13 (by omega)) _) ?_
              refine lv_ei (y := (mvP n J S) i1) (congrFun upR_self _) ?_
              refine lv_istore_n (lv' := [(3, .int ((mvP n J S) i1)), (0, .ref (ad (64))), (1, .int (nI i1)), (2, .int (x2))]) hx hb d_M_move_93 rfl hl (by decide) rfl (fun ls hl => ?_)
              refine lv_aload_n hx hb d_M_move_94 rfl (lv_at hl 1 rfl) ?_
              refine nw_get hx hb hts i_M hown hK hw (64) (mW_64) rfl 22 (by decide) (hts _ kw_681) (fun _ h9 => h9) rfl d_M_move_95 ?_
              refine lv_iload_n hx hb d_M_move_98 rfl (lv_at hl 2 rfl) ?_
              refine lv_iload_n hx hb d_M_move_99 rfl (lv_at hl 3 rfl) ?_
              refine lv_iconst (v := (-1)) hx hb d_M_move_100 (by decide) ?_
              refine lv_icmp_ne (tgt := 111) hx hb d_M_move_101 (by decide) (fun c_101 => ?_) (fun c_101 => ?_)
              · skip
                have ex2 : x2 = (if x2 = -1 then nI (n 0) else x2) := (if_neg c_101).symm
                refine lv_iload_n hx hb d_M_move_111 rfl (lv_at hl 3 rfl) ?_
                refine lv_ei (y := (if x2 = -1 then nI (n 0) else x2)) ex2 ?_
                refine nw_iast hx hb hK hw hS (193) 0 (mW_row (t := 5) (j := 13) (by decide) (by decide) (rfl)) rfl (i1) (rfl) (by omega) (by omega) d_M_move_112 (fun H locs hw hS => ?_)
                have hw := mW_setRow (t := 5) (j := 13) (by decide) (by decide) (rfl) hw
                have hw := nw_W.as (wn' := mW ad tC n (va_up (va_up J 0 (nI 0)) 3 (nI 1)) bw L bX aY (upR S 5 13 (upd (mvP n J S) i1 (if x2 = -1 then nI (n 0) else x2)))) hw (by rw [upR_upR, upR_self])
                refine lv_iload_n hx hb d_M_move_113 rfl (lv_at hl 0 rfl) ?_
                refine lv_aload_n hx hb d_M_move_114 rfl (lv_at hl 1 rfl) ?_
                refine nw_get hx hb hts i_M hown hK hw (64) (mW_64) rfl 0 (by decide) (hts _ kw_659) (fun _ h9 => h9) rfl d_M_move_115 ?_
                refine lv_icmp_ne (tgt := 125) hx hb d_M_move_118 (by decide) (fun c_118 => ?_) (fun c_118 => ?_)
                · skip
                  have hres : (mvP n J S) i1 = (if (mvP n J S) i1 = nI (n 0) then -1 else (mvP n J S) i1) := (if_neg c_118).symm
                  refine lv_iload_n hx hb d_M_move_125 rfl (lv_at hl 0 rfl) ?_
                  refine lv_ei (y := (if (mvP n J S) i1 = nI (n 0) then -1 else (mvP n J S) i1)) hres ?_
                  exact nw_iret hQ hx hb hr hlocks hw hS (nw_mo_ok (fun h => h hok9) (fun h => h hst9) (by rw [nI_clamp (n := i1) (by omega)]; exact ⟨rfl, rfl⟩)) (Nat.le_of_ble_eq_true rfl) (Nat.le_of_ble_eq_true rfl) d_M_move_126
                · skip
                  have hres : ((-1) : Int32) = (if (mvP n J S) i1 = nI (n 0) then -1 else (mvP n J S) i1) := (if_pos c_118).symm
                  refine lv_iconst (v := (-1)) hx hb d_M_move_121 (by decide) ?_
                  refine lv_goto (tgt := 126) hx hb d_M_move_122 (by decide) ?_
                  refine lv_ei (y := (if (mvP n J S) i1 = nI (n 0) then -1 else (mvP n J S) i1)) hres ?_
                  exact nw_iret hQ hx hb hr hlocks hw hS (nw_mo_ok (fun h => h hok9) (fun h => h hst9) (by rw [nI_clamp (n := i1) (by omega)]; exact ⟨rfl, rfl⟩)) (Nat.le_of_ble_eq_true rfl) (Nat.le_of_ble_eq_true rfl) d_M_move_126
              · skip
                have ex2 : nI (n 0) = (if x2 = -1 then nI (n 0) else x2) := (if_pos c_101).symm
                refine lv_aload_n hx hb d_M_move_104 rfl (lv_at hl 1 rfl) ?_
                refine nw_get hx hb hts i_M hown hK hw (64) (mW_64) rfl 0 (by decide) (hts _ kw_659) (fun _ h9 => h9) rfl d_M_move_105 ?_
                refine lv_goto (tgt := 112) hx hb d_M_move_108 (by decide) ?_
                refine lv_ei (y := (if x2 = -1 then nI (n 0) else x2)) ex2 ?_
                refine nw_iast hx hb hK hw hS (193) 0 (mW_row (t := 5) (j := 13) (by decide) (by decide) (rfl)) rfl (i1) (rfl) (by omega) (by omega) d_M_move_112 (fun H locs hw hS => ?_)
                have hw := mW_setRow (t := 5) (j := 13) (by decide) (by decide) (rfl) hw
                have hw := nw_W.as (wn' := mW ad tC n (va_up (va_up J 0 (nI 0)) 3 (nI 1)) bw L bX aY (upR S 5 13 (upd (mvP n J S) i1 (if x2 = -1 then nI (n 0) else x2)))) hw (by rw [upR_upR, upR_self])
                refine lv_iload_n hx hb d_M_move_113 rfl (lv_at hl 0 rfl) ?_
                refine lv_aload_n hx hb d_M_move_114 rfl (lv_at hl 1 rfl) ?_
                refine nw_get hx hb hts i_M hown hK hw (64) (mW_64) rfl 0 (by decide) (hts _ kw_659) (fun _ h9 => h9) rfl d_M_move_115 ?_
                refine lv_icmp_ne (tgt := 125) hx hb d_M_move_118 (by decide) (fun c_118 => ?_) (fun c_118 => ?_)
                · skip
                  have hres : (mvP n J S) i1 = (if (mvP n J S) i1 = nI (n 0) then -1 else (mvP n J S) i1) := (if_neg c_118).symm
                  refine lv_iload_n hx hb d_M_move_125 rfl (lv_at hl 0 rfl) ?_
                  refine lv_ei (y := (if (mvP n J S) i1 = nI (n 0) then -1 else (mvP n J S) i1)) hres ?_
                  exact nw_iret hQ hx hb hr hlocks hw hS (nw_mo_ok (fun h => h hok9) (fun h => h hst9) (by rw [nI_clamp (n := i1) (by omega)]; exact ⟨rfl, rfl⟩)) (Nat.le_of_ble_eq_true rfl) (Nat.le_of_ble_eq_true rfl) d_M_move_126
                · skip
                  have hres : ((-1) : Int32) = (if (mvP n J S) i1 = nI (n 0) then -1 else (mvP n J S) i1) := (if_pos c_118).symm
                  refine lv_iconst (v := (-1)) hx hb d_M_move_121 (by decide) ?_
                  refine lv_goto (tgt := 126) hx hb d_M_move_122 (by decide) ?_
                  refine lv_ei (y := (if (mvP n J S) i1 = nI (n 0) then -1 else (mvP n J S) i1)) hres ?_
                  exact nw_iret hQ hx hb hr hlocks hw hS (nw_mo_ok (fun h => h hok9) (fun h => h hst9) (by rw [nI_clamp (n := i1) (by omega)]; exact ⟨rfl, rfl⟩)) (Nat.le_of_ble_eq_true rfl) (Nat.le_of_ble_eq_true rfl) d_M_move_126
            · skip
              have hlt : c < n 2 := Nat.not_le.mp (fun q => c_56 (nI_le q (by omega)))
              refine lv_aload_n hx hb d_M_move_59 rfl (lv_at hl 0 rfl) ?_
              refine nw_get hx hb hts i_M hown hK hw (64) (mW_64) rfl 21 (by decide) (hts _ kw_680) (fun _ h9 => h9) rfl d_M_move_60 ?_
              refine lv_if_ne (tgt := 82) hx hb d_M_move_63 (by decide) (fun c_63 => ?_) (fun c_63 => ?_)
              · skip
                have hmv : flR (S 5 13) (nI (n 0)) c = mvP n J S := by
                  unfold mvP
                  rw [if_neg (show ¬ J 3 = 0 from c_63), hc0 c_63, flR_0]
                have hw := nw_W.as (wn' := mW ad tC n (va_up J 0 (nI 0)) bw L bX aY (upR S 5 13 (mvP n J S))) hw (by rw [hmv])
                refine lv_aload_n hx hb d_M_move_82 rfl (lv_at hl 0 rfl) ?_
                refine lv_iconst (v := nI 1) hx hb d_M_move_83 (by decide) ?_
                refine nw_put (v := .int (nI 1)) (ty := .boolean) hx hb hts i_M t_M tk_M n_M hown hK hw hS (64) (mW_64) rfl 21 (by decide) (hts _ kw_680) (fun _ h9 => h9) rfl (by decide +kernel) (rfl) (rfl) (Nat.le_of_ble_eq_true rfl) d_M_move_84 (fun H locs hw hS => ?_)
                have hw := nw_W.as (wn' := mW ad tC n (va_up (va_up J 0 (nI 0)) 3 (nI 1)) bw L bX aY (upR S 5 13 (mvP n J S))) (mW_setO (n' := n) (J' := (va_up (va_up J 0 (nI 0)) 3 (nI 1))) (bw' := bw) rfl hw) rfl
                refine lv_aload_n hx hb d_M_move_87 rfl (lv_at hl 0 rfl) ?_
                refine nw_get hx hb hts i_M hown hK hw (64) (mW_64) rfl 22 (by decide) (hts _ kw_681) (fun _ h9 => h9) rfl d_M_move_88 ?_
                refine lv_iload_n hx hb d_M_move_91 rfl (lv_at hl 1 rfl) ?_
                refine nw_iald hx hb hK hw (193) 0 (mW_row (t := 5) (j := 13) (by decide) (by decide) (rfl)) rfl (i1) (rfl) (by omega) (by omega) d_M_move_92 ?_
                refine lv_ei (y := (upR S 5 13 (mvP n J S)) 5 13 i1) (congrFun (scm_rf 5 13 (by omega)) _) ?_
                refine lv_ei (y := (mvP n J S) i1) (congrFun upR_self _) ?_
                refine lv_istore_n (lv' := [(3, .int ((mvP n J S) i1)), (0, .ref (ad (64))), (1, .int (nI i1)), (2, .int (x2))]) hx hb d_M_move_93 rfl hl (by decide) rfl (fun ls hl => ?_)
                refine lv_aload_n hx hb d_M_move_94 rfl (lv_at hl 1 rfl) ?_
                refine nw_get hx hb hts i_M hown hK hw (64) (mW_64) rfl 22 (by decide) (hts _ kw_681) (fun _ h9 => h9) rfl d_M_move_95 ?_
                refine lv_iload_n hx hb d_M_move_98 rfl (lv_at hl 2 rfl) ?_
                refine lv_iload_n hx hb d_M_move_99 rfl (lv_at hl 3 rfl) ?_
                refine lv_iconst (v := (-1)) hx hb d_M_move_100 (by decide) ?_
                refine lv_icmp_ne (tgt := 111) hx hb d_M_move_101 (by decide) (fun c_101 => ?_) (fun c_101 => ?_)
                · skip
                  have ex2 : x2 = (if x2 = -1 then nI (n 0) else x2) := (if_neg c_101).symm
                  refine lv_iload_n hx hb d_M_move_111 rfl (lv_at hl 3 rfl) ?_
                  refine lv_ei (y := (if x2 = -1 then nI (n 0) else x2)) ex2 ?_
                  refine nw_iast hx hb hK hw hS (193) 0 (mW_row (t := 5) (j := 13) (by decide) (by decide) (rfl)) rfl (i1) (rfl) (by omega) (by omega) d_M_move_112 (fun H locs hw hS => ?_)
                  have hw := mW_setRow (t := 5) (j := 13) (by decide) (by decide) (rfl) hw
                  have hw := nw_W.as (wn' := mW ad tC n (va_up (va_up J 0 (nI 0)) 3 (nI 1)) bw L bX aY (upR S 5 13 (upd (mvP n J S) i1 (if x2 = -1 then nI (n 0) else x2)))) hw (by rw [upR_upR, upR_self])
                  refine lv_iload_n hx hb d_M_move_113 rfl (lv_at hl 0 rfl) ?_
                  refine lv_aload_n hx hb d_M_move_114 rfl (lv_at hl 1 rfl) ?_
                  refine nw_get hx hb hts i_M hown hK hw (64) (mW_64) rfl 0 (by decide) (hts _ kw_659) (fun _ h9 => h9) rfl d_M_move_115 ?_
                  refine lv_icmp_ne (tgt := 125) hx hb d_M_move_118 (by decide) (fun c_118 => ?_) (fun c_118 => ?_)
                  · skip
                    have hres : (mvP n J S) i1 = (if (mvP n J S) i1 = nI (n 0) then -1 else (mvP n J S) i1) := (if_neg c_118).symm
                    refine lv_iload_n hx hb d_M_move_125 rfl (lv_at hl 0 rfl) ?_
                    refine lv_ei (y := (if (mvP n J S) i1 = nI (n 0) then -1 else (mvP n J S) i1)) hres ?_
                    exact nw_iret hQ hx hb hr hlocks hw hS (nw_mo_ok (fun h => h hok9) (fun h => h hst9) (by rw [nI_clamp (n := i1) (by omega)]; exact ⟨rfl, rfl⟩)) (Nat.le_of_ble_eq_true rfl) (Nat.le_of_ble_eq_true rfl) d_M_move_126
                  · skip
                    have hres : ((-1) : Int32) = (if (mvP n J S) i1 = nI (n 0) then -1 else (mvP n J S) i1) := (if_pos c_118).symm
                    refine lv_iconst (v := (-1)) hx hb d_M_move_121 (by decide) ?_
                    refine lv_goto (tgt := 126) hx hb d_M_move_122 (by decide) ?_
                    refine lv_ei (y := (if (mvP n J S) i1 = nI (n 0) then -1 else (mvP n J S) i1)) hres ?_
                    exact nw_iret hQ hx hb hr hlocks hw hS (nw_mo_ok (fun h => h hok9) (fun h => h hst9) (by rw [nI_clamp (n := i1) (by omega)]; exact ⟨rfl, rfl⟩)) (Nat.le_of_ble_eq_true rfl) (Nat.le_of_ble_eq_true rfl) d_M_move_126
                · skip
                  have ex2 : nI (n 0) = (if x2 = -1 then nI (n 0) else x2) := (if_pos c_101).symm
                  refine lv_aload_n hx hb d_M_move_104 rfl (lv_at hl 1 rfl) ?_
                  refine nw_get hx hb hts i_M hown hK hw (64) (mW_64) rfl 0 (by decide) (hts _ kw_659) (fun _ h9 => h9) rfl d_M_move_105 ?_
                  refine lv_goto (tgt := 112) hx hb d_M_move_108 (by decide) ?_
                  refine lv_ei (y := (if x2 = -1 then nI (n 0) else x2)) ex2 ?_
                  refine nw_iast hx hb hK hw hS (193) 0 (mW_row (t := 5) (j := 13) (by decide) (by decide) (rfl)) rfl (i1) (rfl) (by omega) (by omega) d_M_move_112 (fun H locs hw hS => ?_)
                  have hw := mW_setRow (t := 5) (j := 13) (by decide) (by decide) (rfl) hw
                  have hw := nw_W.as (wn' := mW ad tC n (va_up (va_up J 0 (nI 0)) 3 (nI 1)) bw L bX aY (upR S 5 13 (upd (mvP n J S) i1 (if x2 = -1 then nI (n 0) else x2)))) hw (by rw [upR_upR, upR_self])
                  refine lv_iload_n hx hb d_M_move_113 rfl (lv_at hl 0 rfl) ?_
                  refine lv_aload_n hx hb d_M_move_114 rfl (lv_at hl 1 rfl) ?_
                  refine nw_get hx hb hts i_M hown hK hw (64) (mW_64) rfl 0 (by decide) (hts _ kw_659) (fun _ h9 => h9) rfl d_M_move_115 ?_
                  refine lv_icmp_ne (tgt := 125) hx hb d_M_move_118 (by decide) (fun c_118 => ?_) (fun c_118 => ?_)
                  · skip
                    have hres : (mvP n J S) i1 = (if (mvP n J S) i1 = nI (n 0) then -1 else (mvP n J S) i1) := (if_neg c_118).symm
                    refine lv_iload_n hx hb d_M_move_125 rfl (lv_at hl 0 rfl) ?_
                    refine lv_ei (y := (if (mvP n J S) i1 = nI (n 0) then -1 else (mvP n J S) i1)) hres ?_
                    exact nw_iret hQ hx hb hr hlocks hw hS (nw_mo_ok (fun h => h hok9) (fun h => h hst9) (by rw [nI_clamp (n := i1) (by omega)]; exact ⟨rfl, rfl⟩)) (Nat.le_of_ble_eq_true rfl) (Nat.le_of_ble_eq_true rfl) d_M_move_126
                  · skip
                    have hres : ((-1) : Int32) = (if (mvP n J S) i1 = nI (n 0) then -1 else (mvP n J S) i1) := (if_pos c_118).symm
                    refine lv_iconst (v := (-1)) hx hb d_M_move_121 (by decide) ?_
                    refine lv_goto (tgt := 126) hx hb d_M_move_122 (by decide) ?_
                    refine lv_ei (y := (if (mvP n J S) i1 = nI (n 0) then -1 else (mvP n J S) i1)) hres ?_
                    exact nw_iret hQ hx hb hr hlocks hw hS (nw_mo_ok (fun h => h hok9) (fun h => h hst9) (by rw [nI_clamp (n := i1) (by omega)]; exact ⟨rfl, rfl⟩)) (Nat.le_of_ble_eq_true rfl) (Nat.le_of_ble_eq_true rfl) d_M_move_126
              · skip
                refine lv_aload_n hx hb d_M_move_66 rfl (lv_at hl 0 rfl) ?_
                refine nw_get hx hb hts i_M hown hK hw (64) (mW_64) rfl 22 (by decide) (hts _ kw_681) (fun _ h9 => h9) rfl d_M_move_67 ?_
                refine lv_iload_n hx hb d_M_move_70 rfl (lv_at hl 3 rfl) ?_
                refine lv_aload_n hx hb d_M_move_71 rfl (lv_at hl 0 rfl) ?_
                refine nw_get hx hb hts i_M hown hK hw (64) (mW_64) rfl 0 (by decide) (hts _ kw_659) (fun _ h9 => h9) rfl d_M_move_72 ?_
                refine nw_iast hx hb hK hw hS (193) 0 (mW_row (t := 5) (j := 13) (by decide) (by decide) (rfl)) rfl (c) (rfl) (by omega) (by omega) d_M_move_75 (fun H locs hw hS => ?_)
                have hw := mW_setRow (t := 5) (j := 13) (by decide) (by decide) (rfl) hw
                refine lv_iinc (v := nI (c + 1)) (lv' := [(3, .int (nI (c + 1))), (0, .ref (ad (64))), (1, .int (nI i1)), (2, .int (x2))]) hx hb d_M_move_76 hl (k := 3) rfl ((nI_succ _).symm) (by decide) rfl (fun ls hl => ?_)
                refine lv_goto (tgt := 51) hx hb d_M_move_79 (by decide) ?_
                have hw := nw_W.as (wn' := mW ad tC n (va_up J 0 (nI 0)) bw L bX aY (upR S 5 13 (flR (S 5 13) (nI (n 0)) (c + 1)))) hw (by rw [upR_upR, upR_self, flR_s])
                exact ih51 (c + 1) (by omega) (by omega) (fun h => absurd (show J 3 = 0 from c_63) h) _ _ ls hw hS (lv_sub hl [1, 2, 3, 0] rfl)
        exact loop51 (n 2 + 1) (0) (by omega) (by omega) (fun _ => rfl) _ _ ls hw hS (lv_sub hl [1, 2, 3, 0] rfl)
      · skip
        refine lv_iconst (v := nI 0) hx hb d_M_move_47 (by decide) ?_
        exact nw_iret hQ hx hb hr hlocks hw hS (nw_mo_bad (Wb := (fun t => mW ad tC n (va_up J 0 t) bw L bX aY S)) ha9 hs9 (b2_1 c_44)) (Nat.le_of_ble_eq_true rfl) (Nat.le_of_ble_eq_true rfl) d_M_move_48
    · skip
      have h2 : x2 = -1 ∨ (0 ≤ x2 ∧ x2 < nI (n 0)) := (show _ ↔ (x2 = -1 ∨ (0 ≤ x2 ∧ x2 < nI (n 0))) from in_m (by omega)).mp (b2_1 c_32)
      refine lv_iconst (v := nI 1) hx hb d_M_move_35 (by decide) ?_
      refine lv_goto (tgt := 40) hx hb d_M_move_36 (by decide) ?_
      refine lv_iconst (v := nI 1) hx hb d_M_move_40 (by decide) ?_
      have ha9 : nI 1 = 0 ↔ ¬ ((0 ≤ x1 ∧ x1 < nI (n 2)) ∧ (x2 = -1 ∨ (0 ≤ x2 ∧ x2 < nI (n 0)))) := ⟨fun h => absurd h (by decide), fun h => absurd ⟨h1, h2⟩ h⟩
      have hs9 : nI 1 = 0 ↔ ¬ (True) := ⟨fun h => absurd h (by decide), fun h => absurd trivial h⟩
      refine nw_callD (nw_goV (n := 2) (As := [.int (nI 1), .int (nI 1)]) (rest := []) hSx hA hKs hw hS (c_M_refuses l D tC A ad n J bw L bX aY S hN (nI 1) (nI 1)) kw_774 kw_771 kw_773 ks_M_refuses kw_8 rfl rfl (by decide +kernel) ⟨Nat.le_of_ble_eq_true rfl, Nat.le_of_ble_eq_true rfl⟩ (nw_recv hK hw (mW_64) rfl) rfl hl.1 (Nat.le_of_ble_eq_true rfl) d_M_move_41 ⟨Nat.le_of_ble_eq_true rfl, Nat.le_of_ble_eq_true rfl⟩) hS (fun H locs hw hS => ?_)
      refine lv_if_eq (tgt := 49) hx hb d_M_move_44 (by decide) (fun c_44 => ?_) (fun c_44 => ?_)
      · skip
        have hno9 := b2_0 c_44
        have hok9 : (0 ≤ x1 ∧ x1 < nI (n 2)) ∧ (x2 = -1 ∨ (0 ≤ x2 ∧ x2 < nI (n 0))) := Classical.not_not.mp (fun h => hno9 (Or.inl (ha9.mpr h)))
        have hst9 : True := Classical.not_not.mp (fun h => hno9 (Or.inr (hs9.mpr h)))
        obtain ⟨i1, rfl, hi1⟩ := nat_of (by omega) hok9.1
        have hw := nw_W.as (wn' := mW ad tC n (va_up J 0 (nI 0)) bw L bX aY S) hw (by rw [rfI_ok hno9])
        refine lv_iconst (v := nI 0) hx hb d_M_move_49 (by decide) ?_
        refine lv_istore_n (lv' := [(3, .int (nI 0)), (0, .ref (ad (64))), (1, .int (nI i1)), (2, .int (x2))]) hx hb d_M_move_50 rfl hl (by decide) rfl (fun ls hl => ?_)
        have hw := nw_W.as (wn' := mW ad tC n (va_up J 0 (nI 0)) bw L bX aY (upR S 5 13 (flR (S 5 13) (nI (n 0)) 0))) hw (by rw [flR_0, upR_same])
        have loop51 : ∀ (k c : Nat), c ≤ n 2 → n 2 + 1 ≤ c + k → (¬ J 3 = 0 → c = 0) → ∀ (H : Heap) (locs : List Loc) (ls : Array Slot), nw_W D hpC A (mW ad tC n (va_up J 0 (nI 0)) bw L bX aY (upR S 5 13 (flR (S 5 13) (nI (n 0)) c))) ad H → va_S A s.heap H locs → lv_has ls 4 [(0, .ref (ad (64))), (1, .int (nI i1)), (2, .int (x2)), (3, .int (nI c))] → W p l e ({ frames := 1, cells := 0, slots := 0, locals := 25 } : Room) s m args below meth cd H locs 0 0 Q (F0 m 51 ls []) := by
          intro k
          induction k with
          | zero => intro c h1 h2; exact absurd h2 (by omega)
          | succ k ih51 =>
            intro c hv51 hk51 hc0 H locs ls hw hS hl
            refine lv_iload_n hx hb d_M_move_51 rfl (lv_at hl 3 rfl) ?_
            refine lv_aload_n hx hb d_M_move_52 rfl (lv_at hl 0 rfl) ?_
            refine nw_get hx hb hts i_M hown hK hw (64) (mW_64) rfl 5 (by decide) (hts _ kw_664) (fun _ h9 => h9) rfl d_M_move_53 ?_
            refine lv_icmp_ge (tgt := 82) hx hb d_M_move_56 (by decide) (fun c_56 => ?_) (fun c_56 => ?_)
            · skip
              have hge : n 2 ≤ c := (nI_leI (by omega) (by omega)).mp c_56
              obtain rfl : n 2 = c := by omega
              have hmv : flR (S 5 13) (nI (n 0)) (n 2) = mvP n J S := by
                unfold mvP
                by_cases h9 : J 3 = 0
                · rw [if_pos h9]
                · rw [if_neg h9, hc0 h9, flR_0]
              have hw := nw_W.as (wn' := mW ad tC n (va_up J 0 (nI 0)) bw L bX aY (upR S 5 13 (mvP n J S))) hw (by rw [hmv])
              refine lv_aload_n hx hb d_M_move_82 rfl (lv_at hl 0 rfl) ?_
              refine lv_iconst (v := nI 1) hx hb d_M_move_83 (by decide) ?_
              refine nw_put (v := .int (nI 1)) (ty := .boolean) hx hb hts i_M t_M tk_M n_M hown hK hw hS (64) (mW_64) rfl 21 (by decide) (hts _ kw_680) (fun _ h9 => h9) rfl (by decide +kernel) (rfl) (rfl) (Nat.le_of_ble_eq_true rfl) d_M_move_84 (fun H locs hw hS => ?_)
              have hw := nw_W.as (wn' := mW ad tC n (va_up (va_up J 0 (nI 0)) 3 (nI 1)) bw L bX aY (upR S 5 13 (mvP n J S))) (mW_setO (n' := n) (J' := (va_up (va_up J 0 (nI 0)) 3 (nI 1))) (bw' := bw) rfl hw) rfl
              refine lv_aload_n hx hb d_M_move_87 rfl (lv_at hl 0 rfl) ?_
              refine nw_get hx hb hts i_M hown hK hw (64) (mW_64) rfl 22 (by decide) (hts _ kw_681) (fun _ h9 => h9) rfl d_M_move_88 ?_
              refine lv_iload_n hx hb d_M_move_91 rfl (lv_at hl 1 rfl) ?_
              refine nw_iald hx hb hK hw (193) 0 (mW_row (t := 5) (j := 13) (by decide) (by decide) (rfl)) rfl (i1) (rfl) (by omega) (by omega) d_M_move_92 ?_
              refine lv_ei (y := (upR S 5 13 (mvP n J S)) 5 13 i1) (congrFun (scm_rf 5 13 (by omega)) _) ?_
              refine lv_ei (y := (mvP n J S) i1) (congrFun upR_self _) ?_
              refine lv_istore_n (lv' := [(3, .int ((mvP n J S) i1)), (0, .ref (ad (64))), (1, .int (nI i1)), (2, .int (x2))]) hx hb d_M_move_93 rfl hl (by decide) rfl (fun ls hl => ?_)
              refine lv_aload_n hx hb d_M_move_94 rfl (lv_at hl 1 rfl) ?_
              refine nw_get hx hb hts i_M hown hK hw (64) (mW_64) rfl 22 (by decide) (hts _ kw_681) (fun _ h9 => h9) rfl d_M_move_95 ?_
              refine lv_iload_n hx hb d_M_move_98 rfl (lv_at hl 2 rfl) ?_
              refine lv_iload_n hx hb d_M_move_99 rfl (lv_at hl 3 rfl) ?_
              refine lv_iconst (v := (-1)) hx hb d_M_move_100 (by decide) ?_
              refine lv_icmp_ne (tgt := 111) hx hb d_M_move_101 (by decide) (fun c_101 => ?_) (fun c_101 => ?_)
              · skip
                have ex2 : x2 = (if x2 = -1 then nI (n 0) else x2) := (if_neg c_101).symm
                refine lv_iload_n hx hb d_M_move_111 rfl (lv_at hl 3 rfl) ?_
                refine lv_ei (y := (if x2 = -1 then nI (n 0) else x2)) ex2 ?_
                refine nw_iast hx hb hK hw hS (193) 0 (mW_row (t := 5) (j := 13) (by decide) (by decide) (rfl)) rfl (i1) (rfl) (by omega) (by omega) d_M_move_112 (fun H locs hw hS => ?_)
                have hw := mW_setRow (t := 5) (j := 13) (by decide) (by decide) (rfl) hw
                have hw := nw_W.as (wn' := mW ad tC n (va_up (va_up J 0 (nI 0)) 3 (nI 1)) bw L bX aY (upR S 5 13 (upd (mvP n J S) i1 (if x2 = -1 then nI (n 0) else x2)))) hw (by rw [upR_upR, upR_self])
                refine lv_iload_n hx hb d_M_move_113 rfl (lv_at hl 0 rfl) ?_
                refine lv_aload_n hx hb d_M_move_114 rfl (lv_at hl 1 rfl) ?_
                refine nw_get hx hb hts i_M hown hK hw (64) (mW_64) rfl 0 (by decide) (hts _ kw_659) (fun _ h9 => h9) rfl d_M_move_115 ?_
                refine lv_icmp_ne (tgt := 125) hx hb d_M_move_118 (by decide) (fun c_118 => ?_) (fun c_118 => ?_)
                · skip
                  have hres : (mvP n J S) i1 = (if (mvP n J S) i1 = nI (n 0) then -1 else (mvP n J S) i1) := (if_neg c_118).symm
                  refine lv_iload_n hx hb d_M_move_125 rfl (lv_at hl 0 rfl) ?_
                  refine lv_ei (y := (if (mvP n J S) i1 = nI (n 0) then -1 else (mvP n J S) i1)) hres ?_
                  exact nw_iret hQ hx hb hr hlocks hw hS (nw_mo_ok (fun h => h hok9) (fun h => h hst9) (by rw [nI_clamp (n := i1) (by omega)]; exact ⟨rfl, rfl⟩)) (Nat.le_of_ble_eq_true rfl) (Nat.le_of_ble_eq_true rfl) d_M_move_126
                · skip
                  have hres : ((-1) : Int32) = (if (mvP n J S) i1 = nI (n 0) then -1 else (mvP n J S) i1) := (if_pos c_118).symm
                  refine lv_iconst (v := (-1)) hx hb d_M_move_121 (by decide) ?_
                  refine lv_goto (tgt := 126) hx hb d_M_move_122 (by decide) ?_
                  refine lv_ei (y := (if (mvP n J S) i1 = nI (n 0) then -1 else (mvP n J S) i1)) hres ?_
                  exact nw_iret hQ hx hb hr hlocks hw hS (nw_mo_ok (fun h => h hok9) (fun h => h hst9) (by rw [nI_clamp (n := i1) (by omega)]; exact ⟨rfl, rfl⟩)) (Nat.le_of_ble_eq_true rfl) (Nat.le_of_ble_eq_true rfl) d_M_move_126
              · skip
                have ex2 : nI (n 0) = (if x2 = -1 then nI (n 0) else x2) := (if_pos c_101).symm
                refine lv_aload_n hx hb d_M_move_104 rfl (lv_at hl 1 rfl) ?_
                refine nw_get hx hb hts i_M hown hK hw (64) (mW_64) rfl 0 (by decide) (hts _ kw_659) (fun _ h9 => h9) rfl d_M_move_105 ?_
                refine lv_goto (tgt := 112) hx hb d_M_move_108 (by decide) ?_
                refine lv_ei (y := (if x2 = -1 then nI (n 0) else x2)) ex2 ?_
                refine nw_iast hx hb hK hw hS (193) 0 (mW_row (t := 5) (j := 13) (by decide) (by decide) (rfl)) rfl (i1) (rfl) (by omega) (by omega) d_M_move_112 (fun H locs hw hS => ?_)
                have hw := mW_setRow (t := 5) (j := 13) (by decide) (by decide) (rfl) hw
                have hw := nw_W.as (wn' := mW ad tC n (va_up (va_up J 0 (nI 0)) 3 (nI 1)) bw L bX aY (upR S 5 13 (upd (mvP n J S) i1 (if x2 = -1 then nI (n 0) else x2)))) hw (by rw [upR_upR, upR_self])
                refine lv_iload_n hx hb d_M_move_113 rfl (lv_at hl 0 rfl) ?_
                refine lv_aload_n hx hb d_M_move_114 rfl (lv_at hl 1 rfl) ?_
                refine nw_get hx hb hts i_M hown hK hw (64) (mW_64) rfl 0 (by decide) (hts _ kw_659) (fun _ h9 => h9) rfl d_M_move_115 ?_
                refine lv_icmp_ne (tgt := 125) hx hb d_M_move_118 (by decide) (fun c_118 => ?_) (fun c_118 => ?_)
                · skip
                  have hres : (mvP n J S) i1 = (if (mvP n J S) i1 = nI (n 0) then -1 else (mvP n J S) i1) := (if_neg c_118).symm
                  refine lv_iload_n hx hb d_M_move_125 rfl (lv_at hl 0 rfl) ?_
                  refine lv_ei (y := (if (mvP n J S) i1 = nI (n 0) then -1 else (mvP n J S) i1)) hres ?_
                  exact nw_iret hQ hx hb hr hlocks hw hS (nw_mo_ok (fun h => h hok9) (fun h => h hst9) (by rw [nI_clamp (n := i1) (by omega)]; exact ⟨rfl, rfl⟩)) (Nat.le_of_ble_eq_true rfl) (Nat.le_of_ble_eq_true rfl) d_M_move_126
                · skip
                  have hres : ((-1) : Int32) = (if (mvP n J S) i1 = nI (n 0) then -1 else (mvP n J S) i1) := (if_pos c_118).symm
                  refine lv_iconst (v := (-1)) hx hb d_M_move_121 (by decide) ?_
                  refine lv_goto (tgt := 126) hx hb d_M_move_122 (by decide) ?_
                  refine lv_ei (y := (if (mvP n J S) i1 = nI (n 0) then -1 else (mvP n J S) i1)) hres ?_
                  exact nw_iret hQ hx hb hr hlocks hw hS (nw_mo_ok (fun h => h hok9) (fun h => h hst9) (by rw [nI_clamp (n := i1) (by omega)]; exact ⟨rfl, rfl⟩)) (Nat.le_of_ble_eq_true rfl) (Nat.le_of_ble_eq_true rfl) d_M_move_126
            · skip
              have hlt : c < n 2 := Nat.not_le.mp (fun q => c_56 (nI_le q (by omega)))
              refine lv_aload_n hx hb d_M_move_59 rfl (lv_at hl 0 rfl) ?_
              refine nw_get hx hb hts i_M hown hK hw (64) (mW_64) rfl 21 (by decide) (hts _ kw_680) (fun _ h9 => h9) rfl d_M_move_60 ?_
              refine lv_if_ne (tgt := 82) hx hb d_M_move_63 (by decide) (fun c_63 => ?_) (fun c_63 => ?_)
              · skip
                have hmv : flR (S 5 13) (nI (n 0)) c = mvP n J S := by
                  unfold mvP
                  rw [if_neg (show ¬ J 3 = 0 from c_63), hc0 c_63, flR_0]
                have hw := nw_W.as (wn' := mW ad tC n (va_up J 0 (nI 0)) bw L bX aY (upR S 5 13 (mvP n J S))) hw (by rw [hmv])
                refine lv_aload_n hx hb d_M_move_82 rfl (lv_at hl 0 rfl) ?_
                refine lv_iconst (v := nI 1) hx hb d_M_move_83 (by decide) ?_
                refine nw_put (v := .int (nI 1)) (ty := .boolean) hx hb hts i_M t_M tk_M n_M hown hK hw hS (64) (mW_64) rfl 21 (by decide) (hts _ kw_680) (fun _ h9 => h9) rfl (by decide +kernel) (rfl) (rfl) (Nat.le_of_ble_eq_true rfl) d_M_move_84 (fun H locs hw hS => ?_)
                have hw := nw_W.as (wn' := mW ad tC n (va_up (va_up J 0 (nI 0)) 3 (nI 1)) bw L bX aY (upR S 5 13 (mvP n J S))) (mW_setO (n' := n) (J' := (va_up (va_up J 0 (nI 0)) 3 (nI 1))) (bw' := bw) rfl hw) rfl
                refine lv_aload_n hx hb d_M_move_87 rfl (lv_at hl 0 rfl) ?_
                refine nw_get hx hb hts i_M hown hK hw (64) (mW_64) rfl 22 (by decide) (hts _ kw_681) (fun _ h9 => h9) rfl d_M_move_88 ?_
                refine lv_iload_n hx hb d_M_move_91 rfl (lv_at hl 1 rfl) ?_
                refine nw_iald hx hb hK hw (193) 0 (mW_row (t := 5) (j := 13) (by decide) (by decide) (rfl)) rfl (i1) (rfl) (by omega) (by omega) d_M_move_92 ?_
                refine lv_ei (y := (upR S 5 13 (mvP n J S)) 5 13 i1) (congrFun (scm_rf 5 13 (by omega)) _) ?_
                refine lv_ei (y := (mvP n J S) i1) (congrFun upR_self _) ?_
                refine lv_istore_n (lv' := [(3, .int ((mvP n J S) i1)), (0, .ref (ad (64))), (1, .int (nI i1)), (2, .int (x2))]) hx hb d_M_move_93 rfl hl (by decide) rfl (fun ls hl => ?_)
                refine lv_aload_n hx hb d_M_move_94 rfl (lv_at hl 1 rfl) ?_
                refine nw_get hx hb hts i_M hown hK hw (64) (mW_64) rfl 22 (by decide) (hts _ kw_681) (fun _ h9 => h9) rfl d_M_move_95 ?_
                refine lv_iload_n hx hb d_M_move_98 rfl (lv_at hl 2 rfl) ?_
                refine lv_iload_n hx hb d_M_move_99 rfl (lv_at hl 3 rfl) ?_
                refine lv_iconst (v := (-1)) hx hb d_M_move_100 (by decide) ?_
                refine lv_icmp_ne (tgt := 111) hx hb d_M_move_101 (by decide) (fun c_101 => ?_) (fun c_101 => ?_)
                · skip
                  have ex2 : x2 = (if x2 = -1 then nI (n 0) else x2) := (if_neg c_101).symm
                  refine lv_iload_n hx hb d_M_move_111 rfl (lv_at hl 3 rfl) ?_
                  refine lv_ei (y := (if x2 = -1 then nI (n 0) else x2)) ex2 ?_
                  refine nw_iast hx hb hK hw hS (193) 0 (mW_row (t := 5) (j := 13) (by decide) (by decide) (rfl)) rfl (i1) (rfl) (by omega) (by omega) d_M_move_112 (fun H locs hw hS => ?_)
                  have hw := mW_setRow (t := 5) (j := 13) (by decide) (by decide) (rfl) hw
                  have hw := nw_W.as (wn' := mW ad tC n (va_up (va_up J 0 (nI 0)) 3 (nI 1)) bw L bX aY (upR S 5 13 (upd (mvP n J S) i1 (if x2 = -1 then nI (n 0) else x2)))) hw (by rw [upR_upR, upR_self])
                  refine lv_iload_n hx hb d_M_move_113 rfl (lv_at hl 0 rfl) ?_
                  refine lv_aload_n hx hb d_M_move_114 rfl (lv_at hl 1 rfl) ?_
                  refine nw_get hx hb hts i_M hown hK hw (64) (mW_64) rfl 0 (by decide) (hts _ kw_659) (fun _ h9 => h9) rfl d_M_move_115 ?_
                  refine lv_icmp_ne (tgt := 125) hx hb d_M_move_118 (by decide) (fun c_118 => ?_) (fun c_118 => ?_)
                  · skip
                    have hres : (mvP n J S) i1 = (if (mvP n J S) i1 = nI (n 0) then -1 else (mvP n J S) i1) := (if_neg c_118).symm
                    refine lv_iload_n hx hb d_M_move_125 rfl (lv_at hl 0 rfl) ?_
                    refine lv_ei (y := (if (mvP n J S) i1 = nI (n 0) then -1 else (mvP n J S) i1)) hres ?_
                    exact nw_iret hQ hx hb hr hlocks hw hS (nw_mo_ok (fun h => h hok9) (fun h => h hst9) (by rw [nI_clamp (n := i1) (by omega)]; exact ⟨rfl, rfl⟩)) (Nat.le_of_ble_eq_true rfl) (Nat.le_of_ble_eq_true rfl) d_M_move_126
                  · skip
                    have hres : ((-1) : Int32) = (if (mvP n J S) i1 = nI (n 0) then -1 else (mvP n J S) i1) := (if_pos c_118).symm
                    refine lv_iconst (v := (-1)) hx hb d_M_move_121 (by decide) ?_
                    refine lv_goto (tgt := 126) hx hb d_M_move_122 (by decide) ?_
                    refine lv_ei (y := (if (mvP n J S) i1 = nI (n 0) then -1 else (mvP n J S) i1)) hres ?_
                    exact nw_iret hQ hx hb hr hlocks hw hS (nw_mo_ok (fun h => h hok9) (fun h => h hst9) (by rw [nI_clamp (n := i1) (by omega)]; exact ⟨rfl, rfl⟩)) (Nat.le_of_ble_eq_true rfl) (Nat.le_of_ble_eq_true rfl) d_M_move_126
                · skip
                  have ex2 : nI (n 0) = (if x2 = -1 then nI (n 0) else x2) := (if_pos c_101).symm
                  refine lv_aload_n hx hb d_M_move_104 rfl (lv_at hl 1 rfl) ?_
                  refine nw_get hx hb hts i_M hown hK hw (64) (mW_64) rfl 0 (by decide) (hts _ kw_659) (fun _ h9 => h9) rfl d_M_move_105 ?_
                  refine lv_goto (tgt := 112) hx hb d_M_move_108 (by decide) ?_
                  refine lv_ei (y := (if x2 = -1 then nI (n 0) else x2)) ex2 ?_
                  refine nw_iast hx hb hK hw hS (193) 0 (mW_row (t := 5) (j := 13) (by decide) (by decide) (rfl)) rfl (i1) (rfl) (by omega) (by omega) d_M_move_112 (fun H locs hw hS => ?_)
                  have hw := mW_setRow (t := 5) (j := 13) (by decide) (by decide) (rfl) hw
                  have hw := nw_W.as (wn' := mW ad tC n (va_up (va_up J 0 (nI 0)) 3 (nI 1)) bw L bX aY (upR S 5 13 (upd (mvP n J S) i1 (if x2 = -1 then nI (n 0) else x2)))) hw (by rw [upR_upR, upR_self])
                  refine lv_iload_n hx hb d_M_move_113 rfl (lv_at hl 0 rfl) ?_
                  refine lv_aload_n hx hb d_M_move_114 rfl (lv_at hl 1 rfl) ?_
                  refine nw_get hx hb hts i_M hown hK hw (64) (mW_64) rfl 0 (by decide) (hts _ kw_659) (fun _ h9 => h9) rfl d_M_move_115 ?_
                  refine lv_icmp_ne (tgt := 125) hx hb d_M_move_118 (by decide) (fun c_118 => ?_) (fun c_118 => ?_)
                  · skip
                    have hres : (mvP n J S) i1 = (if (mvP n J S) i1 = nI (n 0) then -1 else (mvP n J S) i1) := (if_neg c_118).symm
                    refine lv_iload_n hx hb d_M_move_125 rfl (lv_at hl 0 rfl) ?_
                    refine lv_ei (y := (if (mvP n J S) i1 = nI (n 0) then -1 else (mvP n J S) i1)) hres ?_
                    exact nw_iret hQ hx hb hr hlocks hw hS (nw_mo_ok (fun h => h hok9) (fun h => h hst9) (by rw [nI_clamp (n := i1) (by omega)]; exact ⟨rfl, rfl⟩)) (Nat.le_of_ble_eq_true rfl) (Nat.le_of_ble_eq_true rfl) d_M_move_126
                  · skip
                    have hres : ((-1) : Int32) = (if (mvP n J S) i1 = nI (n 0) then -1 else (mvP n J S) i1) := (if_pos c_118).symm
                    refine lv_iconst (v := (-1)) hx hb d_M_move_121 (by decide) ?_
                    refine lv_goto (tgt := 126) hx hb d_M_move_122 (by decide) ?_
                    refine lv_ei (y := (if (mvP n J S) i1 = nI (n 0) then -1 else (mvP n J S) i1)) hres ?_
                    exact nw_iret hQ hx hb hr hlocks hw hS (nw_mo_ok (fun h => h hok9) (fun h => h hst9) (by rw [nI_clamp (n := i1) (by omega)]; exact ⟨rfl, rfl⟩)) (Nat.le_of_ble_eq_true rfl) (Nat.le_of_ble_eq_true rfl) d_M_move_126
              · skip
                refine lv_aload_n hx hb d_M_move_66 rfl (lv_at hl 0 rfl) ?_
                refine nw_get hx hb hts i_M hown hK hw (64) (mW_64) rfl 22 (by decide) (hts _ kw_681) (fun _ h9 => h9) rfl d_M_move_67 ?_
                refine lv_iload_n hx hb d_M_move_70 rfl (lv_at hl 3 rfl) ?_
                refine lv_aload_n hx hb d_M_move_71 rfl (lv_at hl 0 rfl) ?_
                refine nw_get hx hb hts i_M hown hK hw (64) (mW_64) rfl 0 (by decide) (hts _ kw_659) (fun _ h9 => h9) rfl d_M_move_72 ?_
                refine nw_iast hx hb hK hw hS (193) 0 (mW_row (t := 5) (j := 13) (by decide) (by decide) (rfl)) rfl (c) (rfl) (by omega) (by omega) d_M_move_75 (fun H locs hw hS => ?_)
                have hw := mW_setRow (t := 5) (j := 13) (by decide) (by decide) (rfl) hw
                refine lv_iinc (v := nI (c + 1)) (lv' := [(3, .int (nI (c + 1))), (0, .ref (ad (64))), (1, .int (nI i1)), (2, .int (x2))]) hx hb d_M_move_76 hl (k := 3) rfl ((nI_succ _).symm) (by decide) rfl (fun ls hl => ?_)
                refine lv_goto (tgt := 51) hx hb d_M_move_79 (by decide) ?_
                have hw := nw_W.as (wn' := mW ad tC n (va_up J 0 (nI 0)) bw L bX aY (upR S 5 13 (flR (S 5 13) (nI (n 0)) (c + 1)))) hw (by rw [upR_upR, upR_self, flR_s])
                exact ih51 (c + 1) (by omega) (by omega) (fun h => absurd (show J 3 = 0 from c_63) h) _ _ ls hw hS (lv_sub hl [1, 2, 3, 0] rfl)
        exact loop51 (n 2 + 1) (0) (by omega) (by omega) (fun _ => rfl) _ _ ls hw hS (lv_sub hl [1, 2, 3, 0] rfl)
      · skip
        refine lv_iconst (v := nI 0) hx hb d_M_move_47 (by decide) ?_
        exact nw_iret hQ hx hb hr hlocks hw hS (nw_mo_bad (Wb := (fun t => mW ad tC n (va_up J 0 t) bw L bX aY S)) ha9 hs9 (b2_1 c_44)) (Nat.le_of_ble_eq_true rfl) (Nat.le_of_ble_eq_true rfl) d_M_move_48

set_option maxHeartbeats 4000000 in
set_option maxRecDepth 100000 in
/-- the plan is tried -/
theorem c_M_tryPlan (l : Launch) (D : va_G) (tC : Nat → ClassId) (A : Nat → Prop) (ad : Nat → Nat) (n : Nat → Nat) (J : Nat → Int32) (bw : Int64) (L : Nat → Nat → Int64) (bX : Nat → Option va_E) (aY : Nat → Nat → Option (ClassId × Nat)) (S : Nat → Nat → Nat → Int32) (hN : hpN n)  : nw_Met l y_M_tryPlan [Cond.code y_M_tryPlan b_M_tryPlan 2 none] ({ frames := 0, cells := 0, slots := 0, locals := 0 } : Room) D hpC A [.ref (ad (64))] (nw_pre D hpC (hpT tC) A (mW ad tC n J bw L bX aY S) ad) (nw_ok none (mW ad tC n J bw L bX aY (upR S 5 14 (cpR (S 5 13) (S 5 14) (n 2)))) ad) 0 0 := by
  refine nw_bodyK (by decide) (Nat.le_of_ble_eq_true rfl) ?_
  intro p e s m below meth cd ls args Q hSx hr hlocks hname hA hKs hw hS hl hQ
  obtain ⟨hx, hb, hml, hown, hts⟩ := id hSx
  have hK := hKs.1
  have hl : lv_has ls 2 [(0, .ref (ad (64)))] := hl
  obtain ⟨hn0, hn0', hn1, hn2, hn3, hn4⟩ := id hN
  refine lv_iconst (v := nI 0) hx hb d_M_tryPlan_0 (by decide) ?_
  refine lv_istore_n (lv' := [(1, .int (nI 0)), (0, .ref (ad (64)))]) hx hb d_M_tryPlan_1 rfl hl (by decide) rfl (fun ls hl => ?_)
  have hw := nw_W.as (wn' := mW ad tC n J bw L bX aY (upR S 5 14 (cpR (S 5 13) (S 5 14) 0))) hw (by rw [cpR_0, upR_same])
  have loop2 : ∀ (k c : Nat), c ≤ n 2 → n 2 + 1 ≤ c + k → ∀ (H : Heap) (locs : List Loc) (ls : Array Slot), nw_W D hpC A (mW ad tC n J bw L bX aY (upR S 5 14 (cpR (S 5 13) (S 5 14) c))) ad H → va_S A s.heap H locs → lv_has ls 2 [(0, .ref (ad (64))), (1, .int (nI c))] → W p l e ({ frames := 0, cells := 0, slots := 0, locals := 0 } : Room) s m args below meth cd H locs 0 0 Q (F0 m 2 ls []) := by
    intro k
    induction k with
    | zero => intro c h1 h2; exact absurd h2 (by omega)
    | succ k ih2 =>
      intro c hv2 hk2 H locs ls hw hS hl
      refine lv_iload_n hx hb d_M_tryPlan_2 rfl (lv_at hl 1 rfl) ?_
      refine lv_aload_n hx hb d_M_tryPlan_3 rfl (lv_at hl 0 rfl) ?_
      refine nw_get hx hb hts i_M hown hK hw (64) (mW_64) rfl 5 (by decide) (hts _ kw_664) (fun _ h9 => h9) rfl d_M_tryPlan_4 ?_
      refine lv_icmp_ge (tgt := 28) hx hb d_M_tryPlan_7 (by decide) (fun c_7 => ?_) (fun c_7 => ?_)
      · skip
        have hge7 : n 2 ≤ c := (nI_leI (by omega) (by omega)).mp c_7
        obtain rfl : n 2 = c := by omega
        exact nw_vret hQ hx hb hr hlocks hw hS (nw_ok_rf) (Nat.le_of_ble_eq_true rfl) (Nat.le_of_ble_eq_true rfl) d_M_tryPlan_28
      · skip
        have hlt : c < n 2 := Nat.not_le.mp (fun q => c_7 (nI_le q (by omega)))
        refine lv_aload_n hx hb d_M_tryPlan_10 rfl (lv_at hl 0 rfl) ?_
        refine nw_get hx hb hts i_M hown hK hw (64) (mW_64) rfl 24 (by decide) (hts _ kw_683) (fun _ h9 => h9) rfl d_M_tryPlan_11 ?_
        refine lv_iload_n hx hb d_M_tryPlan_14 rfl (lv_at hl 1 rfl) ?_
        refine lv_aload_n hx hb d_M_tryPlan_15 rfl (lv_at hl 0 rfl) ?_
        refine nw_get hx hb hts i_M hown hK hw (64) (mW_64) rfl 22 (by decide) (hts _ kw_681) (fun _ h9 => h9) rfl d_M_tryPlan_16 ?_
        refine lv_iload_n hx hb d_M_tryPlan_19 rfl (lv_at hl 1 rfl) ?_
        refine nw_iald hx hb hK hw (193) 0 (mW_row (t := 5) (j := 13) (by decide) (by decide) (rfl)) rfl (c) (rfl) (by omega) (by omega) d_M_tryPlan_20 ?_
        refine lv_ei (y := (upR S 5 14 (cpR (S 5 13) (S 5 14) c)) 5 13 c) (congrFun (scm_rf 5 13 (by omega)) _) ?_
        refine lv_ei (y := S 5 13 c) (rfl) ?_
        refine nw_iast hx hb hK hw hS (194) 0 (mW_row (t := 5) (j := 14) (by decide) (by decide) (rfl)) rfl (c) (rfl) (by omega) (by omega) d_M_tryPlan_21 (fun H locs hw hS => ?_)
        have hw := mW_setRow (t := 5) (j := 14) (by decide) (by decide) (rfl) hw
        refine lv_iinc (v := nI (c + 1)) (lv' := [(1, .int (nI (c + 1))), (0, .ref (ad (64)))]) hx hb d_M_tryPlan_22 hl (k := 1) rfl ((nI_succ _).symm) (by decide) rfl (fun ls hl => ?_)
        refine lv_goto (tgt := 2) hx hb d_M_tryPlan_25 (by decide) ?_
        have hw := nw_W.as (wn' := mW ad tC n J bw L bX aY (upR S 5 14 (cpR (S 5 13) (S 5 14) (c + 1)))) hw (by rw [upR_upR, upR_self, cpR_s])
        exact ih2 (c + 1) (by omega) (by omega) _ _ ls hw hS (lv_sub hl [1, 0] rfl)
  exact loop2 (n 2 + 1) (0) (by omega) (by omega) _ _ ls hw hS (lv_sub hl [1, 0] rfl)

set_option maxHeartbeats 4000000 in
set_option maxRecDepth 100000 in
/-- check -/
theorem c_M_check (l : Launch) (D : va_G) (tC : Nat → ClassId) (A : Nat → Prop) (ad : Nat → Nat) (n : Nat → Nat) (J : Nat → Int32) (bw : Int64) (L : Nat → Nat → Int64) (bX : Nat → Option va_E) (aY : Nat → Nat → Option (ClassId × Nat)) (S : Nat → Nat → Nat → Int32) (hN : hpN n) (hm : Nat → Nat) (hH : ∀ c, c < n 2 → S 5 2 c = nI (hm c) ∧ hm c < n 1) : nw_Met l y_M_check [Cond.code y_M_check b_M_check 3 (some .int)] ({ frames := 3, cells := 0, slots := 0, locals := 74 } : Room) D hpC A [.ref (ad (64))] (nw_pre D hpC (hpT tC) A (mW ad tC n J bw L bX aY S) ad) (nw_mo (¬ (True)) (¬ (¬ J 3 = 0)) (fun t => mW ad tC n (va_up J 0 t) bw L bX aY S) ad (some (.int (nI 0))) 1 (fun o wn' => o = some (.int (ckV (fun w => lbI (qPlant (upR S 5 14 (cpR (S 5 13) (S 5 14) (n 2))) w (n 2)) (qBoats n (upR S 5 14 (cpR (S 5 13) (S 5 14) (n 2))) w (n 2)) (qOpen (upR S 5 14 (cpR (S 5 13) (S 5 14) (n 2))) hm w (n 2)) (true = true → qHeld n (upR S 5 14 (cpR (S 5 13) (S 5 14) (n 2))) w)) (n 0))) ∧ ∃ L' S', scm (upR S 5 14 (cpR (S 5 13) (S 5 14) (n 2))) S' ∧ wn' = mW ad tC n (va_up J 0 (nI 0)) bw L' bX aY S')) 0 0 := by
  refine nw_bodyK (by decide) (Nat.le_of_ble_eq_true rfl) ?_
  intro p e s m below meth cd ls args Q hSx hr hlocks hname hA hKs hw hS hl hQ
  obtain ⟨hx, hb, hml, hown, hts⟩ := id hSx
  have hK := hKs.1
  have hl : lv_has ls 3 [(0, .ref (ad (64)))] := hl
  obtain ⟨hn0, hn0', hn1, hn2, hn3, hn4⟩ := id hN
  refine lv_aload_n hx hb d_M_check_0 rfl (lv_at hl 0 rfl) ?_
  refine lv_iconst (v := nI 1) hx hb d_M_check_1 (by decide) ?_
  refine lv_aload_n hx hb d_M_check_2 rfl (lv_at hl 0 rfl) ?_
  refine nw_get hx hb hts i_M hown hK hw (64) (mW_64) rfl 21 (by decide) (hts _ kw_680) (fun _ h9 => h9) rfl d_M_check_3 ?_
  refine nw_callD (nw_goV (n := 2) (As := [.int (nI 1), .int (J 3)]) (rest := []) hSx hA hKs hw hS (c_M_refuses l D tC A ad n J bw L bX aY S hN (nI 1) (J 3)) kw_774 kw_771 kw_773 ks_M_refuses kw_8 rfl rfl (by decide +kernel) ⟨Nat.le_of_ble_eq_true rfl, Nat.le_of_ble_eq_true rfl⟩ (nw_recv hK hw (mW_64) rfl) rfl hl.1 (Nat.le_of_ble_eq_true rfl) d_M_check_6 ⟨Nat.le_of_ble_eq_true rfl, Nat.le_of_ble_eq_true rfl⟩) hS (fun H locs hw hS => ?_)
  refine lv_if_eq (tgt := 19) hx hb d_M_check_9 (by decide) (fun c_9 => ?_) (fun c_9 => ?_)
  · skip
    have hst9 : ¬ J 3 = 0 := fun h => b2_0 c_9 (Or.inr h)
    have hok9 : True := trivial
    have hw := nw_W.as (wn' := mW ad tC n (va_up J 0 (nI 0)) bw L bX aY S) hw (by rw [rfI_ok (b2_0 c_9)])
    refine lv_aload_n hx hb d_M_check_19 rfl (lv_at hl 0 rfl) ?_
    refine nw_callD (nw_goV (n := 0) (As := []) (rest := []) hSx hA hKs hw hS (c_M_tryPlan l D tC A ad n (va_up J 0 (nI 0)) bw L bX aY S hN) kw_904 kw_901 kw_903 ks_M_tryPlan kw_8 rfl rfl (by decide +kernel) ⟨Nat.le_of_ble_eq_true rfl, Nat.le_of_ble_eq_true rfl⟩ (nw_recv hK hw (mW_64) rfl) rfl hl.1 (Nat.le_of_ble_eq_true rfl) d_M_check_20 ⟨Nat.le_of_ble_eq_true rfl, Nat.le_of_ble_eq_true rfl⟩) hS (fun H locs hw hS => ?_)
    refine lv_iconst (v := nI 0) hx hb d_M_check_23 (by decide) ?_
    refine lv_istore_n (lv' := [(1, .int (nI 0)), (0, .ref (ad (64)))]) hx hb d_M_check_24 rfl hl (by decide) rfl (fun ls hl => ?_)
    have loop25 : ∀ (k w : Nat) (Lv : Nat → Nat → Int64) (Sv : Nat → Nat → Nat → Int32), w ≤ n 0 → n 0 + 1 ≤ w + k → (scm (upR S 5 14 (cpR (S 5 13) (S 5 14) (n 2))) Sv) → (∀ j, j < w → (fun w => lbI (qPlant (upR S 5 14 (cpR (S 5 13) (S 5 14) (n 2))) w (n 2)) (qBoats n (upR S 5 14 (cpR (S 5 13) (S 5 14) (n 2))) w (n 2)) (qOpen (upR S 5 14 (cpR (S 5 13) (S 5 14) (n 2))) hm w (n 2)) (true = true → qHeld n (upR S 5 14 (cpR (S 5 13) (S 5 14) (n 2))) w)) j = 0) → ∀ (H : Heap) (locs : List Loc) (ls : Array Slot), nw_W D hpC A (mW ad tC n (va_up J 0 (nI 0)) bw Lv bX aY Sv) ad H → va_S A s.heap H locs → lv_has ls 3 [(0, .ref (ad (64))), (1, .int (nI w))] → W p l e ({ frames := 3, cells := 0, slots := 0, locals := 74 } : Room) s m args below meth cd H locs 0 0 Q (F0 m 25 ls []) := by
      intro k
      induction k with
      | zero => intro w Lv Sv h1 h2; exact absurd h2 (by omega)
      | succ k ih25 =>
        intro w Lv Sv hv25 hk25 hsv hinv H locs ls hw hS hl
        refine lv_iload_n hx hb d_M_check_25 rfl (lv_at hl 1 rfl) ?_
        refine lv_aload_n hx hb d_M_check_26 rfl (lv_at hl 0 rfl) ?_
        refine nw_get hx hb hts i_M hown hK hw (64) (mW_64) rfl 0 (by decide) (hts _ kw_659) (fun _ h9 => h9) rfl d_M_check_27 ?_
        refine lv_icmp_ge (tgt := 61) hx hb d_M_check_30 (by decide) (fun c_30 => ?_) (fun c_30 => ?_)
        · skip
          have hge30 : n 0 ≤ w := (nI_leI (by omega) (by omega)).mp c_30
          obtain rfl : n 0 = w := by omega
          have hres : nI 0 = ckV (fun w => lbI (qPlant (upR S 5 14 (cpR (S 5 13) (S 5 14) (n 2))) w (n 2)) (qBoats n (upR S 5 14 (cpR (S 5 13) (S 5 14) (n 2))) w (n 2)) (qOpen (upR S 5 14 (cpR (S 5 13) (S 5 14) (n 2))) hm w (n 2)) (true = true → qHeld n (upR S 5 14 (cpR (S 5 13) (S 5 14) (n 2))) w)) (n 0) := ckV_0 hinv
          refine lv_iconst (v := nI 0) hx hb d_M_check_61 (by decide) ?_
          exact nw_iret hQ hx hb hr hlocks hw hS (nw_mo_ok (fun h => h hok9) (fun h => h hst9) (⟨by rw [← hres]; first | done | rfl, _, _, hsv, rfl⟩)) (Nat.le_of_ble_eq_true rfl) (Nat.le_of_ble_eq_true rfl) d_M_check_62
        · skip
          have hlt : w < n 0 := Nat.not_le.mp (fun q => c_30 (nI_le q (by omega)))
          refine lv_aload_n hx hb d_M_check_33 rfl (lv_at hl 0 rfl) ?_
          refine lv_iload_n hx hb d_M_check_34 rfl (lv_at hl 1 rfl) ?_
          refine lv_aload_n hx hb d_M_check_35 rfl (lv_at hl 0 rfl) ?_
          refine nw_get hx hb hts i_M hown hK hw (64) (mW_64) rfl 5 (by decide) (hts _ kw_664) (fun _ h9 => h9) rfl d_M_check_36 ?_
          refine lv_iconst (v := nI 1) hx hb d_M_check_39 (by decide) ?_
          refine lv_ei (y := bI true) (rfl) ?_
          refine nw_call (nw_goV (n := 3) (As := [.int (nI w), .int (nI (n 2)), .int (bI true)]) (rest := []) hSx hA hKs hw hS (c_M_broken l D tC A ad n (va_up J 0 (nI 0)) bw Lv bX aY (upR S 5 14 (cpR (S 5 13) (S 5 14) (n 2))) Sv hsv hN w (n 2) (by omega) (by omega) true hm hH) kw_831 kw_828 kw_830 ks_M_broken kw_8 rfl rfl (by decide +kernel) ⟨Nat.le_of_ble_eq_true rfl, Nat.le_of_ble_eq_true rfl⟩ (nw_recv hK hw (mW_64) rfl) rfl hl.1 (Nat.le_of_ble_eq_true rfl) d_M_check_40 ⟨Nat.le_of_ble_eq_true rfl, Nat.le_of_ble_eq_true rfl⟩) hS (fun rv wn' ad' H locs hpost hw hS => ?_)
          obtain ⟨hrv1, L1z, S1z, hsc1z, hw⟩ := nw_ms_out hpost hw
          subst hrv1
          refine lv_istore_n (lv' := [(2, .int (lbI (qPlant (upR S 5 14 (cpR (S 5 13) (S 5 14) (n 2))) w (n 2)) (qBoats n (upR S 5 14 (cpR (S 5 13) (S 5 14) (n 2))) w (n 2)) (qOpen (upR S 5 14 (cpR (S 5 13) (S 5 14) (n 2))) hm w (n 2)) (true = true → qHeld n (upR S 5 14 (cpR (S 5 13) (S 5 14) (n 2))) w))), (0, .ref (ad (64))), (1, .int (nI w))]) hx hb d_M_check_43 rfl hl (by decide) rfl (fun ls hl => ?_)
          refine lv_iload_n hx hb d_M_check_44 rfl (lv_at hl 0 rfl) ?_
          refine lv_if_le (tgt := 55) hx hb d_M_check_45 (by decide) (fun c_45 => ?_) (fun c_45 => ?_)
          · skip
            have hinv' : ∀ j, j < w + 1 → (fun w => lbI (qPlant (upR S 5 14 (cpR (S 5 13) (S 5 14) (n 2))) w (n 2)) (qBoats n (upR S 5 14 (cpR (S 5 13) (S 5 14) (n 2))) w (n 2)) (qOpen (upR S 5 14 (cpR (S 5 13) (S 5 14) (n 2))) hm w (n 2)) (true = true → qHeld n (upR S 5 14 (cpR (S 5 13) (S 5 14) (n 2))) w)) j = 0 := lt_s hinv (lbI_le c_45)
            refine lv_iinc (v := nI (w + 1)) (lv' := [(1, .int (nI (w + 1))), (2, .int (lbI (qPlant (upR S 5 14 (cpR (S 5 13) (S 5 14) (n 2))) w (n 2)) (qBoats n (upR S 5 14 (cpR (S 5 13) (S 5 14) (n 2))) w (n 2)) (qOpen (upR S 5 14 (cpR (S 5 13) (S 5 14) (n 2))) hm w (n 2)) (true = true → qHeld n (upR S 5 14 (cpR (S 5 13) (S 5 14) (n 2))) w))), (0, .ref (ad (64)))]) hx hb d_M_check_55 hl (k := 2) rfl ((nI_succ _).symm) (by decide) rfl (fun ls hl => ?_)
            refine lv_goto (tgt := 25) hx hb d_M_check_58 (by decide) ?_
            exact ih25 (w + 1) (_) (_) (by omega) (by omega) (hsc1z) (hinv') _ _ ls hw hS (lv_sub hl [2, 0] rfl)
          · skip
            have hres : nI 10 * nI w + (fun w => lbI (qPlant (upR S 5 14 (cpR (S 5 13) (S 5 14) (n 2))) w (n 2)) (qBoats n (upR S 5 14 (cpR (S 5 13) (S 5 14) (n 2))) w (n 2)) (qOpen (upR S 5 14 (cpR (S 5 13) (S 5 14) (n 2))) hm w (n 2)) (true = true → qHeld n (upR S 5 14 (cpR (S 5 13) (S 5 14) (n 2))) w)) w = ckV (fun w => lbI (qPlant (upR S 5 14 (cpR (S 5 13) (S 5 14) (n 2))) w (n 2)) (qBoats n (upR S 5 14 (cpR (S 5 13) (S 5 14) (n 2))) w (n 2)) (qOpen (upR S 5 14 (cpR (S 5 13) (S 5 14) (n 2))) hm w (n 2)) (true = true → qHeld n (upR S 5 14 (cpR (S 5 13) (S 5 14) (n 2))) w)) (n 0) := ckV_s hinv (fun h => c_45 (by rw [show lbI _ _ _ _ = 0 from h]; decide)) hlt
            refine lv_bipush (v := nI 10) hx hb d_M_check_48 (by decide) ?_
            refine lv_iload_n hx hb d_M_check_50 rfl (lv_at hl 2 rfl) ?_
            refine lv_imul hx hb d_M_check_51 ?_
            refine lv_iload_n hx hb d_M_check_52 rfl (lv_at hl 0 rfl) ?_
            refine lv_iadd hx hb d_M_check_53 ?_
            exact nw_iret hQ hx hb hr hlocks hw hS (nw_mo_ok (fun h => h hok9) (fun h => h hst9) (⟨by rw [← hres]; first | done | rfl, _, _, hsc1z, rfl⟩)) (Nat.le_of_ble_eq_true rfl) (Nat.le_of_ble_eq_true rfl) d_M_check_54
    exact loop25 (n 0 + 1) (0) (_) (_) (by omega) (by omega) (scm_rf) (fun j hj => absurd hj (Nat.not_lt_zero j)) _ _ ls hw hS (lv_sub hl [1, 0] rfl)
  · skip
    have hst9 : J 3 = 0 := (b2_1 c_9).elim (fun h => absurd h (by decide)) id
    refine lv_aload_n hx hb d_M_check_12 rfl (lv_at hl 0 rfl) ?_
    refine lv_iconst (v := nI 1) hx hb d_M_check_13 (by decide) ?_
    refine nw_put (v := .int (nI 1)) (ty := .int) hx hb hts i_M t_M tk_M n_M hown hK hw hS (64) (mW_64) rfl 1 (by decide) (hts _ kw_660) (fun _ h9 => h9) rfl (by decide +kernel) (rfl) (rfl) (Nat.le_of_ble_eq_true rfl) d_M_check_14 (fun H locs hw hS => ?_)
    have hw := nw_W.as (wn' := mW ad tC n (va_up (va_up J 0 (rfI (nI 1) (J 3))) 0 (nI 1)) bw L bX aY S) (mW_setO (n' := n) (J' := (va_up (va_up J 0 (rfI (nI 1) (J 3))) 0 (nI 1))) (bw' := bw) rfl hw) rfl
    have hw := nw_W.as (wn' := mW ad tC n (va_up J 0 (nI 1)) bw L bX aY S) hw (by rw [bx_uu])
    refine lv_iconst (v := nI 0) hx hb d_M_check_17 (by decide) ?_
    exact nw_iret hQ hx hb hr hlocks hw hS (⟨rfl, Or.inr (Or.inl ⟨fun h => h trivial, fun h => h hst9, rfl, rfl⟩)⟩) (Nat.le_of_ble_eq_true rfl) (Nat.le_of_ble_eq_true rfl) d_M_check_18

set_option maxHeartbeats 4000000 in
set_option maxRecDepth 100000 in
/-- worth -/
theorem c_M_worth (l : Launch) (D : va_G) (tC : Nat → ClassId) (A : Nat → Prop) (ad : Nat → Nat) (n : Nat → Nat) (J : Nat → Int32) (bw : Int64) (L : Nat → Nat → Int64) (bX : Nat → Option va_E) (aY : Nat → Nat → Option (ClassId × Nat)) (S : Nat → Nat → Nat → Int32) (hN : hpN n)  : nw_Met l y_M_worth [Cond.code y_M_worth b_M_worth 1 (some .long)] ({ frames := 3, cells := 0, slots := 0, locals := 77 } : Room) D hpC A [.ref (ad (64))] (nw_pre D hpC (hpT tC) A (mW ad tC n J bw L bX aY S) ad) (nw_mo (¬ (True)) (¬ (¬ J 3 = 0)) (fun t => mW ad tC n (va_up J 0 t) bw L bX aY S) ad (some (.long 0)) 1 (fun o wn' => o = some (.long (vlL n (upR S 5 14 (cpR (S 5 13) (S 5 14) (n 2))) (va_up J 0 (nI 0)))) ∧ ∃ L' S', scm (upR S 5 14 (cpR (S 5 13) (S 5 14) (n 2))) S' ∧ wn' = mW ad tC n (va_up J 0 (nI 0)) bw L' bX aY S')) 0 0 := by
  refine nw_bodyK (by decide) (Nat.le_of_ble_eq_true rfl) ?_
  intro p e s m below meth cd ls args Q hSx hr hlocks hname hA hKs hw hS hl hQ
  obtain ⟨hx, hb, hml, hown, hts⟩ := id hSx
  have hK := hKs.1
  have hl : lv_has ls 1 [(0, .ref (ad (64)))] := hl
  obtain ⟨hn0, hn0', hn1, hn2, hn3, hn4⟩ := id hN
  refine lv_aload_n hx hb d_M_worth_0 rfl (lv_at hl 0 rfl) ?_
  refine lv_iconst (v := nI 1) hx hb d_M_worth_1 (by decide) ?_
  refine lv_aload_n hx hb d_M_worth_2 rfl (lv_at hl 0 rfl) ?_
  refine nw_get hx hb hts i_M hown hK hw (64) (mW_64) rfl 21 (by decide) (hts _ kw_680) (fun _ h9 => h9) rfl d_M_worth_3 ?_
  refine nw_callD (nw_goV (n := 2) (As := [.int (nI 1), .int (J 3)]) (rest := []) hSx hA hKs hw hS (c_M_refuses l D tC A ad n J bw L bX aY S hN (nI 1) (J 3)) kw_774 kw_771 kw_773 ks_M_refuses kw_8 rfl rfl (by decide +kernel) ⟨Nat.le_of_ble_eq_true rfl, Nat.le_of_ble_eq_true rfl⟩ (nw_recv hK hw (mW_64) rfl) rfl hl.1 (Nat.le_of_ble_eq_true rfl) d_M_worth_6 ⟨Nat.le_of_ble_eq_true rfl, Nat.le_of_ble_eq_true rfl⟩) hS (fun H locs hw hS => ?_)
  refine lv_if_eq (tgt := 19) hx hb d_M_worth_9 (by decide) (fun c_9 => ?_) (fun c_9 => ?_)
  · skip
    have hst9 : ¬ J 3 = 0 := fun h => b2_0 c_9 (Or.inr h)
    have hok9 : True := trivial
    have hw := nw_W.as (wn' := mW ad tC n (va_up J 0 (nI 0)) bw L bX aY S) hw (by rw [rfI_ok (b2_0 c_9)])
    refine lv_aload_n hx hb d_M_worth_19 rfl (lv_at hl 0 rfl) ?_
    refine nw_callD (nw_goV (n := 0) (As := []) (rest := []) hSx hA hKs hw hS (c_M_tryPlan l D tC A ad n (va_up J 0 (nI 0)) bw L bX aY S hN) kw_904 kw_901 kw_903 ks_M_tryPlan kw_8 rfl rfl (by decide +kernel) ⟨Nat.le_of_ble_eq_true rfl, Nat.le_of_ble_eq_true rfl⟩ (nw_recv hK hw (mW_64) rfl) rfl hl.1 (Nat.le_of_ble_eq_true rfl) d_M_worth_20 ⟨Nat.le_of_ble_eq_true rfl, Nat.le_of_ble_eq_true rfl⟩) hS (fun H locs hw hS => ?_)
    refine lv_aload_n hx hb d_M_worth_23 rfl (lv_at hl 0 rfl) ?_
    refine nw_call (nw_goV (n := 0) (As := []) (rest := []) hSx hA hKs hw hS (c_M_value l D tC A ad n (va_up J 0 (nI 0)) bw L bX aY (upR S 5 14 (cpR (S 5 13) (S 5 14) (n 2))) (upR S 5 14 (cpR (S 5 13) (S 5 14) (n 2))) scm_rf hN) kw_855 kw_852 kw_854 ks_M_value kw_8 rfl rfl (by decide +kernel) ⟨Nat.le_of_ble_eq_true rfl, Nat.le_of_ble_eq_true rfl⟩ (nw_recv hK hw (mW_64) rfl) rfl hl.1 (Nat.le_of_ble_eq_true rfl) d_M_worth_24 ⟨Nat.le_of_ble_eq_true rfl, Nat.le_of_ble_eq_true rfl⟩) hS (fun rv wn' ad' H locs hpost hw hS => ?_)
    obtain ⟨hrv1, L1z, S1z, hsc1z, hX1z, hw⟩ := nw_mx_out hpost hw
    subst hrv1
    exact nw_lret hQ hx hb hr hlocks hw hS (nw_mo_ok (fun h => h hok9) (fun h => h hst9) (⟨rfl, _, _, hsc1z, rfl⟩)) (Nat.le_of_ble_eq_true rfl) (Nat.le_of_ble_eq_true rfl) d_M_worth_27
  · skip
    have hst9 : J 3 = 0 := (b2_1 c_9).elim (fun h => absurd h (by decide)) id
    refine lv_aload_n hx hb d_M_worth_12 rfl (lv_at hl 0 rfl) ?_
    refine lv_iconst (v := nI 1) hx hb d_M_worth_13 (by decide) ?_
    refine nw_put (v := .int (nI 1)) (ty := .int) hx hb hts i_M t_M tk_M n_M hown hK hw hS (64) (mW_64) rfl 1 (by decide) (hts _ kw_660) (fun _ h9 => h9) rfl (by decide +kernel) (rfl) (rfl) (Nat.le_of_ble_eq_true rfl) d_M_worth_14 (fun H locs hw hS => ?_)
    have hw := nw_W.as (wn' := mW ad tC n (va_up (va_up J 0 (rfI (nI 1) (J 3))) 0 (nI 1)) bw L bX aY S) (mW_setO (n' := n) (J' := (va_up (va_up J 0 (rfI (nI 1) (J 3))) 0 (nI 1))) (bw' := bw) rfl hw) rfl
    have hw := nw_W.as (wn' := mW ad tC n (va_up J 0 (nI 1)) bw L bX aY S) hw (by rw [bx_uu])
    refine lv_lconst (v := 0) hx hb d_M_worth_17 (by decide) ?_
    exact nw_lret hQ hx hb hr hlocks hw hS (⟨rfl, Or.inr (Or.inl ⟨fun h => h trivial, fun h => h hst9, rfl, rfl⟩)⟩) (Nat.le_of_ble_eq_true rfl) (Nat.le_of_ble_eq_true rfl) d_M_worth_18

set_option maxHeartbeats 4000000 in
set_option maxRecDepth 100000 in
/-- sold -/
theorem c_M_sold (l : Launch) (D : va_G) (tC : Nat → ClassId) (A : Nat → Prop) (ad : Nat → Nat) (n : Nat → Nat) (J : Nat → Int32) (bw : Int64) (L : Nat → Nat → Int64) (bX : Nat → Option va_E) (aY : Nat → Nat → Option (ClassId × Nat)) (S : Nat → Nat → Nat → Int32) (hN : hpN n) (x1 : Int32) : nw_Met l y_M_sold [Cond.code y_M_sold b_M_sold 4 (some .int)] ({ frames := 3, cells := 0, slots := 0, locals := 77 } : Room) D hpC A [.ref (ad (64)), .int (x1)] (nw_pre D hpC (hpT tC) A (mW ad tC n J bw L bX aY S) ad) (nw_mo (¬ ((0 ≤ x1 ∧ x1 < nI (n 4)))) (¬ (¬ J 3 = 0)) (fun t => mW ad tC n (va_up J 0 t) bw L bX aY S) ad (some (.int (nI 0))) 2 (fun o wn' => o = some (.int ((wkF n (upR S 5 14 (cpR (S 5 13) (S 5 14) (n 2))) (va_up J 0 (nI 0))).2.2.1 (x1.toNatClampNeg)).toInt32) ∧ ∃ L' S', scm (upR S 5 14 (cpR (S 5 13) (S 5 14) (n 2))) S' ∧ wn' = mW ad tC n (va_up J 0 (nI 0)) bw L' bX aY S')) 0 0 := by
  refine nw_bodyK (by decide) (Nat.le_of_ble_eq_true rfl) ?_
  intro p e s m below meth cd ls args Q hSx hr hlocks hname hA hKs hw hS hl hQ
  obtain ⟨hx, hb, hml, hown, hts⟩ := id hSx
  have hK := hKs.1
  have hl : lv_has ls 4 [(0, .ref (ad (64))), (1, .int (x1))] := hl
  obtain ⟨hn0, hn0', hn1, hn2, hn3, hn4⟩ := id hN
  refine lv_aload_n hx hb d_M_sold_0 rfl (lv_at hl 0 rfl) ?_
  refine lv_iload_n hx hb d_M_sold_1 rfl (lv_at hl 1 rfl) ?_
  refine lv_i2l (v := ((x1).toInt64)) hx hb d_M_sold_2 rfl ?_
  refine lv_lconst (v := 0) hx hb d_M_sold_3 (by decide) ?_
  refine lv_aload_n hx hb d_M_sold_4 rfl (lv_at hl 0 rfl) ?_
  refine nw_get hx hb hts i_M hown hK hw (64) (mW_64) rfl 13 (by decide) (hts _ kw_672) (fun _ h9 => h9) rfl d_M_sold_5 ?_
  refine lv_iconst (v := nI 1) hx hb d_M_sold_8 (by decide) ?_
  refine lv_isub hx hb d_M_sold_9 ?_
  refine lv_i2l (v := ((((nI (n 4)) - (nI 1))).toInt64)) hx hb d_M_sold_10 rfl ?_
  refine nw_callD (nw_goS (n := 3) (As := [.long (((x1).toInt64)), .long (0), .long (((((nI (n 4)) - (nI 1))).toInt64))]) (rest := [.ref (ad (64))]) hSx hA hKs hw hS (c_M_in l D tC A ad n J bw L bX aY S S scm_rf hN (((x1).toInt64)) (0) (((((nI (n 4)) - (nI 1))).toInt64))) kw_770 kw_768 kw_769 kw_8 rfl rfl (by decide +kernel) ⟨Nat.le_of_ble_eq_true rfl, Nat.le_of_ble_eq_true rfl⟩ rfl hl.1 (Nat.le_of_ble_eq_true rfl) d_M_sold_11 ⟨Nat.le_of_ble_eq_true rfl, Nat.le_of_ble_eq_true rfl⟩) hS (fun H locs hw hS => ?_)
  refine lv_aload_n hx hb d_M_sold_14 rfl (lv_at hl 0 rfl) ?_
  refine nw_get hx hb hts i_M hown hK hw (64) (mW_64) rfl 21 (by decide) (hts _ kw_680) (fun _ h9 => h9) rfl d_M_sold_15 ?_
  have ha9 : b2 ((0) ≤ (((x1).toInt64)) ∧ (((x1).toInt64)) ≤ (((((nI (n 4)) - (nI 1))).toInt64))) = 0 ↔ ¬ ((0 ≤ x1 ∧ x1 < nI (n 4))) := b2_not.trans (not_congr (in_n (by omega)))
  have hs9 : J 3 = 0 ↔ ¬ (¬ J 3 = 0) := ⟨fun h h2 => h2 h, fun h => Classical.not_not.mp h⟩
  refine nw_callD (nw_goV (n := 2) (As := [.int (b2 ((0) ≤ (((x1).toInt64)) ∧ (((x1).toInt64)) ≤ (((((nI (n 4)) - (nI 1))).toInt64)))), .int (J 3)]) (rest := []) hSx hA hKs hw hS (c_M_refuses l D tC A ad n J bw L bX aY S hN (b2 ((0) ≤ (((x1).toInt64)) ∧ (((x1).toInt64)) ≤ (((((nI (n 4)) - (nI 1))).toInt64)))) (J 3)) kw_774 kw_771 kw_773 ks_M_refuses kw_8 rfl rfl (by decide +kernel) ⟨Nat.le_of_ble_eq_true rfl, Nat.le_of_ble_eq_true rfl⟩ (nw_recv hK hw (mW_64) rfl) rfl hl.1 (Nat.le_of_ble_eq_true rfl) d_M_sold_18 ⟨Nat.le_of_ble_eq_true rfl, Nat.le_of_ble_eq_true rfl⟩) hS (fun H locs hw hS => ?_)
  refine lv_if_eq (tgt := 26) hx hb d_M_sold_21 (by decide) (fun c_21 => ?_) (fun c_21 => ?_)
  · skip
    have hno9 := b2_0 c_21
    have hok9 : (0 ≤ x1 ∧ x1 < nI (n 4)) := Classical.not_not.mp (fun h => hno9 (Or.inl (ha9.mpr h)))
    have hst9 : ¬ J 3 = 0 := Classical.not_not.mp (fun h => hno9 (Or.inr (hs9.mpr h)))
    obtain ⟨i1, rfl, hi1⟩ := nat_of (by omega) hok9
    have hw := nw_W.as (wn' := mW ad tC n (va_up J 0 (nI 0)) bw L bX aY S) hw (by rw [rfI_ok hno9])
    refine lv_aload_n hx hb d_M_sold_26 rfl (lv_at hl 0 rfl) ?_
    refine nw_callD (nw_goV (n := 0) (As := []) (rest := []) hSx hA hKs hw hS (c_M_tryPlan l D tC A ad n (va_up J 0 (nI 0)) bw L bX aY S hN) kw_904 kw_901 kw_903 ks_M_tryPlan kw_8 rfl rfl (by decide +kernel) ⟨Nat.le_of_ble_eq_true rfl, Nat.le_of_ble_eq_true rfl⟩ (nw_recv hK hw (mW_64) rfl) rfl hl.1 (Nat.le_of_ble_eq_true rfl) d_M_sold_27 ⟨Nat.le_of_ble_eq_true rfl, Nat.le_of_ble_eq_true rfl⟩) hS (fun H locs hw hS => ?_)
    refine lv_aload_n hx hb d_M_sold_30 rfl (lv_at hl 0 rfl) ?_
    refine nw_call (nw_goV (n := 0) (As := []) (rest := []) hSx hA hKs hw hS (c_M_value l D tC A ad n (va_up J 0 (nI 0)) bw L bX aY (upR S 5 14 (cpR (S 5 13) (S 5 14) (n 2))) (upR S 5 14 (cpR (S 5 13) (S 5 14) (n 2))) scm_rf hN) kw_855 kw_852 kw_854 ks_M_value kw_8 rfl rfl (by decide +kernel) ⟨Nat.le_of_ble_eq_true rfl, Nat.le_of_ble_eq_true rfl⟩ (nw_recv hK hw (mW_64) rfl) rfl hl.1 (Nat.le_of_ble_eq_true rfl) d_M_sold_31 ⟨Nat.le_of_ble_eq_true rfl, Nat.le_of_ble_eq_true rfl⟩) hS (fun rv wn' ad' H locs hpost hw hS => ?_)
    obtain ⟨hrv1, L1z, S1z, hsc1z, hX1z, hw⟩ := nw_mx_out hpost hw
    subst hrv1
    refine lv_lstore_n (lv' := [(2, .long (vlL n (upR S 5 14 (cpR (S 5 13) (S 5 14) (n 2))) (va_up J 0 (nI 0)))), (0, .ref (ad (64))), (1, .int (nI i1))]) hx hb d_M_sold_34 rfl hl (by decide) rfl (fun ls hl => ?_)
    refine lv_aload_n hx hb d_M_sold_35 rfl (lv_at hl 1 rfl) ?_
    refine nw_get hx hb hts i_M hown hK hw (64) (mW_64) rfl 29 (by decide) (hts _ kw_688) (fun _ h9 => h9) rfl d_M_sold_36 ?_
    refine lv_iload_n hx hb d_M_sold_39 rfl (lv_at hl 2 rfl) ?_
    refine nw_lald hx hb hK hw (66) 1 (mW_66) rfl (i1) (rfl) (by omega) (by omega) d_M_sold_40 ?_
    refine lv_el (y := (wkF n (upR S 5 14 (cpR (S 5 13) (S 5 14) (n 2))) (va_up J 0 (nI 0))).2.2.1 i1) (hX1z i1 hi1) ?_
    refine lv_l2i (v := (((wkF n (upR S 5 14 (cpR (S 5 13) (S 5 14) (n 2))) (va_up J 0 (nI 0))).2.2.1 i1).toInt32)) hx hb d_M_sold_41 rfl ?_
    exact nw_iret hQ hx hb hr hlocks hw hS (nw_mo_ok (fun h => h hok9) (fun h => h hst9) (by rw [nI_clamp (n := i1) (by omega)]; exact ⟨rfl, _, _, hsc1z, rfl⟩)) (Nat.le_of_ble_eq_true rfl) (Nat.le_of_ble_eq_true rfl) d_M_sold_42
  · skip
    refine lv_iconst (v := nI 0) hx hb d_M_sold_24 (by decide) ?_
    exact nw_iret hQ hx hb hr hlocks hw hS (nw_mo_bad (Wb := (fun t => mW ad tC n (va_up J 0 t) bw L bX aY S)) ha9 hs9 (b2_1 c_21)) (Nat.le_of_ble_eq_true rfl) (Nat.le_of_ble_eq_true rfl) d_M_sold_25

set_option maxHeartbeats 4000000 in
set_option maxRecDepth 100000 in
/-- run -/
theorem c_M_run (l : Launch) (D : va_G) (tC : Nat → ClassId) (A : Nat → Prop) (ad : Nat → Nat) (n : Nat → Nat) (J : Nat → Int32) (bw : Int64) (L : Nat → Nat → Int64) (bX : Nat → Option va_E) (aY : Nat → Nat → Option (ClassId × Nat)) (S : Nat → Nat → Nat → Int32) (hN : hpN n) (x1 : Int32) (hm : Nat → Nat) (hH : ∀ c, c < n 2 → S 5 2 c = nI (hm c) ∧ hm c < n 1) : nw_Met l y_M_run [Cond.code y_M_run b_M_run 4 (some .int)] ({ frames := 6, cells := 0, slots := 0, locals := 143 } : Room) D hpC A [.ref (ad (64)), .int (x1)] (nw_pre D hpC (hpT tC) A (mW ad tC n J bw L bX aY S) ad) (nw_mo (¬ ((nI 1 ≤ x1 ∧ x1 ≤ nI 5000))) (¬ (True)) (fun t => mW ad tC n (va_up J 0 t) bw L bX aY S) ad (some (.int (nI 0))) 2 (fun o wn' => o = some (.int (rvM (rnM n (va_up J 0 (nI 0)) hm S (x1.toNatClampNeg) bw))) ∧ ∃ L' S', scm (upR (mF S (rnM n (va_up J 0 (nI 0)) hm S (x1.toNatClampNeg) bw)) 5 13 (plM (rnM n (va_up J 0 (nI 0)) hm S (x1.toNatClampNeg) bw) (S 5 13) (n 2))) S' ∧ wn' = mW ad tC n (mJ (va_up (va_up J 0 (nI 0)) 3 (bI (rnM n (va_up J 0 (nI 0)) hm S (x1.toNatClampNeg) bw).2.2.1)) (rnM n (va_up J 0 (nI 0)) hm S (x1.toNatClampNeg) bw)) (rnM n (va_up J 0 (nI 0)) hm S (x1.toNatClampNeg) bw).2.2.2.1 L' bX aY S')) 0 0 := by
  refine nw_bodyK (by decide) (Nat.le_of_ble_eq_true rfl) ?_
  intro p e s m below meth cd ls args Q hSx hr hlocks hname hA hKs hw hS hl hQ
  obtain ⟨hx, hb, hml, hown, hts⟩ := id hSx
  have hK := hKs.1
  have hl : lv_has ls 4 [(0, .ref (ad (64))), (1, .int (x1))] := hl
  obtain ⟨hn0, hn0', hn1, hn2, hn3, hn4⟩ := id hN
  refine lv_aload_n hx hb d_M_run_0 rfl (lv_at hl 0 rfl) ?_
  refine lv_iload_n hx hb d_M_run_1 rfl (lv_at hl 1 rfl) ?_
  refine lv_i2l (v := ((x1).toInt64)) hx hb d_M_run_2 rfl ?_
  refine lv_lconst (v := 1) hx hb d_M_run_3 (by decide) ?_
  refine lv_ldc2 (v := 5000) hx hb hown (hts _ kw_819) d_M_run_4 ?_
  refine nw_callD (nw_goS (n := 3) (As := [.long (((x1).toInt64)), .long (1), .long (5000)]) (rest := [.ref (ad (64))]) hSx hA hKs hw hS (c_M_in l D tC A ad n J bw L bX aY S S scm_rf hN (((x1).toInt64)) (1) (5000)) kw_770 kw_768 kw_769 kw_8 rfl rfl (by decide +kernel) ⟨Nat.le_of_ble_eq_true rfl, Nat.le_of_ble_eq_true rfl⟩ rfl hl.1 (Nat.le_of_ble_eq_true rfl) d_M_run_7 ⟨Nat.le_of_ble_eq_true rfl, Nat.le_of_ble_eq_true rfl⟩) hS (fun H locs hw hS => ?_)
  refine lv_iconst (v := nI 1) hx hb d_M_run_10 (by decide) ?_
  have ha9 : b2 ((1) ≤ (((x1).toInt64)) ∧ (((x1).toInt64)) ≤ (5000)) = 0 ↔ ¬ ((nI 1 ≤ x1 ∧ x1 ≤ nI 5000)) := b2_not.trans (not_congr (in_c rfl rfl))
  have hs9 : nI 1 = 0 ↔ ¬ (True) := ⟨fun h => absurd h (by decide), fun h => absurd trivial h⟩
  refine nw_callD (nw_goV (n := 2) (As := [.int (b2 ((1) ≤ (((x1).toInt64)) ∧ (((x1).toInt64)) ≤ (5000))), .int (nI 1)]) (rest := []) hSx hA hKs hw hS (c_M_refuses l D tC A ad n J bw L bX aY S hN (b2 ((1) ≤ (((x1).toInt64)) ∧ (((x1).toInt64)) ≤ (5000))) (nI 1)) kw_774 kw_771 kw_773 ks_M_refuses kw_8 rfl rfl (by decide +kernel) ⟨Nat.le_of_ble_eq_true rfl, Nat.le_of_ble_eq_true rfl⟩ (nw_recv hK hw (mW_64) rfl) rfl hl.1 (Nat.le_of_ble_eq_true rfl) d_M_run_11 ⟨Nat.le_of_ble_eq_true rfl, Nat.le_of_ble_eq_true rfl⟩) hS (fun H locs hw hS => ?_)
  refine lv_if_eq (tgt := 19) hx hb d_M_run_14 (by decide) (fun c_14 => ?_) (fun c_14 => ?_)
  · skip
    have hno9 := b2_0 c_14
    have hok9 : (nI 1 ≤ x1 ∧ x1 ≤ nI 5000) := Classical.not_not.mp (fun h => hno9 (Or.inl (ha9.mpr h)))
    have hst9 : True := Classical.not_not.mp (fun h => hno9 (Or.inr (hs9.mpr h)))
    obtain ⟨lim, rfl, hl1, hl2⟩ := nat_in hok9
    rw [nI_clamp (n := lim) (by omega)] at hQ
    have hw := nw_W.as (wn' := mW ad tC n (va_up J 0 (nI 0)) bw L bX aY S) hw (by rw [rfI_ok hno9])
    refine lv_aload_n hx hb d_M_run_19 rfl (lv_at hl 0 rfl) ?_
    refine lv_iconst (v := nI 0) hx hb d_M_run_20 (by decide) ?_
    refine nw_put (v := .int (nI 0)) (ty := .int) hx hb hts i_M t_M tk_M n_M hown hK hw hS (64) (mW_64) rfl 23 (by decide) (hts _ kw_682) (fun _ h9 => h9) rfl (by decide +kernel) (rfl) (rfl) (Nat.le_of_ble_eq_true rfl) d_M_run_21 (fun H locs hw hS => ?_)
    have hw := nw_W.as (wn' := mW ad tC n (va_up (va_up J 0 (nI 0)) 4 (nI 0)) bw L bX aY S) (mW_setO (n' := n) (J' := (va_up (va_up J 0 (nI 0)) 4 (nI 0))) (bw' := bw) rfl hw) rfl
    refine lv_aload_n hx hb d_M_run_24 rfl (lv_at hl 0 rfl) ?_
    refine lv_iconst (v := nI 0) hx hb d_M_run_25 (by decide) ?_
    refine nw_put (v := .int (nI 0)) (ty := .boolean) hx hb hts i_M t_M tk_M n_M hown hK hw hS (64) (mW_64) rfl 26 (by decide) (hts _ kw_685) (fun _ h9 => h9) rfl (by decide +kernel) (rfl) (rfl) (Nat.le_of_ble_eq_true rfl) d_M_run_26 (fun H locs hw hS => ?_)
    have hw := nw_W.as (wn' := mW ad tC n (va_up (va_up (va_up J 0 (nI 0)) 4 (nI 0)) 5 (nI 0)) bw L bX aY S) (mW_setO (n' := n) (J' := (va_up (va_up (va_up J 0 (nI 0)) 4 (nI 0)) 5 (nI 0))) (bw' := bw) rfl hw) rfl
    refine lv_iconst (v := nI 0) hx hb d_M_run_29 (by decide) ?_
    refine lv_istore_n (lv' := [(2, .int (nI 0)), (0, .ref (ad (64))), (1, .int (nI lim))]) hx hb d_M_run_30 rfl hl (by decide) rfl (fun ls hl => ?_)
    refine lv_aload_n hx hb d_M_run_31 rfl (lv_at hl 1 rfl) ?_
    refine nw_get hx hb hts i_M hown hK hw (64) (mW_64) rfl 5 (by decide) (hts _ kw_664) (fun _ h9 => h9) rfl d_M_run_32 ?_
    refine lv_if_ne (tgt := 45) hx hb d_M_run_35 (by decide) (fun c_35 => ?_) (fun c_35 => ?_)
    · skip
      have h20 : ¬ n 2 = 0 := fun h => c_35 (by rw [h]; rfl)
      have hsc0 : scm (upR (upR S 5 14 (S 5 14)) 5 15 (S 5 15)) S := by
        have e9 := upR_same (S := S) (t := 5) (j := 14)
        rw [e9, upR_same]; exact scm_rf
      have hw := nw_W.as (wn' := mW ad tC n (va_up (va_up (va_up J 0 (nI 0)) 4 (nI 0)) 5 (bI false)) bw L bX aY S) hw rfl
      refine lv_aload_n hx hb d_M_run_45 rfl (lv_at hl 1 rfl) ?_
      refine lv_iload_n hx hb d_M_run_46 rfl (lv_at hl 2 rfl) ?_
      refine nw_call (nw_goV (n := 1) (As := [.int (nI lim)]) (rest := []) hSx hA hKs hw hS (c_M_search l D tC A ad n (va_up J 0 (nI 0)) bX aY S hN lim (by omega) (by omega) hm hH 0 false bw (S 5 14) (S 5 15) L S hsc0 (by omega)) kw_867 kw_864 kw_866 ks_M_search kw_8 rfl rfl (by decide +kernel) ⟨Nat.le_of_ble_eq_true rfl, Nat.le_of_ble_eq_true rfl⟩ (nw_recv hK hw (mW_64) rfl) rfl hl.1 (Nat.le_of_ble_eq_true rfl) d_M_run_47 ⟨Nat.le_of_ble_eq_true rfl, Nat.le_of_ble_eq_true rfl⟩) hS (fun rv wn' ad' H locs hpost hw hS => ?_)
      obtain ⟨hrv9, L9z, S9z, hsc9z, hw⟩ := nw_mz_out hpost hw
      subst hrv9
      have hz9 : brM n (va_up J 0 (nI 0)) hm S lim (n 2 - 1) 0 (0, false, false, bw, upd (S 5 14) 0 (-1), S 5 15) = (rnM n (va_up J 0 (nI 0)) hm S lim bw) := (if_neg h20).symm
      obtain ⟨z9, hz⟩ : ∃ z : mX, z = (rnM n (va_up J 0 (nI 0)) hm S lim bw) := ⟨_, rfl⟩
      have hz8 : brM n (va_up J 0 (nI 0)) hm S lim (n 2 - 1) 0 (0, false, false, bw, upd (S 5 14) 0 (-1), S 5 15) = z9 := hz9.trans hz.symm
      simp only [hz8] at hw hsc9z ⊢
      rw [← hz] at hQ
      refine lv_istore_n (lv' := [(2, .int (bI z9.2.1)), (0, .ref (ad (64))), (1, .int (nI lim))]) hx hb d_M_run_50 rfl hl (by decide) rfl (fun ls hl => ?_)
      refine lv_aload_n hx hb d_M_run_51 rfl (lv_at hl 1 rfl) ?_
      refine lv_aload_n hx hb d_M_run_52 rfl (lv_at hl 1 rfl) ?_
      refine nw_get hx hb hts i_M hown hK hw (64) (mW_64) rfl 26 (by decide) (hts _ kw_685) (fun _ h9 => h9) rfl d_M_run_53 ?_
      refine lv_ei (y := bI z9.2.2.1) (rfl) ?_
      refine nw_put (v := .int (bI z9.2.2.1)) (ty := .boolean) hx hb hts i_M t_M tk_M n_M hown hK hw hS (64) (mW_64) rfl 21 (by decide) (hts _ kw_680) (fun _ h9 => h9) rfl (by decide +kernel) (by generalize z9.2.2.1 = b9; cases b9 <;> rfl) (by generalize z9.2.2.1 = b9; cases b9 <;> rfl) (Nat.le_of_ble_eq_true rfl) d_M_run_56 (fun H locs hw hS => ?_)
      have hw := nw_W.as (wn' := mW ad tC n (va_up (va_up (va_up (va_up J 0 (nI 0)) 3 (bI z9.2.2.1)) 4 (nI z9.1)) 5 (bI z9.2.2.1)) z9.2.2.2.1 L9z bX aY S9z) (mW_setO (n' := n) (J' := va_up (va_up (va_up (va_up J 0 (nI 0)) 4 (nI z9.1)) 5 (bI z9.2.2.1)) 3 (bI z9.2.2.1)) (bw' := z9.2.2.2.1) rfl hw) (by rw [kup35])
      refine lv_iconst (v := nI 0) hx hb d_M_run_59 (by decide) ?_
      refine lv_istore_n (lv' := [(3, .int (nI 0)), (2, .int (bI z9.2.1)), (0, .ref (ad (64))), (1, .int (nI lim))]) hx hb d_M_run_60 rfl hl (by decide) rfl (fun ls hl => ?_)
      have loop61 : ∀ (k c : Nat) (Lv : Nat → Nat → Int64) (Sv : Nat → Nat → Nat → Int32), c ≤ n 2 → n 2 + 1 ≤ c + k → (scm (upR (upR (upR S 5 14 z9.2.2.2.2.1) 5 15 z9.2.2.2.2.2) 5 13 (cpR z9.2.2.2.2.2 (S 5 13) c)) Sv) → (z9.2.2.1 = false → c = 0) → ∀ (H : Heap) (locs : List Loc) (ls : Array Slot), nw_W D hpC A (mW ad tC n (va_up (va_up (va_up (va_up J 0 (nI 0)) 3 (bI z9.2.2.1)) 4 (nI z9.1)) 5 (bI z9.2.2.1)) z9.2.2.2.1 Lv bX aY Sv) ad H → va_S A s.heap H locs → lv_has ls 4 [(0, .ref (ad (64))), (2, .int (bI z9.2.1)), (3, .int (nI c))] → W p l e ({ frames := 6, cells := 0, slots := 0, locals := 143 } : Room) s m args below meth cd H locs 0 0 Q (F0 m 61 ls []) := by
        intro k
        induction k with
        | zero => intro c Lv Sv h1 h2; exact absurd h2 (by omega)
        | succ k ih61 =>
          intro c Lv Sv hv61 hk61 hsv hc0 H locs ls hw hS hl
          refine lv_iload_n hx hb d_M_run_61 rfl (lv_at hl 2 rfl) ?_
          refine lv_aload_n hx hb d_M_run_62 rfl (lv_at hl 0 rfl) ?_
          refine nw_get hx hb hts i_M hown hK hw (64) (mW_64) rfl 5 (by decide) (hts _ kw_664) (fun _ h9 => h9) rfl d_M_run_63 ?_
          refine lv_icmp_ge (tgt := 94) hx hb d_M_run_66 (by decide) (fun c_66 => ?_) (fun c_66 => ?_)
          · skip
            have hge : n 2 ≤ c := (nI_leI (by omega) (by omega)).mp c_66
            obtain rfl : n 2 = c := by omega
            have hpl : cpR z9.2.2.2.2.2 (S 5 13) (n 2) = plM z9 (S 5 13) (n 2) := by
              unfold plM
              by_cases h9 : z9.2.2.1 = true
              · rw [if_pos h9]
              · rw [if_neg h9, hc0 (by simpa using h9), cpR_0]
            rw [hpl] at hsv
            refine lv_aload_n hx hb d_M_run_94 rfl (lv_at hl 0 rfl) ?_
            refine nw_get hx hb hts i_M hown hK hw (64) (mW_64) rfl 26 (by decide) (hts _ kw_685) (fun _ h9 => h9) rfl d_M_run_95 ?_
            refine lv_ei (y := bI z9.2.2.1) (rfl) ?_
            refine lv_if_eq (tgt := 113) hx hb d_M_run_98 (by decide) (fun c_98 => ?_) (fun c_98 => ?_)
            · skip
              have hub8 : ¬ z9.2.2.1 = true := by rw [bI_0 c_98]; decide
              refine lv_iload_n hx hb d_M_run_113 rfl (lv_at hl 1 rfl) ?_
              refine lv_if_eq (tgt := 121) hx hb d_M_run_114 (by decide) (fun c_114 => ?_) (fun c_114 => ?_)
              · skip
                have hsp8 : ¬ z9.2.1 = true := by rw [bI_0 c_114]; decide
                refine lv_iconst (v := nI 2) hx hb d_M_run_121 (by decide) ?_
                refine lv_ei (y := rvM z9) (by unfold rvM; rw [if_neg hub8, if_neg hsp8]) ?_
                exact nw_iret hQ hx hb hr hlocks hw hS (nw_mo_ok (fun h => h hok9) (fun h => h hst9) (⟨rfl, _, _, hsv, rfl⟩)) (Nat.le_of_ble_eq_true rfl) (Nat.le_of_ble_eq_true rfl) d_M_run_122
              · skip
                have hsp8 : z9.2.1 = true := bI_1 c_114
                refine lv_iconst (v := nI 3) hx hb d_M_run_117 (by decide) ?_
                refine lv_goto (tgt := 122) hx hb d_M_run_118 (by decide) ?_
                refine lv_ei (y := rvM z9) (by unfold rvM; rw [if_neg hub8, if_pos hsp8]) ?_
                exact nw_iret hQ hx hb hr hlocks hw hS (nw_mo_ok (fun h => h hok9) (fun h => h hst9) (⟨rfl, _, _, hsv, rfl⟩)) (Nat.le_of_ble_eq_true rfl) (Nat.le_of_ble_eq_true rfl) d_M_run_122
            · skip
              have hub8 : z9.2.2.1 = true := bI_1 c_98
              refine lv_iload_n hx hb d_M_run_101 rfl (lv_at hl 1 rfl) ?_
              refine lv_if_eq (tgt := 109) hx hb d_M_run_102 (by decide) (fun c_102 => ?_) (fun c_102 => ?_)
              · skip
                have hsp8 : ¬ z9.2.1 = true := by rw [bI_0 c_102]; decide
                refine lv_iconst (v := nI 0) hx hb d_M_run_109 (by decide) ?_
                refine lv_goto (tgt := 122) hx hb d_M_run_110 (by decide) ?_
                refine lv_ei (y := rvM z9) (by unfold rvM; rw [if_pos hub8, if_neg hsp8]) ?_
                exact nw_iret hQ hx hb hr hlocks hw hS (nw_mo_ok (fun h => h hok9) (fun h => h hst9) (⟨rfl, _, _, hsv, rfl⟩)) (Nat.le_of_ble_eq_true rfl) (Nat.le_of_ble_eq_true rfl) d_M_run_122
              · skip
                have hsp8 : z9.2.1 = true := bI_1 c_102
                refine lv_iconst (v := nI 1) hx hb d_M_run_105 (by decide) ?_
                refine lv_goto (tgt := 122) hx hb d_M_run_106 (by decide) ?_
                refine lv_ei (y := rvM z9) (by unfold rvM; rw [if_pos hub8, if_pos hsp8]) ?_
                exact nw_iret hQ hx hb hr hlocks hw hS (nw_mo_ok (fun h => h hok9) (fun h => h hst9) (⟨rfl, _, _, hsv, rfl⟩)) (Nat.le_of_ble_eq_true rfl) (Nat.le_of_ble_eq_true rfl) d_M_run_122
          · skip
            have hlt : c < n 2 := Nat.not_le.mp (fun q => c_66 (nI_le q (by omega)))
            refine lv_aload_n hx hb d_M_run_69 rfl (lv_at hl 0 rfl) ?_
            refine nw_get hx hb hts i_M hown hK hw (64) (mW_64) rfl 26 (by decide) (hts _ kw_685) (fun _ h9 => h9) rfl d_M_run_70 ?_
            refine lv_ei (y := bI z9.2.2.1) (rfl) ?_
            refine lv_if_eq (tgt := 94) hx hb d_M_run_73 (by decide) (fun c_73 => ?_) (fun c_73 => ?_)
            · skip
              have hub9 : z9.2.2.1 = false := bI_0 c_73
              have hpl : cpR z9.2.2.2.2.2 (S 5 13) c = plM z9 (S 5 13) (n 2) := by
                unfold plM
                rw [if_neg (by rw [hub9]; decide), hc0 hub9, cpR_0]
              rw [hpl] at hsv
              refine lv_aload_n hx hb d_M_run_94 rfl (lv_at hl 0 rfl) ?_
              refine nw_get hx hb hts i_M hown hK hw (64) (mW_64) rfl 26 (by decide) (hts _ kw_685) (fun _ h9 => h9) rfl d_M_run_95 ?_
              refine lv_ei (y := bI z9.2.2.1) (rfl) ?_
              refine lv_if_eq (tgt := 113) hx hb d_M_run_98 (by decide) (fun c_98 => ?_) (fun c_98 => ?_)
              · skip
                have hub8 : ¬ z9.2.2.1 = true := by rw [bI_0 c_98]; decide
                refine lv_iload_n hx hb d_M_run_113 rfl (lv_at hl 1 rfl) ?_
                refine lv_if_eq (tgt := 121) hx hb d_M_run_114 (by decide) (fun c_114 => ?_) (fun c_114 => ?_)
                · skip
                  have hsp8 : ¬ z9.2.1 = true := by rw [bI_0 c_114]; decide
                  refine lv_iconst (v := nI 2) hx hb d_M_run_121 (by decide) ?_
                  refine lv_ei (y := rvM z9) (by unfold rvM; rw [if_neg hub8, if_neg hsp8]) ?_
                  exact nw_iret hQ hx hb hr hlocks hw hS (nw_mo_ok (fun h => h hok9) (fun h => h hst9) (⟨rfl, _, _, hsv, rfl⟩)) (Nat.le_of_ble_eq_true rfl) (Nat.le_of_ble_eq_true rfl) d_M_run_122
                · skip
                  have hsp8 : z9.2.1 = true := bI_1 c_114
                  refine lv_iconst (v := nI 3) hx hb d_M_run_117 (by decide) ?_
                  refine lv_goto (tgt := 122) hx hb d_M_run_118 (by decide) ?_
                  refine lv_ei (y := rvM z9) (by unfold rvM; rw [if_neg hub8, if_pos hsp8]) ?_
                  exact nw_iret hQ hx hb hr hlocks hw hS (nw_mo_ok (fun h => h hok9) (fun h => h hst9) (⟨rfl, _, _, hsv, rfl⟩)) (Nat.le_of_ble_eq_true rfl) (Nat.le_of_ble_eq_true rfl) d_M_run_122
              · skip
                have hub8 : z9.2.2.1 = true := bI_1 c_98
                refine lv_iload_n hx hb d_M_run_101 rfl (lv_at hl 1 rfl) ?_
                refine lv_if_eq (tgt := 109) hx hb d_M_run_102 (by decide) (fun c_102 => ?_) (fun c_102 => ?_)
                · skip
                  have hsp8 : ¬ z9.2.1 = true := by rw [bI_0 c_102]; decide
                  refine lv_iconst (v := nI 0) hx hb d_M_run_109 (by decide) ?_
                  refine lv_goto (tgt := 122) hx hb d_M_run_110 (by decide) ?_
                  refine lv_ei (y := rvM z9) (by unfold rvM; rw [if_pos hub8, if_neg hsp8]) ?_
                  exact nw_iret hQ hx hb hr hlocks hw hS (nw_mo_ok (fun h => h hok9) (fun h => h hst9) (⟨rfl, _, _, hsv, rfl⟩)) (Nat.le_of_ble_eq_true rfl) (Nat.le_of_ble_eq_true rfl) d_M_run_122
                · skip
                  have hsp8 : z9.2.1 = true := bI_1 c_102
                  refine lv_iconst (v := nI 1) hx hb d_M_run_105 (by decide) ?_
                  refine lv_goto (tgt := 122) hx hb d_M_run_106 (by decide) ?_
                  refine lv_ei (y := rvM z9) (by unfold rvM; rw [if_pos hub8, if_pos hsp8]) ?_
                  exact nw_iret hQ hx hb hr hlocks hw hS (nw_mo_ok (fun h => h hok9) (fun h => h hst9) (⟨rfl, _, _, hsv, rfl⟩)) (Nat.le_of_ble_eq_true rfl) (Nat.le_of_ble_eq_true rfl) d_M_run_122
            · skip
              refine lv_aload_n hx hb d_M_run_76 rfl (lv_at hl 0 rfl) ?_
              refine nw_get hx hb hts i_M hown hK hw (64) (mW_64) rfl 22 (by decide) (hts _ kw_681) (fun _ h9 => h9) rfl d_M_run_77 ?_
              refine lv_iload_n hx hb d_M_run_80 rfl (lv_at hl 2 rfl) ?_
              refine lv_aload_n hx hb d_M_run_81 rfl (lv_at hl 0 rfl) ?_
              refine nw_get hx hb hts i_M hown hK hw (64) (mW_64) rfl 25 (by decide) (hts _ kw_684) (fun _ h9 => h9) rfl d_M_run_82 ?_
              refine lv_iload_n hx hb d_M_run_85 rfl (lv_at hl 2 rfl) ?_
              refine nw_iald hx hb hK hw (195) 0 (mW_row (t := 5) (j := 15) (by decide) (by decide) (rfl)) rfl (c) (rfl) (by omega) (by omega) d_M_run_86 ?_
              refine lv_ei (y := z9.2.2.2.2.2 c) (congrFun (hsv 5 15 (by omega)) _) ?_
              refine nw_iast hx hb hK hw hS (193) 0 (mW_row (t := 5) (j := 13) (by decide) (by decide) (rfl)) rfl (c) (rfl) (by omega) (by omega) d_M_run_87 (fun H locs hw hS => ?_)
              have hw := mW_setRow (t := 5) (j := 13) (by decide) (by decide) (rfl) hw
              obtain ⟨St7, hst7, hw⟩ := ex_13 hsv hw
              refine lv_iinc (v := nI (c + 1)) (lv' := [(3, .int (nI (c + 1))), (0, .ref (ad (64))), (2, .int (bI z9.2.1))]) hx hb d_M_run_88 hl (k := 2) rfl ((nI_succ _).symm) (by decide) rfl (fun ls hl => ?_)
              refine lv_goto (tgt := 61) hx hb d_M_run_91 (by decide) ?_
              exact ih61 (c + 1) (_) (_) (by omega) (by omega) (by have h9 := hst7; rw [cpR_s] at h9; exact h9) (fun h => absurd (bI_1 c_73) (by rw [h]; decide)) _ _ ls hw hS (lv_sub hl [1, 2, 0] rfl)
      exact loop61 (n 2 + 1) (0) (_) (_) (by omega) (by omega) (by rw [cpR_0]; exact scm_13 hsc9z) (fun _ => rfl) _ _ ls hw hS (lv_sub hl [2, 1, 0] rfl)
    · skip
      have h20 : n 2 = 0 := (nI_eq (b := 0) (by omega) (by omega)).mp c_35
      have hsc0 : scm (upR (upR S 5 14 (S 5 14)) 5 15 (S 5 15)) S := by
        have e9 := upR_same (S := S) (t := 5) (j := 14)
        rw [e9, upR_same]; exact scm_rf
      have hw := nw_W.as (wn' := mW ad tC n (va_up (va_up (va_up J 0 (nI 0)) 4 (nI 0)) 5 (bI false)) bw L bX aY S) hw rfl
      refine lv_aload_n hx hb d_M_run_38 rfl (lv_at hl 1 rfl) ?_
      refine nw_call (nw_goV (n := 0) (As := []) (rest := []) hSx hA hKs hw hS (c_M_meet l D tC A ad n (va_up J 0 (nI 0)) bX aY S hN false hm hH 0 false bw (S 5 14) (S 5 15) L S hsc0) kw_823 kw_820 kw_822 ks_M_meet kw_8 rfl rfl (by decide +kernel) ⟨Nat.le_of_ble_eq_true rfl, Nat.le_of_ble_eq_true rfl⟩ (nw_recv hK hw (mW_64) rfl) rfl hl.1 (Nat.le_of_ble_eq_true rfl) d_M_run_39 ⟨Nat.le_of_ble_eq_true rfl, Nat.le_of_ble_eq_true rfl⟩) hS (fun rv wn' ad' H locs hpost hw hS => ?_)
      obtain ⟨hrv9, L9z, S9z, hsc9z, hw⟩ := nw_mz_out hpost hw
      subst hrv9
      have hz9 : meM n (va_up J 0 (nI 0)) hm S (0, false, false, bw, S 5 14, S 5 15) = (rnM n (va_up J 0 (nI 0)) hm S lim bw) := (if_pos h20).symm
      rw [hz9] at hw hsc9z
      have hsp9 : (rnM n (va_up J 0 (nI 0)) hm S lim bw).2.1 = false := by rw [← hz9]; exact meM_k.2.1
      obtain ⟨z9, hz⟩ : ∃ z : mX, z = (rnM n (va_up J 0 (nI 0)) hm S lim bw) := ⟨_, rfl⟩
      rw [← hz] at hw hsc9z hsp9 hQ
      refine lv_goto (tgt := 51) hx hb d_M_run_42 (by decide) ?_
      have el2 : bI z9.2.1 = nI 0 := by rw [hsp9]; rfl
      have hl : lv_has ls 4 [(2, .int (bI z9.2.1)), (0, .ref (ad (64))), (1, .int (nI lim))] := by
        have h9 := hl
        revert h9; rw [show Value.int (bI z9.2.1) = Value.int (nI 0) from congrArg _ el2]; intro h9
        exact h9
      refine lv_aload_n hx hb d_M_run_51 rfl (lv_at hl 1 rfl) ?_
      refine lv_aload_n hx hb d_M_run_52 rfl (lv_at hl 1 rfl) ?_
      refine nw_get hx hb hts i_M hown hK hw (64) (mW_64) rfl 26 (by decide) (hts _ kw_685) (fun _ h9 => h9) rfl d_M_run_53 ?_
      refine lv_ei (y := bI z9.2.2.1) (rfl) ?_
      refine nw_put (v := .int (bI z9.2.2.1)) (ty := .boolean) hx hb hts i_M t_M tk_M n_M hown hK hw hS (64) (mW_64) rfl 21 (by decide) (hts _ kw_680) (fun _ h9 => h9) rfl (by decide +kernel) (by generalize z9.2.2.1 = b9; cases b9 <;> rfl) (by generalize z9.2.2.1 = b9; cases b9 <;> rfl) (Nat.le_of_ble_eq_true rfl) d_M_run_56 (fun H locs hw hS => ?_)
      have hw := nw_W.as (wn' := mW ad tC n (va_up (va_up (va_up (va_up J 0 (nI 0)) 3 (bI z9.2.2.1)) 4 (nI z9.1)) 5 (bI z9.2.2.1)) z9.2.2.2.1 L9z bX aY S9z) (mW_setO (n' := n) (J' := va_up (va_up (va_up (va_up J 0 (nI 0)) 4 (nI z9.1)) 5 (bI z9.2.2.1)) 3 (bI z9.2.2.1)) (bw' := z9.2.2.2.1) rfl hw) (by rw [kup35])
      refine lv_iconst (v := nI 0) hx hb d_M_run_59 (by decide) ?_
      refine lv_istore_n (lv' := [(3, .int (nI 0)), (2, .int (bI z9.2.1)), (0, .ref (ad (64))), (1, .int (nI lim))]) hx hb d_M_run_60 rfl hl (by decide) rfl (fun ls hl => ?_)
      have loop61 : ∀ (k c : Nat) (Lv : Nat → Nat → Int64) (Sv : Nat → Nat → Nat → Int32), c ≤ n 2 → n 2 + 1 ≤ c + k → (scm (upR (upR (upR S 5 14 z9.2.2.2.2.1) 5 15 z9.2.2.2.2.2) 5 13 (cpR z9.2.2.2.2.2 (S 5 13) c)) Sv) → (z9.2.2.1 = false → c = 0) → ∀ (H : Heap) (locs : List Loc) (ls : Array Slot), nw_W D hpC A (mW ad tC n (va_up (va_up (va_up (va_up J 0 (nI 0)) 3 (bI z9.2.2.1)) 4 (nI z9.1)) 5 (bI z9.2.2.1)) z9.2.2.2.1 Lv bX aY Sv) ad H → va_S A s.heap H locs → lv_has ls 4 [(0, .ref (ad (64))), (2, .int (bI z9.2.1)), (3, .int (nI c))] → W p l e ({ frames := 6, cells := 0, slots := 0, locals := 143 } : Room) s m args below meth cd H locs 0 0 Q (F0 m 61 ls []) := by
        intro k
        induction k with
        | zero => intro c Lv Sv h1 h2; exact absurd h2 (by omega)
        | succ k ih61 =>
          intro c Lv Sv hv61 hk61 hsv hc0 H locs ls hw hS hl
          refine lv_iload_n hx hb d_M_run_61 rfl (lv_at hl 2 rfl) ?_
          refine lv_aload_n hx hb d_M_run_62 rfl (lv_at hl 0 rfl) ?_
          refine nw_get hx hb hts i_M hown hK hw (64) (mW_64) rfl 5 (by decide) (hts _ kw_664) (fun _ h9 => h9) rfl d_M_run_63 ?_
          refine lv_icmp_ge (tgt := 94) hx hb d_M_run_66 (by decide) (fun c_66 => ?_) (fun c_66 => ?_)
          · skip
            have hge : n 2 ≤ c := (nI_leI (by omega) (by omega)).mp c_66
            obtain rfl : n 2 = c := by omega
            have hpl : cpR z9.2.2.2.2.2 (S 5 13) (n 2) = plM z9 (S 5 13) (n 2) := by
              unfold plM
              by_cases h9 : z9.2.2.1 = true
              · rw [if_pos h9]
              · rw [if_neg h9, hc0 (by simpa using h9), cpR_0]
            rw [hpl] at hsv
            refine lv_aload_n hx hb d_M_run_94 rfl (lv_at hl 0 rfl) ?_
            refine nw_get hx hb hts i_M hown hK hw (64) (mW_64) rfl 26 (by decide) (hts _ kw_685) (fun _ h9 => h9) rfl d_M_run_95 ?_
            refine lv_ei (y := bI z9.2.2.1) (rfl) ?_
            refine lv_if_eq (tgt := 113) hx hb d_M_run_98 (by decide) (fun c_98 => ?_) (fun c_98 => ?_)
            · skip
              have hub8 : ¬ z9.2.2.1 = true := by rw [bI_0 c_98]; decide
              refine lv_iload_n hx hb d_M_run_113 rfl (lv_at hl 1 rfl) ?_
              refine lv_if_eq (tgt := 121) hx hb d_M_run_114 (by decide) (fun c_114 => ?_) (fun c_114 => ?_)
              · skip
                have hsp8 : ¬ z9.2.1 = true := by rw [bI_0 c_114]; decide
                refine lv_iconst (v := nI 2) hx hb d_M_run_121 (by decide) ?_
                refine lv_ei (y := rvM z9) (by unfold rvM; rw [if_neg hub8, if_neg hsp8]) ?_
                exact nw_iret hQ hx hb hr hlocks hw hS (nw_mo_ok (fun h => h hok9) (fun h => h hst9) (⟨rfl, _, _, hsv, rfl⟩)) (Nat.le_of_ble_eq_true rfl) (Nat.le_of_ble_eq_true rfl) d_M_run_122
              · skip
                have hsp8 : z9.2.1 = true := bI_1 c_114
                refine lv_iconst (v := nI 3) hx hb d_M_run_117 (by decide) ?_
                refine lv_goto (tgt := 122) hx hb d_M_run_118 (by decide) ?_
                refine lv_ei (y := rvM z9) (by unfold rvM; rw [if_neg hub8, if_pos hsp8]) ?_
                exact nw_iret hQ hx hb hr hlocks hw hS (nw_mo_ok (fun h => h hok9) (fun h => h hst9) (⟨rfl, _, _, hsv, rfl⟩)) (Nat.le_of_ble_eq_true rfl) (Nat.le_of_ble_eq_true rfl) d_M_run_122
            · skip
              have hub8 : z9.2.2.1 = true := bI_1 c_98
              refine lv_iload_n hx hb d_M_run_101 rfl (lv_at hl 1 rfl) ?_
              refine lv_if_eq (tgt := 109) hx hb d_M_run_102 (by decide) (fun c_102 => ?_) (fun c_102 => ?_)
              · skip
                have hsp8 : ¬ z9.2.1 = true := by rw [bI_0 c_102]; decide
                refine lv_iconst (v := nI 0) hx hb d_M_run_109 (by decide) ?_
                refine lv_goto (tgt := 122) hx hb d_M_run_110 (by decide) ?_
                refine lv_ei (y := rvM z9) (by unfold rvM; rw [if_pos hub8, if_neg hsp8]) ?_
                exact nw_iret hQ hx hb hr hlocks hw hS (nw_mo_ok (fun h => h hok9) (fun h => h hst9) (⟨rfl, _, _, hsv, rfl⟩)) (Nat.le_of_ble_eq_true rfl) (Nat.le_of_ble_eq_true rfl) d_M_run_122
              · skip
                have hsp8 : z9.2.1 = true := bI_1 c_102
                refine lv_iconst (v := nI 1) hx hb d_M_run_105 (by decide) ?_
                refine lv_goto (tgt := 122) hx hb d_M_run_106 (by decide) ?_
                refine lv_ei (y := rvM z9) (by unfold rvM; rw [if_pos hub8, if_pos hsp8]) ?_
                exact nw_iret hQ hx hb hr hlocks hw hS (nw_mo_ok (fun h => h hok9) (fun h => h hst9) (⟨rfl, _, _, hsv, rfl⟩)) (Nat.le_of_ble_eq_true rfl) (Nat.le_of_ble_eq_true rfl) d_M_run_122
          · skip
            have hlt : c < n 2 := Nat.not_le.mp (fun q => c_66 (nI_le q (by omega)))
            refine lv_aload_n hx hb d_M_run_69 rfl (lv_at hl 0 rfl) ?_
            refine nw_get hx hb hts i_M hown hK hw (64) (mW_64) rfl 26 (by decide) (hts _ kw_685) (fun _ h9 => h9) rfl d_M_run_70 ?_
            refine lv_ei (y := bI z9.2.2.1) (rfl) ?_
            refine lv_if_eq (tgt := 94) hx hb d_M_run_73 (by decide) (fun c_73 => ?_) (fun c_73 => ?_)
            · skip
              have hub9 : z9.2.2.1 = false := bI_0 c_73
              have hpl : cpR z9.2.2.2.2.2 (S 5 13) c = plM z9 (S 5 13) (n 2) := by
                unfold plM
                rw [if_neg (by rw [hub9]; decide), hc0 hub9, cpR_0]
              rw [hpl] at hsv
              refine lv_aload_n hx hb d_M_run_94 rfl (lv_at hl 0 rfl) ?_
              refine nw_get hx hb hts i_M hown hK hw (64) (mW_64) rfl 26 (by decide) (hts _ kw_685) (fun _ h9 => h9) rfl d_M_run_95 ?_
              refine lv_ei (y := bI z9.2.2.1) (rfl) ?_
              refine lv_if_eq (tgt := 113) hx hb d_M_run_98 (by decide) (fun c_98 => ?_) (fun c_98 => ?_)
              · skip
                have hub8 : ¬ z9.2.2.1 = true := by rw [bI_0 c_98]; decide
                refine lv_iload_n hx hb d_M_run_113 rfl (lv_at hl 1 rfl) ?_
                refine lv_if_eq (tgt := 121) hx hb d_M_run_114 (by decide) (fun c_114 => ?_) (fun c_114 => ?_)
                · skip
                  have hsp8 : ¬ z9.2.1 = true := by rw [bI_0 c_114]; decide
                  refine lv_iconst (v := nI 2) hx hb d_M_run_121 (by decide) ?_
                  refine lv_ei (y := rvM z9) (by unfold rvM; rw [if_neg hub8, if_neg hsp8]) ?_
                  exact nw_iret hQ hx hb hr hlocks hw hS (nw_mo_ok (fun h => h hok9) (fun h => h hst9) (⟨rfl, _, _, hsv, rfl⟩)) (Nat.le_of_ble_eq_true rfl) (Nat.le_of_ble_eq_true rfl) d_M_run_122
                · skip
                  have hsp8 : z9.2.1 = true := bI_1 c_114
                  refine lv_iconst (v := nI 3) hx hb d_M_run_117 (by decide) ?_
                  refine lv_goto (tgt := 122) hx hb d_M_run_118 (by decide) ?_
                  refine lv_ei (y := rvM z9) (by unfold rvM; rw [if_neg hub8, if_pos hsp8]) ?_
                  exact nw_iret hQ hx hb hr hlocks hw hS (nw_mo_ok (fun h => h hok9) (fun h => h hst9) (⟨rfl, _, _, hsv, rfl⟩)) (Nat.le_of_ble_eq_true rfl) (Nat.le_of_ble_eq_true rfl) d_M_run_122
              · skip
                have hub8 : z9.2.2.1 = true := bI_1 c_98
                refine lv_iload_n hx hb d_M_run_101 rfl (lv_at hl 1 rfl) ?_
                refine lv_if_eq (tgt := 109) hx hb d_M_run_102 (by decide) (fun c_102 => ?_) (fun c_102 => ?_)
                · skip
                  have hsp8 : ¬ z9.2.1 = true := by rw [bI_0 c_102]; decide
                  refine lv_iconst (v := nI 0) hx hb d_M_run_109 (by decide) ?_
                  refine lv_goto (tgt := 122) hx hb d_M_run_110 (by decide) ?_
                  refine lv_ei (y := rvM z9) (by unfold rvM; rw [if_pos hub8, if_neg hsp8]) ?_
                  exact nw_iret hQ hx hb hr hlocks hw hS (nw_mo_ok (fun h => h hok9) (fun h => h hst9) (⟨rfl, _, _, hsv, rfl⟩)) (Nat.le_of_ble_eq_true rfl) (Nat.le_of_ble_eq_true rfl) d_M_run_122
                · skip
                  have hsp8 : z9.2.1 = true := bI_1 c_102
                  refine lv_iconst (v := nI 1) hx hb d_M_run_105 (by decide) ?_
                  refine lv_goto (tgt := 122) hx hb d_M_run_106 (by decide) ?_
                  refine lv_ei (y := rvM z9) (by unfold rvM; rw [if_pos hub8, if_pos hsp8]) ?_
                  exact nw_iret hQ hx hb hr hlocks hw hS (nw_mo_ok (fun h => h hok9) (fun h => h hst9) (⟨rfl, _, _, hsv, rfl⟩)) (Nat.le_of_ble_eq_true rfl) (Nat.le_of_ble_eq_true rfl) d_M_run_122
            · skip
              refine lv_aload_n hx hb d_M_run_76 rfl (lv_at hl 0 rfl) ?_
              refine nw_get hx hb hts i_M hown hK hw (64) (mW_64) rfl 22 (by decide) (hts _ kw_681) (fun _ h9 => h9) rfl d_M_run_77 ?_
              refine lv_iload_n hx hb d_M_run_80 rfl (lv_at hl 2 rfl) ?_
              refine lv_aload_n hx hb d_M_run_81 rfl (lv_at hl 0 rfl) ?_
              refine nw_get hx hb hts i_M hown hK hw (64) (mW_64) rfl 25 (by decide) (hts _ kw_684) (fun _ h9 => h9) rfl d_M_run_82 ?_
              refine lv_iload_n hx hb d_M_run_85 rfl (lv_at hl 2 rfl) ?_
              refine nw_iald hx hb hK hw (195) 0 (mW_row (t := 5) (j := 15) (by decide) (by decide) (rfl)) rfl (c) (rfl) (by omega) (by omega) d_M_run_86 ?_
              refine lv_ei (y := z9.2.2.2.2.2 c) (congrFun (hsv 5 15 (by omega)) _) ?_
              refine nw_iast hx hb hK hw hS (193) 0 (mW_row (t := 5) (j := 13) (by decide) (by decide) (rfl)) rfl (c) (rfl) (by omega) (by omega) d_M_run_87 (fun H locs hw hS => ?_)
              have hw := mW_setRow (t := 5) (j := 13) (by decide) (by decide) (rfl) hw
              obtain ⟨St8, hst8, hw⟩ := ex_13 hsv hw
              refine lv_iinc (v := nI (c + 1)) (lv' := [(3, .int (nI (c + 1))), (0, .ref (ad (64))), (2, .int (bI z9.2.1))]) hx hb d_M_run_88 hl (k := 2) rfl ((nI_succ _).symm) (by decide) rfl (fun ls hl => ?_)
              refine lv_goto (tgt := 61) hx hb d_M_run_91 (by decide) ?_
              exact ih61 (c + 1) (_) (_) (by omega) (by omega) (by have h9 := hst8; rw [cpR_s] at h9; exact h9) (fun h => absurd (bI_1 c_73) (by rw [h]; decide)) _ _ ls hw hS (lv_sub hl [1, 2, 0] rfl)
      exact loop61 (n 2 + 1) (0) (_) (_) (by omega) (by omega) (by rw [cpR_0]; exact scm_13 hsc9z) (fun _ => rfl) _ _ ls hw hS (lv_sub hl [2, 1, 0] rfl)
  · skip
    refine lv_iconst (v := nI 0) hx hb d_M_run_17 (by decide) ?_
    exact nw_iret hQ hx hb hr hlocks hw hS (nw_mo_bad (Wb := (fun t => mW ad tC n (va_up J 0 t) bw L bX aY S)) ha9 hs9 (b2_1 c_14)) (Nat.le_of_ble_eq_true rfl) (Nat.le_of_ble_eq_true rfl) d_M_run_18
