/-! ADDING -/
theorem hW_rowEq {ad : Nat → Nat} {tC : Nat → ClassId} {n : Nat → Nat} {I : Nat → Nat → Int32} {K : Nat → Int32} {bw : Int64} {LA : Nat → Int64} {bM : Nat → Option va_E} {aM : Nat → Nat → Option (ClassId × Nat)} {S : Nat → Nat → Nat → Int32} {t j len : Nat} {c : ClassId} {f : Nat → Int32} (ht : t < 5) (hj : j < 16) (h : aX tC n t j = some (c, len)) : va_up (hW ad tC n I K bw LA bM aM S) (100 + 16 * t + j) (some (.inl (c, len, .inl f))) = hW ad tC n I K bw LA bM aM (upR S t j f) := by
  funext k
  by_cases hk : k = 100 + 16 * t + j
  · subst hk
    rw [va_up_self]
    rw [hW, gw_arr hj (show arX tC n aM t j = some (c, len) by rw [arX, if_pos ht]; exact h), upR_self]
  · rw [va_up_ne _ _ hk]
    simp only [hW, gw]
    by_cases h1 : k < 100
    · rw [if_pos h1, if_pos h1]
    · rw [if_neg h1, if_neg h1, upR_ne (by omega)]
def v4 (x0 x1 x2 x3 x4 : Int32) : Nat → Int32 := fun a => match a with
  | 4 => x0
  | 5 => x1
  | 6 => x2
  | 7 => x3
  | _ => x4
/-- d of the last are shifted by one -/
def shF (f : Nat → Int32) (N : Nat) : Nat → Nat → Int32
  | 0 => f
  | d + 1 => upd (shF f N d) (N - d) (shF f N d (N - d - 1))
theorem shF_lo {f : Nat → Int32} {N d j : Nat} (hd : d ≤ N) (h : j ≤ N - d) : shF f N d j = f j := by
  induction d with
  | zero => rfl
  | succ d ih =>
    simp only [shF, upd]
    rw [if_neg (by omega)]
    exact ih (by omega) (by omega)
def inF (f : Nat → Int32) (N d : Nat) : Nat → Int32 := upd (shF f N d) (N - d) (nI N)
theorem nI_posn {k : Nat} (h : 1 ≤ k) (hk : k < 2 ^ 31) : ¬ nI k ≤ 0 := fun h9 => by
  have h1 := (nI_leI hk (by omega)).mp (show nI k ≤ nI 0 from h9)
  omega
set_option maxHeartbeats 4000000 in
set_option maxRecDepth 100000 in
/-- one Place more -/
theorem c_Farm_addPlace (l : Launch) (D : va_G) (tC : Nat → ClassId) (A : Nat → Prop) (ad : Nat → Nat) (n : Nat → Nat) (I : Nat → Nat → Int32) (K : Nat → Int32) (bw : Int64) (LA : Nat → Int64) (bM : Nat → Option va_E) (aM : Nat → Nat → Option (ClassId × Nat)) (S : Nat → Nat → Nat → Int32) (hN : hpN n) (x : Int32) (hi9 : n 1 < 4) : nw_Met l y_Farm_addPlace [Cond.code y_Farm_addPlace b_Farm_addPlace 2 (some .int)] ({ frames := 0, cells := 0, slots := 0, locals := 0 } : Room) D hpC A [.ref (ad (1)), .ref (ad (24 + n 1))] (nw_pre D hpC (hpT tC) A (va_up (va_up (hW ad tC n I K bw LA bM aM S) (24 + n 1) (some (.inr (5, [.int (x), .ref (ad (116 + n 1))])))) (116 + n 1) (some (.inl (tC 2, n 0, .inl (fun _ => 0))))) ad) (nw_ok (some (.int (nI (n 1)))) (hW ad tC (va_up n 1 (n 1 + 1)) (adI I 1 1 (n 1) (fun _ => x)) K bw LA bM aM (adS S 1 1 (n 1))) ad) 0 0 := by
  refine nw_bodyK (by decide) (Nat.le_of_ble_eq_true rfl) ?_
  intro p e s m below meth cd ls args Q hSx hr hlocks hname hA hKs hw hS hl hQ
  obtain ⟨hx, hb, hml, hown, hts⟩ := id hSx
  have hK := hKs.1
  have hl : lv_has ls 2 [(0, .ref (ad (1))), (1, .ref (ad (24 + n 1)))] := hl
  obtain ⟨hn0, hn0', hn1, hn2, hn3, hn4⟩ := id hN
  refine lv_aload_n hx hb d_Farm_addPlace_0 rfl (lv_at hl 0 rfl) ?_
  refine nw_get hx hb hts i_Farm hown hK hw (1) ((va_up_ne _ _ (by omega)).trans ((va_up_ne _ _ (by omega)).trans (hW_1))) rfl 1 (by decide) (hts _ kw_51) (fun _ h9 => h9) rfl d_Farm_addPlace_1 ?_
  refine lv_aload_n hx hb d_Farm_addPlace_4 rfl (lv_at hl 0 rfl) ?_
  refine nw_get hx hb hts i_Farm hown hK hw (1) ((va_up_ne _ _ (by omega)).trans ((va_up_ne _ _ (by omega)).trans (hW_1))) rfl 7 (by decide) (hts _ kw_68) (fun _ h9 => h9) rfl d_Farm_addPlace_5 ?_
  refine lv_aload_n hx hb d_Farm_addPlace_8 rfl (lv_at hl 1 rfl) ?_
  refine nw_aast hx hb hK hw hS (6) 3 (24 + n 1) 5 ((va_up_ne _ _ (by omega)).trans ((va_up_ne _ _ (by omega)).trans (hW_6))) rfl ((va_up_ne _ _ (by omega)).trans (va_up_self ..)) rfl (n 1) (rfl) (by omega) (by omega) d_Farm_addPlace_9 (fun H locs hw hS => ?_)
  have hw := nw_W.as (wn' := va_up (va_up (va_up (hW ad tC n I K bw LA bM aM S) (24 + n 1) (some (.inr (5, [.int (x), .ref (ad (116 + n 1))])))) (116 + n 1) (some (.inl (tC 2, n 0, .inl (fun _ => 0))))) (6) (some (.inl (tC 3, 4, .inr (.inr (.inr (.inr (va_up (fun i => if i < n 1 then some (ad (24 + i)) else none) (n 1) (some (ad (24 + n 1))))))))))) hw rfl
  refine lv_aload_n hx hb d_Farm_addPlace_10 rfl (lv_at hl 0 rfl) ?_
  refine lv_dup hx hb d_Farm_addPlace_11 rfl ?_
  refine nw_get hx hb hts i_Farm hown hK hw (1) ((va_up_ne _ _ (by omega)).trans ((va_up_ne _ _ (by omega)).trans ((va_up_ne _ _ (by omega)).trans (hW_1)))) rfl 7 (by decide) (hts _ kw_68) (fun _ h9 => h9) rfl d_Farm_addPlace_12 ?_
  refine lv_dup_x1 hx hb d_Farm_addPlace_15 rfl rfl ?_
  refine lv_iconst (v := nI 1) hx hb d_Farm_addPlace_16 (by decide) ?_
  refine lv_iadd hx hb d_Farm_addPlace_17 ?_
  refine lv_ei (y := nI (n 1 + 1)) (nI_add _ _) ?_
  refine nw_put (v := .int (nI (n 1 + 1))) (ty := .int) hx hb hts i_Farm t_Farm tk_Farm n_Farm hown hK hw hS (1) ((va_up_ne _ _ (by omega)).trans ((va_up_ne _ _ (by omega)).trans ((va_up_ne _ _ (by omega)).trans (hW_1)))) rfl 7 (by decide) (hts _ kw_68) (fun _ h9 => h9) rfl (by decide +kernel) (rfl) (rfl) (Nat.le_of_ble_eq_true rfl) d_Farm_addPlace_18 (fun H locs hw hS => ?_)
  have hw := nw_W.as (wn' := va_up (va_up (va_up (va_up (hW ad tC n I K bw LA bM aM S) (24 + n 1) (some (.inr (5, [.int (x), .ref (ad (116 + n 1))])))) (116 + n 1) (some (.inl (tC 2, n 0, .inl (fun _ => 0))))) (6) (some (.inl (tC 3, 4, .inr (.inr (.inr (.inr (va_up (fun i => if i < n 1 then some (ad (24 + i)) else none) (n 1) (some (ad (24 + n 1))))))))))) (1) (some (.inr (1, [.int (nI (n 0)), .ref (ad (6)), .ref (ad (7)), .ref (ad (8)), .ref (ad (9)), .ref (ad (101)), .ref (ad (102)), .int (nI (n 1 + 1)), .int (nI (n 2)), .int (nI (n 3)), .int (nI (n 4)), .int (I 0 1), .int (I 0 2)])))) hw rfl
  have hw := hW_addPlace (v := (fun _ => x)) hN hi9 ((va_up_ne _ _ (by omega)).trans ((va_up_ne _ _ (by omega)).trans ((va_up_ne _ _ (by omega)).trans (va_up_self ..)))) ((va_up_ne _ _ (by omega)).trans ((va_up_ne _ _ (by omega)).trans (va_up_self ..))) ((va_up_ne _ _ (by omega)).trans (va_up_self ..)) (va_up_self ..) (fun k9 p0 p1 p2 p3 => by
    rw [va_up_ne _ _ (show k9 ≠ 1 by omega)]
    rw [va_up_ne _ _ (show k9 ≠ 6 by omega)]
    rw [va_up_ne _ _ (show k9 ≠ 116 + n 1 by omega)]
    rw [va_up_ne _ _ (show k9 ≠ 24 + n 1 by omega)]) hw
  exact nw_iret hQ hx hb hr hlocks hw hS (nw_ok_rf) (Nat.le_of_ble_eq_true rfl) (Nat.le_of_ble_eq_true rfl) d_Farm_addPlace_21

set_option maxHeartbeats 4000000 in
set_option maxRecDepth 100000 in
/-- one Cage more -/
theorem c_Farm_addCage (l : Launch) (D : va_G) (tC : Nat → ClassId) (A : Nat → Prop) (ad : Nat → Nat) (n : Nat → Nat) (I : Nat → Nat → Int32) (K : Nat → Int32) (bw : Int64) (LA : Nat → Int64) (bM : Nat → Option va_E) (aM : Nat → Nat → Option (ClassId × Nat)) (S : Nat → Nat → Nat → Int32) (hN : hpN n) (x : Int32) (hi9 : n 2 < 6) : nw_Met l y_Farm_addCage [Cond.code y_Farm_addCage b_Farm_addCage 2 (some .int)] ({ frames := 0, cells := 0, slots := 0, locals := 0 } : Room) D hpC A [.ref (ad (1)), .ref (ad (32 + n 2))] (nw_pre D hpC (hpT tC) A (va_up (va_up (va_up (hW ad tC n I K bw LA bM aM S) (32 + n 2) (some (.inr (6, [.int (x), .ref (ad (132 + n 2)), .ref (ad (148 + n 2))])))) (132 + n 2) (some (.inl (tC 0, n 0, .inl (fun _ => 0))))) (148 + n 2) (some (.inl (tC 0, n 0, .inl (fun _ => 0))))) ad) (nw_ok (some (.int (nI (n 2)))) (hW ad tC (va_up n 2 (n 2 + 1)) (adI I 2 2 (n 2) (fun _ => x)) K bw LA bM aM (adS S 2 3 (n 2))) ad) 0 0 := by
  refine nw_bodyK (by decide) (Nat.le_of_ble_eq_true rfl) ?_
  intro p e s m below meth cd ls args Q hSx hr hlocks hname hA hKs hw hS hl hQ
  obtain ⟨hx, hb, hml, hown, hts⟩ := id hSx
  have hK := hKs.1
  have hl : lv_has ls 2 [(0, .ref (ad (1))), (1, .ref (ad (32 + n 2)))] := hl
  obtain ⟨hn0, hn0', hn1, hn2, hn3, hn4⟩ := id hN
  refine lv_aload_n hx hb d_Farm_addCage_0 rfl (lv_at hl 0 rfl) ?_
  refine nw_get hx hb hts i_Farm hown hK hw (1) ((va_up_ne _ _ (by omega)).trans ((va_up_ne _ _ (by omega)).trans ((va_up_ne _ _ (by omega)).trans (hW_1)))) rfl 2 (by decide) (hts _ kw_54) (fun _ h9 => h9) rfl d_Farm_addCage_1 ?_
  refine lv_aload_n hx hb d_Farm_addCage_4 rfl (lv_at hl 0 rfl) ?_
  refine nw_get hx hb hts i_Farm hown hK hw (1) ((va_up_ne _ _ (by omega)).trans ((va_up_ne _ _ (by omega)).trans ((va_up_ne _ _ (by omega)).trans (hW_1)))) rfl 8 (by decide) (hts _ kw_72) (fun _ h9 => h9) rfl d_Farm_addCage_5 ?_
  refine lv_aload_n hx hb d_Farm_addCage_8 rfl (lv_at hl 1 rfl) ?_
  refine nw_aast hx hb hK hw hS (7) 4 (32 + n 2) 6 ((va_up_ne _ _ (by omega)).trans ((va_up_ne _ _ (by omega)).trans ((va_up_ne _ _ (by omega)).trans (hW_7)))) rfl ((va_up_ne _ _ (by omega)).trans ((va_up_ne _ _ (by omega)).trans (va_up_self ..))) rfl (n 2) (rfl) (by omega) (by omega) d_Farm_addCage_9 (fun H locs hw hS => ?_)
  have hw := nw_W.as (wn' := va_up (va_up (va_up (va_up (hW ad tC n I K bw LA bM aM S) (32 + n 2) (some (.inr (6, [.int (x), .ref (ad (132 + n 2)), .ref (ad (148 + n 2))])))) (132 + n 2) (some (.inl (tC 0, n 0, .inl (fun _ => 0))))) (148 + n 2) (some (.inl (tC 0, n 0, .inl (fun _ => 0))))) (7) (some (.inl (tC 4, 6, .inr (.inr (.inr (.inr (va_up (fun i => if i < n 2 then some (ad (32 + i)) else none) (n 2) (some (ad (32 + n 2))))))))))) hw rfl
  refine lv_aload_n hx hb d_Farm_addCage_10 rfl (lv_at hl 0 rfl) ?_
  refine lv_dup hx hb d_Farm_addCage_11 rfl ?_
  refine nw_get hx hb hts i_Farm hown hK hw (1) ((va_up_ne _ _ (by omega)).trans ((va_up_ne _ _ (by omega)).trans ((va_up_ne _ _ (by omega)).trans ((va_up_ne _ _ (by omega)).trans (hW_1))))) rfl 8 (by decide) (hts _ kw_72) (fun _ h9 => h9) rfl d_Farm_addCage_12 ?_
  refine lv_dup_x1 hx hb d_Farm_addCage_15 rfl rfl ?_
  refine lv_iconst (v := nI 1) hx hb d_Farm_addCage_16 (by decide) ?_
  refine lv_iadd hx hb d_Farm_addCage_17 ?_
  refine lv_ei (y := nI (n 2 + 1)) (nI_add _ _) ?_
  refine nw_put (v := .int (nI (n 2 + 1))) (ty := .int) hx hb hts i_Farm t_Farm tk_Farm n_Farm hown hK hw hS (1) ((va_up_ne _ _ (by omega)).trans ((va_up_ne _ _ (by omega)).trans ((va_up_ne _ _ (by omega)).trans ((va_up_ne _ _ (by omega)).trans (hW_1))))) rfl 8 (by decide) (hts _ kw_72) (fun _ h9 => h9) rfl (by decide +kernel) (rfl) (rfl) (Nat.le_of_ble_eq_true rfl) d_Farm_addCage_18 (fun H locs hw hS => ?_)
  have hw := nw_W.as (wn' := va_up (va_up (va_up (va_up (va_up (hW ad tC n I K bw LA bM aM S) (32 + n 2) (some (.inr (6, [.int (x), .ref (ad (132 + n 2)), .ref (ad (148 + n 2))])))) (132 + n 2) (some (.inl (tC 0, n 0, .inl (fun _ => 0))))) (148 + n 2) (some (.inl (tC 0, n 0, .inl (fun _ => 0))))) (7) (some (.inl (tC 4, 6, .inr (.inr (.inr (.inr (va_up (fun i => if i < n 2 then some (ad (32 + i)) else none) (n 2) (some (ad (32 + n 2))))))))))) (1) (some (.inr (1, [.int (nI (n 0)), .ref (ad (6)), .ref (ad (7)), .ref (ad (8)), .ref (ad (9)), .ref (ad (101)), .ref (ad (102)), .int (nI (n 1)), .int (nI (n 2 + 1)), .int (nI (n 3)), .int (nI (n 4)), .int (I 0 1), .int (I 0 2)])))) hw rfl
  have hw := hW_addCage (v := (fun _ => x)) hN hi9 ((va_up_ne _ _ (by omega)).trans ((va_up_ne _ _ (by omega)).trans ((va_up_ne _ _ (by omega)).trans ((va_up_ne _ _ (by omega)).trans (va_up_self ..))))) ((va_up_ne _ _ (by omega)).trans ((va_up_ne _ _ (by omega)).trans ((va_up_ne _ _ (by omega)).trans (va_up_self ..)))) ((va_up_ne _ _ (by omega)).trans ((va_up_ne _ _ (by omega)).trans (va_up_self ..))) ((va_up_ne _ _ (by omega)).trans (va_up_self ..)) (va_up_self ..) (fun k9 p0 p1 p2 p3 p4 => by
    rw [va_up_ne _ _ (show k9 ≠ 1 by omega)]
    rw [va_up_ne _ _ (show k9 ≠ 7 by omega)]
    rw [va_up_ne _ _ (show k9 ≠ 148 + n 2 by omega)]
    rw [va_up_ne _ _ (show k9 ≠ 132 + n 2 by omega)]
    rw [va_up_ne _ _ (show k9 ≠ 32 + n 2 by omega)]) hw
  exact nw_iret hQ hx hb hr hlocks hw hS (nw_ok_rf) (Nat.le_of_ble_eq_true rfl) (Nat.le_of_ble_eq_true rfl) d_Farm_addCage_21

set_option maxHeartbeats 4000000 in
set_option maxRecDepth 100000 in
/-- one Boat more -/
theorem c_Farm_addBoat (l : Launch) (D : va_G) (tC : Nat → ClassId) (A : Nat → Prop) (ad : Nat → Nat) (n : Nat → Nat) (I : Nat → Nat → Int32) (K : Nat → Int32) (bw : Int64) (LA : Nat → Int64) (bM : Nat → Option va_E) (aM : Nat → Nat → Option (ClassId × Nat)) (S : Nat → Nat → Nat → Int32) (hN : hpN n) (x : Int32) (hi9 : n 3 < 3) : nw_Met l y_Farm_addBoat [Cond.code y_Farm_addBoat b_Farm_addBoat 2 (some .int)] ({ frames := 0, cells := 0, slots := 0, locals := 0 } : Room) D hpC A [.ref (ad (1)), .ref (ad (40 + n 3))] (nw_pre D hpC (hpT tC) A (va_up (va_up (hW ad tC n I K bw LA bM aM S) (40 + n 3) (some (.inr (7, [.int (x), .ref (ad (164 + n 3))])))) (164 + n 3) (some (.inl (tC 2, n 0, .inl (fun _ => 0))))) ad) (nw_ok (some (.int (nI (n 3)))) (hW ad tC (va_up n 3 (n 3 + 1)) (adI I 3 3 (n 3) (fun _ => x)) K bw LA bM aM (adS S 4 4 (n 3))) ad) 0 0 := by
  refine nw_bodyK (by decide) (Nat.le_of_ble_eq_true rfl) ?_
  intro p e s m below meth cd ls args Q hSx hr hlocks hname hA hKs hw hS hl hQ
  obtain ⟨hx, hb, hml, hown, hts⟩ := id hSx
  have hK := hKs.1
  have hl : lv_has ls 2 [(0, .ref (ad (1))), (1, .ref (ad (40 + n 3)))] := hl
  obtain ⟨hn0, hn0', hn1, hn2, hn3, hn4⟩ := id hN
  refine lv_aload_n hx hb d_Farm_addBoat_0 rfl (lv_at hl 0 rfl) ?_
  refine nw_get hx hb hts i_Farm hown hK hw (1) ((va_up_ne _ _ (by omega)).trans ((va_up_ne _ _ (by omega)).trans (hW_1))) rfl 3 (by decide) (hts _ kw_58) (fun _ h9 => h9) rfl d_Farm_addBoat_1 ?_
  refine lv_aload_n hx hb d_Farm_addBoat_4 rfl (lv_at hl 0 rfl) ?_
  refine nw_get hx hb hts i_Farm hown hK hw (1) ((va_up_ne _ _ (by omega)).trans ((va_up_ne _ _ (by omega)).trans (hW_1))) rfl 9 (by decide) (hts _ kw_76) (fun _ h9 => h9) rfl d_Farm_addBoat_5 ?_
  refine lv_aload_n hx hb d_Farm_addBoat_8 rfl (lv_at hl 1 rfl) ?_
  refine nw_aast hx hb hK hw hS (8) 5 (40 + n 3) 7 ((va_up_ne _ _ (by omega)).trans ((va_up_ne _ _ (by omega)).trans (hW_8))) rfl ((va_up_ne _ _ (by omega)).trans (va_up_self ..)) rfl (n 3) (rfl) (by omega) (by omega) d_Farm_addBoat_9 (fun H locs hw hS => ?_)
  have hw := nw_W.as (wn' := va_up (va_up (va_up (hW ad tC n I K bw LA bM aM S) (40 + n 3) (some (.inr (7, [.int (x), .ref (ad (164 + n 3))])))) (164 + n 3) (some (.inl (tC 2, n 0, .inl (fun _ => 0))))) (8) (some (.inl (tC 5, 3, .inr (.inr (.inr (.inr (va_up (fun i => if i < n 3 then some (ad (40 + i)) else none) (n 3) (some (ad (40 + n 3))))))))))) hw rfl
  refine lv_aload_n hx hb d_Farm_addBoat_10 rfl (lv_at hl 0 rfl) ?_
  refine lv_dup hx hb d_Farm_addBoat_11 rfl ?_
  refine nw_get hx hb hts i_Farm hown hK hw (1) ((va_up_ne _ _ (by omega)).trans ((va_up_ne _ _ (by omega)).trans ((va_up_ne _ _ (by omega)).trans (hW_1)))) rfl 9 (by decide) (hts _ kw_76) (fun _ h9 => h9) rfl d_Farm_addBoat_12 ?_
  refine lv_dup_x1 hx hb d_Farm_addBoat_15 rfl rfl ?_
  refine lv_iconst (v := nI 1) hx hb d_Farm_addBoat_16 (by decide) ?_
  refine lv_iadd hx hb d_Farm_addBoat_17 ?_
  refine lv_ei (y := nI (n 3 + 1)) (nI_add _ _) ?_
  refine nw_put (v := .int (nI (n 3 + 1))) (ty := .int) hx hb hts i_Farm t_Farm tk_Farm n_Farm hown hK hw hS (1) ((va_up_ne _ _ (by omega)).trans ((va_up_ne _ _ (by omega)).trans ((va_up_ne _ _ (by omega)).trans (hW_1)))) rfl 9 (by decide) (hts _ kw_76) (fun _ h9 => h9) rfl (by decide +kernel) (rfl) (rfl) (Nat.le_of_ble_eq_true rfl) d_Farm_addBoat_18 (fun H locs hw hS => ?_)
  have hw := nw_W.as (wn' := va_up (va_up (va_up (va_up (hW ad tC n I K bw LA bM aM S) (40 + n 3) (some (.inr (7, [.int (x), .ref (ad (164 + n 3))])))) (164 + n 3) (some (.inl (tC 2, n 0, .inl (fun _ => 0))))) (8) (some (.inl (tC 5, 3, .inr (.inr (.inr (.inr (va_up (fun i => if i < n 3 then some (ad (40 + i)) else none) (n 3) (some (ad (40 + n 3))))))))))) (1) (some (.inr (1, [.int (nI (n 0)), .ref (ad (6)), .ref (ad (7)), .ref (ad (8)), .ref (ad (9)), .ref (ad (101)), .ref (ad (102)), .int (nI (n 1)), .int (nI (n 2)), .int (nI (n 3 + 1)), .int (nI (n 4)), .int (I 0 1), .int (I 0 2)])))) hw rfl
  have hw := hW_addBoat (v := (fun _ => x)) hN hi9 ((va_up_ne _ _ (by omega)).trans ((va_up_ne _ _ (by omega)).trans ((va_up_ne _ _ (by omega)).trans (va_up_self ..)))) ((va_up_ne _ _ (by omega)).trans ((va_up_ne _ _ (by omega)).trans (va_up_self ..))) ((va_up_ne _ _ (by omega)).trans (va_up_self ..)) (va_up_self ..) (fun k9 p0 p1 p2 p3 => by
    rw [va_up_ne _ _ (show k9 ≠ 1 by omega)]
    rw [va_up_ne _ _ (show k9 ≠ 8 by omega)]
    rw [va_up_ne _ _ (show k9 ≠ 164 + n 3 by omega)]
    rw [va_up_ne _ _ (show k9 ≠ 40 + n 3 by omega)]) hw
  exact nw_iret hQ hx hb hr hlocks hw hS (nw_ok_rf) (Nat.le_of_ble_eq_true rfl) (Nat.le_of_ble_eq_true rfl) d_Farm_addBoat_21

set_option maxHeartbeats 4000000 in
set_option maxRecDepth 100000 in
/-- one order more -/
theorem c_Farm_addOrder (l : Launch) (D : va_G) (tC : Nat → ClassId) (A : Nat → Prop) (ad : Nat → Nat) (n : Nat → Nat) (I : Nat → Nat → Int32) (K : Nat → Int32) (bw : Int64) (LA : Nat → Int64) (bM : Nat → Option va_E) (aM : Nat → Nat → Option (ClassId × Nat)) (S : Nat → Nat → Nat → Int32) (hN : hpN n) (x0 x1 x2 x3 x4 : Int32) (hi9 : n 4 < 6) (sq : Nat → Nat) (hSq : ∀ k, k < n 4 → S 0 1 k = nI (sq k) ∧ sq k < n 4) : nw_Met l y_Farm_addOrder [Cond.code y_Farm_addOrder b_Farm_addOrder 3 (some .int)] ({ frames := 0, cells := 0, slots := 0, locals := 0 } : Room) D hpC A [.ref (ad (1)), .ref (ad (48 + n 4))] (nw_pre D hpC (hpT tC) A (va_up (hW ad tC n I K bw LA bM aM S) (48 + n 4) (some (.inr (8, [.int (x0), .int (x1), .int (x2), .int (x3), .int (x4)])))) ad) (fun o wn' ad' => o = some (.int (nI (n 4))) ∧ ad' = ad ∧ ∃ d, d ≤ n 4 ∧ (∀ j, j < d → I 8 (sq (n 4 - 1 - j)) < x4) ∧ (d < n 4 → ¬ I 8 (sq (n 4 - 1 - d)) < x4) ∧ wn' = hW ad tC (va_up n 4 (n 4 + 1)) (adI I 4 8 (n 4) (v4 x0 x1 x2 x3 x4)) K bw LA bM aM (upR S 0 1 (inF (S 0 1) (n 4) d))) 0 0 := by
  refine nw_bodyK (by decide) (Nat.le_of_ble_eq_true rfl) ?_
  intro p e s m below meth cd ls args Q hSx hr hlocks hname hA hKs hw hS hl hQ
  obtain ⟨hx, hb, hml, hown, hts⟩ := id hSx
  have hK := hKs.1
  have hl : lv_has ls 3 [(0, .ref (ad (1))), (1, .ref (ad (48 + n 4)))] := hl
  obtain ⟨hn0, hn0', hn1, hn2, hn3, hn4⟩ := id hN
  refine lv_aload_n hx hb d_Farm_addOrder_0 rfl (lv_at hl 0 rfl) ?_
  refine nw_get hx hb hts i_Farm hown hK hw (1) ((va_up_ne _ _ (by omega)).trans (hW_1)) rfl 10 (by decide) (hts _ kw_80) (fun _ h9 => h9) rfl d_Farm_addOrder_1 ?_
  refine lv_istore_n (lv' := [(2, .int (nI (n 4))), (0, .ref (ad (1))), (1, .ref (ad (48 + n 4)))]) hx hb d_Farm_addOrder_4 rfl hl (by decide) rfl (fun ls hl => ?_)
  have hw := nw_W.as (wn' := va_up (hW ad tC n I K bw LA bM aM (upR S 0 1 (shF (S 0 1) (n 4) 0))) (48 + n 4) (some (.inr (8, [.int (x0), .int (x1), .int (x2), .int (x3), .int (x4)])))) hw (by show _ = va_up (hW ad tC n I K bw LA bM aM S) _ _; rw [show upR S 0 1 (shF (S 0 1) (n 4) 0) = S from upR_same])
  have loop5 : ∀ (k d : Nat), d ≤ n 4 → n 4 + 1 ≤ d + k → (∀ j, j < d → I 8 (sq (n 4 - 1 - j)) < x4) → ∀ (H : Heap) (locs : List Loc) (ls : Array Slot), nw_W D hpC A (va_up (hW ad tC n I K bw LA bM aM (upR S 0 1 (shF (S 0 1) (n 4) d))) (48 + n 4) (some (.inr (8, [.int (x0), .int (x1), .int (x2), .int (x3), .int (x4)])))) ad H → va_S A s.heap H locs → lv_has ls 3 [(0, .ref (ad (1))), (1, .ref (ad (48 + n 4))), (2, .int (nI (n 4 - d)))] → W p l e ({ frames := 0, cells := 0, slots := 0, locals := 0 } : Room) s m args below meth cd H locs 0 0 Q (F0 m 5 ls []) := by
    intro k
    induction k with
    | zero => intro d h1 h2; exact absurd h2 (by omega)
    | succ k ih5 =>
      intro d hv5 hk5 hrun H locs ls hw hS hl
      refine lv_iload_n hx hb d_Farm_addOrder_5 rfl (lv_at hl 2 rfl) ?_
      refine lv_if_le (tgt := 52) hx hb d_Farm_addOrder_6 (by decide) (fun c_6 => ?_) (fun c_6 => ?_)
      · skip
        have hd0 : d = n 4 := by
          rcases Nat.lt_or_ge d (n 4) with h9 | h9
          · exact absurd c_6 (nI_posn (by omega) (by omega))
          · omega
        have hstop : d < n 4 → ¬ I 8 (sq (n 4 - 1 - d)) < x4 := fun h9 => absurd h9 (by omega)
        refine lv_aload_n hx hb d_Farm_addOrder_52 rfl (lv_at hl 0 rfl) ?_
        refine nw_get hx hb hts i_Farm hown hK hw (1) ((va_up_ne _ _ (by omega)).trans (hW_1)) rfl 5 (by decide) (hts _ kw_63) (fun _ h9 => h9) rfl d_Farm_addOrder_53 ?_
        refine lv_iload_n hx hb d_Farm_addOrder_56 rfl (lv_at hl 2 rfl) ?_
        refine lv_aload_n hx hb d_Farm_addOrder_57 rfl (lv_at hl 0 rfl) ?_
        refine nw_get hx hb hts i_Farm hown hK hw (1) ((va_up_ne _ _ (by omega)).trans (hW_1)) rfl 10 (by decide) (hts _ kw_80) (fun _ h9 => h9) rfl d_Farm_addOrder_58 ?_
        refine nw_iast hx hb hK hw hS (101) 0 ((va_up_ne _ _ (by omega)).trans (hW_row (t := 0) (j := 1) (by decide) (by omega) (rfl))) rfl (n 4 - d) (rfl) (by omega) (by omega) d_Farm_addOrder_61 (fun H locs hw hS => ?_)
        have hw := nw_W.as (wn' := va_up (hW ad tC n I K bw LA bM aM (upR S 0 1 (inF (S 0 1) (n 4) d))) (48 + n 4) (some (.inr (8, [.int (x0), .int (x1), .int (x2), .int (x3), .int (x4)])))) hw (Eq.symm ((va_comm (by omega)).trans (va_cong ((hW_rowEq (t := 0) (j := 1) (by decide) (by omega) (rfl)).trans (by rw [upR_upR, upR_self]; rfl)))))
        refine lv_aload_n hx hb d_Farm_addOrder_62 rfl (lv_at hl 0 rfl) ?_
        refine nw_get hx hb hts i_Farm hown hK hw (1) ((va_up_ne _ _ (by omega)).trans (hW_1)) rfl 4 (by decide) (hts _ kw_61) (fun _ h9 => h9) rfl d_Farm_addOrder_63 ?_
        refine lv_aload_n hx hb d_Farm_addOrder_66 rfl (lv_at hl 0 rfl) ?_
        refine nw_get hx hb hts i_Farm hown hK hw (1) ((va_up_ne _ _ (by omega)).trans (hW_1)) rfl 10 (by decide) (hts _ kw_80) (fun _ h9 => h9) rfl d_Farm_addOrder_67 ?_
        refine lv_aload_n hx hb d_Farm_addOrder_70 rfl (lv_at hl 1 rfl) ?_
        refine nw_aast hx hb hK hw hS (9) 6 (48 + n 4) 8 ((va_up_ne _ _ (by omega)).trans (hW_9)) rfl (va_up_self ..) rfl (n 4) (rfl) (by omega) (by omega) d_Farm_addOrder_71 (fun H locs hw hS => ?_)
        have hw := nw_W.as (wn' := va_up (va_up (hW ad tC n I K bw LA bM aM (upR S 0 1 (inF (S 0 1) (n 4) d))) (48 + n 4) (some (.inr (8, [.int (x0), .int (x1), .int (x2), .int (x3), .int (x4)])))) (9) (some (.inl (tC 6, 6, .inr (.inr (.inr (.inr (va_up (fun i => if i < n 4 then some (ad (48 + i)) else none) (n 4) (some (ad (48 + n 4))))))))))) hw rfl
        refine lv_aload_n hx hb d_Farm_addOrder_72 rfl (lv_at hl 0 rfl) ?_
        refine lv_dup hx hb d_Farm_addOrder_73 rfl ?_
        refine nw_get hx hb hts i_Farm hown hK hw (1) ((va_up_ne _ _ (by omega)).trans ((va_up_ne _ _ (by omega)).trans (hW_1))) rfl 10 (by decide) (hts _ kw_80) (fun _ h9 => h9) rfl d_Farm_addOrder_74 ?_
        refine lv_dup_x1 hx hb d_Farm_addOrder_77 rfl rfl ?_
        refine lv_iconst (v := nI 1) hx hb d_Farm_addOrder_78 (by decide) ?_
        refine lv_iadd hx hb d_Farm_addOrder_79 ?_
        refine lv_ei (y := nI (n 4 + 1)) (nI_add _ _) ?_
        refine nw_put (v := .int (nI (n 4 + 1))) (ty := .int) hx hb hts i_Farm t_Farm tk_Farm n_Farm hown hK hw hS (1) ((va_up_ne _ _ (by omega)).trans ((va_up_ne _ _ (by omega)).trans (hW_1))) rfl 10 (by decide) (hts _ kw_80) (fun _ h9 => h9) rfl (by decide +kernel) (rfl) (rfl) (Nat.le_of_ble_eq_true rfl) d_Farm_addOrder_80 (fun H locs hw hS => ?_)
        have hw := nw_W.as (wn' := va_up (va_up (va_up (hW ad tC n I K bw LA bM aM (upR S 0 1 (inF (S 0 1) (n 4) d))) (48 + n 4) (some (.inr (8, [.int (x0), .int (x1), .int (x2), .int (x3), .int (x4)])))) (9) (some (.inl (tC 6, 6, .inr (.inr (.inr (.inr (va_up (fun i => if i < n 4 then some (ad (48 + i)) else none) (n 4) (some (ad (48 + n 4))))))))))) (1) (some (.inr (1, [.int (nI (n 0)), .ref (ad (6)), .ref (ad (7)), .ref (ad (8)), .ref (ad (9)), .ref (ad (101)), .ref (ad (102)), .int (nI (n 1)), .int (nI (n 2)), .int (nI (n 3)), .int (nI (n 4 + 1)), .int (I 0 1), .int (I 0 2)])))) hw rfl
        have hw := hW_addOrder (v := (v4 x0 x1 x2 x3 x4)) hN hi9 ((va_up_ne _ _ (by omega)).trans ((va_up_ne _ _ (by omega)).trans (va_up_self ..))) ((va_up_ne _ _ (by omega)).trans (va_up_self ..)) (va_up_self ..) (fun k9 p0 p1 p2 => by
          rw [va_up_ne _ _ (show k9 ≠ 1 by omega)]
          rw [va_up_ne _ _ (show k9 ≠ 9 by omega)]
          rw [va_up_ne _ _ (show k9 ≠ 48 + n 4 by omega)]) hw
        exact nw_iret hQ hx hb hr hlocks hw hS (⟨rfl, rfl, d, by omega, hrun, hstop, rfl⟩) (Nat.le_of_ble_eq_true rfl) (Nat.le_of_ble_eq_true rfl) d_Farm_addOrder_83
      · skip
        have hlt : d < n 4 := by
          rcases Nat.lt_or_ge d (n 4) with h9 | h9
          · exact h9
          · exact absurd (show nI (n 4 - d) ≤ 0 by rw [show n 4 - d = 0 by omega]; decide) c_6
        have hs1 := hSq (n 4 - 1 - d) (by omega)
        refine lv_aload_n hx hb d_Farm_addOrder_9 rfl (lv_at hl 0 rfl) ?_
        refine nw_get hx hb hts i_Farm hown hK hw (1) ((va_up_ne _ _ (by omega)).trans (hW_1)) rfl 4 (by decide) (hts _ kw_61) (fun _ h9 => h9) rfl d_Farm_addOrder_10 ?_
        refine lv_aload_n hx hb d_Farm_addOrder_13 rfl (lv_at hl 0 rfl) ?_
        refine nw_get hx hb hts i_Farm hown hK hw (1) ((va_up_ne _ _ (by omega)).trans (hW_1)) rfl 5 (by decide) (hts _ kw_63) (fun _ h9 => h9) rfl d_Farm_addOrder_14 ?_
        refine lv_iload_n hx hb d_Farm_addOrder_17 rfl (lv_at hl 2 rfl) ?_
        refine lv_iconst (v := nI 1) hx hb d_Farm_addOrder_18 (by decide) ?_
        refine lv_isub hx hb d_Farm_addOrder_19 ?_
        refine lv_ei (y := nI (n 4 - d - 1)) (pk_sub (by omega)) ?_
        refine nw_iald hx hb hK hw (101) 0 ((va_up_ne _ _ (by omega)).trans (hW_row (t := 0) (j := 1) (by decide) (by omega) (rfl))) rfl (n 4 - d - 1) (rfl) (by omega) (by omega) d_Farm_addOrder_20 ?_
        refine lv_ei (y := (shF (S 0 1) (n 4) d) (n 4 - d - 1)) (congrFun upR_self _) ?_
        refine lv_ei (y := nI (sq (n 4 - 1 - d))) ((shF_lo (N := n 4) (d := d) (by omega) (by omega)).trans (by rw [show n 4 - d - 1 = n 4 - 1 - d by omega]; exact hs1.1)) ?_
        refine nw_aald hx hb hK hw (9) 6 ((va_up_ne _ _ (by omega)).trans (hW_9)) rfl (sq (n 4 - 1 - d)) (rfl) (by omega) (by omega) (y := ad (48 + (sq (n 4 - 1 - d)))) (if_pos (by omega)) d_Farm_addOrder_21 ?_
        refine nw_getN hx hb hts i_Order hown hK hw (48 + (sq (n 4 - 1 - d))) ((va_up_ne _ _ (by omega)).trans (hW_order hN (by omega))) rfl 4 (by decide) (va_Nw.use rfl (hKs.2.2 _ kn_499 rfl)) (fun _ h9 => h9) rfl d_Farm_addOrder_22 ?_
        refine lv_aload_n hx hb d_Farm_addOrder_25 rfl (lv_at hl 1 rfl) ?_
        refine nw_getN hx hb hts i_Order hown hK hw (48 + n 4) (va_up_self ..) rfl 4 (by decide) (va_Nw.use rfl (hKs.2.2 _ kn_499 rfl)) (fun _ h9 => h9) rfl d_Farm_addOrder_26 ?_
        refine lv_icmp_ge (tgt := 52) hx hb d_Farm_addOrder_29 (by decide) (fun c_29 => ?_) (fun c_29 => ?_)
        · skip
          have hstop : d < n 4 → ¬ I 8 (sq (n 4 - 1 - d)) < x4 := fun _ => Int32.not_lt.mpr c_29
          refine lv_aload_n hx hb d_Farm_addOrder_52 rfl (lv_at hl 0 rfl) ?_
          refine nw_get hx hb hts i_Farm hown hK hw (1) ((va_up_ne _ _ (by omega)).trans (hW_1)) rfl 5 (by decide) (hts _ kw_63) (fun _ h9 => h9) rfl d_Farm_addOrder_53 ?_
          refine lv_iload_n hx hb d_Farm_addOrder_56 rfl (lv_at hl 2 rfl) ?_
          refine lv_aload_n hx hb d_Farm_addOrder_57 rfl (lv_at hl 0 rfl) ?_
          refine nw_get hx hb hts i_Farm hown hK hw (1) ((va_up_ne _ _ (by omega)).trans (hW_1)) rfl 10 (by decide) (hts _ kw_80) (fun _ h9 => h9) rfl d_Farm_addOrder_58 ?_
          refine nw_iast hx hb hK hw hS (101) 0 ((va_up_ne _ _ (by omega)).trans (hW_row (t := 0) (j := 1) (by decide) (by omega) (rfl))) rfl (n 4 - d) (rfl) (by omega) (by omega) d_Farm_addOrder_61 (fun H locs hw hS => ?_)
          have hw := nw_W.as (wn' := va_up (hW ad tC n I K bw LA bM aM (upR S 0 1 (inF (S 0 1) (n 4) d))) (48 + n 4) (some (.inr (8, [.int (x0), .int (x1), .int (x2), .int (x3), .int (x4)])))) hw (Eq.symm ((va_comm (by omega)).trans (va_cong ((hW_rowEq (t := 0) (j := 1) (by decide) (by omega) (rfl)).trans (by rw [upR_upR, upR_self]; rfl)))))
          refine lv_aload_n hx hb d_Farm_addOrder_62 rfl (lv_at hl 0 rfl) ?_
          refine nw_get hx hb hts i_Farm hown hK hw (1) ((va_up_ne _ _ (by omega)).trans (hW_1)) rfl 4 (by decide) (hts _ kw_61) (fun _ h9 => h9) rfl d_Farm_addOrder_63 ?_
          refine lv_aload_n hx hb d_Farm_addOrder_66 rfl (lv_at hl 0 rfl) ?_
          refine nw_get hx hb hts i_Farm hown hK hw (1) ((va_up_ne _ _ (by omega)).trans (hW_1)) rfl 10 (by decide) (hts _ kw_80) (fun _ h9 => h9) rfl d_Farm_addOrder_67 ?_
          refine lv_aload_n hx hb d_Farm_addOrder_70 rfl (lv_at hl 1 rfl) ?_
          refine nw_aast hx hb hK hw hS (9) 6 (48 + n 4) 8 ((va_up_ne _ _ (by omega)).trans (hW_9)) rfl (va_up_self ..) rfl (n 4) (rfl) (by omega) (by omega) d_Farm_addOrder_71 (fun H locs hw hS => ?_)
          have hw := nw_W.as (wn' := va_up (va_up (hW ad tC n I K bw LA bM aM (upR S 0 1 (inF (S 0 1) (n 4) d))) (48 + n 4) (some (.inr (8, [.int (x0), .int (x1), .int (x2), .int (x3), .int (x4)])))) (9) (some (.inl (tC 6, 6, .inr (.inr (.inr (.inr (va_up (fun i => if i < n 4 then some (ad (48 + i)) else none) (n 4) (some (ad (48 + n 4))))))))))) hw rfl
          refine lv_aload_n hx hb d_Farm_addOrder_72 rfl (lv_at hl 0 rfl) ?_
          refine lv_dup hx hb d_Farm_addOrder_73 rfl ?_
          refine nw_get hx hb hts i_Farm hown hK hw (1) ((va_up_ne _ _ (by omega)).trans ((va_up_ne _ _ (by omega)).trans (hW_1))) rfl 10 (by decide) (hts _ kw_80) (fun _ h9 => h9) rfl d_Farm_addOrder_74 ?_
          refine lv_dup_x1 hx hb d_Farm_addOrder_77 rfl rfl ?_
          refine lv_iconst (v := nI 1) hx hb d_Farm_addOrder_78 (by decide) ?_
          refine lv_iadd hx hb d_Farm_addOrder_79 ?_
          refine lv_ei (y := nI (n 4 + 1)) (nI_add _ _) ?_
          refine nw_put (v := .int (nI (n 4 + 1))) (ty := .int) hx hb hts i_Farm t_Farm tk_Farm n_Farm hown hK hw hS (1) ((va_up_ne _ _ (by omega)).trans ((va_up_ne _ _ (by omega)).trans (hW_1))) rfl 10 (by decide) (hts _ kw_80) (fun _ h9 => h9) rfl (by decide +kernel) (rfl) (rfl) (Nat.le_of_ble_eq_true rfl) d_Farm_addOrder_80 (fun H locs hw hS => ?_)
          have hw := nw_W.as (wn' := va_up (va_up (va_up (hW ad tC n I K bw LA bM aM (upR S 0 1 (inF (S 0 1) (n 4) d))) (48 + n 4) (some (.inr (8, [.int (x0), .int (x1), .int (x2), .int (x3), .int (x4)])))) (9) (some (.inl (tC 6, 6, .inr (.inr (.inr (.inr (va_up (fun i => if i < n 4 then some (ad (48 + i)) else none) (n 4) (some (ad (48 + n 4))))))))))) (1) (some (.inr (1, [.int (nI (n 0)), .ref (ad (6)), .ref (ad (7)), .ref (ad (8)), .ref (ad (9)), .ref (ad (101)), .ref (ad (102)), .int (nI (n 1)), .int (nI (n 2)), .int (nI (n 3)), .int (nI (n 4 + 1)), .int (I 0 1), .int (I 0 2)])))) hw rfl
          have hw := hW_addOrder (v := (v4 x0 x1 x2 x3 x4)) hN hi9 ((va_up_ne _ _ (by omega)).trans ((va_up_ne _ _ (by omega)).trans (va_up_self ..))) ((va_up_ne _ _ (by omega)).trans (va_up_self ..)) (va_up_self ..) (fun k9 p0 p1 p2 => by
            rw [va_up_ne _ _ (show k9 ≠ 1 by omega)]
            rw [va_up_ne _ _ (show k9 ≠ 9 by omega)]
            rw [va_up_ne _ _ (show k9 ≠ 48 + n 4 by omega)]) hw
          exact nw_iret hQ hx hb hr hlocks hw hS (⟨rfl, rfl, d, by omega, hrun, hstop, rfl⟩) (Nat.le_of_ble_eq_true rfl) (Nat.le_of_ble_eq_true rfl) d_Farm_addOrder_83
        · skip
          have hrun' : ∀ j, j < d + 1 → I 8 (sq (n 4 - 1 - j)) < x4 := lt_s hrun (Int32.not_le.mp c_29)
          refine lv_aload_n hx hb d_Farm_addOrder_32 rfl (lv_at hl 0 rfl) ?_
          refine nw_get hx hb hts i_Farm hown hK hw (1) ((va_up_ne _ _ (by omega)).trans (hW_1)) rfl 5 (by decide) (hts _ kw_63) (fun _ h9 => h9) rfl d_Farm_addOrder_33 ?_
          refine lv_iload_n hx hb d_Farm_addOrder_36 rfl (lv_at hl 2 rfl) ?_
          refine lv_aload_n hx hb d_Farm_addOrder_37 rfl (lv_at hl 0 rfl) ?_
          refine nw_get hx hb hts i_Farm hown hK hw (1) ((va_up_ne _ _ (by omega)).trans (hW_1)) rfl 5 (by decide) (hts _ kw_63) (fun _ h9 => h9) rfl d_Farm_addOrder_38 ?_
          refine lv_iload_n hx hb d_Farm_addOrder_41 rfl (lv_at hl 2 rfl) ?_
          refine lv_iconst (v := nI 1) hx hb d_Farm_addOrder_42 (by decide) ?_
          refine lv_isub hx hb d_Farm_addOrder_43 ?_
          refine lv_ei (y := nI (n 4 - d - 1)) (pk_sub (by omega)) ?_
          refine nw_iald hx hb hK hw (101) 0 ((va_up_ne _ _ (by omega)).trans (hW_row (t := 0) (j := 1) (by decide) (by omega) (rfl))) rfl (n 4 - d - 1) (rfl) (by omega) (by omega) d_Farm_addOrder_44 ?_
          refine lv_ei (y := (shF (S 0 1) (n 4) d) (n 4 - d - 1)) (congrFun upR_self _) ?_
          refine nw_iast hx hb hK hw hS (101) 0 ((va_up_ne _ _ (by omega)).trans (hW_row (t := 0) (j := 1) (by decide) (by omega) (rfl))) rfl (n 4 - d) (rfl) (by omega) (by omega) d_Farm_addOrder_45 (fun H locs hw hS => ?_)
          have hw := nw_W.as (wn' := va_up (hW ad tC n I K bw LA bM aM (upR S 0 1 (shF (S 0 1) (n 4) (d + 1)))) (48 + n 4) (some (.inr (8, [.int (x0), .int (x1), .int (x2), .int (x3), .int (x4)])))) hw (Eq.symm ((va_comm (by omega)).trans (va_cong ((hW_rowEq (t := 0) (j := 1) (by decide) (by omega) (rfl)).trans (by rw [upR_upR, upR_self]; rfl)))))
          refine lv_iinc (v := nI (n 4 - (d + 1))) (lv' := [(2, .int (nI (n 4 - (d + 1)))), (0, .ref (ad (1))), (1, .ref (ad (48 + n 4)))]) hx hb d_Farm_addOrder_46 hl (k := 2) rfl (by rw [m1_sub]; rw [show n 4 - d = (n 4 - (d + 1)) + 1 by omega]; exact nI_pred _) (by decide) rfl (fun ls hl => ?_)
          refine lv_goto (tgt := 5) hx hb d_Farm_addOrder_49 (by decide) ?_
          exact ih5 (d + 1) (by omega) (by omega) (hrun') _ _ ls hw hS (lv_sub hl [1, 2, 0] rfl)
  exact loop5 (n 4 + 1) (0) (by omega) (by omega) (fun j hj => absurd hj (Nat.not_lt_zero j)) _ _ ls hw hS (lv_sub hl [1, 2, 0] rfl)
