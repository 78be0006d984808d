/-! THE CLASS'S WORLD. n: 0 weeks, 1 places, 2 cages, 3 boats, 4 orders. K: 0 planAtHand, 1 limit, 2 made, 3 spent; I 0: 1 spot, 2 keep; I 1 p: a place's most; I 2 c: a cage's home; I 3 b: a boat's load; I 4 .. I 8 o: an order's week, least, most, kilos, cents.
Rows (0, j): 0 plan, 1 served, 2 plantKilos, 3 needs, 4 loads, 5 missing, 6 held, 7 left, 8 gotten, 9 trial, 10 best; (1, p) closedIn, (2, c) grams, (3, c) kilos, (4, b) barredIn. -/
def hpT (tC : Nat → ClassId) : List (ClassId × FieldType) := [(tC 0, .int), (tC 1, .long), (tC 2, .boolean), (tC 3, .object "HarvestPlans$Place"), (tC 4, .object "HarvestPlans$Cage"), (tC 5, .object "HarvestPlans$Boat"), (tC 6, .object "HarvestPlans$Order")]
def up2 {α : Type} (I : Nat → Nat → α) (t j : Nat) (v : α) : Nat → Nat → α := fun a b => if a = t ∧ b = j then v else I a b
def oX (ad : Nat → Nat) (tC : Nat → ClassId) (n : Nat → Nat) (I : Nat → Nat → Int32) (K : Nat → Int32) (bw : Int64) (LA : Nat → Int64) (k : Nat) : Option va_E := match k with
  | 0 => some (.inr (0, [.ref (ad 1), .ref (ad 2), .ref (ad 3), .ref (ad 4), .ref (ad 100), .int (K 0)]))
  | 1 => some (.inr (1, [.int (nI (n 0)), .ref (ad 6), .ref (ad 7), .ref (ad 8), .ref (ad 9), .ref (ad 101), .ref (ad 102), .int (nI (n 1)), .int (nI (n 2)), .int (nI (n 3)), .int (nI (n 4)), .int (I 0 1), .int (I 0 2)]))
  | 2 => some (.inr (2, [.ref (ad 1), .ref (ad 103), .ref (ad 104), .ref (ad 105), .ref (ad 106)]))
  | 3 => some (.inr (3, [.ref (ad 1), .ref (ad 107), .ref (ad 108)]))
  | 4 => some (.inr (4, [.ref (ad 1), .ref (ad 2), .ref (ad 3), .ref (ad 109), .ref (ad 110), .ref (ad 5), .long bw, .int (K 1), .int (K 2), .int (K 3)]))
  | 5 => some (.inl (tC 1, 7, .inr (.inl LA)))
  | 6 => some (.inl (tC 3, 4, .inr (.inr (.inr (.inr (fun i => if i < n 1 then some (ad (24 + i)) else none))))))
  | 7 => some (.inl (tC 4, 6, .inr (.inr (.inr (.inr (fun i => if i < n 2 then some (ad (32 + i)) else none))))))
  | 8 => some (.inl (tC 5, 3, .inr (.inr (.inr (.inr (fun i => if i < n 3 then some (ad (40 + i)) else none))))))
  | 9 => some (.inl (tC 6, 6, .inr (.inr (.inr (.inr (fun i => if i < n 4 then some (ad (48 + i)) else none))))))
  | k => if k < 24 then none else if k < 24 + n 1 then some (.inr (5, [.int (I 1 (k - 24)), .ref (ad (116 + (k - 24)))])) else if k < 32 then none
    else if k < 32 + n 2 then some (.inr (6, [.int (I 2 (k - 32)), .ref (ad (132 + (k - 32))), .ref (ad (148 + (k - 32)))])) else if k < 40 then none
    else if k < 40 + n 3 then some (.inr (7, [.int (I 3 (k - 40)), .ref (ad (164 + (k - 40)))])) else if k < 48 then none
    else if k < 48 + n 4 then some (.inr (8, [.int (I 4 (k - 48)), .int (I 5 (k - 48)), .int (I 6 (k - 48)), .int (I 7 (k - 48)), .int (I 8 (k - 48))])) else none
def aX (tC : Nat → ClassId) (n : Nat → Nat) (t j : Nat) : Option (ClassId × Nat) := match t with
  | 0 => if j = 2 then some (tC 0, n 0) else if j = 4 then some (tC 0, 3) else if j = 6 then some (tC 0, 4) else if j < 11 then some (tC 0, 6) else none
  | 1 => if j < n 1 then some (tC 2, n 0) else none
  | 2 => if j < n 2 then some (tC 0, n 0) else none
  | 3 => if j < n 2 then some (tC 0, n 0) else none
  | 4 => if j < n 3 then some (tC 2, n 0) else none
  | _ => none
def obX (ad : Nat → Nat) (tC : Nat → ClassId) (n : Nat → Nat) (I : Nat → Nat → Int32) (K : Nat → Int32) (bw : Int64) (LA : Nat → Int64) (bM : Nat → Option va_E) (k : Nat) : Option va_E := if k < 56 then oX ad tC n I K bw LA k else bM k
def arX (tC : Nat → ClassId) (n : Nat → Nat) (aM : Nat → Nat → Option (ClassId × Nat)) (t j : Nat) : Option (ClassId × Nat) := if t < 5 then aX tC n t j else aM t j
def hW (ad : Nat → Nat) (tC : Nat → ClassId) (n : Nat → Nat) (I : Nat → Nat → Int32) (K : Nat → Int32) (bw : Int64) (LA : Nat → Int64) (bM : Nat → Option va_E) (aM : Nat → Nat → Option (ClassId × Nat)) (S : Nat → Nat → Nat → Int32) : nw_N := gw (obX ad tC n I K bw LA bM) (arX tC n aM) S
/-- how many there may be -/
def hpN (n : Nat → Nat) : Prop := 1 ≤ n 0 ∧ n 0 ≤ 8 ∧ n 1 ≤ 4 ∧ n 2 ≤ 6 ∧ n 3 ≤ 3 ∧ n 4 ≤ 6
section HW
variable {ad : Nat → Nat} {tC : Nat → ClassId} {n : Nat → Nat} {I : Nat → Nat → Int32} {K : Nat → Int32} {bw : Int64} {LA : Nat → Int64} {bM : Nat → Option va_E} {aM : Nat → Nat → Option (ClassId × Nat)} {S : Nat → Nat → Nat → Int32} {D : va_G} {A : Nat → Prop} {H : Heap}
theorem hW_0 : hW ad tC n I K bw LA bM aM S 0 = some (.inr (0, [.ref (ad 1), .ref (ad 2), .ref (ad 3), .ref (ad 4), .ref (ad 100), .int (K 0)])) := rfl
theorem hW_1 : hW ad tC n I K bw LA bM aM S 1 = some (.inr (1, [.int (nI (n 0)), .ref (ad 6), .ref (ad 7), .ref (ad 8), .ref (ad 9), .ref (ad 101), .ref (ad 102), .int (nI (n 1)), .int (nI (n 2)), .int (nI (n 3)), .int (nI (n 4)), .int (I 0 1), .int (I 0 2)])) := rfl
theorem hW_2 : hW ad tC n I K bw LA bM aM S 2 = some (.inr (2, [.ref (ad 1), .ref (ad 103), .ref (ad 104), .ref (ad 105), .ref (ad 106)])) := rfl
theorem hW_3 : hW ad tC n I K bw LA bM aM S 3 = some (.inr (3, [.ref (ad 1), .ref (ad 107), .ref (ad 108)])) := rfl
theorem hW_4 : hW ad tC n I K bw LA bM aM S 4 = some (.inr (4, [.ref (ad 1), .ref (ad 2), .ref (ad 3), .ref (ad 109), .ref (ad 110), .ref (ad 5), .long bw, .int (K 1), .int (K 2), .int (K 3)])) := rfl
theorem hW_5 : hW ad tC n I K bw LA bM aM S 5 = some (.inl (tC 1, 7, .inr (.inl LA))) := rfl
theorem hW_6 : hW ad tC n I K bw LA bM aM S 6 = some (.inl (tC 3, 4, .inr (.inr (.inr (.inr (fun i => if i < n 1 then some (ad (24 + i)) else none)))))) := rfl
theorem hW_7 : hW ad tC n I K bw LA bM aM S 7 = some (.inl (tC 4, 6, .inr (.inr (.inr (.inr (fun i => if i < n 2 then some (ad (32 + i)) else none)))))) := rfl
theorem hW_8 : hW ad tC n I K bw LA bM aM S 8 = some (.inl (tC 5, 3, .inr (.inr (.inr (.inr (fun i => if i < n 3 then some (ad (40 + i)) else none)))))) := rfl
theorem hW_9 : hW ad tC n I K bw LA bM aM S 9 = some (.inl (tC 6, 6, .inr (.inr (.inr (.inr (fun i => if i < n 4 then some (ad (48 + i)) else none)))))) := rfl
theorem oX_hi {k : Nat} (hk : 10 ≤ k) : oX ad tC n I K bw LA k = if k < 24 then none else if k < 24 + n 1 then some (.inr (5, [.int (I 1 (k - 24)), .ref (ad (116 + (k - 24)))])) else if k < 32 then none
    else if k < 32 + n 2 then some (.inr (6, [.int (I 2 (k - 32)), .ref (ad (132 + (k - 32))), .ref (ad (148 + (k - 32)))])) else if k < 40 then none
    else if k < 40 + n 3 then some (.inr (7, [.int (I 3 (k - 40)), .ref (ad (164 + (k - 40)))])) else if k < 48 then none
    else if k < 48 + n 4 then some (.inr (8, [.int (I 4 (k - 48)), .int (I 5 (k - 48)), .int (I 6 (k - 48)), .int (I 7 (k - 48)), .int (I 8 (k - 48))])) else none := by
  obtain ⟨j, rfl⟩ : ∃ j, k = j + 10 := ⟨k - 10, by omega⟩
  rfl
theorem hW_ob {k : Nat} (hk : k < 56) : hW ad tC n I K bw LA bM aM S k = oX ad tC n I K bw LA k := by
  rw [hW, gw_ob (by omega), obX, if_pos hk]
theorem hW_place (hN : hpN n) {i : Nat} (hi : i < n 1) : hW ad tC n I K bw LA bM aM S (24 + i) = some (.inr (5, [.int (I 1 i), .ref (ad (116 + i))])) := by
  obtain ⟨-, -, h1, -⟩ := hN
  rw [hW_ob (by omega), oX_hi (by omega), if_neg (by omega), if_pos (by omega), Nat.add_sub_cancel_left]
theorem hW_cage (hN : hpN n) {i : Nat} (hi : i < n 2) : hW ad tC n I K bw LA bM aM S (32 + i) = some (.inr (6, [.int (I 2 i), .ref (ad (132 + i)), .ref (ad (148 + i))])) := by
  obtain ⟨-, -, h1, h2, -⟩ := hN
  rw [hW_ob (by omega), oX_hi (by omega), if_neg (by omega), if_neg (by omega), if_neg (by omega), if_pos (by omega), Nat.add_sub_cancel_left]
theorem hW_boat (hN : hpN n) {i : Nat} (hi : i < n 3) : hW ad tC n I K bw LA bM aM S (40 + i) = some (.inr (7, [.int (I 3 i), .ref (ad (164 + i))])) := by
  obtain ⟨-, -, h1, h2, h3, -⟩ := hN
  rw [hW_ob (by omega), oX_hi (by omega), if_neg (by omega), if_neg (by omega), if_neg (by omega), if_neg (by omega), if_neg (by omega), if_pos (by omega), Nat.add_sub_cancel_left]
theorem hW_order (hN : hpN n) {i : Nat} (hi : i < n 4) : hW ad tC n I K bw LA bM aM S (48 + i) = some (.inr (8, [.int (I 4 i), .int (I 5 i), .int (I 6 i), .int (I 7 i), .int (I 8 i)])) := by
  obtain ⟨-, -, h1, h2, h3, h4⟩ := hN
  rw [hW_ob (by omega), oX_hi (by omega), if_neg (by omega), if_neg (by omega), if_neg (by omega), if_neg (by omega), if_neg (by omega), if_neg (by omega), if_neg (by omega), if_pos (by omega), Nat.add_sub_cancel_left]
theorem hW_row {t j len : Nat} {c : ClassId} (ht : t < 5) (hj : j < 16) (h : aX tC n t j = some (c, len)) : hW ad tC n I K bw LA bM aM S (100 + 16 * t + j) = some (.inl (c, len, .inl (S t j))) := by
  refine gw_arr hj ?_
  rw [arX, if_pos ht]
  exact h
theorem aX_cage {t j : Nat} (ht : t = 2 ∨ t = 3) (hj : j < n 2) : aX tC n t j = some (tC 0, n 0) := by
  rcases ht with rfl | rfl
  · exact if_pos hj
  · exact if_pos hj
theorem aX_place {j : Nat} (hj : j < n 1) : aX tC n 1 j = some (tC 2, n 0) := if_pos hj
theorem aX_boat {j : Nat} (hj : j < n 3) : aX tC n 4 j = some (tC 2, n 0) := if_pos hj
/-- a row of numbers of the class is another one -/
theorem hW_setRow {t j len : Nat} {c : ClassId} {f : Nat → Int32} (ht : t < 5) (hj : j < 16) (h : aX tC n t j = some (c, len)) (hw : nw_W D hpC A (va_up (hW ad tC n I K bw LA bM aM S) (100 + 16 * t + j) (some (.inl (c, len, .inl f)))) ad H) : nw_W D hpC A (hW ad tC n I K bw LA bM aM (upR S t j f)) ad H :=
  gw_row hj (by rw [arX, if_pos ht]; exact h) hw
theorem obX_ne {ad' : Nat → Nat} {n' : Nat → Nat} {I' : Nat → Nat → Int32} {K' : Nat → Int32} {bw' : Int64} {LA' : Nat → Int64} {q : Nat} (h : ∀ k, k ≠ q → oX ad' tC n' I' K' bw' LA' k = oX ad tC n I K bw LA k) : ∀ k, k ≠ q → obX ad' tC n' I' K' bw' LA' bM k = obX ad tC n I K bw LA bM k := fun k hk => by
  rw [obX, obX, h k hk]
theorem hW_setI0 {q j : Nat} {v : Int32} {x : va_E} (hq : q < 56) (h1 : oX ad tC n (up2 I 0 j v) K bw LA q = some x) (h2 : ∀ k, k ≠ q → oX ad tC n (up2 I 0 j v) K bw LA k = oX ad tC n I K bw LA k) (hw : nw_W D hpC A (va_up (hW ad tC n I K bw LA bM aM S) q (some x)) ad H) : nw_W D hpC A (hW ad tC n (up2 I 0 j v) K bw LA bM aM S) ad H :=
  gw_put (by omega) (by rw [obX, if_pos hq]; exact h1) (obX_ne h2) hw
theorem oX_I0 {j : Nat} {v : Int32} {k : Nat} (hk : k ≠ 1) : oX ad tC n (up2 I 0 j v) K bw LA k = oX ad tC n I K bw LA k := by
  have e1 : ∀ a b, a ≠ 0 → up2 I 0 j v a b = I a b := fun a b h => by simp only [up2]; rw [if_neg (fun q => h q.1)]
  match k with
  | 0 => rfl
  | 1 => exact absurd rfl hk
  | 2 => rfl
  | 3 => rfl
  | 4 => rfl
  | 5 => rfl
  | 6 => rfl
  | 7 => rfl
  | 8 => rfl
  | 9 => rfl
  | k + 10 => rw [oX_hi (by omega), oX_hi (by omega)]; simp only [e1 _ _ (by decide : (1 : Nat) ≠ 0), e1 _ _ (by decide : (2 : Nat) ≠ 0), e1 _ _ (by decide : (3 : Nat) ≠ 0), e1 _ _ (by decide : (4 : Nat) ≠ 0), e1 _ _ (by decide : (5 : Nat) ≠ 0), e1 _ _ (by decide : (6 : Nat) ≠ 0), e1 _ _ (by decide : (7 : Nat) ≠ 0), e1 _ _ (by decide : (8 : Nat) ≠ 0)]
theorem hW_setSpot {v : Int32} (hw : nw_W D hpC A (va_up (hW ad tC n I K bw LA bM aM S) 1 (some (.inr (1, [.int (nI (n 0)), .ref (ad 6), .ref (ad 7), .ref (ad 8), .ref (ad 9), .ref (ad 101), .ref (ad 102), .int (nI (n 1)), .int (nI (n 2)), .int (nI (n 3)), .int (nI (n 4)), .int v, .int (I 0 2)])))) ad H) : nw_W D hpC A (hW ad tC n (up2 I 0 1 v) K bw LA bM aM S) ad H :=
  hW_setI0 (q := 1) (by omega) rfl (fun k hk => oX_I0 hk) hw
theorem hW_setKeep {v : Int32} (hw : nw_W D hpC A (va_up (hW ad tC n I K bw LA bM aM S) 1 (some (.inr (1, [.int (nI (n 0)), .ref (ad 6), .ref (ad 7), .ref (ad 8), .ref (ad 9), .ref (ad 101), .ref (ad 102), .int (nI (n 1)), .int (nI (n 2)), .int (nI (n 3)), .int (nI (n 4)), .int (I 0 1), .int v])))) ad H) : nw_W D hpC A (hW ad tC n (up2 I 0 2 v) K bw LA bM aM S) ad H :=
  hW_setI0 (q := 1) (by omega) rfl (fun k hk => oX_I0 hk) hw
theorem oX_K {j : Nat} {v : Int32} {k : Nat} (h0 : j = 0 → k ≠ 0) (h4 : 1 ≤ j → k ≠ 4) : oX ad tC n I (va_up K j v) bw LA k = oX ad tC n I K bw LA k := by
  match k with
  | 0 => simp only [oX]; rw [va_up_ne _ _ (fun e => h0 e.symm rfl)]
  | 1 => rfl
  | 2 => rfl
  | 3 => rfl
  | 4 => simp only [oX]; rw [va_up_ne _ _ (fun e => h4 (by omega) rfl), va_up_ne _ _ (fun e => h4 (by omega) rfl), va_up_ne _ _ (fun e => h4 (by omega) rfl)]
  | 5 => rfl
  | 6 => rfl
  | 7 => rfl
  | 8 => rfl
  | 9 => rfl
  | k + 10 => rfl
theorem hW_setK {q j : Nat} {v : Int32} {x : va_E} (hq : q < 56) (h1 : oX ad tC n I (va_up K j v) bw LA q = some x) (h2 : ∀ k, k ≠ q → oX ad tC n I (va_up K j v) bw LA k = oX ad tC n I K bw LA k) (hw : nw_W D hpC A (va_up (hW ad tC n I K bw LA bM aM S) q (some x)) ad H) : nw_W D hpC A (hW ad tC n I (va_up K j v) bw LA bM aM S) ad H :=
  gw_put (by omega) (by rw [obX, if_pos hq]; exact h1) (obX_ne h2) hw
theorem hW_setHand {v : Int32} (hw : nw_W D hpC A (va_up (hW ad tC n I K bw LA bM aM S) 0 (some (.inr (0, [.ref (ad 1), .ref (ad 2), .ref (ad 3), .ref (ad 4), .ref (ad 100), .int v])))) ad H) : nw_W D hpC A (hW ad tC n I (va_up K 0 v) bw LA bM aM S) ad H :=
  hW_setK (q := 0) (by omega) rfl (fun k hk => oX_K (fun _ => hk) (fun h => by omega)) hw
theorem hW_setLimit {v : Int32} (hw : nw_W D hpC A (va_up (hW ad tC n I K bw LA bM aM S) 4 (some (.inr (4, [.ref (ad 1), .ref (ad 2), .ref (ad 3), .ref (ad 109), .ref (ad 110), .ref (ad 5), .long bw, .int v, .int (K 2), .int (K 3)])))) ad H) : nw_W D hpC A (hW ad tC n I (va_up K 1 v) bw LA bM aM S) ad H :=
  hW_setK (q := 4) (by omega) rfl (fun k hk => oX_K (fun h => by omega) (fun _ => hk)) hw
theorem hW_setMade {v : Int32} (hw : nw_W D hpC A (va_up (hW ad tC n I K bw LA bM aM S) 4 (some (.inr (4, [.ref (ad 1), .ref (ad 2), .ref (ad 3), .ref (ad 109), .ref (ad 110), .ref (ad 5), .long bw, .int (K 1), .int v, .int (K 3)])))) ad H) : nw_W D hpC A (hW ad tC n I (va_up K 2 v) bw LA bM aM S) ad H :=
  hW_setK (q := 4) (by omega) rfl (fun k hk => oX_K (fun h => by omega) (fun _ => hk)) hw
theorem hW_setSpent {v : Int32} (hw : nw_W D hpC A (va_up (hW ad tC n I K bw LA bM aM S) 4 (some (.inr (4, [.ref (ad 1), .ref (ad 2), .ref (ad 3), .ref (ad 109), .ref (ad 110), .ref (ad 5), .long bw, .int (K 1), .int (K 2), .int v])))) ad H) : nw_W D hpC A (hW ad tC n I (va_up K 3 v) bw LA bM aM S) ad H :=
  hW_setK (q := 4) (by omega) rfl (fun k hk => oX_K (fun h => by omega) (fun _ => hk)) hw
theorem hW_setBw {v : Int64} (hw : nw_W D hpC A (va_up (hW ad tC n I K bw LA bM aM S) 4 (some (.inr (4, [.ref (ad 1), .ref (ad 2), .ref (ad 3), .ref (ad 109), .ref (ad 110), .ref (ad 5), .long v, .int (K 1), .int (K 2), .int (K 3)])))) ad H) : nw_W D hpC A (hW ad tC n I K v LA bM aM S) ad H :=
  gw_put (q := 4) (by omega) rfl (obX_ne (fun k hk => by
    match k, hk with
    | 0, _ => rfl
    | 1, _ => rfl
    | 2, _ => rfl
    | 3, _ => rfl
    | 4, hk => exact absurd rfl hk
    | 5, _ => rfl
    | 6, _ => rfl
    | 7, _ => rfl
    | 8, _ => rfl
    | 9, _ => rfl
    | k + 10, _ => rfl)) hw
theorem hW_setLA {L' : Nat → Int64} (hw : nw_W D hpC A (va_up (hW ad tC n I K bw LA bM aM S) 5 (some (.inl (tC 1, 7, .inr (.inl L'))))) ad H) : nw_W D hpC A (hW ad tC n I K bw L' bM aM S) ad H :=
  gw_put (q := 5) (by omega) rfl (obX_ne (fun k hk => by
    match k, hk with
    | 0, _ => rfl
    | 1, _ => rfl
    | 2, _ => rfl
    | 3, _ => rfl
    | 4, _ => rfl
    | 5, hk => exact absurd rfl hk
    | 6, _ => rfl
    | 7, _ => rfl
    | 8, _ => rfl
    | 9, _ => rfl
    | k + 10, _ => rfl)) hw
end HW
