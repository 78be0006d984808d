/-! THE MODEL'S WORLD. J: 0 thrown, 1 spot, 2 keep, 3 hasPlan, 4 nodes, 5 hasBest; L: 0 left, 1 sold, 2 needs, 3 carried (rows of longs). Rows (5, j): 0 mosts, 1 closed, 2 placeOf, 3 grams, 4 fish, 5 loads, 6 barred, 7 plants, 8 orderWeek, 9 orderLeast, 10 orderMost, 11 orderKilos, 12 orderCents, 13 plan, 14 tried, 15 best; (6, 0) served. -/
def oM (ad : Nat → Nat) (tC : Nat → ClassId) (n : Nat → Nat) (J : Nat → Int32) (bw : Int64) (L : Nat → Nat → Int64) (k : Nat) : Option va_E := match k with
  | 64 => some (.inr (9, [.int (nI (n 0)), .int (J 0), .int (nI (n 1)), .ref (ad 180), .ref (ad 181), .int (nI (n 2)), .ref (ad 182), .ref (ad 183), .ref (ad 184), .int (nI (n 3)), .ref (ad 185), .ref (ad 186), .ref (ad 187), .int (nI (n 4)), .ref (ad 188), .ref (ad 189), .ref (ad 190), .ref (ad 191), .ref (ad 192), .int (J 1), .int (J 2), .int (J 3), .ref (ad 193), .int (J 4), .ref (ad 194), .ref (ad 195), .int (J 5), .long bw, .ref (ad 65), .ref (ad 66), .ref (ad 196), .ref (ad 67), .ref (ad 68)]))
  | 65 => some (.inl (tC 1, 6, .inr (.inl (L 0))))
  | 66 => some (.inl (tC 1, 6, .inr (.inl (L 1))))
  | 67 => some (.inl (tC 1, 6, .inr (.inl (L 2))))
  | 68 => some (.inl (tC 1, 7, .inr (.inl (L 3))))
  | _ => none
def aMo (tC : Nat → ClassId) (t j : Nat) : Option (ClassId × Nat) := match t with
  | 5 => match j with
    | 0 => some (tC 0, 4)
    | 1 => some (tC 2, 32)
    | 2 => some (tC 0, 6)
    | 3 => some (tC 0, 48)
    | 4 => some (tC 0, 48)
    | 5 => some (tC 0, 3)
    | 6 => some (tC 2, 24)
    | 7 => some (tC 0, 8)
    | 8 => some (tC 0, 6)
    | 9 => some (tC 0, 6)
    | 10 => some (tC 0, 6)
    | 11 => some (tC 0, 6)
    | 12 => some (tC 0, 6)
    | 13 => some (tC 0, 6)
    | 14 => some (tC 0, 6)
    | 15 => some (tC 0, 6)
    | _ => none
  | 6 => match j with
    | 0 => some (tC 2, 6)
    | _ => none
  | _ => none
def obM (ad : Nat → Nat) (tC : Nat → ClassId) (n : Nat → Nat) (J : Nat → Int32) (bw : Int64) (L : Nat → Nat → Int64) (bX : Nat → Option va_E) (k : Nat) : Option va_E := if 64 ≤ k ∧ k < 69 then oM ad tC n J bw L k else bX k
def arM (tC : Nat → ClassId) (aY : Nat → Nat → Option (ClassId × Nat)) (t j : Nat) : Option (ClassId × Nat) := if 5 ≤ t ∧ t < 7 then aMo tC t j else aY t j
def mW (ad : Nat → Nat) (tC : Nat → ClassId) (n : Nat → Nat) (J : Nat → Int32) (bw : Int64) (L : Nat → Nat → Int64) (bX : Nat → Option va_E) (aY : Nat → Nat → Option (ClassId × Nat)) (S : Nat → Nat → Nat → Int32) : nw_N := gw (obM ad tC n J bw L bX) (arM tC aY) S
section MW
variable {ad : Nat → Nat} {tC : Nat → ClassId} {n : Nat → Nat} {J : Nat → Int32} {bw : Int64} {L : Nat → Nat → Int64} {bX : Nat → Option va_E} {aY : Nat → Nat → Option (ClassId × Nat)} {S : Nat → Nat → Nat → Int32} {D : va_G} {A : Nat → Prop} {H : Heap}
theorem mW_64 : mW ad tC n J bw L bX aY S 64 = some (.inr (9, [.int (nI (n 0)), .int (J 0), .int (nI (n 1)), .ref (ad 180), .ref (ad 181), .int (nI (n 2)), .ref (ad 182), .ref (ad 183), .ref (ad 184), .int (nI (n 3)), .ref (ad 185), .ref (ad 186), .ref (ad 187), .int (nI (n 4)), .ref (ad 188), .ref (ad 189), .ref (ad 190), .ref (ad 191), .ref (ad 192), .int (J 1), .int (J 2), .int (J 3), .ref (ad 193), .int (J 4), .ref (ad 194), .ref (ad 195), .int (J 5), .long bw, .ref (ad 65), .ref (ad 66), .ref (ad 196), .ref (ad 67), .ref (ad 68)])) := rfl
theorem mW_65 : mW ad tC n J bw L bX aY S 65 = some (.inl (tC 1, 6, .inr (.inl (L 0)))) := rfl
theorem mW_66 : mW ad tC n J bw L bX aY S 66 = some (.inl (tC 1, 6, .inr (.inl (L 1)))) := rfl
theorem mW_67 : mW ad tC n J bw L bX aY S 67 = some (.inl (tC 1, 6, .inr (.inl (L 2)))) := rfl
theorem mW_68 : mW ad tC n J bw L bX aY S 68 = some (.inl (tC 1, 7, .inr (.inl (L 3)))) := rfl
theorem mW_row {t j len : Nat} {c : ClassId} (ht : 5 ≤ t ∧ t < 7) (hj : j < 16) (h : aMo tC t j = some (c, len)) : mW ad tC n J bw L bX aY S (100 + 16 * t + j) = some (.inl (c, len, .inl (S t j))) := by
  refine gw_arr hj ?_
  rw [arM, if_pos ht]
  exact h
theorem mW_setRow {t j len : Nat} {c : ClassId} {f : Nat → Int32} (ht : 5 ≤ t ∧ t < 7) (hj : j < 16) (h : aMo tC t j = some (c, len)) (hw : nw_W D hpC A (va_up (mW ad tC n J bw L bX aY S) (100 + 16 * t + j) (some (.inl (c, len, .inl f)))) ad H) : nw_W D hpC A (mW ad tC n J bw L bX aY (upR S t j f)) ad H :=
  gw_row hj (by rw [arM, if_pos ht]; exact h) hw
theorem obM_ne {n' : Nat → Nat} {J' : Nat → Int32} {bw' : Int64} {L' : Nat → Nat → Int64} {q : Nat} (h : ∀ k, k ≠ q → oM ad tC n' J' bw' L' k = oM ad tC n J bw L k) : ∀ k, k ≠ q → obM ad tC n' J' bw' L' bX k = obM ad tC n J bw L bX k := fun k hk => by
  rw [obM, obM, h k hk]
theorem oM_64 {n' : Nat → Nat} {J' : Nat → Int32} {bw' : Int64} : ∀ k, k ≠ 64 → oM ad tC n' J' bw' L k = oM ad tC n J bw L k := fun k hk => by
  unfold oM
  split
  · exact absurd rfl hk
  · rfl
  · rfl
  · rfl
  · rfl
  · rfl
theorem mW_setO {n' : Nat → Nat} {J' : Nat → Int32} {bw' : Int64} {x : va_E} (h1 : oM ad tC n' J' bw' L 64 = some x) (hw : nw_W D hpC A (va_up (mW ad tC n J bw L bX aY S) 64 (some x)) ad H) : nw_W D hpC A (mW ad tC n' J' bw' L bX aY S) ad H :=
  gw_put (q := 64) (by omega) (by rw [obM, if_pos (by omega)]; exact h1) (obM_ne oM_64) hw
theorem mW_setL {q j : Nat} {f : Nat → Int64} {x : va_E} (hq : q = 65 + j) (hj : j < 4) (h1 : oM ad tC n J bw (va_up L j f) q = some x) (hw : nw_W D hpC A (va_up (mW ad tC n J bw L bX aY S) q (some x)) ad H) : nw_W D hpC A (mW ad tC n J bw (va_up L j f) bX aY S) ad H := by
  refine gw_put (q := q) (by omega) (by rw [obM, if_pos (by omega)]; exact h1) (obM_ne (fun k hk => ?_)) hw
  have e : ∀ i, 65 + i ≠ 65 + j → va_up L j f i = L i := fun i hi => va_up_ne _ _ (fun e => hi (by rw [e]))
  unfold oM
  split
  · rfl
  · rw [e 0 (by omega)]
  · rw [e 1 (by omega)]
  · rw [e 2 (by omega)]
  · rw [e 3 (by omega)]
  · rfl
end MW
