/-! ONE MORE -/
def adI (I : Nat → Nat → Int32) (lo hi j : Nat) (v : Nat → Int32) : Nat → Nat → Int32 := fun a b => if lo ≤ a ∧ a ≤ hi ∧ b = j then v a else I a b
def adS (S : Nat → Nat → Nat → Int32) (lo hi j : Nat) : Nat → Nat → Nat → Int32 := fun t b => if lo ≤ t ∧ t ≤ hi ∧ b = j then (fun _ => 0) else S t b
theorem adI_n {I : Nat → Nat → Int32} {lo hi j a b : Nat} {v : Nat → Int32} (h : ¬ (lo ≤ a ∧ a ≤ hi ∧ b = j)) : adI I lo hi j v a b = I a b := if_neg h
theorem adI_s {I : Nat → Nat → Int32} {lo hi j a : Nat} {v : Nat → Int32} (h : lo ≤ a ∧ a ≤ hi) : adI I lo hi j v a j = v a := if_pos ⟨h.1, h.2, rfl⟩
theorem adS_n {S : Nat → Nat → Nat → Int32} {lo hi j t b : Nat} (h : ¬ (lo ≤ t ∧ t ≤ hi ∧ b = j)) : adS S lo hi j t b = S t b := if_neg h
theorem adS_s {S : Nat → Nat → Nat → Int32} {lo hi j t : Nat} (h : lo ≤ t ∧ t ≤ hi) : adS S lo hi j t j = fun _ => 0 := if_pos ⟨h.1, h.2, rfl⟩
section ADW
variable {ad ad' : Nat → Nat} {tC : Nat → ClassId} {n : Nat → Nat} {I : Nat → Nat → Int32} {K : Nat → Int32} {bw : Int64} {LA : Nat → Int64} {bM : Nat → Option va_E} {aM : Nat → Nat → Option (ClassId × Nat)} {S : Nat → Nat → Nat → Int32} {D : va_G} {A : Nat → Prop} {H : Heap} {wn : nw_N} {v : Nat → Int32} {k : Nat}
theorem hW_hi (hk : 100 ≤ k) : hW ad tC n I K bw LA bM aM S k = (arX tC n aM ((k - 100) / 16) ((k - 100) % 16)).map (fun q => .inl (q.1, q.2, .inl (S ((k - 100) / 16) ((k - 100) % 16)))) := by
  simp only [hW, gw]; rw [if_neg (by omega)]
theorem hW_md (h1 : 56 ≤ k) (h2 : k < 100) : hW ad tC n I K bw LA bM aM S k = bM k := by
  rw [hW, gw_ob h2, obX, if_neg (by omega)]

theorem hWs_Place (hN : hpN n) (hi : n 1 < 4) (p0 : k ≠ 24 + n 1) (p1 : k ≠ 116 + n 1) (p2 : k ≠ 6) (p3 : k ≠ 1) : hW ad tC (va_up n 1 (n 1 + 1)) (adI I 1 1 (n 1) v) K bw LA bM aM (adS S 1 1 (n 1)) k = hW ad tC n I K bw LA bM aM S k := by
  obtain ⟨hn0, hn0', hn1, hn2, hn3, hn4⟩ := hN
  have e0 : (va_up n 1 (n 1 + 1)) 0 = n 0 := va_up_ne _ _ (by decide)
  have ei : (va_up n 1 (n 1 + 1)) 1 = n 1 + 1 := va_up_self ..
  have e2 : (va_up n 1 (n 1 + 1)) 2 = n 2 := va_up_ne _ _ (by decide)
  have e3 : (va_up n 1 (n 1 + 1)) 3 = n 3 := va_up_ne _ _ (by decide)
  have e4 : (va_up n 1 (n 1 + 1)) 4 = n 4 := va_up_ne _ _ (by decide)
  by_cases h1 : k < 10
  · have h9 : k = 0 ∨ k = 2 ∨ k = 3 ∨ k = 4 ∨ k = 5 ∨ k = 7 ∨ k = 8 ∨ k = 9 := by omega
    rcases h9 with rfl | rfl | rfl | rfl | rfl | rfl | rfl | rfl
    · rfl
    · rfl
    · rfl
    · rfl
    · rfl
    · rw [hW_7, hW_7, e2]
    · rw [hW_8, hW_8, e3]
    · rw [hW_9, hW_9, e4]
  · by_cases h2 : k < 56
    · rw [hW_ob h2, hW_ob h2, oX_hi (by omega), oX_hi (by omega), ei, e2, e3, e4]
      by_cases g0 : k < 24
      · rw [if_pos (show k < 24 by omega), if_pos g0]
      · rw [if_neg (show ¬ k < 24 by omega), if_neg g0]
        by_cases g1 : k < 24 + n 1
        · rw [if_pos (show k < 24 + (n 1 + 1) by omega), if_pos g1]; rw [adI_n (a := 1) (b := k - 24) (show ¬ (1 ≤ 1 ∧ 1 ≤ 1 ∧ k - 24 = n 1) by omega)]
        · rw [if_neg (show ¬ k < 24 + (n 1 + 1) by omega), if_neg g1]
          by_cases g2 : k < 32
          · rw [if_pos (show k < 32 by omega), if_pos g2]
          · rw [if_neg (show ¬ k < 32 by omega), if_neg g2]
            by_cases g3 : k < 32 + n 2
            · rw [if_pos (show k < 32 + n 2 by omega), if_pos g3]; rw [adI_n (a := 2) (b := k - 32) (show ¬ (1 ≤ 2 ∧ 2 ≤ 1 ∧ k - 32 = n 1) by omega)]
            · rw [if_neg (show ¬ k < 32 + n 2 by omega), if_neg g3]
              by_cases g4 : k < 40
              · rw [if_pos (show k < 40 by omega), if_pos g4]
              · rw [if_neg (show ¬ k < 40 by omega), if_neg g4]
                by_cases g5 : k < 40 + n 3
                · rw [if_pos (show k < 40 + n 3 by omega), if_pos g5]; rw [adI_n (a := 3) (b := k - 40) (show ¬ (1 ≤ 3 ∧ 3 ≤ 1 ∧ k - 40 = n 1) by omega)]
                · rw [if_neg (show ¬ k < 40 + n 3 by omega), if_neg g5]
                  by_cases g6 : k < 48
                  · rw [if_pos (show k < 48 by omega), if_pos g6]
                  · rw [if_neg (show ¬ k < 48 by omega), if_neg g6]
                    by_cases g7 : k < 48 + n 4
                    · rw [if_pos (show k < 48 + n 4 by omega), if_pos g7]; rw [adI_n (a := 4) (b := k - 48) (show ¬ (1 ≤ 4 ∧ 4 ≤ 1 ∧ k - 48 = n 1) by omega), adI_n (a := 5) (b := k - 48) (show ¬ (1 ≤ 5 ∧ 5 ≤ 1 ∧ k - 48 = n 1) by omega), adI_n (a := 6) (b := k - 48) (show ¬ (1 ≤ 6 ∧ 6 ≤ 1 ∧ k - 48 = n 1) by omega), adI_n (a := 7) (b := k - 48) (show ¬ (1 ≤ 7 ∧ 7 ≤ 1 ∧ k - 48 = n 1) by omega), adI_n (a := 8) (b := k - 48) (show ¬ (1 ≤ 8 ∧ 8 ≤ 1 ∧ k - 48 = n 1) by omega)]
                    · rw [if_neg (show ¬ k < 48 + n 4 by omega), if_neg g7]
    · by_cases h3 : k < 100
      · rw [hW_md (by omega) h3, hW_md (by omega) h3]
      · rw [hW_hi (by omega), hW_hi (by omega)]
        have ha : arX tC (va_up n 1 (n 1 + 1)) aM ((k - 100) / 16) ((k - 100) % 16) = arX tC n aM ((k - 100) / 16) ((k - 100) % 16) := by
          simp only [arX]
          split
          · rename_i ht
            have ht' : (k - 100) / 16 = 0 ∨ (k - 100) / 16 = 1 ∨ (k - 100) / 16 = 2 ∨ (k - 100) / 16 = 3 ∨ (k - 100) / 16 = 4 := by omega
            rcases ht' with q | q | q | q | q

            · rw [q]; simp only [aX]; rw [e0]
            · rw [q]; simp only [aX]; rw [ei, e0]; by_cases g : (k - 100) % 16 < n 1; rw [if_pos (by omega), if_pos g]; rw [if_neg (by omega), if_neg g]
            · rw [q]; simp only [aX]; rw [e2, e0]
            · rw [q]; simp only [aX]; rw [e2, e0]
            · rw [q]; simp only [aX]; rw [e3, e0]
          · rfl
        by_cases g : 1 ≤ (k - 100) / 16 ∧ (k - 100) / 16 ≤ 1 ∧ (k - 100) % 16 = n 1
        · exfalso; omega
        · rw [ha, adS_n g]
theorem hWn_Place (hN : hpN n) (hi : n 1 < 4) : hW ad tC n I K bw LA bM aM S (24 + n 1) = none := by
  obtain ⟨hn0, hn0', hn1, hn2, hn3, hn4⟩ := hN
  rw [hW_ob (by omega), oX_hi (by omega)]
  rw [if_neg (by omega)]; rw [if_neg (by omega)]; rw [if_pos (by omega)]
theorem hWr_Place_1 (hi : n 1 < 4) : hW ad tC n I K bw LA bM aM S (116 + n 1) = none := gw_none (t := 1) (j := n 1) (by omega) (by rw [arX, if_pos (by decide)]; exact if_neg (Nat.lt_irrefl _))
theorem hW_addPlace (hN : hpN n) (hi : n 1 < 4) (q0 : wn (24 + n 1) = some (.inr (5, [.int (v 1), .ref (ad (116 + n 1))]))) (q1 : wn (116 + n 1) = some (.inl (tC 2, n 0, .inl (fun _ => 0)))) (qa : wn 6 = some (.inl (tC 3, 4, .inr (.inr (.inr (.inr (va_up (fun i => if i < n 1 then some (ad (24 + i)) else none) (n 1) (some (ad (24 + n 1))))))))))
    (qf : wn 1 = some (.inr (1, [.int (nI (n 0)), .ref (ad 6), .ref (ad 7), .ref (ad 8), .ref (ad 9), .ref (ad 101), .ref (ad 102), .int (nI (n 1 + 1)), .int (nI (n 2)), .int (nI (n 3)), .int (nI (n 4)), .int (I 0 1), .int (I 0 2)]))) (ho : ∀ k, k ≠ 24 + n 1 → k ≠ 116 + n 1 → k ≠ 6 → k ≠ 1 → wn k = hW ad tC n I K bw LA bM aM S k) (hw : nw_W D hpC A wn ad H) : nw_W D hpC A (hW ad tC (va_up n 1 (n 1 + 1)) (adI I 1 1 (n 1) v) K bw LA bM aM (adS S 1 1 (n 1))) ad H := by
  have hN1 : hpN (va_up n 1 (n 1 + 1)) := by
    obtain ⟨hn0, hn0', hn1, hn2, hn3, hn4⟩ := id hN
    exact ⟨hn0, hn0', (by show n 1 + 1 ≤ 4; omega), hn2, hn3, hn4⟩
  have ei : (va_up n 1 (n 1 + 1)) 1 = n 1 + 1 := va_up_self ..
  refine hw.mono (fun k e hk => ⟨?_, rfl⟩)
  by_cases p0 : k = 24 + n 1
  · subst p0
    rw [q0, ← hk, hW_place hN1 (by rw [ei]; omega)]
    rw [adI_s (a := 1) (by omega)]
  by_cases p1 : k = 116 + n 1
  · subst p1
    rw [q1, ← hk]
    have h9 := hW_row (ad := ad) (tC := tC) (n := (va_up n 1 (n 1 + 1))) (I := (adI I 1 1 (n 1) v)) (K := K) (bw := bw) (LA := LA) (bM := bM) (aM := aM) (S := (adS S 1 1 (n 1))) (t := 1) (j := n 1) (len := n 0) (c := tC 2) (by decide) (by omega) (by show (if n 1 < (va_up n 1 (n 1 + 1)) 1 then some (tC 2, (va_up n 1 (n 1 + 1)) 0) else none) = _; rw [ei, if_pos (by omega)]; rfl)
    rw [adS_s (by omega)] at h9
    exact h9.symm
  by_cases p2 : k = 6
  · subst p2
    rw [qa, ← hk, hW_6, ei]
    have h9 : va_up (fun i => if i < n 1 then some (ad (24 + i)) else none) (n 1) (some (ad (24 + n 1))) = (fun i => if i < n 1 + 1 then some (ad (24 + i)) else none) := by
      funext j
      by_cases g : j = n 1
      · subst g; rw [va_up_self, if_pos (by omega)]
      · rw [va_up_ne _ _ g]
        by_cases g2 : j < n 1
        · rw [if_pos g2, if_pos (by omega)]
        · rw [if_neg g2, if_neg (by omega)]
    rw [h9]
  by_cases p3 : k = 1
  · subst p3
    rw [qf, ← hk, hW_1, ei]
    rfl
  · rw [ho k p0 p1 p2 p3, ← hk]
    exact (hWs_Place hN hi p0 p1 p2 p3).symm
theorem hWs_Cage (hN : hpN n) (hi : n 2 < 6) (p0 : k ≠ 32 + n 2) (p1 : k ≠ 132 + n 2) (p2 : k ≠ 148 + n 2) (p3 : k ≠ 7) (p4 : k ≠ 1) : hW ad tC (va_up n 2 (n 2 + 1)) (adI I 2 2 (n 2) v) K bw LA bM aM (adS S 2 3 (n 2)) k = hW ad tC n I K bw LA bM aM S k := by
  obtain ⟨hn0, hn0', hn1, hn2, hn3, hn4⟩ := hN
  have e0 : (va_up n 2 (n 2 + 1)) 0 = n 0 := va_up_ne _ _ (by decide)
  have ei : (va_up n 2 (n 2 + 1)) 2 = n 2 + 1 := va_up_self ..
  have e1 : (va_up n 2 (n 2 + 1)) 1 = n 1 := va_up_ne _ _ (by decide)
  have e3 : (va_up n 2 (n 2 + 1)) 3 = n 3 := va_up_ne _ _ (by decide)
  have e4 : (va_up n 2 (n 2 + 1)) 4 = n 4 := va_up_ne _ _ (by decide)
  by_cases h1 : k < 10
  · have h9 : k = 0 ∨ k = 2 ∨ k = 3 ∨ k = 4 ∨ k = 5 ∨ k = 6 ∨ k = 8 ∨ k = 9 := by omega
    rcases h9 with rfl | rfl | rfl | rfl | rfl | rfl | rfl | rfl
    · rfl
    · rfl
    · rfl
    · rfl
    · rfl
    · rw [hW_6, hW_6, e1]
    · rw [hW_8, hW_8, e3]
    · rw [hW_9, hW_9, e4]
  · by_cases h2 : k < 56
    · rw [hW_ob h2, hW_ob h2, oX_hi (by omega), oX_hi (by omega), e1, ei, e3, e4]
      by_cases g0 : k < 24
      · rw [if_pos (show k < 24 by omega), if_pos g0]
      · rw [if_neg (show ¬ k < 24 by omega), if_neg g0]
        by_cases g1 : k < 24 + n 1
        · rw [if_pos (show k < 24 + n 1 by omega), if_pos g1]; rw [adI_n (a := 1) (b := k - 24) (show ¬ (2 ≤ 1 ∧ 1 ≤ 2 ∧ k - 24 = n 2) by omega)]
        · rw [if_neg (show ¬ k < 24 + n 1 by omega), if_neg g1]
          by_cases g2 : k < 32
          · rw [if_pos (show k < 32 by omega), if_pos g2]
          · rw [if_neg (show ¬ k < 32 by omega), if_neg g2]
            by_cases g3 : k < 32 + n 2
            · rw [if_pos (show k < 32 + (n 2 + 1) by omega), if_pos g3]; rw [adI_n (a := 2) (b := k - 32) (show ¬ (2 ≤ 2 ∧ 2 ≤ 2 ∧ k - 32 = n 2) by omega)]
            · rw [if_neg (show ¬ k < 32 + (n 2 + 1) by omega), if_neg g3]
              by_cases g4 : k < 40
              · rw [if_pos (show k < 40 by omega), if_pos g4]
              · rw [if_neg (show ¬ k < 40 by omega), if_neg g4]
                by_cases g5 : k < 40 + n 3
                · rw [if_pos (show k < 40 + n 3 by omega), if_pos g5]; rw [adI_n (a := 3) (b := k - 40) (show ¬ (2 ≤ 3 ∧ 3 ≤ 2 ∧ k - 40 = n 2) by omega)]
                · rw [if_neg (show ¬ k < 40 + n 3 by omega), if_neg g5]
                  by_cases g6 : k < 48
                  · rw [if_pos (show k < 48 by omega), if_pos g6]
                  · rw [if_neg (show ¬ k < 48 by omega), if_neg g6]
                    by_cases g7 : k < 48 + n 4
                    · rw [if_pos (show k < 48 + n 4 by omega), if_pos g7]; rw [adI_n (a := 4) (b := k - 48) (show ¬ (2 ≤ 4 ∧ 4 ≤ 2 ∧ k - 48 = n 2) by omega), adI_n (a := 5) (b := k - 48) (show ¬ (2 ≤ 5 ∧ 5 ≤ 2 ∧ k - 48 = n 2) by omega), adI_n (a := 6) (b := k - 48) (show ¬ (2 ≤ 6 ∧ 6 ≤ 2 ∧ k - 48 = n 2) by omega), adI_n (a := 7) (b := k - 48) (show ¬ (2 ≤ 7 ∧ 7 ≤ 2 ∧ k - 48 = n 2) by omega), adI_n (a := 8) (b := k - 48) (show ¬ (2 ≤ 8 ∧ 8 ≤ 2 ∧ k - 48 = n 2) by omega)]
                    · rw [if_neg (show ¬ k < 48 + n 4 by omega), if_neg g7]
    · by_cases h3 : k < 100
      · rw [hW_md (by omega) h3, hW_md (by omega) h3]
      · rw [hW_hi (by omega), hW_hi (by omega)]
        have ha : arX tC (va_up n 2 (n 2 + 1)) aM ((k - 100) / 16) ((k - 100) % 16) = arX tC n aM ((k - 100) / 16) ((k - 100) % 16) := by
          simp only [arX]
          split
          · rename_i ht
            have ht' : (k - 100) / 16 = 0 ∨ (k - 100) / 16 = 1 ∨ (k - 100) / 16 = 2 ∨ (k - 100) / 16 = 3 ∨ (k - 100) / 16 = 4 := by omega
            rcases ht' with q | q | q | q | q

            · rw [q]; simp only [aX]; rw [e0]
            · rw [q]; simp only [aX]; rw [e1, e0]
            · rw [q]; simp only [aX]; rw [ei, e0]; by_cases g : (k - 100) % 16 < n 2; rw [if_pos (by omega), if_pos g]; rw [if_neg (by omega), if_neg g]
            · rw [q]; simp only [aX]; rw [ei, e0]; by_cases g : (k - 100) % 16 < n 2; rw [if_pos (by omega), if_pos g]; rw [if_neg (by omega), if_neg g]
            · rw [q]; simp only [aX]; rw [e3, e0]
          · rfl
        by_cases g : 2 ≤ (k - 100) / 16 ∧ (k - 100) / 16 ≤ 3 ∧ (k - 100) % 16 = n 2
        · exfalso; omega
        · rw [ha, adS_n g]
theorem hWn_Cage (hN : hpN n) (hi : n 2 < 6) : hW ad tC n I K bw LA bM aM S (32 + n 2) = none := by
  obtain ⟨hn0, hn0', hn1, hn2, hn3, hn4⟩ := hN
  rw [hW_ob (by omega), oX_hi (by omega)]
  rw [if_neg (by omega)]; rw [if_neg (by omega)]; rw [if_neg (by omega)]; rw [if_neg (by omega)]; rw [if_pos (by omega)]
theorem hWr_Cage_2 (hi : n 2 < 6) : hW ad tC n I K bw LA bM aM S (132 + n 2) = none := gw_none (t := 2) (j := n 2) (by omega) (by rw [arX, if_pos (by decide)]; exact if_neg (Nat.lt_irrefl _))
theorem hWr_Cage_3 (hi : n 2 < 6) : hW ad tC n I K bw LA bM aM S (148 + n 2) = none := gw_none (t := 3) (j := n 2) (by omega) (by rw [arX, if_pos (by decide)]; exact if_neg (Nat.lt_irrefl _))
theorem hW_addCage (hN : hpN n) (hi : n 2 < 6) (q0 : wn (32 + n 2) = some (.inr (6, [.int (v 2), .ref (ad (132 + n 2)), .ref (ad (148 + n 2))]))) (q2 : wn (132 + n 2) = some (.inl (tC 0, n 0, .inl (fun _ => 0)))) (q3 : wn (148 + n 2) = some (.inl (tC 0, n 0, .inl (fun _ => 0)))) (qa : wn 7 = some (.inl (tC 4, 6, .inr (.inr (.inr (.inr (va_up (fun i => if i < n 2 then some (ad (32 + i)) else none) (n 2) (some (ad (32 + n 2))))))))))
    (qf : wn 1 = some (.inr (1, [.int (nI (n 0)), .ref (ad 6), .ref (ad 7), .ref (ad 8), .ref (ad 9), .ref (ad 101), .ref (ad 102), .int (nI (n 1)), .int (nI (n 2 + 1)), .int (nI (n 3)), .int (nI (n 4)), .int (I 0 1), .int (I 0 2)]))) (ho : ∀ k, k ≠ 32 + n 2 → k ≠ 132 + n 2 → k ≠ 148 + n 2 → k ≠ 7 → k ≠ 1 → wn k = hW ad tC n I K bw LA bM aM S k) (hw : nw_W D hpC A wn ad H) : nw_W D hpC A (hW ad tC (va_up n 2 (n 2 + 1)) (adI I 2 2 (n 2) v) K bw LA bM aM (adS S 2 3 (n 2))) ad H := by
  have hN1 : hpN (va_up n 2 (n 2 + 1)) := by
    obtain ⟨hn0, hn0', hn1, hn2, hn3, hn4⟩ := id hN
    exact ⟨hn0, hn0', hn1, (by show n 2 + 1 ≤ 6; omega), hn3, hn4⟩
  have ei : (va_up n 2 (n 2 + 1)) 2 = n 2 + 1 := va_up_self ..
  refine hw.mono (fun k e hk => ⟨?_, rfl⟩)
  by_cases p0 : k = 32 + n 2
  · subst p0
    rw [q0, ← hk, hW_cage hN1 (by rw [ei]; omega)]
    rw [adI_s (a := 2) (by omega)]
  by_cases p1 : k = 132 + n 2
  · subst p1
    rw [q2, ← hk]
    have h9 := hW_row (ad := ad) (tC := tC) (n := (va_up n 2 (n 2 + 1))) (I := (adI I 2 2 (n 2) v)) (K := K) (bw := bw) (LA := LA) (bM := bM) (aM := aM) (S := (adS S 2 3 (n 2))) (t := 2) (j := n 2) (len := n 0) (c := tC 0) (by decide) (by omega) (by show (if n 2 < (va_up n 2 (n 2 + 1)) 2 then some (tC 0, (va_up n 2 (n 2 + 1)) 0) else none) = _; rw [ei, if_pos (by omega)]; rfl)
    rw [adS_s (by omega)] at h9
    exact h9.symm
  by_cases p2 : k = 148 + n 2
  · subst p2
    rw [q3, ← hk]
    have h9 := hW_row (ad := ad) (tC := tC) (n := (va_up n 2 (n 2 + 1))) (I := (adI I 2 2 (n 2) v)) (K := K) (bw := bw) (LA := LA) (bM := bM) (aM := aM) (S := (adS S 2 3 (n 2))) (t := 3) (j := n 2) (len := n 0) (c := tC 0) (by decide) (by omega) (by show (if n 2 < (va_up n 2 (n 2 + 1)) 2 then some (tC 0, (va_up n 2 (n 2 + 1)) 0) else none) = _; rw [ei, if_pos (by omega)]; rfl)
    rw [adS_s (by omega)] at h9
    exact h9.symm
  by_cases p3 : k = 7
  · subst p3
    rw [qa, ← hk, hW_7, ei]
    have h9 : va_up (fun i => if i < n 2 then some (ad (32 + i)) else none) (n 2) (some (ad (32 + n 2))) = (fun i => if i < n 2 + 1 then some (ad (32 + i)) else none) := by
      funext j
      by_cases g : j = n 2
      · subst g; rw [va_up_self, if_pos (by omega)]
      · rw [va_up_ne _ _ g]
        by_cases g2 : j < n 2
        · rw [if_pos g2, if_pos (by omega)]
        · rw [if_neg g2, if_neg (by omega)]
    rw [h9]
  by_cases p4 : k = 1
  · subst p4
    rw [qf, ← hk, hW_1, ei]
    rfl
  · rw [ho k p0 p1 p2 p3 p4, ← hk]
    exact (hWs_Cage hN hi p0 p1 p2 p3 p4).symm
theorem hWs_Boat (hN : hpN n) (hi : n 3 < 3) (p0 : k ≠ 40 + n 3) (p1 : k ≠ 164 + n 3) (p2 : k ≠ 8) (p3 : k ≠ 1) : hW ad tC (va_up n 3 (n 3 + 1)) (adI I 3 3 (n 3) v) K bw LA bM aM (adS S 4 4 (n 3)) k = hW ad tC n I K bw LA bM aM S k := by
  obtain ⟨hn0, hn0', hn1, hn2, hn3, hn4⟩ := hN
  have e0 : (va_up n 3 (n 3 + 1)) 0 = n 0 := va_up_ne _ _ (by decide)
  have ei : (va_up n 3 (n 3 + 1)) 3 = n 3 + 1 := va_up_self ..
  have e1 : (va_up n 3 (n 3 + 1)) 1 = n 1 := va_up_ne _ _ (by decide)
  have e2 : (va_up n 3 (n 3 + 1)) 2 = n 2 := va_up_ne _ _ (by decide)
  have e4 : (va_up n 3 (n 3 + 1)) 4 = n 4 := va_up_ne _ _ (by decide)
  by_cases h1 : k < 10
  · have h9 : k = 0 ∨ k = 2 ∨ k = 3 ∨ k = 4 ∨ k = 5 ∨ k = 6 ∨ k = 7 ∨ k = 9 := by omega
    rcases h9 with rfl | rfl | rfl | rfl | rfl | rfl | rfl | rfl
    · rfl
    · rfl
    · rfl
    · rfl
    · rfl
    · rw [hW_6, hW_6, e1]
    · rw [hW_7, hW_7, e2]
    · rw [hW_9, hW_9, e4]
  · by_cases h2 : k < 56
    · rw [hW_ob h2, hW_ob h2, oX_hi (by omega), oX_hi (by omega), e1, e2, ei, e4]
      by_cases g0 : k < 24
      · rw [if_pos (show k < 24 by omega), if_pos g0]
      · rw [if_neg (show ¬ k < 24 by omega), if_neg g0]
        by_cases g1 : k < 24 + n 1
        · rw [if_pos (show k < 24 + n 1 by omega), if_pos g1]; rw [adI_n (a := 1) (b := k - 24) (show ¬ (3 ≤ 1 ∧ 1 ≤ 3 ∧ k - 24 = n 3) by omega)]
        · rw [if_neg (show ¬ k < 24 + n 1 by omega), if_neg g1]
          by_cases g2 : k < 32
          · rw [if_pos (show k < 32 by omega), if_pos g2]
          · rw [if_neg (show ¬ k < 32 by omega), if_neg g2]
            by_cases g3 : k < 32 + n 2
            · rw [if_pos (show k < 32 + n 2 by omega), if_pos g3]; rw [adI_n (a := 2) (b := k - 32) (show ¬ (3 ≤ 2 ∧ 2 ≤ 3 ∧ k - 32 = n 3) by omega)]
            · rw [if_neg (show ¬ k < 32 + n 2 by omega), if_neg g3]
              by_cases g4 : k < 40
              · rw [if_pos (show k < 40 by omega), if_pos g4]
              · rw [if_neg (show ¬ k < 40 by omega), if_neg g4]
                by_cases g5 : k < 40 + n 3
                · rw [if_pos (show k < 40 + (n 3 + 1) by omega), if_pos g5]; rw [adI_n (a := 3) (b := k - 40) (show ¬ (3 ≤ 3 ∧ 3 ≤ 3 ∧ k - 40 = n 3) by omega)]
                · rw [if_neg (show ¬ k < 40 + (n 3 + 1) by omega), if_neg g5]
                  by_cases g6 : k < 48
                  · rw [if_pos (show k < 48 by omega), if_pos g6]
                  · rw [if_neg (show ¬ k < 48 by omega), if_neg g6]
                    by_cases g7 : k < 48 + n 4
                    · rw [if_pos (show k < 48 + n 4 by omega), if_pos g7]; rw [adI_n (a := 4) (b := k - 48) (show ¬ (3 ≤ 4 ∧ 4 ≤ 3 ∧ k - 48 = n 3) by omega), adI_n (a := 5) (b := k - 48) (show ¬ (3 ≤ 5 ∧ 5 ≤ 3 ∧ k - 48 = n 3) by omega), adI_n (a := 6) (b := k - 48) (show ¬ (3 ≤ 6 ∧ 6 ≤ 3 ∧ k - 48 = n 3) by omega), adI_n (a := 7) (b := k - 48) (show ¬ (3 ≤ 7 ∧ 7 ≤ 3 ∧ k - 48 = n 3) by omega), adI_n (a := 8) (b := k - 48) (show ¬ (3 ≤ 8 ∧ 8 ≤ 3 ∧ k - 48 = n 3) by omega)]
                    · rw [if_neg (show ¬ k < 48 + n 4 by omega), if_neg g7]
    · by_cases h3 : k < 100
      · rw [hW_md (by omega) h3, hW_md (by omega) h3]
      · rw [hW_hi (by omega), hW_hi (by omega)]
        have ha : arX tC (va_up n 3 (n 3 + 1)) aM ((k - 100) / 16) ((k - 100) % 16) = arX tC n aM ((k - 100) / 16) ((k - 100) % 16) := by
          simp only [arX]
          split
          · rename_i ht
            have ht' : (k - 100) / 16 = 0 ∨ (k - 100) / 16 = 1 ∨ (k - 100) / 16 = 2 ∨ (k - 100) / 16 = 3 ∨ (k - 100) / 16 = 4 := by omega
            rcases ht' with q | q | q | q | q

            · rw [q]; simp only [aX]; rw [e0]
            · rw [q]; simp only [aX]; rw [e1, e0]
            · rw [q]; simp only [aX]; rw [e2, e0]
            · rw [q]; simp only [aX]; rw [e2, e0]
            · rw [q]; simp only [aX]; rw [ei, e0]; by_cases g : (k - 100) % 16 < n 3; rw [if_pos (by omega), if_pos g]; rw [if_neg (by omega), if_neg g]
          · rfl
        by_cases g : 4 ≤ (k - 100) / 16 ∧ (k - 100) / 16 ≤ 4 ∧ (k - 100) % 16 = n 3
        · exfalso; omega
        · rw [ha, adS_n g]
theorem hWn_Boat (hN : hpN n) (hi : n 3 < 3) : hW ad tC n I K bw LA bM aM S (40 + n 3) = none := by
  obtain ⟨hn0, hn0', hn1, hn2, hn3, hn4⟩ := hN
  rw [hW_ob (by omega), oX_hi (by omega)]
  rw [if_neg (by omega)]; rw [if_neg (by omega)]; rw [if_neg (by omega)]; rw [if_neg (by omega)]; rw [if_neg (by omega)]; rw [if_neg (by omega)]; rw [if_pos (by omega)]
theorem hWr_Boat_4 (hi : n 3 < 3) : hW ad tC n I K bw LA bM aM S (164 + n 3) = none := gw_none (t := 4) (j := n 3) (by omega) (by rw [arX, if_pos (by decide)]; exact if_neg (Nat.lt_irrefl _))
theorem hW_addBoat (hN : hpN n) (hi : n 3 < 3) (q0 : wn (40 + n 3) = some (.inr (7, [.int (v 3), .ref (ad (164 + n 3))]))) (q4 : wn (164 + n 3) = some (.inl (tC 2, n 0, .inl (fun _ => 0)))) (qa : wn 8 = some (.inl (tC 5, 3, .inr (.inr (.inr (.inr (va_up (fun i => if i < n 3 then some (ad (40 + i)) else none) (n 3) (some (ad (40 + n 3))))))))))
    (qf : wn 1 = some (.inr (1, [.int (nI (n 0)), .ref (ad 6), .ref (ad 7), .ref (ad 8), .ref (ad 9), .ref (ad 101), .ref (ad 102), .int (nI (n 1)), .int (nI (n 2)), .int (nI (n 3 + 1)), .int (nI (n 4)), .int (I 0 1), .int (I 0 2)]))) (ho : ∀ k, k ≠ 40 + n 3 → k ≠ 164 + n 3 → k ≠ 8 → k ≠ 1 → wn k = hW ad tC n I K bw LA bM aM S k) (hw : nw_W D hpC A wn ad H) : nw_W D hpC A (hW ad tC (va_up n 3 (n 3 + 1)) (adI I 3 3 (n 3) v) K bw LA bM aM (adS S 4 4 (n 3))) ad H := by
  have hN1 : hpN (va_up n 3 (n 3 + 1)) := by
    obtain ⟨hn0, hn0', hn1, hn2, hn3, hn4⟩ := id hN
    exact ⟨hn0, hn0', hn1, hn2, (by show n 3 + 1 ≤ 3; omega), hn4⟩
  have ei : (va_up n 3 (n 3 + 1)) 3 = n 3 + 1 := va_up_self ..
  refine hw.mono (fun k e hk => ⟨?_, rfl⟩)
  by_cases p0 : k = 40 + n 3
  · subst p0
    rw [q0, ← hk, hW_boat hN1 (by rw [ei]; omega)]
    rw [adI_s (a := 3) (by omega)]
  by_cases p1 : k = 164 + n 3
  · subst p1
    rw [q4, ← hk]
    have h9 := hW_row (ad := ad) (tC := tC) (n := (va_up n 3 (n 3 + 1))) (I := (adI I 3 3 (n 3) v)) (K := K) (bw := bw) (LA := LA) (bM := bM) (aM := aM) (S := (adS S 4 4 (n 3))) (t := 4) (j := n 3) (len := n 0) (c := tC 2) (by decide) (by omega) (by show (if n 3 < (va_up n 3 (n 3 + 1)) 3 then some (tC 2, (va_up n 3 (n 3 + 1)) 0) else none) = _; rw [ei, if_pos (by omega)]; rfl)
    rw [adS_s (by omega)] at h9
    exact h9.symm
  by_cases p2 : k = 8
  · subst p2
    rw [qa, ← hk, hW_8, ei]
    have h9 : va_up (fun i => if i < n 3 then some (ad (40 + i)) else none) (n 3) (some (ad (40 + n 3))) = (fun i => if i < n 3 + 1 then some (ad (40 + i)) else none) := by
      funext j
      by_cases g : j = n 3
      · subst g; rw [va_up_self, if_pos (by omega)]
      · rw [va_up_ne _ _ g]
        by_cases g2 : j < n 3
        · rw [if_pos g2, if_pos (by omega)]
        · rw [if_neg g2, if_neg (by omega)]
    rw [h9]
  by_cases p3 : k = 1
  · subst p3
    rw [qf, ← hk, hW_1, ei]
    rfl
  · rw [ho k p0 p1 p2 p3, ← hk]
    exact (hWs_Boat hN hi p0 p1 p2 p3).symm
theorem hWs_Order (hN : hpN n) (hi : n 4 < 6) (p0 : k ≠ 48 + n 4) (p1 : k ≠ 9) (p2 : k ≠ 1) : hW ad tC (va_up n 4 (n 4 + 1)) (adI I 4 8 (n 4) v) K bw LA bM aM S k = hW ad tC n I K bw LA bM aM S k := by
  obtain ⟨hn0, hn0', hn1, hn2, hn3, hn4⟩ := hN
  have e0 : (va_up n 4 (n 4 + 1)) 0 = n 0 := va_up_ne _ _ (by decide)
  have ei : (va_up n 4 (n 4 + 1)) 4 = n 4 + 1 := va_up_self ..
  have e1 : (va_up n 4 (n 4 + 1)) 1 = n 1 := va_up_ne _ _ (by decide)
  have e2 : (va_up n 4 (n 4 + 1)) 2 = n 2 := va_up_ne _ _ (by decide)
  have e3 : (va_up n 4 (n 4 + 1)) 3 = n 3 := va_up_ne _ _ (by decide)
  by_cases h1 : k < 10
  · have h9 : k = 0 ∨ k = 2 ∨ k = 3 ∨ k = 4 ∨ k = 5 ∨ k = 6 ∨ k = 7 ∨ k = 8 := by omega
    rcases h9 with rfl | rfl | rfl | rfl | rfl | rfl | rfl | rfl
    · rfl
    · rfl
    · rfl
    · rfl
    · rfl
    · rw [hW_6, hW_6, e1]
    · rw [hW_7, hW_7, e2]
    · rw [hW_8, hW_8, e3]
  · by_cases h2 : k < 56
    · rw [hW_ob h2, hW_ob h2, oX_hi (by omega), oX_hi (by omega), e1, e2, e3, ei]
      by_cases g0 : k < 24
      · rw [if_pos (show k < 24 by omega), if_pos g0]
      · rw [if_neg (show ¬ k < 24 by omega), if_neg g0]
        by_cases g1 : k < 24 + n 1
        · rw [if_pos (show k < 24 + n 1 by omega), if_pos g1]; rw [adI_n (a := 1) (b := k - 24) (show ¬ (4 ≤ 1 ∧ 1 ≤ 8 ∧ k - 24 = n 4) by omega)]
        · rw [if_neg (show ¬ k < 24 + n 1 by omega), if_neg g1]
          by_cases g2 : k < 32
          · rw [if_pos (show k < 32 by omega), if_pos g2]
          · rw [if_neg (show ¬ k < 32 by omega), if_neg g2]
            by_cases g3 : k < 32 + n 2
            · rw [if_pos (show k < 32 + n 2 by omega), if_pos g3]; rw [adI_n (a := 2) (b := k - 32) (show ¬ (4 ≤ 2 ∧ 2 ≤ 8 ∧ k - 32 = n 4) by omega)]
            · rw [if_neg (show ¬ k < 32 + n 2 by omega), if_neg g3]
              by_cases g4 : k < 40
              · rw [if_pos (show k < 40 by omega), if_pos g4]
              · rw [if_neg (show ¬ k < 40 by omega), if_neg g4]
                by_cases g5 : k < 40 + n 3
                · rw [if_pos (show k < 40 + n 3 by omega), if_pos g5]; rw [adI_n (a := 3) (b := k - 40) (show ¬ (4 ≤ 3 ∧ 3 ≤ 8 ∧ k - 40 = n 4) by omega)]
                · rw [if_neg (show ¬ k < 40 + n 3 by omega), if_neg g5]
                  by_cases g6 : k < 48
                  · rw [if_pos (show k < 48 by omega), if_pos g6]
                  · rw [if_neg (show ¬ k < 48 by omega), if_neg g6]
                    by_cases g7 : k < 48 + n 4
                    · rw [if_pos (show k < 48 + (n 4 + 1) by omega), if_pos g7]; rw [adI_n (a := 4) (b := k - 48) (show ¬ (4 ≤ 4 ∧ 4 ≤ 8 ∧ k - 48 = n 4) by omega), adI_n (a := 5) (b := k - 48) (show ¬ (4 ≤ 5 ∧ 5 ≤ 8 ∧ k - 48 = n 4) by omega), adI_n (a := 6) (b := k - 48) (show ¬ (4 ≤ 6 ∧ 6 ≤ 8 ∧ k - 48 = n 4) by omega), adI_n (a := 7) (b := k - 48) (show ¬ (4 ≤ 7 ∧ 7 ≤ 8 ∧ k - 48 = n 4) by omega), adI_n (a := 8) (b := k - 48) (show ¬ (4 ≤ 8 ∧ 8 ≤ 8 ∧ k - 48 = n 4) by omega)]
                    · rw [if_neg (show ¬ k < 48 + (n 4 + 1) by omega), if_neg g7]
    · by_cases h3 : k < 100
      · rw [hW_md (by omega) h3, hW_md (by omega) h3]
      · rw [hW_hi (by omega), hW_hi (by omega)]
        have ha : arX tC (va_up n 4 (n 4 + 1)) aM ((k - 100) / 16) ((k - 100) % 16) = arX tC n aM ((k - 100) / 16) ((k - 100) % 16) := by
          simp only [arX]
          split
          · rename_i ht
            have ht' : (k - 100) / 16 = 0 ∨ (k - 100) / 16 = 1 ∨ (k - 100) / 16 = 2 ∨ (k - 100) / 16 = 3 ∨ (k - 100) / 16 = 4 := by omega
            rcases ht' with q | q | q | q | q

            · rw [q]; simp only [aX]; rw [e0]
            · rw [q]; simp only [aX]; rw [e1, e0]
            · rw [q]; simp only [aX]; rw [e2, e0]
            · rw [q]; simp only [aX]; rw [e2, e0]
            · rw [q]; simp only [aX]; rw [e3, e0]
          · rfl
        rw [ha]
theorem hWn_Order (hN : hpN n) (hi : n 4 < 6) : hW ad tC n I K bw LA bM aM S (48 + n 4) = none := by
  obtain ⟨hn0, hn0', hn1, hn2, hn3, hn4⟩ := hN
  rw [hW_ob (by omega), oX_hi (by omega)]
  rw [if_neg (by omega)]; rw [if_neg (by omega)]; rw [if_neg (by omega)]; rw [if_neg (by omega)]; rw [if_neg (by omega)]; rw [if_neg (by omega)]; rw [if_neg (by omega)]; rw [if_neg (by omega)]
theorem hW_addOrder (hN : hpN n) (hi : n 4 < 6) (q0 : wn (48 + n 4) = some (.inr (8, [.int (v 4), .int (v 5), .int (v 6), .int (v 7), .int (v 8)])))  (qa : wn 9 = some (.inl (tC 6, 6, .inr (.inr (.inr (.inr (va_up (fun i => if i < n 4 then some (ad (48 + i)) else none) (n 4) (some (ad (48 + n 4))))))))))
    (qf : wn 1 = some (.inr (1, [.int (nI (n 0)), .ref (ad 6), .ref (ad 7), .ref (ad 8), .ref (ad 9), .ref (ad 101), .ref (ad 102), .int (nI (n 1)), .int (nI (n 2)), .int (nI (n 3)), .int (nI (n 4 + 1)), .int (I 0 1), .int (I 0 2)]))) (ho : ∀ k, k ≠ 48 + n 4 → k ≠ 9 → k ≠ 1 → wn k = hW ad tC n I K bw LA bM aM S k) (hw : nw_W D hpC A wn ad H) : nw_W D hpC A (hW ad tC (va_up n 4 (n 4 + 1)) (adI I 4 8 (n 4) v) K bw LA bM aM S) ad H := by
  have hN1 : hpN (va_up n 4 (n 4 + 1)) := by
    obtain ⟨hn0, hn0', hn1, hn2, hn3, hn4⟩ := id hN
    exact ⟨hn0, hn0', hn1, hn2, hn3, (by show n 4 + 1 ≤ 6; omega)⟩
  have ei : (va_up n 4 (n 4 + 1)) 4 = n 4 + 1 := va_up_self ..
  refine hw.mono (fun k e hk => ⟨?_, rfl⟩)
  by_cases p0 : k = 48 + n 4
  · subst p0
    rw [q0, ← hk, hW_order hN1 (by rw [ei]; omega)]
    rw [adI_s (a := 4) (by omega), adI_s (a := 5) (by omega), adI_s (a := 6) (by omega), adI_s (a := 7) (by omega), adI_s (a := 8) (by omega)]
  by_cases p1 : k = 9
  · subst p1
    rw [qa, ← hk, hW_9, ei]
    have h9 : va_up (fun i => if i < n 4 then some (ad (48 + i)) else none) (n 4) (some (ad (48 + n 4))) = (fun i => if i < n 4 + 1 then some (ad (48 + i)) else none) := by
      funext j
      by_cases g : j = n 4
      · subst g; rw [va_up_self, if_pos (by omega)]
      · rw [va_up_ne _ _ g]
        by_cases g2 : j < n 4
        · rw [if_pos g2, if_pos (by omega)]
        · rw [if_neg g2, if_neg (by omega)]
    rw [h9]
  by_cases p2 : k = 1
  · subst p2
    rw [qf, ← hk, hW_1, ei]
    rfl
  · rw [ho k p0 p1 p2, ← hk]
    exact (hWs_Order hN hi p0 p1 p2).symm
/-- other addresses, at names that are not used -/
theorem hW_ad (h : ∀ k, (k < 10 ∨ (24 ≤ k ∧ k < 24 + n 1) ∨ (32 ≤ k ∧ k < 32 + n 2) ∨ (40 ≤ k ∧ k < 40 + n 3) ∨ (48 ≤ k ∧ k < 48 + n 4) ∨ (100 ≤ k ∧ k < 111) ∨ (116 ≤ k ∧ k < 116 + n 1) ∨ (132 ≤ k ∧ k < 132 + n 2) ∨ (148 ≤ k ∧ k < 148 + n 2) ∨ (164 ≤ k ∧ k < 164 + n 3)) → ad' k = ad k) : hW ad' tC n I K bw LA bM aM S = hW ad tC n I K bw LA bM aM S := by
  funext k
  by_cases h1 : k < 10
  · have h9 : k = 0 ∨ k = 1 ∨ k = 2 ∨ k = 3 ∨ k = 4 ∨ k = 5 ∨ k = 6 ∨ k = 7 ∨ k = 8 ∨ k = 9 := by omega
    rcases h9 with rfl | rfl | rfl | rfl | rfl | rfl | rfl | rfl | rfl | rfl
    · rw [hW_0, hW_0, h 1 (by omega), h 2 (by omega), h 3 (by omega), h 4 (by omega), h 100 (by omega)]
    · rw [hW_1, hW_1, h 6 (by omega), h 7 (by omega), h 8 (by omega), h 9 (by omega), h 101 (by omega), h 102 (by omega)]
    · rw [hW_2, hW_2, h 1 (by omega), h 103 (by omega), h 104 (by omega), h 105 (by omega), h 106 (by omega)]
    · rw [hW_3, hW_3, h 1 (by omega), h 107 (by omega), h 108 (by omega)]
    · rw [hW_4, hW_4, h 1 (by omega), h 2 (by omega), h 3 (by omega), h 109 (by omega), h 110 (by omega), h 5 (by omega)]
    · rfl
    · rw [hW_6, hW_6]
      have e : (fun i => if i < n 1 then some (ad' (24 + i)) else none) = (fun i => if i < n 1 then some (ad (24 + i)) else none) := by
        funext i
        by_cases g : i < n 1
        · rw [if_pos g, if_pos g, h (24 + i) (by omega)]
        · rw [if_neg g, if_neg g]
      rw [e]
    · rw [hW_7, hW_7]
      have e : (fun i => if i < n 2 then some (ad' (32 + i)) else none) = (fun i => if i < n 2 then some (ad (32 + i)) else none) := by
        funext i
        by_cases g : i < n 2
        · rw [if_pos g, if_pos g, h (32 + i) (by omega)]
        · rw [if_neg g, if_neg g]
      rw [e]
    · rw [hW_8, hW_8]
      have e : (fun i => if i < n 3 then some (ad' (40 + i)) else none) = (fun i => if i < n 3 then some (ad (40 + i)) else none) := by
        funext i
        by_cases g : i < n 3
        · rw [if_pos g, if_pos g, h (40 + i) (by omega)]
        · rw [if_neg g, if_neg g]
      rw [e]
    · rw [hW_9, hW_9]
      have e : (fun i => if i < n 4 then some (ad' (48 + i)) else none) = (fun i => if i < n 4 then some (ad (48 + i)) else none) := by
        funext i
        by_cases g : i < n 4
        · rw [if_pos g, if_pos g, h (48 + i) (by omega)]
        · rw [if_neg g, if_neg g]
      rw [e]
  · by_cases h2 : k < 56
    · rw [hW_ob h2, hW_ob h2, oX_hi (by omega), oX_hi (by omega)]
      by_cases g0 : k < 24
      · rw [if_pos g0, if_pos g0]
      · rw [if_neg g0, if_neg g0]
        by_cases g1 : k < 24 + n 1
        · rw [if_pos g1, if_pos g1, h (116 + (k - 24)) (by omega)]
        · rw [if_neg g1, if_neg g1]
          by_cases g2 : k < 32
          · rw [if_pos g2, if_pos g2]
          · rw [if_neg g2, if_neg g2]
            by_cases g3 : k < 32 + n 2
            · rw [if_pos g3, if_pos g3, h (132 + (k - 32)) (by omega), h (148 + (k - 32)) (by omega)]
            · rw [if_neg g3, if_neg g3]
              by_cases g4 : k < 40
              · rw [if_pos g4, if_pos g4]
              · rw [if_neg g4, if_neg g4]
                by_cases g5 : k < 40 + n 3
                · rw [if_pos g5, if_pos g5, h (164 + (k - 40)) (by omega)]
                · rw [if_neg g5, if_neg g5]
    · by_cases h3 : k < 100
      · rw [hW_md (by omega) h3, hW_md (by omega) h3]
      · rw [hW_hi (by omega), hW_hi (by omega)]
end ADW
