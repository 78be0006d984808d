/-! THE START: weeks within bounds; the class's first world -/
def clW (x : Int32) : Nat := if x < 1 then 1 else if 8 < x then 8 else x.toNatClampNeg
theorem clW_lo {x : Int32} (h : x < 1) : nI 1 = nI (clW x) := by simp only [clW]; rw [if_pos h]
theorem clW_hi {x : Int32} (h : ¬ x < 1) (h2 : 8 < x) : nI 8 = nI (clW x) := by simp only [clW]; rw [if_neg h, if_pos h2]
theorem clW_mid {x : Int32} (h : ¬ x < 1) (h2 : ¬ 8 < x) : x = nI (clW x) := by
  simp only [clW]; rw [if_neg h, if_neg h2]
  exact (Int32.ofNat_toNatClampNeg x (by
    have h3 := Int32.not_lt.mp h
    exact Int32.le_trans (by decide) h3)).symm
theorem clW_b (x : Int32) : 1 ≤ clW x ∧ clW x ≤ 8 := by
  by_cases h : x < 1
  · simp only [clW]; rw [if_pos h]; omega
  · by_cases h2 : 8 < x
    · simp only [clW]; rw [if_neg h, if_pos h2]; omega
    · have e := clW_mid h h2
      have h3 := Int32.not_lt.mp h
      have h4 := Int32.not_lt.mp h2
      have hc : clW x = x.toNatClampNeg := by simp only [clW]; rw [if_neg h, if_neg h2]
      have h5 := Int32.le_iff_toInt_le.mp h3
      have h6 := Int32.le_iff_toInt_le.mp h4
      have e1 : (1 : Int32).toInt = 1 := by decide
      have e8 : (8 : Int32).toInt = 8 := by decide
      rw [e1] at h5
      rw [e8] at h6
      have hn : x.toNatClampNeg = x.toInt.toNat := rfl
      rw [hc, hn]
      omega
theorem clW_max (x : Int32) : (if nI 1 < (if nI 8 < x then nI 8 else x) then (if nI 8 < x then nI 8 else x) else nI 1) = nI (clW x) := by
  by_cases h2 : nI 8 < x
  · rw [if_pos h2, if_pos (by decide)]
    exact clW_hi (fun h => absurd (Int32.lt_trans h2 h) (by decide)) h2
  · rw [if_neg h2]
    by_cases h : x < 1
    · rw [if_neg (fun h9 => absurd (Int32.lt_trans h9 h) (by decide))]
      exact clW_lo h
    · by_cases h3 : nI 1 < x
      · rw [if_pos h3]; exact clW_mid h h2
      · rw [if_neg h3]
        have e : x = 1 := Int32.le_antisymm (Int32.not_lt.mp h3) (Int32.not_lt.mp h)
        subst e
        rfl
def n00 (w : Nat) : Nat → Nat := fun k => if k = 0 then w else 0
theorem n00_N {w : Nat} (h : 1 ≤ w ∧ w ≤ 8) : hpN (n00 w) := ⟨h.1, h.2, Nat.zero_le _, Nat.zero_le _, Nat.zero_le _, Nat.zero_le _⟩
/-- the class's world at its start: no names but these -/
theorem hW_names {ad : Nat → Nat} {tC : Nat → ClassId} {w : Nat} {I : Nat → Nat → Int32} {K : Nat → Int32} {bw : Int64} {LA : Nat → Int64} {S : Nat → Nat → Nat → Int32} {k : Nat} {e : va_E} (h : hW ad tC (n00 w) I K bw LA (fun _ => none) (fun _ _ => none) S k = some e) : k < 10 ∨ (100 ≤ k ∧ k < 111) := by
  by_cases h1 : k < 10
  · exact Or.inl h1
  · by_cases h2 : k < 56
    · rw [hW_ob h2, oX_hi (by omega)] at h
      have z : ∀ j, j ≠ 0 → n00 w j = 0 := fun j hj => if_neg hj
      rw [z 1 (by decide), z 2 (by decide), z 3 (by decide), z 4 (by decide)] at h
      by_cases g1 : k < 24
      · rw [if_pos g1] at h; cases h
      · rw [if_neg g1, if_neg (by omega)] at h
        by_cases g2 : k < 32
        · rw [if_pos g2] at h; cases h
        · rw [if_neg g2, if_neg (by omega)] at h
          by_cases g3 : k < 40
          · rw [if_pos g3] at h; cases h
          · rw [if_neg g3, if_neg (by omega)] at h
            by_cases g4 : k < 48
            · rw [if_pos g4] at h; cases h
            · rw [if_neg g4, if_neg (by omega)] at h; cases h
    · by_cases h3 : k < 100
      · rw [hW, gw_ob h3, obX, if_neg h2] at h; cases h
      · by_cases h4 : k < 111
        · exact Or.inr ⟨by omega, h4⟩
        · exfalso
          simp only [hW, gw] at h
          rw [if_neg h3] at h
          have hz : arX tC (n00 w) (fun _ _ => none) ((k - 100) / 16) ((k - 100) % 16) = none := by
            simp only [arX]
            split
            · rename_i ht
              have ht' : (k - 100) / 16 = 0 ∨ (k - 100) / 16 = 1 ∨ (k - 100) / 16 = 2 ∨ (k - 100) / 16 = 3 ∨ (k - 100) / 16 = 4 := by omega
              rcases ht' with e0 | e0 | e0 | e0 | e0
              · rw [e0]; simp only [aX]; rw [if_neg (by omega), if_neg (by omega), if_neg (by omega), if_neg (by omega)]
              · rw [e0]; simp only [aX]; exact if_neg (Nat.not_lt_zero _)
              · rw [e0]; simp only [aX]; exact if_neg (Nat.not_lt_zero _)
              · rw [e0]; simp only [aX]; exact if_neg (Nat.not_lt_zero _)
              · rw [e0]; simp only [aX]; exact if_neg (Nat.not_lt_zero _)
            · rfl
          rw [hz] at h
          cases h
theorem hW_init {D : va_G} {A : Nat → Prop} {H : Heap} {wn : nw_N} {ad : Nat → Nat} {tC : Nat → ClassId} {w : Nat} {I : Nat → Nat → Int32} {K : Nat → Int32} {bw : Int64} {LA : Nat → Int64} {S : Nat → Nat → Nat → Int32} (h : ∀ k, (k < 10 ∨ (100 ≤ k ∧ k < 111)) → wn k = hW ad tC (n00 w) I K bw LA (fun _ => none) (fun _ _ => none) S k) (hw : nw_W D hpC A wn ad H) : nw_W D hpC A (hW ad tC (n00 w) I K bw LA (fun _ => none) (fun _ _ => none) S) ad H :=
  hw.mono (fun k e hk => ⟨by rw [h k (hW_names hk)]; exact hk, rfl⟩)
