/-! the model's first world, over another -/
def zM (S0 : Nat → Nat → Nat → Int32) : Nat → Nat → Nat → Int32 := fun t j => if 5 ≤ t then (fun _ => 0) else S0 t j
theorem mW_init {D : va_G} {A : Nat → Prop} {H : Heap} {wn : nw_N} {ad : Nat → Nat} {tC : Nat → ClassId} {w : Nat} {J : Nat → Int32} {bw : Int64} {L : Nat → Nat → Int64} {ob : Nat → Option va_E} {ar : Nat → Nat → Option (ClassId × Nat)} {S0 : Nat → Nat → Nat → Int32} (har : ∀ t j, 5 ≤ t → ar t j = none) (h : ∀ k, ((64 ≤ k ∧ k < 69) ∨ (180 ≤ k ∧ k < 197)) → wn k = mW ad tC (n00 w) J bw L ob ar (zM S0) k) (h2 : ∀ k, ¬ ((64 ≤ k ∧ k < 69) ∨ (180 ≤ k ∧ k < 197)) → wn k = gw ob ar S0 k) (hw : nw_W D hpC A wn ad H) : nw_W D hpC A (mW ad tC (n00 w) J bw L ob ar (zM S0)) ad H := by
  refine hw.mono (fun k e hk => ⟨?_, rfl⟩)
  by_cases hm : (64 ≤ k ∧ k < 69) ∨ (180 ≤ k ∧ k < 197)
  · rw [h k hm]; exact hk
  · rw [h2 k hm, ← hk]
    simp only [mW, gw]
    by_cases h1 : k < 100
    · rw [if_pos h1, if_pos h1, obM, if_neg (by omega)]
    · rw [if_neg h1, if_neg h1]
      by_cases ht : 5 ≤ (k - 100) / 16 ∧ (k - 100) / 16 < 7
      · exfalso
        have hz : (k - 100) / 16 = 6 ∧ (k - 100) % 16 ≠ 0 := by omega
        simp only [mW, gw] at hk
        rw [if_neg h1, arM, if_pos ht, hz.1] at hk
        obtain ⟨j, hj⟩ : ∃ j, (k - 100) % 16 = j + 1 := ⟨(k - 100) % 16 - 1, by omega⟩
        rw [hj] at hk
        cases hk
      · rw [arM, if_neg ht]
        by_cases h7 : 5 ≤ (k - 100) / 16
        · rw [har _ _ h7]; rfl
        · simp only [zM]; rw [if_neg h7]
