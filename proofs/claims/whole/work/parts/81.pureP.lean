/-! THE MODEL'S OPERATIONS, in the class's words -/
def rfI (a s : Int32) : Int32 := if a = 0 then 1 else if s = 0 then 2 else 0
theorem rfI_ok {a s : Int32} (h : ¬ (a = 0 ∨ s = 0)) : rfI a s = nI 0 := by
  simp only [rfI]; rw [if_neg (fun h1 => h (Or.inl h1)), if_neg (fun h1 => h (Or.inr h1))]; rfl
def nw_mo (ba bs : Prop) (Wb : Int32 → nw_N) (ad : Nat → Nat) (v0 : Option Value) (ts : Int32) (G : Option Value → nw_N → Prop) : nw_P := fun o wn' ad' => ad' = ad ∧ ((ba ∧ o = v0 ∧ wn' = Wb 1) ∨ (¬ ba ∧ bs ∧ o = v0 ∧ wn' = Wb ts) ∨ (¬ ba ∧ ¬ bs ∧ G o wn'))
theorem nw_mo_bad {ba bs : Prop} {Wb : Int32 → nw_N} {ad : Nat → Nat} {v0 : Option Value} {G : Option Value → nw_N → Prop} {a s : Int32} (ha : a = 0 ↔ ba) (hs : s = 0 ↔ bs) (h : a = 0 ∨ s = 0) : nw_mo ba bs Wb ad v0 2 G v0 (Wb (rfI a s)) ad := by
  refine ⟨rfl, ?_⟩
  by_cases h1 : a = 0
  · exact Or.inl ⟨ha.mp h1, rfl, by simp only [rfI]; rw [if_pos h1]⟩
  · have h2 : s = 0 := h.elim (fun h9 => absurd h9 h1) id
    exact Or.inr (Or.inl ⟨fun h9 => h1 (ha.mpr h9), hs.mp h2, rfl, by simp only [rfI]; rw [if_neg h1, if_pos h2]⟩)
theorem nw_mo_ok {ba bs : Prop} {Wb : Int32 → nw_N} {ad : Nat → Nat} {v0 o : Option Value} {ts : Int32} {G : Option Value → nw_N → Prop} {wn' : nw_N} (h1 : ¬ ba) (h2 : ¬ bs) (h3 : G o wn') : nw_mo ba bs Wb ad v0 ts G o wn' ad := ⟨rfl, Or.inr (Or.inr ⟨h1, h2, h3⟩)⟩
theorem b2_not {p : Prop} : b2 p = 0 ↔ ¬ p := ⟨b2_0, fun h => (b2_f h).symm⟩
theorem le64 {x y : Int32} : x.toInt64 ≤ y.toInt64 ↔ x ≤ y := by
  rw [Int64.le_iff_toInt_le, Int32.le_iff_toInt_le, Int32.toInt_toInt64, Int32.toInt_toInt64]
theorem nIc {k : Nat} (hk : k < 2 ^ 31) : nI k - nI 1 = if k = 0 then -1 else nI (k - 1) := by
  by_cases h : k = 0
  · subst h; rfl
  · rw [if_neg h]
    exact pk_sub (by omega)
theorem in_n {x : Int32} {k : Nat} (hk : k < 2 ^ 31) : ((0 : Int64) ≤ x.toInt64 ∧ x.toInt64 ≤ (nI k - nI 1).toInt64) ↔ (0 ≤ x ∧ x < nI k) := by
  rw [show (0 : Int64) = (0 : Int32).toInt64 from rfl, le64, le64, nIc hk]
  refine and_congr_right (fun h0 => ?_)
  have e : x = nI x.toNatClampNeg := (Int32.ofNat_toNatClampNeg x h0).symm
  have hx := Int32.toNatClampNeg_lt x
  by_cases h : k = 0
  · rw [if_pos h, h]
    constructor
    · intro h1; exact absurd (Int32.le_trans h0 h1) (by decide)
    · intro h1; exact absurd h1 (Int32.not_lt.mpr h0)
  · rw [if_neg h, e, nI_leI hx (by omega), nI_ltI hx hk]
    omega
theorem in_c {x a b : Int32} {a' b' : Int64} (h1 : a' = a.toInt64) (h2 : b' = b.toInt64) : (a' ≤ x.toInt64 ∧ x.toInt64 ≤ b') ↔ (a ≤ x ∧ x ≤ b) := by rw [h1, h2, le64, le64]
theorem in_m {x : Int32} {k : Nat} (hk : k < 2 ^ 31) : ((-1 : Int64) ≤ x.toInt64 ∧ x.toInt64 ≤ (nI k - nI 1).toInt64) ↔ (x = -1 ∨ (0 ≤ x ∧ x < nI k)) := by
  rw [show (-1 : Int64) = (-1 : Int32).toInt64 from rfl, le64, le64, nIc hk]
  by_cases h0 : 0 ≤ x
  · have hne : ¬ x = -1 := fun h => by rw [h] at h0; exact absurd h0 (by decide)
    have h3 := in_n (x := x) hk
    rw [show (0 : Int64) = (0 : Int32).toInt64 from rfl, le64, le64, nIc hk] at h3
    constructor
    · rintro ⟨_, h2⟩; exact Or.inr (h3.mp ⟨h0, h2⟩)
    · rintro (h | h)
      · exact absurd h hne
      · exact ⟨Int32.le_trans (by decide) h0, (h3.mpr h).2⟩
  · have h1 : x < 0 := Int32.not_le.mp h0
    constructor
    · rintro ⟨h2, _⟩
      left
      have a1 := Int32.le_iff_toInt_le.mp h2
      have a2 := Int32.lt_iff_toInt_lt.mp h1
      have e1 : (-1 : Int32).toInt = -1 := by decide
      have e2 : (0 : Int32).toInt = 0 := by decide
      apply Int32.toInt_inj.mp
      omega
    · rintro (h | h)
      · subst h
        refine ⟨Int32.le_refl _, ?_⟩
        by_cases hz : k = 0
        · rw [if_pos hz]; exact Int32.le_refl _
        · rw [if_neg hz]
          exact Int32.le_trans (show (-1 : Int32) ≤ nI 0 by decide) (nI_le (Nat.zero_le _) (by omega))
      · exact absurd h.1 h0
