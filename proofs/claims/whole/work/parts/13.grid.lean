/-! THE WORLD'S FORM: names below 100 are objects and arrays of references; the row (t, j) of numbers has the name 100 + 16 t + j -/
def upR (S : Nat → Nat → Nat → Int32) (t j : Nat) (f : Nat → Int32) : Nat → Nat → Nat → Int32 := fun a b => if a = t ∧ b = j then f else S a b
theorem upR_self {S : Nat → Nat → Nat → Int32} {t j : Nat} {f : Nat → Int32} : upR S t j f t j = f := by simp [upR]
theorem upR_ne {S : Nat → Nat → Nat → Int32} {t j a b : Nat} {f : Nat → Int32} (h : ¬ (a = t ∧ b = j)) : upR S t j f a b = S a b := by simp only [upR]; rw [if_neg h]
theorem upR_upR {S : Nat → Nat → Nat → Int32} {t j : Nat} {f g : Nat → Int32} : upR (upR S t j f) t j g = upR S t j g := by
  funext a b
  by_cases h : a = t ∧ b = j
  · obtain ⟨rfl, rfl⟩ := h
    rw [upR_self, upR_self]
  · rw [upR_ne h, upR_ne h, upR_ne h]
theorem upR_same {S : Nat → Nat → Nat → Int32} {t j : Nat} : upR S t j (S t j) = S := by
  funext a b
  by_cases h : a = t ∧ b = j
  · obtain ⟨rfl, rfl⟩ := h
    rw [upR_self]
  · rw [upR_ne h]
def gw (ob : Nat → Option va_E) (ar : Nat → Nat → Option (ClassId × Nat)) (S : Nat → Nat → Nat → Int32) : nw_N := fun k =>
  if k < 100 then ob k else (ar ((k - 100) / 16) ((k - 100) % 16)).map (fun q => .inl (q.1, q.2, .inl (S ((k - 100) / 16) ((k - 100) % 16))))
theorem gw_ob {ob : Nat → Option va_E} {ar : Nat → Nat → Option (ClassId × Nat)} {S : Nat → Nat → Nat → Int32} {k : Nat} (hk : k < 100) : gw ob ar S k = ob k := by
  simp only [gw]; rw [if_pos hk]
theorem gw_arr {ob : Nat → Option va_E} {ar : Nat → Nat → Option (ClassId × Nat)} {S : Nat → Nat → Nat → Int32} {t j n : Nat} {c : ClassId} (hj : j < 16) (h : ar t j = some (c, n)) : gw ob ar S (100 + 16 * t + j) = some (.inl (c, n, .inl (S t j))) := by
  have h1 : (100 + 16 * t + j - 100) / 16 = t := by omega
  have h2 : (100 + 16 * t + j - 100) % 16 = j := by omega
  simp only [gw, h1, h2, h]
  rw [if_neg (by omega)]
  rfl
theorem gw_none {ob : Nat → Option va_E} {ar : Nat → Nat → Option (ClassId × Nat)} {S : Nat → Nat → Nat → Int32} {t j : Nat} (hj : j < 16) (h : ar t j = none) : gw ob ar S (100 + 16 * t + j) = none := by
  have h1 : (100 + 16 * t + j - 100) / 16 = t := by omega
  have h2 : (100 + 16 * t + j - 100) % 16 = j := by omega
  simp only [gw, h1, h2, h]
  rw [if_neg (by omega)]
  rfl
/-- a row of numbers is another one -/
theorem gw_row {D : va_G} {cl : List vw_C} {A : Nat → Prop} {ad : Nat → Nat} {H : Heap} {ob : Nat → Option va_E} {ar : Nat → Nat → Option (ClassId × Nat)} {S : Nat → Nat → Nat → Int32} {t j n : Nat} {c : ClassId} {f : Nat → Int32} (hj : j < 16) (h : ar t j = some (c, n)) (hw : nw_W D cl A (va_up (gw ob ar S) (100 + 16 * t + j) (some (.inl (c, n, .inl f)))) ad H) : nw_W D cl A (gw ob ar (upR S t j f)) ad H := by
  refine hw.mono (fun k e hk => ⟨?_, rfl⟩)
  by_cases hq : k = 100 + 16 * t + j
  · subst hq
    rw [gw_arr hj h, upR_self] at hk
    rw [va_up_self]
    exact hk
  · rw [va_up_ne _ _ hq]
    rw [← hk]
    simp only [gw]
    by_cases h1 : k < 100
    · rw [if_pos h1, if_pos h1]
    · rw [if_neg h1, if_neg h1, upR_ne (by omega)]
/-- an object is another one -/
theorem gw_put {D : va_G} {cl : List vw_C} {A : Nat → Prop} {ad : Nat → Nat} {H : Heap} {ob ob' : Nat → Option va_E} {ar : Nat → Nat → Option (ClassId × Nat)} {S : Nat → Nat → Nat → Int32} {q : Nat} {x : va_E} (hq : q < 100) (h1 : ob' q = some x) (h2 : ∀ k, k ≠ q → ob' k = ob k) (hw : nw_W D cl A (va_up (gw ob ar S) q (some x)) ad H) : nw_W D cl A (gw ob' ar S) ad H := by
  refine hw.mono (fun k e hk => ⟨?_, rfl⟩)
  by_cases hk0 : k = q
  · subst hk0
    rw [gw_ob hq, h1] at hk
    rw [va_up_self]
    exact hk
  · rw [va_up_ne _ _ hk0, ← hk]
    simp only [gw]
    by_cases h3 : k < 100
    · rw [if_pos h3, if_pos h3, h2 k hk0]
    · rw [if_neg h3, if_neg h3]
