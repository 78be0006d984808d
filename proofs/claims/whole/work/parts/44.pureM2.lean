/-! PURE WORDS of the model's boats -/
def mnC (F : Nat → Nat → Nat → Int32) (w : Nat) : Nat → Nat
  | 0 => 0
  | c + 1 => if F 5 14 c = nI w ∧ 0 < kM F c w then mnC F w c + 1 else mnC F w c
def mnA (F : Nat → Nat → Nat → Int32) (w : Nat) (f : Nat → Int64) : Nat → Nat → Int64
  | 0 => f
  | c + 1 => if F 5 14 c = nI w ∧ 0 < kM F c w then vp_updL (mnA F w f c) (mnC F w c) (kM F c w) else mnA F w f c
theorem mnC_le {F : Nat → Nat → Nat → Int32} {w c : Nat} : mnC F w c ≤ c := by
  induction c with
  | zero => exact Nat.le_refl _
  | succ c ih =>
    simp only [mnC]
    by_cases h : F 5 14 c = nI w ∧ 0 < kM F c w
    · rw [if_pos h]; omega
    · rw [if_neg h]; omega
theorem mn_t {F : Nat → Nat → Nat → Int32} {w c : Nat} {f : Nat → Int64} (h : F 5 14 c = nI w) (h2 : 0 < kM F c w) : mnC F w (c + 1) = mnC F w c + 1 ∧ mnA F w f (c + 1) = vp_updL (mnA F w f c) (mnC F w c) (kM F c w) := by
  simp only [mnC, mnA]; rw [if_pos ⟨h, h2⟩, if_pos ⟨h, h2⟩]; exact ⟨rfl, rfl⟩
theorem mn_f {F : Nat → Nat → Nat → Int32} {w c : Nat} {f : Nat → Int64} (h : ¬ (F 5 14 c = nI w ∧ 0 < kM F c w)) : mnC F w (c + 1) = mnC F w c ∧ mnA F w f (c + 1) = mnA F w f c := by
  simp only [mnC, mnA]; rw [if_neg h, if_neg h]; exact ⟨rfl, rfl⟩
theorem mnA_base {F : Nat → Nat → Nat → Int32} {w c k : Nat} {f g : Nat → Int64} (hk : k < mnC F w c) : mnA F w f c k = mnA F w g c k := by
  induction c with
  | zero => exact absurd hk (Nat.not_lt_zero k)
  | succ c ih =>
    by_cases h : F 5 14 c = nI w ∧ 0 < kM F c w
    · rw [(mn_t (f := f) h.1 h.2).2, (mn_t (f := g) h.1 h.2).2]
      rw [(mn_t (f := f) h.1 h.2).1] at hk
      by_cases h2 : k = mnC F w c
      · simp only [vp_updL, if_pos h2]
      · simp only [vp_updL, if_neg h2]
        exact ih (by omega)
    · rw [(mn_f (f := f) h).2, (mn_f (f := g) h).2]
      rw [(mn_f (f := f) h).1] at hk
      exact ih hk
def flL (f : Nat → Int64) (m : Nat) : Nat → Int64 := fun i => if i < m then 0 else f i
theorem flL_0 {f : Nat → Int64} : flL f 0 = f := by funext i; simp [flL]
theorem flL_s {f : Nat → Int64} {m : Nat} : vp_updL (flL f m) m 0 = flL f (m + 1) := by
  funext i
  by_cases h : i = m
  · subst h
    simp [vp_updL, flL]
  · simp only [vp_updL, flL, if_neg h]
    by_cases h2 : i < m
    · rw [if_pos h2, if_pos (by omega)]
    · rw [if_neg h2, if_neg (by omega)]
/-- what cages get when the first boats go by a way's digits -/
def mcA (F : Nat → Nat → Nat → Int32) (w N : Nat) (z : Nat → Int64) (code : Nat) : Nat → Nat → Int64
  | 0 => z
  | b + 1 => vp_updL (mcA F w N z code b) (code / (N + 1) ^ b % (N + 1)) (mcA F w N z code b (code / (N + 1) ^ b % (N + 1)) + (if F 5 6 (8 * b + w) = 0 then (F 5 5 b).toInt64 else 0))
theorem mc_t {F : Nat → Nat → Nat → Int32} {w N code b : Nat} {z : Nat → Int64} (h : F 5 6 (8 * b + w) = 0) : mcA F w N z code (b + 1) = vp_updL (mcA F w N z code b) (code / (N + 1) ^ b % (N + 1)) (mcA F w N z code b (code / (N + 1) ^ b % (N + 1)) + (F 5 5 b).toInt64) := by simp only [mcA]; rw [if_pos h]
theorem mc_f {F : Nat → Nat → Nat → Int32} {w N code b : Nat} {z : Nat → Int64} (h : ¬ F 5 6 (8 * b + w) = 0) : mcA F w N z code (b + 1) = vp_updL (mcA F w N z code b) (code / (N + 1) ^ b % (N + 1)) (mcA F w N z code b (code / (N + 1) ^ b % (N + 1)) + 0) := by simp only [mcA]; rw [if_neg h]
theorem mcA_base {F : Nat → Nat → Nat → Int32} {w N code b : Nat} {f g : Nat → Int64} (hf : ∀ k, k < N + 1 → f k = g k) : ∀ k, k < N + 1 → mcA F w N f code b k = mcA F w N g code b k := by
  induction b with
  | zero => exact hf
  | succ b ih =>
    intro k hk
    have hm := Nat.mod_lt (code / (N + 1) ^ b) (Nat.succ_pos N)
    simp only [mcA, vp_updL]
    by_cases h : k = code / (N + 1) ^ b % (N + 1)
    · rw [if_pos h, if_pos h, ih _ hm]
    · rw [if_neg h, if_neg h, ih k hk]
def qCar (n : Nat → Nat) (F : Nat → Nat → Nat → Int32) (w many v : Nat) : Prop := ∀ k, k < mnC F w many → mnA F w (fun _ => 0) many k ≤ mcA F w (mnC F w many) (fun _ => 0) v (n 3) k
def qFd (n : Nat → Nat) (F : Nat → Nat → Nat → Int32) (w many c : Nat) : Prop := mnC F w many = 0 ∨ ∃ v, v < c ∧ qCar n F w many v
def qBoats (n : Nat → Nat) (F : Nat → Nat → Nat → Int32) (w many : Nat) : Prop := qFd n F w many ((mnC F w many + 1) * (mnC F w many + 1) * (mnC F w many + 1))
theorem qFd_mono {n : Nat → Nat} {F : Nat → Nat → Nat → Int32} {w many c c' : Nat} (h : c ≤ c') (hq : qFd n F w many c) : qFd n F w many c' := hq.elim Or.inl (fun ⟨v, hv, hc⟩ => Or.inr ⟨v, Nat.lt_of_lt_of_le hv h, hc⟩)
theorem cube7 {a : Nat} (h : a ≤ 7) : a * a * a ≤ 343 := Nat.mul_le_mul (Nat.mul_le_mul h h) h
theorem b2_or (p : Prop) : b2 p = 0 ∨ b2 p = 1 := by
  by_cases h : p
  · exact Or.inr (b2_t h).symm
  · exact Or.inl (b2_f h).symm
theorem va_same {α : Type} {f : Nat → α} {k : Nat} : va_up f k (f k) = f := by
  funext j
  by_cases h : j = k
  · subst h; simp [va_up]
  · simp [va_up, h]
theorem b2_0' {p : Prop} (h : b2 p = 0) : ¬ p := b2_0 h
