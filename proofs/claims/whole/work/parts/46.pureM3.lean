/-! PURE WORDS of the model's rules together, its orders and tops -/
theorem lbI_z {a b c d : Prop} : lbI a b c d = 0 ↔ a ∧ b ∧ c ∧ d := by
  by_cases ha : a
  · by_cases hb : b
    · by_cases hc : c
      · by_cases hd : d
        · rw [← lbI_0 ha hb hc hd]; exact ⟨fun _ => ⟨ha, hb, hc, hd⟩, fun _ => rfl⟩
        · rw [← lbI_4 ha hb hc hd]; exact ⟨fun h => absurd h (by decide), fun h => absurd h.2.2.2 hd⟩
      · rw [← lbI_3 ha hb hc]; exact ⟨fun h => absurd h (by decide), fun h => absurd h.2.2.1 hc⟩
    · rw [← lbI_2 ha hb]; exact ⟨fun h => absurd h (by decide), fun h => absurd h.2.1 hb⟩
  · rw [← lbI_1 ha]; exact ⟨fun h => absurd h (by decide), fun h => absurd h.1 ha⟩
def qAll (n : Nat → Nat) (F : Nat → Nat → Nat → Int32) (hm : Nat → Nat) (many : Nat) (hd : Bool) (w : Nat) : Prop := qPlant F w many ∧ qBoats n F w many ∧ qOpen F hm w many ∧ (hd = true → qHeld n F w)
def nbP (F : Nat → Nat → Nat → Int32) (o : Nat) : Option Nat → Prop
  | none => True
  | some f => F 5 12 f < F 5 12 o
noncomputable def noF (F : Nat → Nat → Nat → Int32) (sv : Nat → Int32) (w : Nat) : Nat → Option Nat
  | 0 => none
  | o + 1 => pif (F 5 8 o = nI w ∧ sv o = 0 ∧ nbP F o (noF F sv w o)) (some o) (noF F sv w o)
theorem noF_t {F : Nat → Nat → Nat → Int32} {sv : Nat → Int32} {w o : Nat} (h1 : F 5 8 o = nI w) (h2 : sv o = 0) (h3 : nbP F o (noF F sv w o)) : noF F sv w (o + 1) = some o := by simp only [noF]; rw [pif_t ⟨h1, h2, h3⟩]
theorem noF_f {F : Nat → Nat → Nat → Int32} {sv : Nat → Int32} {w o : Nat} (h : ¬ (F 5 8 o = nI w ∧ sv o = 0 ∧ nbP F o (noF F sv w o))) : noF F sv w (o + 1) = noF F sv w o := by simp only [noF]; rw [pif_f h]
theorem noF_lt {F : Nat → Nat → Nat → Int32} {sv : Nat → Int32} {w : Nat} : ∀ o f, noF F sv w o = some f → f < o ∧ F 5 8 f = nI w ∧ sv f = 0 := by
  intro o
  induction o with
  | zero => intro f h; cases h
  | succ o ih =>
    intro f h
    by_cases hp : F 5 8 o = nI w ∧ sv o = 0 ∧ nbP F o (noF F sv w o)
    · rw [noF_t hp.1 hp.2.1 hp.2.2] at h
      cases h
      exact ⟨Nat.lt_succ_self _, hp.1, hp.2.1⟩
    · rw [noF_f hp] at h
      obtain ⟨h1, h2⟩ := ih f h
      exact ⟨by omega, h2⟩
def qFit (F : Nat → Nat → Nat → Int32) (o c w : Nat) : Prop := (F 5 9 o).toInt64 ≤ (F 5 3 (8 * c + w)).toInt64 ∧ (F 5 3 (8 * c + w)).toInt64 ≤ (F 5 10 o).toInt64
def gtL (x y : Int64) : Int64 := if x < y then x else y
/-- the model's serving of an order: what is left, what it got -/
noncomputable def smS (F : Nat → Nat → Nat → Int32) (o w : Nat) (lf : Nat → Int64) : Nat → (Nat → Int64) × Int64
  | 0 => (lf, 0)
  | c + 1 => pif (F 5 14 c = nI w ∧ qFit F o c w) (vp_updL (smS F o w lf c).1 c ((smS F o w lf c).1 c - gtL ((smS F o w lf c).1 c) ((F 5 11 o).toInt64 - (smS F o w lf c).2)), (smS F o w lf c).2 + gtL ((smS F o w lf c).1 c) ((F 5 11 o).toInt64 - (smS F o w lf c).2)) (smS F o w lf c)
theorem smS_t {F : Nat → Nat → Nat → Int32} {o w c : Nat} {lf : Nat → Int64} (h1 : F 5 14 c = nI w) (h2 : qFit F o c w) : smS F o w lf (c + 1) = (vp_updL (smS F o w lf c).1 c ((smS F o w lf c).1 c - gtL ((smS F o w lf c).1 c) ((F 5 11 o).toInt64 - (smS F o w lf c).2)), (smS F o w lf c).2 + gtL ((smS F o w lf c).1 c) ((F 5 11 o).toInt64 - (smS F o w lf c).2)) := by simp only [smS]; rw [pif_t ⟨h1, h2⟩]
theorem smS_f {F : Nat → Nat → Nat → Int32} {o w c : Nat} {lf : Nat → Int64} (h : ¬ (F 5 14 c = nI w ∧ qFit F o c w)) : smS F o w lf (c + 1) = smS F o w lf c := by simp only [smS]; rw [pif_f h]
/-- the model's cents for a cage in a week, of the first orders -/
noncomputable def mtS (F : Nat → Nat → Nat → Int32) (J : Nat → Int32) (c w : Nat) : Nat → Int64
  | 0 => (J 1).toInt64
  | o + 1 => pif ((F 5 8 o = nI w ∧ qFit F o c w) ∧ mtS F J c w o < (F 5 12 o).toInt64) (F 5 12 o).toInt64 (mtS F J c w o)
theorem mtS_t {F : Nat → Nat → Nat → Int32} {J : Nat → Int32} {c w o : Nat} (h : (F 5 8 o = nI w ∧ qFit F o c w) ∧ mtS F J c w o < (F 5 12 o).toInt64) : mtS F J c w (o + 1) = (F 5 12 o).toInt64 := by simp only [mtS]; rw [pif_t h]
theorem mtS_f {F : Nat → Nat → Nat → Int32} {J : Nat → Int32} {c w o : Nat} (h : ¬ ((F 5 8 o = nI w ∧ qFit F o c w) ∧ mtS F J c w o < (F 5 12 o).toInt64)) : mtS F J c w (o + 1) = mtS F J c w o := by simp only [mtS]; rw [pif_f h]
noncomputable def mtL (n : Nat → Nat) (J : Nat → Int32) (F : Nat → Nat → Nat → Int32) (c t : Nat) : Int64 := if t = n 0 then kM F c (n 0 - 1) * (J 2).toInt64 else kM F c t * mtS F J c t (n 4)
noncomputable def mgS (n : Nat → Nat) (J : Nat → Int32) (F : Nat → Nat → Nat → Int32) (c : Nat) : Nat → Int64
  | 0 => 0
  | t + 1 => if mgS n J F c t < mtL n J F c t then mtL n J F c t else mgS n J F c t
noncomputable def moS (n : Nat → Nat) (J : Nat → Int32) (F : Nat → Nat → Nat → Int32) (tn : Nat → Nat) (many : Nat) : Nat → Int64
  | 0 => 0
  | c + 1 => moS n J F tn many c + (if c < many then mtL n J F c (tn c) else mgS n J F c (n 0 + 1))
theorem moS_t {n : Nat → Nat} {J : Nat → Int32} {F : Nat → Nat → Nat → Int32} {tn : Nat → Nat} {many c : Nat} (h : c < many) : moS n J F tn many (c + 1) = moS n J F tn many c + mtL n J F c (tn c) := by simp only [moS]; rw [if_pos h]
theorem moS_f {n : Nat → Nat} {J : Nat → Int32} {F : Nat → Nat → Nat → Int32} {tn : Nat → Nat} {many c : Nat} (h : ¬ c < many) : moS n J F tn many (c + 1) = moS n J F tn many c + mgS n J F c (n 0 + 1) := by simp only [moS]; rw [if_neg h]
