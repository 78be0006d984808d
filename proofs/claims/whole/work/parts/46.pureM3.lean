/-! PURE WORDS of the model's rules together, its orders and tops -/
theorem lbI_z {a b c d : Prop} : lbI a b c d = 0 ↔ a ∧ b ∧ c ∧ d := by
  by_cases ha : a
  · by_cases hb : b
    · by_cases hc : c
      · by_cases hd : d
        · rw [← lbI_0 ha hb hc hd]; exact ⟨fun _ => ⟨ha, hb, hc, hd⟩, fun _ => rfl⟩
        · rw [← lbI_4 ha hb hc hd]; exact ⟨fun h => absurd h (by decide), fun h => absurd h.2.2.2 hd⟩
      · rw [← lbI_3 ha hb hc]; exact ⟨fun h => absurd h (by decide), fun h => absurd h.2.2.1 hc⟩
    · rw [← lbI_2 ha hb]; exact ⟨fun h => absurd h (by decide), fun h => absurd h.2.1 hb⟩
  · rw [← lbI_1 ha]; exact ⟨fun h => absurd h (by decide), fun h => absurd h.1 ha⟩
def qAll (n : Nat → Nat) (F : Nat → Nat → Nat → Int32) (hm : Nat → Nat) (many : Nat) (hd : Bool) (w : Nat) : Prop := qPlant F w many ∧ qBoats n F w many ∧ qOpen F hm w many ∧ (hd = true → qHeld n F w)
def nbP (F : Nat → Nat → Nat → Int32) (o : Nat) : Option Nat → Prop
  | none => True
  | some f => F 5 12 f < F 5 12 o
noncomputable def noF (F : Nat → Nat → Nat → Int32) (sv : Nat → Int32) (w : Nat) : Nat → Option Nat
  | 0 => none
  | o + 1 => pif (F 5 8 o = nI w ∧ sv o = 0 ∧ nbP F o (noF F sv w o)) (some o) (noF F sv w o)
theorem noF_t {F : Nat → Nat → Nat → Int32} {sv : Nat → Int32} {w o : Nat} (h1 : F 5 8 o = nI w) (h2 : sv o = 0) (h3 : nbP F o (noF F sv w o)) : noF F sv w (o + 1) = some o := by simp only [noF]; rw [pif_t ⟨h1, h2, h3⟩]
theorem noF_f {F : Nat → Nat → Nat → Int32} {sv : Nat → Int32} {w o : Nat} (h : ¬ (F 5 8 o = nI w ∧ sv o = 0 ∧ nbP F o (noF F sv w o))) : noF F sv w (o + 1) = noF F sv w o := by simp only [noF]; rw [pif_f h]
theorem noF_lt {F : Nat → Nat → Nat → Int32} {sv : Nat → Int32} {w : Nat} : ∀ o f, noF F sv w o = some f → f < o ∧ F 5 8 f = nI w ∧ sv f = 0 := by
  intro o
  induction o with
  | zero => intro f h; cases h
  | succ o ih =>
    intro f h
    by_cases hp : F 5 8 o = nI w ∧ sv o = 0 ∧ nbP F o (noF F sv w o)
    · rw [noF_t hp.1 hp.2.1 hp.2.2] at h
      cases h
      exact ⟨Nat.lt_succ_self _, hp.1, hp.2.1⟩
    · rw [noF_f hp] at h
      obtain ⟨h1, h2⟩ := ih f h
      exact ⟨by omega, h2⟩
def qFit (F : Nat → Nat → Nat → Int32) (o c w : Nat) : Prop := (F 5 9 o).toInt64 ≤ (F 5 3 (8 * c + w)).toInt64 ∧ (F 5 3 (8 * c + w)).toInt64 ≤ (F 5 10 o).toInt64
def gtL (x y : Int64) : Int64 := if x < y then x else y
/-- the model's serving of an order: what is left, what it got -/
noncomputable def smS (F : Nat → Nat → Nat → Int32) (o w : Nat) (lf : Nat → Int64) : Nat → (Nat → Int64) × Int64
  | 0 => (lf, 0)
  | c + 1 => pif (F 5 14 c = nI w ∧ qFit F o c w) (vp_updL (smS F o w lf c).1 c ((smS F o w lf c).1 c - gtL ((smS F o w lf c).1 c) ((F 5 11 o).toInt64 - (smS F o w lf c).2)), (smS F o w lf c).2 + gtL ((smS F o w lf c).1 c) ((F 5 11 o).toInt64 - (smS F o w lf c).2)) (smS F o w lf c)
theorem smS_t {F : Nat → Nat → Nat → Int32} {o w c : Nat} {lf : Nat → Int64} (h1 : F 5 14 c = nI w) (h2 : qFit F o c w) : smS F o w lf (c + 1) = (vp_updL (smS F o w lf c).1 c ((smS F o w lf c).1 c - gtL ((smS F o w lf c).1 c) ((F 5 11 o).toInt64 - (smS F o w lf c).2)), (smS F o w lf c).2 + gtL ((smS F o w lf c).1 c) ((F 5 11 o).toInt64 - (smS F o w lf c).2)) := by simp only [smS]; rw [pif_t ⟨h1, h2⟩]
theorem smS_f {F : Nat → Nat → Nat → Int32} {o w c : Nat} {lf : Nat → Int64} (h : ¬ (F 5 14 c = nI w ∧ qFit F o c w)) : smS F o w lf (c + 1) = smS F o w lf c := by simp only [smS]; rw [pif_f h]
/-- the model's cents for a cage in a week, of the first orders -/
noncomputable def mtS (F : Nat → Nat → Nat → Int32) (J : Nat → Int32) (c w : Nat) : Nat → Int64
  | 0 => (J 1).toInt64
  | o + 1 => pif ((F 5 8 o = nI w ∧ qFit F o c w) ∧ mtS F J c w o < (F 5 12 o).toInt64) (F 5 12 o).toInt64 (mtS F J c w o)
theorem mtS_t {F : Nat → Nat → Nat → Int32} {J : Nat → Int32} {c w o : Nat} (h : (F 5 8 o = nI w ∧ qFit F o c w) ∧ mtS F J c w o < (F 5 12 o).toInt64) : mtS F J c w (o + 1) = (F 5 12 o).toInt64 := by simp only [mtS]; rw [pif_t h]
theorem mtS_f {F : Nat → Nat → Nat → Int32} {J : Nat → Int32} {c w o : Nat} (h : ¬ ((F 5 8 o = nI w ∧ qFit F o c w) ∧ mtS F J c w o < (F 5 12 o).toInt64)) : mtS F J c w (o + 1) = mtS F J c w o := by simp only [mtS]; rw [pif_f h]
noncomputable def mtL (n : Nat → Nat) (J : Nat → Int32) (F : Nat → Nat → Nat → Int32) (c t : Nat) : Int64 := if t = n 0 then kM F c (n 0 - 1) * (J 2).toInt64 else kM F c t * mtS F J c t (n 4)
noncomputable def mgS (n : Nat → Nat) (J : Nat → Int32) (F : Nat → Nat → Nat → Int32) (c : Nat) : Nat → Int64
  | 0 => 0
  | t + 1 => if mgS n J F c t < mtL n J F c t then mtL n J F c t else mgS n J F c t
noncomputable def moS (n : Nat → Nat) (J : Nat → Int32) (F : Nat → Nat → Nat → Int32) (tn : Nat → Nat) (many : Nat) : Nat → Int64
  | 0 => 0
  | c + 1 => moS n J F tn many c + (if c < many then mtL n J F c (tn c) else mgS n J F c (n 0 + 1))
theorem moS_t {n : Nat → Nat} {J : Nat → Int32} {F : Nat → Nat → Nat → Int32} {tn : Nat → Nat} {many c : Nat} (h : c < many) : moS n J F tn many (c + 1) = moS n J F tn many c + mtL n J F c (tn c) := by simp only [moS]; rw [if_pos h]
theorem moS_f {n : Nat → Nat} {J : Nat → Int32} {F : Nat → Nat → Nat → Int32} {tn : Nat → Nat} {many c : Nat} (h : ¬ c < many) : moS n J F tn many (c + 1) = moS n J F tn many c + mgS n J F c (n 0 + 1) := by simp only [moS]; rw [if_neg h]
theorem ul_uu {f : Nat → Int64} {k : Nat} {x y : Int64} : vp_updL (vp_updL f k x) k y = vp_updL f k y := by
  funext j
  simp only [vp_updL]
  by_cases h : j = k
  · rw [if_pos h, if_pos h]
  · rw [if_neg h, if_neg h, if_neg h]
theorem va_comm {α : Type} {f : Nat → α} {i j : Nat} {a b : α} (h : i ≠ j) : va_up (va_up f i a) j b = va_up (va_up f j b) i a := by
  funext k
  by_cases h1 : k = i
  · subst h1
    simp [va_up, h]
  · simp [va_up, h1]
/-- what cages taken in a week have at first -/
def llA (F : Nat → Nat → Nat → Int32) (w : Nat) (f : Nat → Int64) : Nat → Nat → Int64
  | 0 => f
  | c + 1 => vp_updL (llA F w f c) c (if F 5 14 c = nI w then kM F c w else 0)
theorem ll_t {F : Nat → Nat → Nat → Int32} {w c : Nat} {f : Nat → Int64} (h : F 5 14 c = nI w) : llA F w f (c + 1) = vp_updL (llA F w f c) c (kM F c w) := by simp only [llA]; rw [if_pos h]
theorem ll_f {F : Nat → Nat → Nat → Int32} {w c : Nat} {f : Nat → Int64} (h : ¬ F 5 14 c = nI w) : llA F w f (c + 1) = vp_updL (llA F w f c) c 0 := by simp only [llA]; rw [if_neg h]
abbrev vX : Type := (Nat → Int32) × (Nat → Int64) × (Nat → Int64) × Int64
noncomputable def vsT (n : Nat → Nat) (F : Nat → Nat → Nat → Int32) (w : Nat) (x : vX) : Option Nat → vX
  | none => x
  | some o => (upd x.1 o (nI 1), (smS F o w x.2.1 (n 2)).1, vp_updL x.2.2.1 o (smS F o w x.2.1 (n 2)).2, x.2.2.2 + (smS F o w x.2.1 (n 2)).2 * (F 5 12 o).toInt64)
/-- the orders of a week are served, the first q of them -/
noncomputable def vwS (n : Nat → Nat) (F : Nat → Nat → Nat → Int32) (w : Nat) (x : vX) : Nat → vX
  | 0 => x
  | q + 1 => vsT n F w (vwS n F w x q) (noF F (vwS n F w x q).1 w (n 4))
theorem vwS_none {n : Nat → Nat} {F : Nat → Nat → Nat → Int32} {w : Nat} {x : vX} {q : Nat} (h : noF F (vwS n F w x q).1 w (n 4) = none) : ∀ k, vwS n F w x (q + k) = vwS n F w x q := by
  intro k
  induction k with
  | zero => rfl
  | succ k ih =>
    show vsT n F w (vwS n F w x (q + k)) (noF F (vwS n F w x (q + k)).1 w (n 4)) = _
    rw [ih, h]
    rfl
/-- how many orders of a week are not served yet -/
noncomputable def cuS (F : Nat → Nat → Nat → Int32) (w : Nat) (sv : Nat → Int32) : Nat → Nat
  | 0 => 0
  | o + 1 => cuS F w sv o + pif (F 5 8 o = nI w ∧ sv o = 0) 1 0
theorem cuS_le {F : Nat → Nat → Nat → Int32} {w : Nat} {sv : Nat → Int32} {o : Nat} : cuS F w sv o ≤ o := by
  induction o with
  | zero => exact Nat.le_refl _
  | succ o ih =>
    simp only [cuS]
    by_cases h : F 5 8 o = nI w ∧ sv o = 0
    · rw [pif_t h]; omega
    · rw [pif_f h]; omega
theorem cuS_up {F : Nat → Nat → Nat → Int32} {w : Nat} {sv : Nat → Int32} {f : Nat} (h1 : F 5 8 f = nI w) (h2 : sv f = 0) : ∀ o, cuS F w (upd sv f (nI 1)) o + (if f < o then 1 else 0) = cuS F w sv o := by
  intro o
  induction o with
  | zero => rw [if_neg (Nat.not_lt_zero f)]; rfl
  | succ o ih =>
    simp only [cuS]
    by_cases he : o = f
    · subst he
      rw [if_neg (Nat.lt_irrefl o)] at ih
      have e1 : pif (F 5 8 o = nI w ∧ sv o = 0) 1 0 = 1 := pif_t ⟨h1, h2⟩
      have e2 : pif (F 5 8 o = nI w ∧ upd sv o (nI 1) o = 0) 1 0 = 0 := pif_f (fun h => by rw [pk_us] at h; exact absurd h.2 (by decide))
      rw [if_pos (Nat.lt_succ_self o), e1, e2]
      omega
    · have e : upd sv f (nI 1) o = sv o := pk_un he
      rw [e]
      by_cases hl : f < o
      · rw [if_pos hl] at ih
        rw [if_pos (by omega)]
        omega
      · rw [if_neg hl] at ih
        rw [if_neg (by omega)]
        omega
noncomputable def spS (F : Nat → Nat → Nat → Int32) (J : Nat → Int32) (w : Nat) (lf : Nat → Int64) (s : Int64) : Nat → Int64
  | 0 => s
  | c + 1 => spS F J w lf s c + (if F 5 14 c = nI w then lf c * (J 1).toInt64 else 0)
theorem sp_t {F : Nat → Nat → Nat → Int32} {J : Nat → Int32} {w c : Nat} {lf : Nat → Int64} {s : Int64} (h : F 5 14 c = nI w) : spS F J w lf s (c + 1) = spS F J w lf s c + lf c * (J 1).toInt64 := by simp only [spS]; rw [if_pos h]
theorem sp_f {F : Nat → Nat → Nat → Int32} {J : Nat → Int32} {w c : Nat} {lf : Nat → Int64} {s : Int64} (h : ¬ F 5 14 c = nI w) : spS F J w lf s (c + 1) = spS F J w lf s c + 0 := by simp only [spS]; rw [if_neg h]
/-- behind the first weeks -/
noncomputable def wkS (n : Nat → Nat) (F : Nat → Nat → Nat → Int32) (J : Nat → Int32) (x : vX) : Nat → vX
  | 0 => x
  | w + 1 => ((vwS n F w ((wkS n F J x w).1, llA F w (wkS n F J x w).2.1 (n 2), (wkS n F J x w).2.2) (n 4)).1, (vwS n F w ((wkS n F J x w).1, llA F w (wkS n F J x w).2.1 (n 2), (wkS n F J x w).2.2) (n 4)).2.1, (vwS n F w ((wkS n F J x w).1, llA F w (wkS n F J x w).2.1 (n 2), (wkS n F J x w).2.2) (n 4)).2.2.1, spS F J w (vwS n F w ((wkS n F J x w).1, llA F w (wkS n F J x w).2.1 (n 2), (wkS n F J x w).2.2) (n 4)).2.1 (vwS n F w ((wkS n F J x w).1, llA F w (wkS n F J x w).2.1 (n 2), (wkS n F J x w).2.2) (n 4)).2.2.2 (n 2))
noncomputable def ksS (n : Nat → Nat) (F : Nat → Nat → Nat → Int32) (J : Nat → Int32) (s : Int64) : Nat → Int64
  | 0 => s
  | c + 1 => ksS n F J s c + (if F 5 14 c = nI (n 0) then kM F c (n 0 - 1) * (J 2).toInt64 else 0)
theorem ks_t {n : Nat → Nat} {F : Nat → Nat → Nat → Int32} {J : Nat → Int32} {s : Int64} {c : Nat} (h : F 5 14 c = nI (n 0)) : ksS n F J s (c + 1) = ksS n F J s c + kM F c (n 0 - 1) * (J 2).toInt64 := by simp only [ksS]; rw [if_pos h]
theorem ks_f {n : Nat → Nat} {F : Nat → Nat → Nat → Int32} {J : Nat → Int32} {s : Int64} {c : Nat} (h : ¬ F 5 14 c = nI (n 0)) : ksS n F J s (c + 1) = ksS n F J s c + 0 := by simp only [ksS]; rw [if_neg h]
