/-! PURE WORDS of Order, Farm and Sales -/
def oI : Option Nat → Int32
  | none => -1
  | some w => nI w
theorem oI_some {tk : Option Nat} (h : ¬ oI tk = -1) : ∃ w, tk = some w := by
  cases tk with
  | none => exact absurd rfl h
  | some w => exact ⟨w, rfl⟩
theorem nI_ne_m1 {w : Nat} (h : w < 2 ^ 31) : ¬ nI w = -1 := fun e => by
  have h1 := nI_toInt h
  rw [e] at h1
  have h2 : (-1 : Int32).toInt = -1 := by decide
  omega
theorem oI_none {tk : Option Nat} (hb : ∀ w, tk = some w → w < 2 ^ 31) (h : oI tk = -1) : tk = none := by
  cases tk with
  | none => rfl
  | some w => exact absurd h (nI_ne_m1 (hb w rfl))
def pWants (I : Nat → Nat → Int32) (ow : Nat → Nat) (S0 : Nat → Nat → Nat → Int32) (o c : Nat) (tk : Int32) : Prop := tk = I 4 o ∧ I 5 o ≤ S0 2 c (ow o) ∧ S0 2 c (ow o) ≤ I 6 o
noncomputable def pif {α : Type} (p : Prop) (a b : α) : α := @ite α p (Classical.propDecidable p) a b
theorem pif_t {α : Type} {p : Prop} {a b : α} (h : p) : pif p a b = a := by unfold pif; rw [if_pos h]
theorem pif_f {α : Type} {p : Prop} {a b : α} (h : ¬ p) : pif p a b = b := by unfold pif; rw [if_neg h]
/-- what a cage that is not taken counts -/
def ckL (n : Nat → Nat) (I : Nat → Nat → Int32) (S0 : Nat → Nat → Nat → Int32) (c : Nat) : Int64 := (S0 3 c (n 0 - 1)).toInt64 * (I 0 2).toInt64
def mxI (x y : Int32) : Int32 := if x < y then y else x
def mnI (x y : Int32) : Int32 := if y < x then y else x
def mxL (x y : Int64) : Int64 := if y < x then x else y
/-- the greatest cents for a cage taken in w, of the first orders -/
noncomputable def tcS (I : Nat → Nat → Int32) (ow : Nat → Nat) (S0 : Nat → Nat → Nat → Int32) (c : Nat) (tk : Int32) : Nat → Int32
  | 0 => I 0 1
  | o + 1 => pif (pWants I ow S0 o c tk) (mxI (tcS I ow S0 c tk o) (I 8 o)) (tcS I ow S0 c tk o)
theorem tcS_t {I : Nat → Nat → Int32} {ow : Nat → Nat} {S0 : Nat → Nat → Nat → Int32} {c o : Nat} {tk : Int32} (h : pWants I ow S0 o c tk) : tcS I ow S0 c tk (o + 1) = mxI (tcS I ow S0 c tk o) (I 8 o) := by simp only [tcS]; rw [pif_t h]
theorem tcS_f {I : Nat → Nat → Int32} {ow : Nat → Nat} {S0 : Nat → Nat → Nat → Int32} {c o : Nat} {tk : Int32} (h : ¬ pWants I ow S0 o c tk) : tcS I ow S0 c tk (o + 1) = tcS I ow S0 c tk o := by simp only [tcS]; rw [pif_f h]
noncomputable def topL (n : Nat → Nat) (I : Nat → Nat → Int32) (ow : Nat → Nat) (S0 : Nat → Nat → Nat → Int32) (c : Nat) : Option Nat → Int64
  | none => ckL n I S0 c
  | some w => (S0 3 c w).toInt64 * (tcS I ow S0 c (nI w) (n 4)).toInt64
/-- the greatest top, of none and the first weeks -/
noncomputable def gtS (n : Nat → Nat) (I : Nat → Nat → Int32) (ow : Nat → Nat) (S0 : Nat → Nat → Nat → Int32) (c : Nat) : Nat → Int64
  | 0 => ckL n I S0 c
  | w + 1 => mxL (gtS n I ow S0 c w) (topL n I ow S0 c (some w))
/-- an order is served: what the cages have left, what it got, behind the first cages -/
noncomputable def svS (I : Nat → Nat → Int32) (ow : Nat → Nat) (S0 : Nat → Nat → Nat → Int32) (o : Nat) (pl lf : Nat → Int32) : Nat → (Nat → Int32) × Int32
  | 0 => (lf, 0)
  | c + 1 => pif (pWants I ow S0 o c (pl c)) (upd (svS I ow S0 o pl lf c).1 c ((svS I ow S0 o pl lf c).1 c - mnI ((svS I ow S0 o pl lf c).1 c) (I 7 o - (svS I ow S0 o pl lf c).2)), (svS I ow S0 o pl lf c).2 + mnI ((svS I ow S0 o pl lf c).1 c) (I 7 o - (svS I ow S0 o pl lf c).2)) (svS I ow S0 o pl lf c)
theorem svS_t {I : Nat → Nat → Int32} {ow : Nat → Nat} {S0 : Nat → Nat → Nat → Int32} {o c : Nat} {pl lf : Nat → Int32} (h : pWants I ow S0 o c (pl c)) : svS I ow S0 o pl lf (c + 1) = (upd (svS I ow S0 o pl lf c).1 c ((svS I ow S0 o pl lf c).1 c - mnI ((svS I ow S0 o pl lf c).1 c) (I 7 o - (svS I ow S0 o pl lf c).2)), (svS I ow S0 o pl lf c).2 + mnI ((svS I ow S0 o pl lf c).1 c) (I 7 o - (svS I ow S0 o pl lf c).2)) := by simp only [svS]; rw [pif_t h]
theorem svS_f {I : Nat → Nat → Int32} {ow : Nat → Nat} {S0 : Nat → Nat → Nat → Int32} {o c : Nat} {pl lf : Nat → Int32} (h : ¬ pWants I ow S0 o c (pl c)) : svS I ow S0 o pl lf (c + 1) = svS I ow S0 o pl lf c := by simp only [svS]; rw [pif_f h]
/-- what the rest is worth, of the first cages -/
def prS (n : Nat → Nat) (I : Nat → Nat → Int32) (S0 : Nat → Nat → Nat → Int32) (pl lf : Nat → Int32) : Nat → Int64
  | 0 => 0
  | c + 1 => prS n I S0 pl lf c + (if pl c = -1 then ckL n I S0 c else (lf c).toInt64 * (I 0 1).toInt64)
theorem prS_t {n : Nat → Nat} {I : Nat → Nat → Int32} {S0 : Nat → Nat → Nat → Int32} {pl lf : Nat → Int32} {c : Nat} (h : pl c = -1) : prS n I S0 pl lf (c + 1) = prS n I S0 pl lf c + ckL n I S0 c := by simp only [prS]; rw [if_pos h]
theorem prS_f {n : Nat → Nat} {I : Nat → Nat → Int32} {S0 : Nat → Nat → Nat → Int32} {pl lf : Nat → Int32} {c : Nat} (h : ¬ pl c = -1) : prS n I S0 pl lf (c + 1) = prS n I S0 pl lf c + (lf c).toInt64 * (I 0 1).toInt64 := by simp only [prS]; rw [if_neg h]
/-- what the cages taken have at first -/
def lfA (pl : Nat → Int32) (kl : Nat → Nat → Int32) (pw : Nat → Nat) (f : Nat → Int32) : Nat → Nat → Int32
  | 0 => f
  | c + 1 => upd (lfA pl kl pw f c) c (if pl c = -1 then 0 else kl c (pw c))
theorem lfA_t {pl : Nat → Int32} {kl : Nat → Nat → Int32} {pw : Nat → Nat} {f : Nat → Int32} {c : Nat} (h : pl c = -1) : lfA pl kl pw f (c + 1) = upd (lfA pl kl pw f c) c 0 := by simp only [lfA]; rw [if_pos h]
theorem lfA_f {pl : Nat → Int32} {kl : Nat → Nat → Int32} {pw : Nat → Nat} {f : Nat → Int32} {c : Nat} (h : ¬ pl c = -1) : lfA pl kl pw f (c + 1) = upd (lfA pl kl pw f c) c (kl c (pw c)) := by simp only [lfA]; rw [if_neg h]
/-- the orders are served by their ranks: what is left, what each got, the cents -/
noncomputable def saS (n : Nat → Nat) (I : Nat → Nat → Int32) (ow sq : Nat → Nat) (S0 : Nat → Nat → Nat → Int32) (pl lf gt : Nat → Int32) : Nat → (Nat → Int32) × (Nat → Int32) × Int64
  | 0 => (lf, gt, 0)
  | k + 1 => ((svS I ow S0 (sq k) pl (saS n I ow sq S0 pl lf gt k).1 (n 2)).1, upd (saS n I ow sq S0 pl lf gt k).2.1 (sq k) (svS I ow S0 (sq k) pl (saS n I ow sq S0 pl lf gt k).1 (n 2)).2,
      (saS n I ow sq S0 pl lf gt k).2.2 + (svS I ow S0 (sq k) pl (saS n I ow sq S0 pl lf gt k).1 (n 2)).2.toInt64 * (I 8 (sq k)).toInt64)
theorem upR_in {S : Nat → Nat → Nat → Int32} {t j t' j' : Nat} {a b c : Nat → Int32} (h : ¬ (t' = t ∧ j' = j)) : upR (upR (upR S t j a) t' j' b) t j c = upR (upR S t j c) t' j' b := by
  funext x y
  by_cases h1 : x = t ∧ y = j
  · obtain ⟨rfl, rfl⟩ := h1
    rw [upR_self, upR_ne (fun q => h ⟨q.1.symm, q.2.symm⟩), upR_self]
  · rw [upR_ne h1]
    by_cases h2 : x = t' ∧ y = j'
    · obtain ⟨rfl, rfl⟩ := h2
      rw [upR_self, upR_self]
    · rw [upR_ne h2, upR_ne h1, upR_ne h2, upR_ne h1]
