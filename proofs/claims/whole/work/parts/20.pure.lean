/-! PURE WORDS of the class's methods -/
noncomputable def b2 (p : Prop) : Int32 := @ite _ p (Classical.propDecidable p) 1 0
theorem b2_t {p : Prop} (h : p) : nI 1 = b2 p := by unfold b2; rw [if_pos h]; rfl
theorem b2_f {p : Prop} (h : ¬ p) : nI 0 = b2 p := by unfold b2; rw [if_neg h]; rfl
theorem nw_okI {x v : Int32} {wn : nw_N} {ad : Nat → Nat} (h : x = v) : nw_ok (some (.int v)) wn ad (some (.int x)) wn ad := by subst h; exact nw_ok_rf
theorem nw_okL {x v : Int64} {wn : nw_N} {ad : Nat → Nat} (h : x = v) : nw_ok (some (.long v)) wn ad (some (.long x)) wn ad := by subst h; exact nw_ok_rf
theorem aX_pl {tC : Nat → ClassId} {n : Nat → Nat} {r : Nat} (h : r = 0 ∨ r = 9) : aX tC n 0 r = some (tC 0, 6) := by rcases h with rfl | rfl <;> rfl
/-- the kilos that a plan takes in a week, of the first cages -/
def kpS (pl : Nat → Int32) (kl : Nat → Nat → Int32) (w : Nat) : Nat → Int32
  | 0 => 0
  | c + 1 => if pl c = nI w then kpS pl kl w c + kl c w else kpS pl kl w c
theorem kpS_t {pl : Nat → Int32} {kl : Nat → Nat → Int32} {w c : Nat} (h : pl c = nI w) : kpS pl kl w (c + 1) = kpS pl kl w c + kl c w := by simp only [kpS]; rw [if_pos h]
theorem kpS_f {pl : Nat → Int32} {kl : Nat → Nat → Int32} {w c : Nat} (h : ¬ pl c = nI w) : kpS pl kl w (c + 1) = kpS pl kl w c := by simp only [kpS]; rw [if_neg h]
