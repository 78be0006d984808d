/-! PURE WORDS of the model -/
/-- the row of served may be another one -/
def scm (F S : Nat → Nat → Nat → Int32) : Prop := ∀ t j, ¬ (t = 6 ∧ j = 0) → S t j = F t j
theorem scm_rf {F : Nat → Nat → Nat → Int32} : scm F F := fun _ _ _ => rfl
theorem scm_up {F S : Nat → Nat → Nat → Int32} {f : Nat → Int32} (h : scm F S) : scm F (upR S 6 0 f) := fun t j hj => by rw [upR_ne hj]; exact h t j hj
def nw_ms (v : Option Value) (wf : (Nat → Nat → Int64) → (Nat → Nat → Nat → Int32) → nw_N) (F : Nat → Nat → Nat → Int32) (ad : Nat → Nat) : nw_P := fun o wn' ad' => o = v ∧ ad' = ad ∧ ∃ L' S', scm F S' ∧ wn' = wf L' S'
theorem nw_msI {x v : Int32} {wf : (Nat → Nat → Int64) → (Nat → Nat → Nat → Int32) → nw_N} {F S' : Nat → Nat → Nat → Int32} {L' : Nat → Nat → Int64} {ad : Nat → Nat} (hs : scm F S') (h : x = v) : nw_ms (some (.int v)) wf F ad (some (.int x)) (wf L' S') ad := by subst h; exact ⟨rfl, rfl, L', S', hs, rfl⟩
theorem nw_msL {x v : Int64} {wf : (Nat → Nat → Int64) → (Nat → Nat → Nat → Int32) → nw_N} {F S' : Nat → Nat → Nat → Int32} {L' : Nat → Nat → Int64} {ad : Nat → Nat} (hs : scm F S') (h : x = v) : nw_ms (some (.long v)) wf F ad (some (.long x)) (wf L' S') ad := by subst h; exact ⟨rfl, rfl, L', S', hs, rfl⟩
theorem nw_ms_out {v rv : Option Value} {wf : (Nat → Nat → Int64) → (Nat → Nat → Nat → Int32) → nw_N} {F : Nat → Nat → Nat → Int32} {ad ad' : Nat → Nat} {wn' : nw_N} {D : va_G} {cl : List vw_C} {A : Nat → Prop} {H : Heap} (h : nw_ms v wf F ad rv wn' ad') (hw : nw_W D cl A wn' ad' H) : rv = v ∧ ∃ L' S', scm F S' ∧ nw_W D cl A (wf L' S') ad H := by
  obtain ⟨h1, h2, L', S', h3, h4⟩ := h
  rw [h2, h4] at hw
  exact ⟨h1, L', S', h3, hw⟩
def kM (F : Nat → Nat → Nat → Int32) (c w : Nat) : Int64 := (F 5 3 (8 * c + w)).toInt64 * (F 5 4 (8 * c + w)).toInt64 / 1000
theorem ix8 (c w : Nat) : nI 8 * nI c + nI w = nI (8 * c + w) := by rw [pk_mul, nI_add]
def mpS (F : Nat → Nat → Nat → Int32) (w : Nat) : Nat → Int64
  | 0 => 0
  | c + 1 => mpS F w c + (if F 5 14 c = nI w then kM F c w else 0)
theorem mpS_t {F : Nat → Nat → Nat → Int32} {w c : Nat} (h : F 5 14 c = nI w) : mpS F w (c + 1) = mpS F w c + kM F c w := by simp only [mpS]; rw [if_pos h]
theorem mpS_f {F : Nat → Nat → Nat → Int32} {w c : Nat} (h : ¬ F 5 14 c = nI w) : mpS F w (c + 1) = mpS F w c + 0 := by simp only [mpS]; rw [if_neg h]
def qPlant (F : Nat → Nat → Nat → Int32) (w many : Nat) : Prop := mpS F w many ≤ (F 5 7 w).toInt64
def qOpen (F : Nat → Nat → Nat → Int32) (hm : Nat → Nat) (w many : Nat) : Prop := ∀ j, j < many → F 5 14 j = nI w → F 5 1 (8 * hm j + w) = 0
def mhS (F : Nat → Nat → Nat → Int32) (w p : Nat) : Nat → Int64
  | 0 => 0
  | c + 1 => mhS F w p c + (if F 5 2 c = nI p ∧ nI w ≤ F 5 14 c then kM F c w else 0)
theorem mhS_t {F : Nat → Nat → Nat → Int32} {w p c : Nat} (h : F 5 2 c = nI p) (h2 : nI w ≤ F 5 14 c) : mhS F w p (c + 1) = mhS F w p c + kM F c w := by simp only [mhS]; rw [if_pos ⟨h, h2⟩]
theorem mhS_f {F : Nat → Nat → Nat → Int32} {w p c : Nat} (h : ¬ (F 5 2 c = nI p ∧ nI w ≤ F 5 14 c)) : mhS F w p (c + 1) = mhS F w p c + 0 := by simp only [mhS]; rw [if_neg h]
def qHeldP (n : Nat → Nat) (F : Nat → Nat → Nat → Int32) (w p : Nat) : Prop := ∀ j, j < p → mhS F w j (n 2) ≤ (F 5 0 j).toInt64
def qHeld (n : Nat → Nat) (F : Nat → Nat → Nat → Int32) (w : Nat) : Prop := qHeldP n F w (n 1)
theorem va_in {α : Type} {f : Nat → α} {i j : Nat} {a b c : α} (h : i ≠ j) : va_up (va_up (va_up f i a) j b) i c = va_up (va_up f j b) i c := by
  funext k
  by_cases h1 : k = i
  · simp [va_up, h1]
  · simp [va_up, h1]
