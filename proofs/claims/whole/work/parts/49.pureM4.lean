/-! PURE WORDS of the model's value -/
theorem va4 {α : Type} {f : Nat → α} {i j : Nat} {a b c d : α} (h : i ≠ j) : va_up (va_up (va_up (va_up f i a) j b) i c) j d = va_up (va_up f i c) j d := by
  funext k
  by_cases h1 : k = i
  · subst h1
    simp [va_up, h]
  · by_cases h2 : k = j
    · subst h2; simp [va_up]
    · simp [va_up, h1, h2]
/-- two states of the value's walk that differ in nothing that is read -/
def vRel (n : Nat → Nat) (x y : vX) : Prop := (∀ o, o < n 4 → x.1 o = y.1 o) ∧ (∀ c, c < n 2 → x.2.1 c = y.2.1 c) ∧ (∀ o, o < n 4 → x.2.2.1 o = y.2.2.1 o) ∧ x.2.2.2 = y.2.2.2
section VB
variable {n : Nat → Nat} {F : Nat → Nat → Nat → Int32} {J : Nat → Int32}
theorem noF_base {sv sv' : Nat → Int32} {w N : Nat} (h : ∀ o, o < N → sv o = sv' o) : ∀ o, o ≤ N → noF F sv w o = noF F sv' w o := by
  intro o
  induction o with
  | zero => exact fun _ => rfl
  | succ o ih =>
    intro ho
    simp only [noF]
    rw [ih (by omega), h o (by omega)]
theorem smS_base {o w N : Nat} {lf lf' : Nat → Int64} (h : ∀ c, c < N → lf c = lf' c) : ∀ k, k ≤ N → (∀ c, c < N → (smS F o w lf k).1 c = (smS F o w lf' k).1 c) ∧ (smS F o w lf k).2 = (smS F o w lf' k).2 := by
  intro k
  induction k with
  | zero => exact fun _ => ⟨h, rfl⟩
  | succ k ih =>
    intro hk
    obtain ⟨h1, h2⟩ := ih (by omega)
    by_cases hp : F 5 14 k = nI w ∧ qFit F o k w
    · rw [smS_t (lf := lf) hp.1 hp.2, smS_t (lf := lf') hp.1 hp.2, h1 k (by omega), h2]
      refine ⟨fun c hc => ?_, rfl⟩
      simp only [vp_updL]
      by_cases hq : c = k
      · rw [if_pos hq, if_pos hq]
      · rw [if_neg hq, if_neg hq]
        exact h1 c hc
    · rw [smS_f (lf := lf) hp, smS_f (lf := lf') hp]
      exact ⟨h1, h2⟩
theorem vsT_rel {w : Nat} {x y : vX} (h : vRel n x y) (r : Option Nat) : vRel n (vsT n F w x r) (vsT n F w y r) := by
  cases r with
  | none => exact h
  | some o =>
    obtain ⟨h1, h2, h3, h4⟩ := h
    obtain ⟨g1, g2⟩ := smS_base (F := F) (o := o) (w := w) h2 (n 2) (Nat.le_refl _)
    refine ⟨fun q hq => ?_, g1, fun q hq => ?_, ?_⟩
    · simp only [vsT, upd]
      by_cases he : q = o
      · rw [if_pos he, if_pos he]
      · rw [if_neg he, if_neg he]; exact h1 q hq
    · simp only [vsT, vp_updL]
      by_cases he : q = o
      · rw [if_pos he, if_pos he, g2]
      · rw [if_neg he, if_neg he]; exact h3 q hq
    · simp only [vsT]
      rw [g2, h4]
theorem vwS_rel {w : Nat} {x y : vX} (h : vRel n x y) : ∀ q, vRel n (vwS n F w x q) (vwS n F w y q) := by
  intro q
  induction q with
  | zero => exact h
  | succ q ih =>
    show vRel n (vsT n F w _ _) (vsT n F w _ _)
    rw [noF_base (F := F) (w := w) ih.1 (n 4) (Nat.le_refl _)]
    exact vsT_rel ih _
theorem llA_val {w N c : Nat} {f g : Nat → Int64} (hc : c < N) : llA F w f N c = llA F w g N c := by
  induction N with
  | zero => exact absurd hc (Nat.not_lt_zero c)
  | succ N ih =>
    simp only [llA, vp_updL]
    by_cases h : c = N
    · rw [if_pos h, if_pos h]
    · rw [if_neg h, if_neg h]
      exact ih (by omega)
theorem spS_base {w N : Nat} {lf lf' : Nat → Int64} {s : Int64} (h : ∀ c, c < N → lf c = lf' c) : ∀ k, k ≤ N → spS F J w lf s k = spS F J w lf' s k := by
  intro k
  induction k with
  | zero => exact fun _ => rfl
  | succ k ih =>
    intro hk
    simp only [spS]
    rw [ih (by omega), h k (by omega)]
theorem wkS_rel {x y : vX} (h : vRel n x y) : ∀ w, vRel n (wkS n F J x w) (wkS n F J y w) := by
  intro w
  induction w with
  | zero => exact h
  | succ w ih =>
    have h0 : vRel n ((wkS n F J x w).1, llA F w (wkS n F J x w).2.1 (n 2), (wkS n F J x w).2.2) ((wkS n F J y w).1, llA F w (wkS n F J y w).2.1 (n 2), (wkS n F J y w).2.2) := ⟨ih.1, fun c hc => llA_val hc, ih.2.2.1, ih.2.2.2⟩
    obtain ⟨g1, g2, g3, g4⟩ := vwS_rel (F := F) (w := w) h0 (n 4)
    refine ⟨g1, g2, g3, ?_⟩
    simp only [wkS]
    rw [g4]
    exact spS_base g2 (n 2) (Nat.le_refl _)
end VB
noncomputable def wkF (n : Nat → Nat) (F : Nat → Nat → Nat → Int32) (J : Nat → Int32) : vX := wkS n F J (fun _ => 0, fun _ => 0, fun _ => 0, 0) (n 0)
/-- the model's WORTH -/
noncomputable def vlL (n : Nat → Nat) (F : Nat → Nat → Nat → Int32) (J : Nat → Int32) : Int64 := ksS n F J (wkF n F J).2.2.2 (n 2)
theorem wk_base {n : Nat → Nat} (hz : 1 ≤ n 0) {F : Nat → Nat → Nat → Int32} {J : Nat → Int32} {f : Nat → Int32} {g h : Nat → Int64} : vRel n (wkS n F J (flR f (nI 0) (n 4), g, flL h (n 4), 0) (n 0)) (wkF n F J) := by
  have h0 : vRel n (wkS n F J (flR f (nI 0) (n 4), g, flL h (n 4), 0) (n 0)) (wkS n F J (fun _ => 0, g, fun _ => 0, 0) (n 0)) := wkS_rel (x := (flR f (nI 0) (n 4), g, flL h (n 4), 0)) (y := (fun _ => 0, g, fun _ => 0, 0)) ⟨fun _ ho => if_pos ho, fun _ _ => rfl, fun _ ho => if_pos ho, rfl⟩ (n 0)
  have h1 : ∀ w, 1 ≤ w → vRel n (wkS n F J (fun _ => 0, g, fun _ => 0, 0) w) (wkS n F J (fun _ => 0, fun _ => 0, fun _ => 0, 0) w) := by
    intro w
    induction w with
    | zero => intro h; omega
    | succ w ih =>
      intro _
      have k0 : vRel n ((wkS n F J (fun _ => 0, g, fun _ => 0, 0) w).1, llA F w (wkS n F J (fun _ => 0, g, fun _ => 0, 0) w).2.1 (n 2), (wkS n F J (fun _ => 0, g, fun _ => 0, 0) w).2.2) ((wkS n F J (fun _ => 0, fun _ => 0, fun _ => 0, 0) w).1, llA F w (wkS n F J (fun _ => 0, fun _ => 0, fun _ => 0, 0) w).2.1 (n 2), (wkS n F J (fun _ => 0, fun _ => 0, fun _ => 0, 0) w).2.2) := by
        rcases Nat.eq_zero_or_pos w with hz | hz
        · subst hz
          exact ⟨fun _ _ => rfl, fun c hc => llA_val hc, fun _ _ => rfl, rfl⟩
        · obtain ⟨i1, i2, i3, i4⟩ := ih hz
          exact ⟨i1, fun c hc => llA_val hc, i3, i4⟩
      obtain ⟨g1, g2, g3, g4⟩ := vwS_rel (F := F) (w := w) k0 (n 4)
      refine ⟨g1, g2, g3, ?_⟩
      simp only [wkS]
      rw [g4]
      exact spS_base g2 (n 2) (Nat.le_refl _)
  obtain ⟨i1, i2, i3, i4⟩ := h0
  obtain ⟨j1, j2, j3, j4⟩ := h1 (n 0) hz
  exact ⟨fun o ho => (i1 o ho).trans (j1 o ho), fun c hc => (i2 c hc).trans (j2 c hc), fun o ho => (i3 o ho).trans (j3 o ho), i4.trans j4⟩
def nw_mx (v : Option Value) (wf : (Nat → Nat → Int64) → (Nat → Nat → Nat → Int32) → nw_N) (F : Nat → Nat → Nat → Int32) (ad : Nat → Nat) (X : (Nat → Nat → Int64) → Prop) : nw_P := fun o wn' ad' => o = v ∧ ad' = ad ∧ ∃ L' S', scm F S' ∧ X L' ∧ wn' = wf L' S'
theorem nw_mxL {x v : Int64} {wf : (Nat → Nat → Int64) → (Nat → Nat → Nat → Int32) → nw_N} {F S' : Nat → Nat → Nat → Int32} {L' : Nat → Nat → Int64} {ad : Nat → Nat} {X : (Nat → Nat → Int64) → Prop} (hs : scm F S') (hX : X L') (h : x = v) : nw_mx (some (.long v)) wf F ad X (some (.long x)) (wf L' S') ad := by subst h; exact ⟨rfl, rfl, L', S', hs, hX, rfl⟩
theorem nw_mx_out {v rv : Option Value} {wf : (Nat → Nat → Int64) → (Nat → Nat → Nat → Int32) → nw_N} {F : Nat → Nat → Nat → Int32} {ad ad' : Nat → Nat} {X : (Nat → Nat → Int64) → Prop} {wn' : nw_N} {D : va_G} {cl : List vw_C} {A : Nat → Prop} {H : Heap} (h : nw_mx v wf F ad X rv wn' ad') (hw : nw_W D cl A wn' ad' H) : rv = v ∧ ∃ L' S', scm F S' ∧ X L' ∧ nw_W D cl A (wf L' S') ad H := by
  obtain ⟨h1, h2, L', S', h3, h5, h4⟩ := h
  rw [h2, h4] at hw
  exact ⟨h1, L', S', h3, h5, hw⟩
theorem ks_base {n : Nat → Nat} {F : Nat → Nat → Nat → Int32} {J : Nat → Int32} {s s' : Int64} (h : s = s') : ksS n F J s (n 2) = ksS n F J s' (n 2) := by rw [h]
