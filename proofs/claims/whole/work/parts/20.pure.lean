/-! PURE WORDS of the class's methods -/
noncomputable def b2 (p : Prop) : Int32 := @ite _ p (Classical.propDecidable p) 1 0
theorem b2_t {p : Prop} (h : p) : nI 1 = b2 p := by unfold b2; rw [if_pos h]; rfl
theorem b2_f {p : Prop} (h : ¬ p) : nI 0 = b2 p := by unfold b2; rw [if_neg h]; rfl
theorem nw_W.as {D : va_G} {cl : List vw_C} {A : Nat → Prop} {wn wn' : nw_N} {ad : Nat → Nat} {H : Heap} (h : nw_W D cl A wn ad H) (e : wn' = wn) : nw_W D cl A wn' ad H := by rw [e]; exact h
theorem nw_okI {x v : Int32} {wn : nw_N} {ad : Nat → Nat} (h : x = v) : nw_ok (some (.int v)) wn ad (some (.int x)) wn ad := by subst h; exact nw_ok_rf
theorem nw_okL {x v : Int64} {wn : nw_N} {ad : Nat → Nat} (h : x = v) : nw_ok (some (.long v)) wn ad (some (.long x)) wn ad := by subst h; exact nw_ok_rf
theorem aX_pl {tC : Nat → ClassId} {n : Nat → Nat} {r : Nat} (h : r = 0 ∨ r = 9) : aX tC n 0 r = some (tC 0, 6) := by rcases h with rfl | rfl <;> rfl
/-- the kilos that a plan takes in a week, of the first cages -/
def kpS (pl : Nat → Int32) (kl : Nat → Nat → Int32) (w : Nat) : Nat → Int32
  | 0 => 0
  | c + 1 => if pl c = nI w then kpS pl kl w c + kl c w else kpS pl kl w c
theorem kpS_t {pl : Nat → Int32} {kl : Nat → Nat → Int32} {w c : Nat} (h : pl c = nI w) : kpS pl kl w (c + 1) = kpS pl kl w c + kl c w := by simp only [kpS]; rw [if_pos h]
theorem kpS_f {pl : Nat → Int32} {kl : Nat → Nat → Int32} {w c : Nat} (h : ¬ pl c = nI w) : kpS pl kl w (c + 1) = kpS pl kl w c := by simp only [kpS]; rw [if_neg h]
/-- the rows that are no scratch (scratch: 3 needs, 4 loads, 5 missing, 6 held, 7 left, 8 gotten) stay -/
def scr (S S' : Nat → Nat → Nat → Int32) : Prop := ∀ t j, (t = 0 → j < 3 ∨ 8 < j) → S' t j = S t j
theorem scr_rf {S : Nat → Nat → Nat → Int32} : scr S S := fun _ _ _ => rfl
theorem scr_up {S S' : Nat → Nat → Nat → Int32} (h : scr S S') {j : Nat} {f : Nat → Int32} (hj : 3 ≤ j ∧ j ≤ 8) : scr S (upR S' 0 j f) := fun t i hi => by
  rw [upR_ne (by omega)]
  exact h t i hi
theorem scr_tr {S S' S'' : Nat → Nat → Nat → Int32} (h : scr S S') (h' : scr S' S'') : scr S S'' := fun t j hj => (h' t j hj).trans (h t j hj)
/-- it returns v; scratch is another one -/
def nw_sc (v : Option Value) (wf : (Nat → Nat → Nat → Int32) → nw_N) (S0 : Nat → Nat → Nat → Int32) (ad : Nat → Nat) : nw_P := fun o wn' ad' => o = v ∧ ad' = ad ∧ ∃ S', scr S0 S' ∧ wn' = wf S'
theorem nw_scI {x v : Int32} {wf : (Nat → Nat → Nat → Int32) → nw_N} {S0 S' : Nat → Nat → Nat → Int32} {ad : Nat → Nat} (hs : scr S0 S') (h : x = v) : nw_sc (some (.int v)) wf S0 ad (some (.int x)) (wf S') ad := by subst h; exact ⟨rfl, rfl, S', hs, rfl⟩
theorem nw_scL {x v : Int64} {wf : (Nat → Nat → Nat → Int32) → nw_N} {S0 S' : Nat → Nat → Nat → Int32} {ad : Nat → Nat} (hs : scr S0 S') (h : x = v) : nw_sc (some (.long v)) wf S0 ad (some (.long x)) (wf S') ad := by subst h; exact ⟨rfl, rfl, S', hs, rfl⟩
theorem nw_scV {wf : (Nat → Nat → Nat → Int32) → nw_N} {S0 S' : Nat → Nat → Nat → Int32} {ad : Nat → Nat} (hs : scr S0 S') : nw_sc none wf S0 ad none (wf S') ad := ⟨rfl, rfl, S', hs, rfl⟩
/-- a row filled up to its length -/
def flR (f : Nat → Int32) (v : Int32) (m : Nat) : Nat → Int32 := fun i => if i < m then v else f i
theorem flR_0 {f : Nat → Int32} {v : Int32} : flR f v 0 = f := by funext i; simp [flR]
theorem flR_s {f : Nat → Int32} {v : Int32} {m : Nat} : upd (flR f v m) m v = flR f v (m + 1) := by
  funext i
  by_cases h : i = m
  · subst h
    simp [upd, flR]
  · simp only [upd, flR, if_neg h]
    by_cases h2 : i < m
    · rw [if_pos h2, if_pos (by omega)]
    · rw [if_neg h2, if_neg (by omega)]
/-- needy cages: how many of the first, and the row that they make -/
def ngC (pl : Nat → Int32) (kl : Nat → Nat → Int32) (w : Nat) : Nat → Nat
  | 0 => 0
  | c + 1 => if pl c = nI w ∧ 0 < kl c w then ngC pl kl w c + 1 else ngC pl kl w c
def ngA (pl : Nat → Int32) (kl : Nat → Nat → Int32) (w : Nat) (f : Nat → Int32) : Nat → Nat → Int32
  | 0 => f
  | c + 1 => if pl c = nI w ∧ 0 < kl c w then upd (ngA pl kl w f c) (ngC pl kl w c) (kl c w) else ngA pl kl w f c
theorem ngC_le {pl : Nat → Int32} {kl : Nat → Nat → Int32} {w c : Nat} : ngC pl kl w c ≤ c := by
  induction c with
  | zero => exact Nat.le_refl _
  | succ c ih =>
    simp only [ngC]
    by_cases h : pl c = nI w ∧ 0 < kl c w
    · rw [if_pos h]; omega
    · rw [if_neg h]; omega
theorem ng_t {pl : Nat → Int32} {kl : Nat → Nat → Int32} {w c : Nat} {f : Nat → Int32} (h : pl c = nI w) (h2 : 0 < kl c w) : ngC pl kl w (c + 1) = ngC pl kl w c + 1 ∧ ngA pl kl w f (c + 1) = upd (ngA pl kl w f c) (ngC pl kl w c) (kl c w) := by
  simp only [ngC, ngA]; rw [if_pos ⟨h, h2⟩, if_pos ⟨h, h2⟩]; exact ⟨rfl, rfl⟩
theorem ng_f {pl : Nat → Int32} {kl : Nat → Nat → Int32} {w c : Nat} {f : Nat → Int32} (h : ¬ (pl c = nI w ∧ 0 < kl c w)) : ngC pl kl w (c + 1) = ngC pl kl w c ∧ ngA pl kl w f (c + 1) = ngA pl kl w f c := by
  simp only [ngC, ngA]; rw [if_neg h, if_neg h]; exact ⟨rfl, rfl⟩
/-- boats that are not barred: how many of the first, and the row of their loads -/
def lgC (br : Nat → Nat → Int32) (w : Nat) : Nat → Nat
  | 0 => 0
  | b + 1 => if br b w = 0 then lgC br w b + 1 else lgC br w b
def lgA (br : Nat → Nat → Int32) (ld : Nat → Int32) (w : Nat) (f : Nat → Int32) : Nat → Nat → Int32
  | 0 => f
  | b + 1 => if br b w = 0 then upd (lgA br ld w f b) (lgC br w b) (ld b) else lgA br ld w f b
theorem lgC_le {br : Nat → Nat → Int32} {w b : Nat} : lgC br w b ≤ b := by
  induction b with
  | zero => exact Nat.le_refl _
  | succ b ih =>
    simp only [lgC]
    by_cases h : br b w = 0
    · rw [if_pos h]; omega
    · rw [if_neg h]; omega
theorem lg_t {br : Nat → Nat → Int32} {ld : Nat → Int32} {w b : Nat} {f : Nat → Int32} (h : br b w = 0) : lgC br w (b + 1) = lgC br w b + 1 ∧ lgA br ld w f (b + 1) = upd (lgA br ld w f b) (lgC br w b) (ld b) := by
  simp only [lgC, lgA]; rw [if_pos h, if_pos h]; exact ⟨rfl, rfl⟩
theorem lg_f {br : Nat → Nat → Int32} {ld : Nat → Int32} {w b : Nat} {f : Nat → Int32} (h : ¬ br b w = 0) : lgC br w (b + 1) = lgC br w b ∧ lgA br ld w f (b + 1) = lgA br ld w f b := by
  simp only [lgC, lgA]; rw [if_neg h, if_neg h]; exact ⟨rfl, rfl⟩
/-- what is held at the places, of the first cages -/
def hdA (pl : Nat → Int32) (kl : Nat → Nat → Int32) (hm : Nat → Nat) (w : Nat) (f : Nat → Int32) : Nat → Nat → Int32
  | 0 => f
  | c + 1 => if pl c = -1 ∨ nI w ≤ pl c then upd (hdA pl kl hm w f c) (hm c) (hdA pl kl hm w f c (hm c) + kl c w) else hdA pl kl hm w f c
theorem hd_t {pl : Nat → Int32} {kl : Nat → Nat → Int32} {hm : Nat → Nat} {w c : Nat} {f : Nat → Int32} (h : pl c = -1 ∨ nI w ≤ pl c) : hdA pl kl hm w f (c + 1) = upd (hdA pl kl hm w f c) (hm c) (hdA pl kl hm w f c (hm c) + kl c w) := by simp only [hdA]; rw [if_pos h]
theorem hd_f {pl : Nat → Int32} {kl : Nat → Nat → Int32} {hm : Nat → Nat} {w c : Nat} {f : Nat → Int32} (h : ¬ (pl c = -1 ∨ nI w ≤ pl c)) : hdA pl kl hm w f (c + 1) = hdA pl kl hm w f c := by simp only [hdA]; rw [if_neg h]
/-- what cages still want when the first boats go by a way's digits -/
def msA (ld : Nat → Int32) (way nd : Nat) (f : Nat → Int32) : Nat → Nat → Int32
  | 0 => f
  | b + 1 => upd (msA ld way nd f b) (way / nd ^ b % nd) (msA ld way nd f b (way / nd ^ b % nd) - ld b)
theorem ms_s {ld : Nat → Int32} {way nd b : Nat} {f : Nat → Int32} : msA ld way nd f (b + 1) = upd (msA ld way nd f b) (way / nd ^ b % nd) (msA ld way nd f b (way / nd ^ b % nd) - ld b) := rfl
/-- the kilos of that week held at a place, of the first cages -/
def hsS (pl : Nat → Int32) (kl : Nat → Nat → Int32) (hm : Nat → Nat) (w p : Nat) : Nat → Int32
  | 0 => 0
  | c + 1 => if (pl c = -1 ∨ nI w ≤ pl c) ∧ hm c = p then hsS pl kl hm w p c + kl c w else hsS pl kl hm w p c
theorem hd_hs {pl : Nat → Int32} {kl : Nat → Nat → Int32} {hm : Nat → Nat} {w p c : Nat} {f : Nat → Int32} (hf : f p = 0) : hdA pl kl hm w f c p = hsS pl kl hm w p c := by
  induction c with
  | zero => exact hf
  | succ c ih =>
    simp only [hdA, hsS]
    by_cases h : pl c = -1 ∨ nI w ≤ pl c
    · rw [if_pos h]
      by_cases h2 : hm c = p
      · rw [if_pos ⟨h, h2⟩]
        subst h2
        simp only [upd, if_true]
        rw [ih]
      · rw [if_neg (fun q => h2 q.2)]
        simp only [upd, if_neg (fun q : p = hm c => h2 q.symm)]
        exact ih
    · rw [if_neg h, if_neg (fun q => h q.1)]
      exact ih
theorem ngA_base {pl : Nat → Int32} {kl : Nat → Nat → Int32} {w c k : Nat} {f g : Nat → Int32} (hk : k < ngC pl kl w c) : ngA pl kl w f c k = ngA pl kl w g c k := by
  induction c with
  | zero => exact absurd hk (Nat.not_lt_zero k)
  | succ c ih =>
    by_cases h : pl c = nI w ∧ 0 < kl c w
    · rw [(ng_t (f := f) h.1 h.2).2, (ng_t (f := g) h.1 h.2).2]
      rw [(ng_t (f := f) h.1 h.2).1] at hk
      by_cases h2 : k = ngC pl kl w c
      · simp only [upd, if_pos h2]
      · simp only [upd, if_neg h2]
        exact ih (by omega)
    · rw [(ng_f (f := f) h).2, (ng_f (f := g) h).2]
      rw [(ng_f (f := f) h).1] at hk
      exact ih hk
theorem lgA_base {br : Nat → Nat → Int32} {ld : Nat → Int32} {w b k : Nat} {f g : Nat → Int32} (hk : k < lgC br w b) : lgA br ld w f b k = lgA br ld w g b k := by
  induction b with
  | zero => exact absurd hk (Nat.not_lt_zero k)
  | succ b ih =>
    by_cases h : br b w = 0
    · rw [(lg_t (ld := ld) (f := f) h).2, (lg_t (ld := ld) (f := g) h).2]
      rw [(lg_t (ld := ld) (f := f) h).1] at hk
      by_cases h2 : k = lgC br w b
      · simp only [upd, if_pos h2]
      · simp only [upd, if_neg h2]
        exact ih (by omega)
    · rw [(lg_f (ld := ld) (f := f) h).2, (lg_f (ld := ld) (f := g) h).2]
      rw [(lg_f (ld := ld) (f := f) h).1] at hk
      exact ih hk
theorem msA_base {ld ld' : Nat → Int32} {way nd b : Nat} {f g : Nat → Int32} (h0 : 0 < nd) (hf : ∀ k, k < nd → f k = g k) (hl : ∀ k, k < b → ld k = ld' k) : ∀ k, k < nd → msA ld way nd f b k = msA ld' way nd g b k := by
  induction b with
  | zero => exact hf
  | succ b ih =>
    intro k hk
    have ih := ih (fun j hj => hl j (by omega))
    have hm := Nat.mod_lt (way / nd ^ b) h0
    simp only [ms_s, upd]
    by_cases h : k = way / nd ^ b % nd
    · rw [if_pos h, if_pos h, ih _ hm, hl b (by omega)]
    · rw [if_neg h, if_neg h, ih k hk]
def pCarries (f3 f4 : Nat → Int32) (nd af way : Nat) : Prop := ∀ k, k < nd → msA f4 way nd f3 af k ≤ 0
theorem pCarries_base {f3 g3 f4 g4 : Nat → Int32} {nd af way : Nat} (h0 : 0 < nd) (h3 : ∀ k, k < nd → f3 k = g3 k) (h4 : ∀ k, k < af → f4 k = g4 k) : pCarries f3 f4 nd af way ↔ pCarries g3 g4 nd af way :=
  ⟨fun h k hk => by rw [← msA_base h0 h3 h4 k hk]; exact h k hk, fun h k hk => by rw [msA_base h0 h3 h4 k hk]; exact h k hk⟩
def pPlant (n : Nat → Nat) (S0 : Nat → Nat → Nat → Int32) (pl : Nat → Int32) (w : Nat) : Prop := kpS pl (S0 3) w (n 2) ≤ S0 0 2 w
def pClosed (n : Nat → Nat) (hm : Nat → Nat) (S0 : Nat → Nat → Nat → Int32) (pl : Nat → Int32) (w : Nat) : Prop := ∀ j, j < n 2 → pl j = nI w → S0 1 (hm j) w = 0
def pHeld (n : Nat → Nat) (I : Nat → Nat → Int32) (hm : Nat → Nat) (S0 : Nat → Nat → Nat → Int32) (pl : Nat → Int32) (w : Nat) : Prop := ∀ p, p < n 1 → hsS pl (S0 3) hm w p (n 2) ≤ I 1 p
def pBoats (n : Nat → Nat) (I : Nat → Nat → Int32) (S0 : Nat → Nat → Nat → Int32) (pl : Nat → Int32) (w : Nat) : Prop :=
  ngC pl (S0 3) w (n 2) = 0 ∨ (ngC pl (S0 3) w (n 2) ≤ lgC (S0 4) w (n 3) ∧ ∃ v, v < ngC pl (S0 3) w (n 2) ^ lgC (S0 4) w (n 3) ∧ pCarries (ngA pl (S0 3) w (fun _ => 0) (n 2)) (lgA (S0 4) (I 3) w (fun _ => 0) (n 3)) (ngC pl (S0 3) w (n 2)) (lgC (S0 4) w (n 3)) v)
theorem pow27 {a b : Nat} (h0 : 1 ≤ a) (ha : a ≤ 3) (hb : b ≤ 3) : a ^ b ≤ 27 :=
  Nat.le_trans (Nat.pow_le_pow_left ha b) (Nat.le_trans (Nat.pow_le_pow_right (by decide) hb) (by decide))
theorem cpy_lo {f g : Nat → Int32} {m k : Nat} (h : k < m) : va_cpy f g 0 0 m k = f k := by simp only [va_cpy]; rw [if_pos ⟨Nat.zero_le _, by omega⟩, Nat.sub_zero, Nat.zero_add]
theorem b2_0 {p : Prop} (h : b2 p = 0) : ¬ p := fun q => by rw [← b2_t q] at h; exact absurd h (by decide)
theorem b2_1 {p : Prop} (h : ¬ b2 p = 0) : p := Classical.not_not.mp (fun q => h (by rw [← b2_f q]; rfl))
theorem nw_sc_out {v rv : Option Value} {wf : (Nat → Nat → Nat → Int32) → nw_N} {S0 : Nat → Nat → Nat → Int32} {ad ad' : Nat → Nat} {wn' : nw_N} {D : va_G} {cl : List vw_C} {A : Nat → Prop} {H : Heap} (h : nw_sc v wf S0 ad rv wn' ad') (hw : nw_W D cl A wn' ad' H) : rv = v ∧ ∃ S', scr S0 S' ∧ nw_W D cl A (wf S') ad H := by
  obtain ⟨h1, h2, S', h3, h4⟩ := h
  rw [h2, h4] at hw
  exact ⟨h1, S', h3, hw⟩
/-- the least rule that is broken -/
noncomputable def lbI (a b c d : Prop) : Int32 := @ite _ a (Classical.propDecidable a) (@ite _ b (Classical.propDecidable b) (@ite _ c (Classical.propDecidable c) (@ite _ d (Classical.propDecidable d) 0 4) 3) 2) 1
theorem lbI_1 {a b c d : Prop} (h : ¬ a) : nI 1 = lbI a b c d := by unfold lbI; rw [if_neg h]; rfl
theorem lbI_2 {a b c d : Prop} (ha : a) (h : ¬ b) : nI 2 = lbI a b c d := by unfold lbI; rw [if_pos ha, if_neg h]; rfl
theorem lbI_3 {a b c d : Prop} (ha : a) (hb : b) (h : ¬ c) : nI 3 = lbI a b c d := by unfold lbI; rw [if_pos ha, if_pos hb, if_neg h]; rfl
theorem lbI_4 {a b c d : Prop} (ha : a) (hb : b) (hc : c) (h : ¬ d) : nI 4 = lbI a b c d := by unfold lbI; rw [if_pos ha, if_pos hb, if_pos hc, if_neg h]; rfl
theorem lbI_0 {a b c d : Prop} (ha : a) (hb : b) (hc : c) (h : d) : nI 0 = lbI a b c d := by unfold lbI; rw [if_pos ha, if_pos hb, if_pos hc, if_pos h]; rfl
