/-! THE CLASS'S WORDS AND THE MODEL'S WORDS ARE THE SAME -/
theorem i32_add {a b : Int32} (h1 : -2147483648 ≤ a.toInt + b.toInt) (h2 : a.toInt + b.toInt ≤ 2147483647) : (a + b).toInt = a.toInt + b.toInt := by
  rw [Int32.toInt_add]; exact Int.bmod_eq_of_le (by omega) (by omega)
theorem i32_sub {a b : Int32} (h1 : -2147483648 ≤ a.toInt - b.toInt) (h2 : a.toInt - b.toInt ≤ 2147483647) : (a - b).toInt = a.toInt - b.toInt := by
  rw [Int32.toInt_sub]; exact Int.bmod_eq_of_le (by omega) (by omega)
theorem i64_add {a b : Int64} (h1 : -9223372036854775808 ≤ a.toInt + b.toInt) (h2 : a.toInt + b.toInt ≤ 9223372036854775807) : (a + b).toInt = a.toInt + b.toInt := by
  rw [Int64.toInt_add]; exact Int.bmod_eq_of_le (by omega) (by omega)
theorem i64_sub {a b : Int64} (h1 : -9223372036854775808 ≤ a.toInt - b.toInt) (h2 : a.toInt - b.toInt ≤ 9223372036854775807) : (a - b).toInt = a.toInt - b.toInt := by
  rw [Int64.toInt_sub]; exact Int.bmod_eq_of_le (by omega) (by omega)
theorem i64_mul {a b : Int64} (h1 : -9223372036854775808 ≤ a.toInt * b.toInt) (h2 : a.toInt * b.toInt ≤ 9223372036854775807) : (a * b).toInt = a.toInt * b.toInt := by
  rw [Int64.toInt_mul]; exact Int.bmod_eq_of_le (by omega) (by omega)
theorem i32_0 : (0 : Int32).toInt = 0 := by decide
theorem i64_0 : (0 : Int64).toInt = 0 := by decide
/-- sums of numbers -/
def sm (f : Nat → Int) : Nat → Int
  | 0 => 0
  | k + 1 => sm f k + f k
theorem sm_cg {f g : Nat → Int} : ∀ {k : Nat}, (∀ c, c < k → f c = g c) → sm f k = sm g k := by
  intro k
  induction k with
  | zero => exact fun _ => rfl
  | succ k ih => intro h; simp only [sm]; rw [ih (fun c hc => h c (by omega)), h k (by omega)]
theorem sm_z {f : Nat → Int} {m : Nat} : ∀ {k : Nat}, m ≤ k → (∀ c, m ≤ c → c < k → f c = 0) → sm f k = sm f m := by
  intro k
  induction k with
  | zero => intro h _; rw [show m = 0 by omega]
  | succ k ih =>
    intro h h2
    by_cases e : m = k + 1
    · rw [e]
    · simp only [sm]; rw [ih (by omega) (fun c h3 h4 => h2 c h3 (by omega)), h2 k (by omega) (by omega)]; omega
theorem sm_b {f : Nat → Int} {B : Int} : ∀ {k : Nat}, (∀ c, c < k → 0 ≤ f c ∧ f c ≤ B) → 0 ≤ sm f k ∧ sm f k ≤ k * B := by
  intro k
  induction k with
  | zero => intro _; simp only [sm]; omega
  | succ k ih =>
    intro h
    obtain ⟨h1, h2⟩ := ih (fun c hc => h c (by omega))
    obtain ⟨h3, h4⟩ := h k (by omega)
    simp only [sm]
    rw [Int.natCast_add, Int.add_mul]
    omega
theorem sm_add {f g : Nat → Int} : ∀ {k : Nat}, sm (fun c => f c + g c) k = sm f k + sm g k := by
  intro k
  induction k with
  | zero => rfl
  | succ k ih => simp only [sm]; rw [ih]; omega
theorem sm_le {f g : Nat → Int} : ∀ {k : Nat}, (∀ c, c < k → f c ≤ g c) → sm f k ≤ sm g k := by
  intro k
  induction k with
  | zero => exact fun _ => Int.le_refl _
  | succ k ih => intro h; have a := ih (fun c hc => h c (by omega)); have b := h k (by omega); simp only [sm]; omega
theorem sm_pos {f : Nat → Int} : ∀ {k : Nat}, 0 < sm f k → ∃ c, c < k ∧ 0 < f c := by
  intro k
  induction k with
  | zero => intro h; simp only [sm] at h; omega
  | succ k ih =>
    intro h
    simp only [sm] at h
    by_cases h2 : 0 < f k
    · exact ⟨k, by omega, h2⟩
    · obtain ⟨c, hc, h3⟩ := ih (by omega)
      exact ⟨c, by omega, h3⟩
theorem sm_ge1 {f : Nat → Int} {c : Nat} : ∀ {k : Nat}, (∀ c, c < k → 0 ≤ f c) → c < k → 1 ≤ f c → 1 ≤ sm f k := by
  intro k
  induction k with
  | zero => intro _ h; omega
  | succ k ih =>
    intro h hc h1
    have h0 : 0 ≤ sm f k := by
      have q := sm_le (f := fun _ => 0) (g := f) (k := k) (fun c hc => h c (by omega))
      have e : sm (fun _ => 0) k = 0 := sm_z (m := 0) (Nat.zero_le _) (fun _ _ _ => rfl)
      omega
    have hk := h k (by omega)
    simp only [sm]
    by_cases e : c = k
    · subst e; omega
    · have := ih (fun c hc => h c (by omega)) (by omega) h1; omega
/-- a number from 0 up to m -/
def rg (x : Int32) (m : Int) : Prop := 0 ≤ x.toInt ∧ x.toInt ≤ m
/-- THE DATA of the class and of the model are the same -/
def dR (n : Nat → Nat) (I : Nat → Nat → Int32) (J : Nat → Int32) (hm ow sq : Nat → Nat) (F : Nat → Nat → Nat → Int32) : Prop :=
  hpN n ∧ ((I 0 1 = J 1 ∧ I 0 2 = J 2) ∧ rg (I 0 1) 10000 ∧ rg (I 0 2) 10000) ∧
  (∀ p, p < n 1 → I 1 p = F 5 0 p ∧ rg (I 1 p) 100000000 ∧ ∀ w, w < n 0 → F 1 p w = F 5 1 (8 * p + w)) ∧
  (∀ c, c < n 2 → F 5 2 c = nI (hm c) ∧ hm c < n 1 ∧ ∀ w, w < n 0 → F 2 c w = F 5 3 (8 * c + w) ∧ rg (F 2 c w) 20000 ∧ (F 3 c w).toInt64 = kM F c w ∧ rg (F 3 c w) 2000000) ∧
  (∀ b, b < n 3 → I 3 b = F 5 5 b ∧ rg (I 3 b) 100000000 ∧ ∀ w, w < n 0 → F 4 b w = F 5 6 (8 * b + w)) ∧
  (∀ w, w < n 0 → F 0 2 w = F 5 7 w ∧ rg (F 0 2 w) 100000000) ∧
  (∀ o, o < n 4 → F 5 8 o = nI (ow o) ∧ I 4 o = nI (ow o) ∧ ow o < n 0 ∧ (I 5 o = F 5 9 o ∧ I 6 o = F 5 10 o ∧ I 7 o = F 5 11 o ∧ I 8 o = F 5 12 o) ∧ rg (I 7 o) 100000000 ∧ rg (I 8 o) 10000) ∧
  ((∀ k, k < n 4 → sq k < n 4) ∧ (∀ o, o < n 4 → ∃ k, k < n 4 ∧ sq k = o) ∧ ∀ i j, i < j → j < n 4 → I 8 (sq j) < I 8 (sq i) ∨ (I 8 (sq j) = I 8 (sq i) ∧ sq i < sq j))
/-- the class's plan and the model's, of which the first m cages are settled -/
def pR (n : Nat → Nat) (m : Nat) (pl tr : Nat → Int32) : Prop := (∀ c, c < m → (pl c = -1 ∧ tr c = nI (n 0)) ∨ ∃ w, w < n 0 ∧ pl c = nI w ∧ tr c = nI w) ∧ ∀ c, m ≤ c → c < n 2 → pl c = -1
section EQ
variable {n : Nat → Nat} {I : Nat → Nat → Int32} {J : Nat → Int32} {hm ow sq : Nat → Nat} {F : Nat → Nat → Nat → Int32} {pl tr : Nat → Int32} {m w c : Nat}
theorem pR_w (hR : pR n m pl tr) (hN : n 0 ≤ 8) (hw : w < n 0) (hc : c < n 2) : pl c = nI w ↔ (c < m ∧ tr c = nI w) := by
  by_cases h : c < m
  · rcases hR.1 c h with ⟨h1, h2⟩ | ⟨v, hv, h1, h2⟩
    · rw [h1, h2]
      constructor
      · intro e; exact absurd e.symm (nI_ne_m1 (by omega))
      · rintro ⟨_, e⟩; rw [nI_eq (by omega) (by omega)] at e; omega
    · rw [h1, h2]; exact ⟨fun e => ⟨h, e⟩, fun e => e.2⟩
  · rw [hR.2 c (by omega) hc]
    exact ⟨fun e => absurd e.symm (nI_ne_m1 (by omega)), fun e => absurd e.1 h⟩
theorem kM_i (hD : dR n I J hm ow sq F) (hc : c < n 2) (hw : w < n 0) : (kM F c w).toInt = (F 3 c w).toInt ∧ rg (F 3 c w) 2000000 := by
  obtain ⟨_, _, h3, h4⟩ := (hD.2.2.2.1 c hc).2.2 w hw
  exact ⟨by rw [← h3, Int32.toInt_toInt64], h4⟩
def kw (pl : Nat → Int32) (F : Nat → Nat → Nat → Int32) (w c : Nat) : Int := if pl c = nI w then (F 3 c w).toInt else 0
theorem kw_b (hD : dR n I J hm ow sq F) (hc : c < n 2) (hw : w < n 0) : 0 ≤ kw pl F w c ∧ kw pl F w c ≤ 2000000 := by
  have h := (kM_i hD hc hw).2
  unfold kw
  split
  · exact h
  · omega
theorem kp_i (hD : dR n I J hm ow sq F) (hw : w < n 0) : ∀ c, c ≤ n 2 → (kpS pl (F 3) w c).toInt = sm (kw pl F w) c := by
  have h6 := hD.1.2.2.2.1
  intro c
  induction c with
  | zero => intro _; exact i32_0
  | succ c ih =>
    intro hc
    have e := ih (by omega)
    obtain ⟨b1, b2⟩ := sm_b (f := kw pl F w) (B := 2000000) (k := c) (fun j hj => kw_b hD (by omega) hw)
    obtain ⟨b3, b4⟩ := kw_b (pl := pl) (c := c) hD (by omega) hw
    by_cases h : pl c = nI w
    · rw [kpS_t h]
      have ek : kw pl F w c = (F 3 c w).toInt := by simp only [kw]; rw [if_pos h]
      simp only [sm]
      rw [i32_add (by omega) (by omega), e, ek]
    · rw [kpS_f h, e]
      have ek : kw pl F w c = 0 := by simp only [kw]; rw [if_neg h]
      simp only [sm]
      rw [ek]; omega
theorem mp_i (hD : dR n I J hm ow sq F) (hw : w < n 0) : ∀ c, c ≤ n 2 → (mpS F w c).toInt = sm (kw (F 5 14) F w) c := by
  have h6 := hD.1.2.2.2.1
  intro c
  induction c with
  | zero => intro _; exact i64_0
  | succ c ih =>
    intro hc
    have e := ih (by omega)
    have ek1 := (kM_i hD (show c < n 2 by omega) hw).1
    obtain ⟨b1, b2⟩ := sm_b (f := kw (F 5 14) F w) (B := 2000000) (k := c) (fun j hj => kw_b hD (by omega) hw)
    obtain ⟨b3, b4⟩ := kw_b (pl := F 5 14) (c := c) hD (by omega) hw
    by_cases h : F 5 14 c = nI w
    · rw [mpS_t h]
      have ek : kw (F 5 14) F w c = (F 3 c w).toInt := by simp only [kw]; rw [if_pos h]
      simp only [sm]
      rw [i64_add (by omega) (by omega), e, ek, ek1]
    · rw [mpS_f h, i64_add (by rw [i64_0]; omega) (by rw [i64_0]; omega), i64_0, e]
      have ek : kw (F 5 14) F w c = 0 := by simp only [kw]; rw [if_neg h]
      simp only [sm]
      rw [ek]
theorem kw_pR (hR : pR n m pl (F 5 14)) (hN : n 0 ≤ 8) (hm2 : m ≤ n 2) (hw : w < n 0) : sm (kw pl F w) (n 2) = sm (kw (F 5 14) F w) m := by
  rw [sm_z hm2 (f := kw pl F w)]
  · refine sm_cg (fun c hc => ?_)
    have := pR_w (c := c) hR hN hw (by omega)
    simp only [kw]
    by_cases h : F 5 14 c = nI w
    · rw [if_pos h, if_pos (this.mpr ⟨hc, h⟩)]
    · rw [if_neg h, if_neg (fun q => h (this.mp q).2)]
  · intro c h1 h2
    have := pR_w (c := c) hR hN hw h2
    simp only [kw]
    rw [if_neg (fun q => absurd (this.mp q).1 (by omega))]
theorem eq_plant (hD : dR n I J hm ow sq F) (hR : pR n m pl (F 5 14)) (hm2 : m ≤ n 2) (hw : w < n 0) : pPlant n F pl w ↔ qPlant F w m := by
  unfold pPlant qPlant
  rw [Int32.le_iff_toInt_le, Int64.le_iff_toInt_le, Int32.toInt_toInt64, kp_i hD hw _ (Nat.le_refl _), mp_i hD hw _ hm2, kw_pR hR hD.1.2.1 hm2 hw, (hD.2.2.2.2.2.1 w hw).1]
theorem eq_open (hD : dR n I J hm ow sq F) (hR : pR n m pl (F 5 14)) (hm2 : m ≤ n 2) (hw : w < n 0) : pClosed n hm F pl w ↔ qOpen F hm w m := by
  unfold pClosed qOpen
  constructor
  · intro h j hj e
    obtain ⟨_, h2, _⟩ := hD.2.2.2.1 j (by omega)
    rw [← (hD.2.2.1 (hm j) h2).2.2 w hw]
    exact h j (by omega) ((pR_w hR hD.1.2.1 hw (by omega)).mpr ⟨hj, e⟩)
  · intro h j hj e
    obtain ⟨_, h2, _⟩ := hD.2.2.2.1 j (by omega)
    obtain ⟨g1, g2⟩ := (pR_w hR hD.1.2.1 hw hj).mp e
    rw [(hD.2.2.1 (hm j) h2).2.2 w hw]
    exact h j g1 g2
/-! held -/
noncomputable def hwI (pl : Nat → Int32) (F : Nat → Nat → Nat → Int32) (hm : Nat → Nat) (w p c : Nat) : Int := pif ((pl c = -1 ∨ nI w ≤ pl c) ∧ hm c = p) (F 3 c w).toInt 0
theorem hw_b (hD : dR n I J hm ow sq F) (hc : c < n 2) (hw : w < n 0) {p : Nat} : 0 ≤ hwI pl F hm w p c ∧ hwI pl F hm w p c ≤ 2000000 := by
  have h := (kM_i hD hc hw).2
  unfold hwI
  by_cases h9 : (pl c = -1 ∨ nI w ≤ pl c) ∧ hm c = p
  · rw [pif_t h9]; exact h
  · rw [pif_f h9]; omega
theorem hs_i (hD : dR n I J hm ow sq F) (hw : w < n 0) {p : Nat} : ∀ c, c ≤ n 2 → (hsS pl (F 3) hm w p c).toInt = sm (hwI pl F hm w p) c := by
  have h6 := hD.1.2.2.2.1
  intro c
  induction c with
  | zero => intro _; exact i32_0
  | succ c ih =>
    intro hc
    have e := ih (by omega)
    obtain ⟨b1, b2⟩ := sm_b (f := hwI pl F hm w p) (B := 2000000) (k := c) (fun j hj => hw_b hD (by omega) hw)
    obtain ⟨b3, b4⟩ := hw_b (pl := pl) (c := c) (p := p) hD (by omega) hw
    simp only [hsS, sm]
    by_cases h : (pl c = -1 ∨ nI w ≤ pl c) ∧ hm c = p
    · have ek : hwI pl F hm w p c = (F 3 c w).toInt := by simp only [hwI]; rw [pif_t h]
      rw [if_pos h, i32_add (by omega) (by omega), e, ek]
    · have ek : hwI pl F hm w p c = 0 := by simp only [hwI]; rw [pif_f h]
      rw [if_neg h, ek, e]; omega
theorem mh_i (hD : dR n I J hm ow sq F) (hR : pR n (n 2) pl (F 5 14)) (hw : w < n 0) {p : Nat} (hp : p < n 1) : ∀ c, c ≤ n 2 → (mhS F w p c).toInt = sm (hwI pl F hm w p) c := by
  have h6 := hD.1.2.2.2.1
  have h8 := hD.1.2.1
  have h4 := hD.1.2.2.1
  intro c
  induction c with
  | zero => intro _; exact i64_0
  | succ c ih =>
    intro hc
    have e := ih (by omega)
    have ek1 := (kM_i hD (show c < n 2 by omega) hw).1
    obtain ⟨b1, b2⟩ := sm_b (f := hwI pl F hm w p) (B := 2000000) (k := c) (fun j hj => hw_b hD (by omega) hw)
    obtain ⟨b3, b4⟩ := hw_b (pl := pl) (c := c) (p := p) hD (by omega) hw
    obtain ⟨q1, q2, _⟩ := hD.2.2.2.1 c (by omega)
    have hq : (F 5 2 c = nI p ∧ nI w ≤ F 5 14 c) ↔ ((pl c = -1 ∨ nI w ≤ pl c) ∧ hm c = p) := by
      rw [q1, nI_eq (by omega) (by omega), and_comm]
      refine and_congr_left (fun _ => ?_)
      rcases hR.1 c (by omega) with ⟨h1, h2⟩ | ⟨v, hv, h1, h2⟩
      · rw [h1, h2]; exact ⟨fun _ => Or.inl rfl, fun _ => nI_le (by omega) (by omega)⟩
      · rw [h1, h2]; exact ⟨Or.inr, fun h => h.elim (fun h => absurd h (nI_ne_m1 (by omega))) id⟩
    by_cases h : (pl c = -1 ∨ nI w ≤ pl c) ∧ hm c = p
    · have ek : hwI pl F hm w p c = (F 3 c w).toInt := by simp only [hwI]; rw [pif_t h]
      rw [mhS_t (hq.mpr h).1 (hq.mpr h).2]
      simp only [sm]
      rw [i64_add (by omega) (by omega), e, ek, ek1]
    · have ek : hwI pl F hm w p c = 0 := by simp only [hwI]; rw [pif_f h]
      rw [mhS_f (fun q => h (hq.mp q)), i64_add (by rw [i64_0]; omega) (by rw [i64_0]; omega), i64_0, e]
      simp only [sm]
      rw [ek]
theorem eq_held (hD : dR n I J hm ow sq F) (hR : pR n (n 2) pl (F 5 14)) (hw : w < n 0) : pHeld n I hm F pl w ↔ qHeld n F w := by
  unfold pHeld qHeld qHeldP
  refine forall_congr' (fun p => forall_congr' (fun hp => ?_))
  rw [Int32.le_iff_toInt_le, Int64.le_iff_toInt_le, Int32.toInt_toInt64, hs_i hD hw _ (Nat.le_refl _), mh_i hD hR hw hp _ (Nat.le_refl _), (hD.2.2.1 p hp).1]
end EQ
