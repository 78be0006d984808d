/-! the serving of orders, in numbers -/
theorem mul_rg {a b A B : Int} (h1 : 0 ≤ a) (h2 : a ≤ A) (h3 : 0 ≤ b) (h4 : b ≤ B) : 0 ≤ a * b ∧ a * b ≤ A * B := ⟨Int.mul_nonneg h1 h3, Int.mul_le_mul h2 h4 h3 (by omega)⟩
noncomputable def svI (q : Int) (wa : Nat → Prop) (lf : Nat → Int) : Nat → (Nat → Int) × Int
  | 0 => (lf, 0)
  | c + 1 => pif (wa c) (va_up (svI q wa lf c).1 c ((svI q wa lf c).1 c - min ((svI q wa lf c).1 c) (q - (svI q wa lf c).2)), (svI q wa lf c).2 + min ((svI q wa lf c).1 c) (q - (svI q wa lf c).2)) (svI q wa lf c)
section SVI
variable {q : Int} {wa wa' : Nat → Prop} {lf lf' : Nat → Int}
theorem svI_t {c : Nat} (h : wa c) : svI q wa lf (c + 1) = (va_up (svI q wa lf c).1 c ((svI q wa lf c).1 c - min ((svI q wa lf c).1 c) (q - (svI q wa lf c).2)), (svI q wa lf c).2 + min ((svI q wa lf c).1 c) (q - (svI q wa lf c).2)) := by simp only [svI]; rw [pif_t h]
theorem svI_f {c : Nat} (h : ¬ wa c) : svI q wa lf (c + 1) = svI q wa lf c := by simp only [svI]; rw [pif_f h]
theorem svI_ge : ∀ k c, k ≤ c → (svI q wa lf k).1 c = lf c := by
  intro k
  induction k with
  | zero => exact fun _ _ => rfl
  | succ k ih =>
    intro c hc
    by_cases h : wa k
    · rw [svI_t h]
      show va_up _ k _ c = _
      rw [va_up_ne _ _ (by omega)]
      exact ih c (by omega)
    · rw [svI_f h]; exact ih c (by omega)
theorem svI_no {c : Nat} (hn : ¬ wa c) : ∀ k, (svI q wa lf k).1 c = lf c := by
  intro k
  induction k with
  | zero => rfl
  | succ k ih =>
    by_cases h : wa k
    · rw [svI_t h]
      show va_up _ k _ c = _
      rw [va_up_ne _ _ (fun e => hn (by rw [e]; exact h))]
      exact ih
    · rw [svI_f h]; exact ih
theorem svI_rg (hq : 0 ≤ q) : ∀ k, (∀ c, c < k → wa c → 0 ≤ lf c) → (0 ≤ (svI q wa lf k).2 ∧ (svI q wa lf k).2 ≤ q) ∧ ∀ c, (c < k → wa c → 0 ≤ lf c) → (c < k → wa c → 0 ≤ (svI q wa lf k).1 c) ∧ (svI q wa lf k).1 c ≤ lf c := by
  intro k
  induction k with
  | zero => exact fun _ => ⟨⟨Int.le_refl _, hq⟩, fun c _ => ⟨fun h => absurd h (Nat.not_lt_zero c), Int.le_refl _⟩⟩
  | succ k ih =>
    intro hl
    obtain ⟨i1, i2⟩ := ih (fun c hc => hl c (by omega))
    by_cases h : wa k
    · have e := svI_ge (q := q) (wa := wa) (lf := lf) k k (Nat.le_refl _)
      have hk := hl k (by omega) h
      rw [svI_t h]
      refine ⟨⟨?_, ?_⟩, fun c hc => ?_⟩
      · show 0 ≤ (svI q wa lf k).2 + min ((svI q wa lf k).1 k) (q - (svI q wa lf k).2)
        omega
      · show (svI q wa lf k).2 + min ((svI q wa lf k).1 k) (q - (svI q wa lf k).2) ≤ q
        omega
      · show (c < k + 1 → wa c → 0 ≤ va_up (svI q wa lf k).1 k ((svI q wa lf k).1 k - min ((svI q wa lf k).1 k) (q - (svI q wa lf k).2)) c) ∧ va_up (svI q wa lf k).1 k ((svI q wa lf k).1 k - min ((svI q wa lf k).1 k) (q - (svI q wa lf k).2)) c ≤ lf c
        by_cases ec : c = k
        · subst ec
          rw [va_up_self, e]
          exact ⟨fun _ _ => by omega, by omega⟩
        · rw [va_up_ne _ _ ec]
          have := i2 c (fun h1 h2 => hl c (by omega) h2)
          exact ⟨fun h1 h2 => this.1 (by omega) h2, this.2⟩
    · rw [svI_f h]
      refine ⟨i1, fun c hc => ?_⟩
      have := i2 c (fun h1 h2 => hl c (by omega) h2)
      exact ⟨fun h1 h2 => this.1 (by rcases Nat.lt_or_ge c k with g | g; exact g; exact absurd (by rw [show k = c by omega]; exact h2) h) h2, this.2⟩
theorem svI_cg : ∀ k, (∀ c, c < k → (wa c ↔ wa' c)) → (∀ c, c < k → wa c → lf c = lf' c) → (svI q wa lf k).2 = (svI q wa' lf' k).2 ∧ ∀ c, lf c = lf' c → (svI q wa lf k).1 c = (svI q wa' lf' k).1 c := by
  intro k
  induction k with
  | zero => exact fun _ _ => ⟨rfl, fun _ h => h⟩
  | succ k ih =>
    intro hw hl
    obtain ⟨i1, i2⟩ := ih (fun c hc => hw c (by omega)) (fun c hc => hl c (by omega))
    by_cases h : wa k
    · rw [svI_t h, svI_t ((hw k (by omega)).mp h)]
      have e := i2 k (hl k (by omega) h)
      refine ⟨?_, fun c hc => ?_⟩
      · show _ + _ = _ + _
        rw [i1, e]
      · show va_up _ k _ c = va_up _ k _ c
        by_cases ec : c = k
        · subst ec; rw [va_up_self, va_up_self, i1, e]
        · rw [va_up_ne _ _ ec, va_up_ne _ _ ec]; exact i2 c hc
    · rw [svI_f h, svI_f (fun q => h ((hw k (by omega)).mpr q))]
      exact ⟨i1, i2⟩
/-- what is sold is never worth more than by the cages' tops -/
theorem svI_pot {t : Nat → Int} {ct : Int} : ∀ k, 0 ≤ q → (∀ c, c < k → wa c → 0 ≤ lf c) → (∀ c, c < k → wa c → ct ≤ t c) → (svI q wa lf k).2 * ct + sm (fun c => (svI q wa lf k).1 c * t c) k ≤ sm (fun c => lf c * t c) k := by
  intro k hq
  induction k with
  | zero => intro _ _; simp only [svI, sm]; omega
  | succ k ih =>
    intro hl ht
    have i := ih (fun c hc => hl c (by omega)) (fun c hc => ht c (by omega))
    have e := svI_ge (q := q) (wa := wa) (lf := lf) k k (Nat.le_refl _)
    simp only [sm]
    by_cases h : wa k
    · have hr := (svI_rg (wa := wa) (lf := lf) hq k (fun c hc => hl c (by omega))).1
      rw [svI_t h]
      simp only [va_up_self]
      rw [sm_cg (g := fun c => (svI q wa lf k).1 c * t c) (fun c hc => by rw [va_up_ne _ _ (show c ≠ k by omega)])]
      have hk := hl k (by omega) h
      have htk := ht k (by omega) h
      have p0 : 0 ≤ min ((svI q wa lf k).1 k) (q - (svI q wa lf k).2) := by omega
      have m1 := Int.mul_le_mul_of_nonneg_left htk p0
      rw [Int.add_mul, Int.sub_mul, e]
      rw [e] at m1
      omega
    · rw [svI_f h, e]; omega
end SVI
section EW
variable {n : Nat → Nat} {I : Nat → Nat → Int32} {J : Nat → Int32} {hm ow sq : Nat → Nat} {F : Nat → Nat → Nat → Int32} {pl tr : Nat → Int32} {m w c o : Nat}
theorem mnI_i {x y : Int32} : (mnI x y).toInt = min x.toInt y.toInt := by
  unfold mnI
  split
  · rename_i h; rw [Int32.lt_iff_toInt_lt] at h; omega
  · rename_i h; rw [Int32.lt_iff_toInt_lt] at h; omega
theorem gtL_i {x y : Int64} : (gtL x y).toInt = min x.toInt y.toInt := by
  unfold gtL
  split
  · rename_i h; rw [Int64.lt_iff_toInt_lt] at h; omega
  · rename_i h; rw [Int64.lt_iff_toInt_lt] at h; omega
theorem sv_i {lf : Nat → Int32} (hq : rg (I 7 o) 100000000) : ∀ k, (∀ c, c < k → rg (lf c) 2000000) → (svS I ow F o pl lf k).2.toInt = (svI (I 7 o).toInt (fun c => pWants I ow F o c (pl c)) (fun c => (lf c).toInt) k).2 ∧ ∀ c, ((svS I ow F o pl lf k).1 c).toInt = (svI (I 7 o).toInt (fun c => pWants I ow F o c (pl c)) (fun c => (lf c).toInt) k).1 c := by
  intro k
  unfold rg at hq
  induction k with
  | zero => exact fun _ => ⟨i32_0, fun _ => rfl⟩
  | succ k ih =>
    intro hl
    obtain ⟨i1, i2⟩ := ih (fun c hc => hl c (by omega))
    have hk := hl k (by omega)
    unfold rg at hk
    by_cases h : pWants I ow F o k (pl k)
    · obtain ⟨⟨r1, r2⟩, _⟩ := svI_rg (q := (I 7 o).toInt) (wa := fun c => pWants I ow F o c (pl c)) (lf := fun c => (lf c).toInt) hq.1 k (fun c hc _ => (hl c (by omega)).1)
      have e := svI_ge (q := (I 7 o).toInt) (wa := fun c => pWants I ow F o c (pl c)) (lf := fun c => (lf c).toInt) k k (Nat.le_refl _)
      have e2 := i2 k
      rw [svS_t h, svI_t (wa := fun c => pWants I ow F o c (pl c)) h]
      have s1 : (I 7 o - (svS I ow F o pl lf k).2).toInt = (I 7 o).toInt - (svS I ow F o pl lf k).2.toInt := i32_sub (by omega) (by omega)
      have s2 : (mnI ((svS I ow F o pl lf k).1 k) (I 7 o - (svS I ow F o pl lf k).2)).toInt = min ((svS I ow F o pl lf k).1 k).toInt ((I 7 o).toInt - (svS I ow F o pl lf k).2.toInt) := by rw [mnI_i, s1]
      refine ⟨?_, fun c => ?_⟩
      · show ((svS I ow F o pl lf k).2 + mnI _ _).toInt = _ + min _ _
        rw [i32_add (by omega) (by omega), s2, i1, e2]
      · show (upd _ k _ c).toInt = va_up _ k _ c
        by_cases ec : c = k
        · subst ec
          rw [pk_us, va_up_self, i32_sub (by omega) (by omega), s2, i1, e2]
        · rw [pk_un ec, va_up_ne _ _ ec]; exact i2 c
    · rw [svS_f h, svI_f (wa := fun c => pWants I ow F o c (pl c)) h]
      exact ⟨i1, i2⟩
theorem smS_i {lf : Nat → Int64} (hq : rg (F 5 11 o) 100000000) : ∀ k, (∀ c, c < k → F 5 14 c = nI w ∧ qFit F o c w → 0 ≤ (lf c).toInt ∧ (lf c).toInt ≤ 2000000) → (smS F o w lf k).2.toInt = (svI (F 5 11 o).toInt (fun c => F 5 14 c = nI w ∧ qFit F o c w) (fun c => (lf c).toInt) k).2 ∧ ∀ c, ((smS F o w lf k).1 c).toInt = (svI (F 5 11 o).toInt (fun c => F 5 14 c = nI w ∧ qFit F o c w) (fun c => (lf c).toInt) k).1 c := by
  intro k
  unfold rg at hq
  have e11 : (F 5 11 o).toInt64.toInt = (F 5 11 o).toInt := Int32.toInt_toInt64 _
  induction k with
  | zero => exact fun _ => ⟨i64_0, fun _ => rfl⟩
  | succ k ih =>
    intro hl
    obtain ⟨i1, i2⟩ := ih (fun c hc => hl c (by omega))
    by_cases h : F 5 14 k = nI w ∧ qFit F o k w
    · have hk := hl k (by omega) h
      obtain ⟨⟨r1, r2⟩, _⟩ := svI_rg (q := (F 5 11 o).toInt) (wa := fun c => F 5 14 c = nI w ∧ qFit F o c w) (lf := fun c => (lf c).toInt) hq.1 k (fun c hc h => (hl c (by omega) h).1)
      have e := svI_ge (q := (F 5 11 o).toInt) (wa := fun c => F 5 14 c = nI w ∧ qFit F o c w) (lf := fun c => (lf c).toInt) k k (Nat.le_refl _)
      have e2 := i2 k
      rw [smS_t h.1 h.2, svI_t (wa := fun c => F 5 14 c = nI w ∧ qFit F o c w) h]
      have s1 : ((F 5 11 o).toInt64 - (smS F o w lf k).2).toInt = (F 5 11 o).toInt - (smS F o w lf k).2.toInt := by rw [i64_sub (by omega) (by omega), e11]
      have s2 : (gtL ((smS F o w lf k).1 k) ((F 5 11 o).toInt64 - (smS F o w lf k).2)).toInt = min ((smS F o w lf k).1 k).toInt ((F 5 11 o).toInt - (smS F o w lf k).2.toInt) := by rw [gtL_i, s1]
      refine ⟨?_, fun c => ?_⟩
      · show ((smS F o w lf k).2 + gtL _ _).toInt = _ + min _ _
        rw [i64_add (by omega) (by omega), s2, i1, e2]
      · show (vp_updL _ k _ c).toInt = va_up _ k _ c
        by_cases ec : c = k
        · subst ec
          simp only [vp_updL, if_true]
          rw [va_up_self, i64_sub (by omega) (by omega), s2, i1, e2]
        · simp only [vp_updL, if_neg ec]
          rw [va_up_ne _ _ ec]; exact i2 c
    · rw [smS_f h, svI_f (wa := fun c => F 5 14 c = nI w ∧ qFit F o c w) h]
      exact ⟨i1, i2⟩
/-- what is left in the cages behind the first ranks -/
noncomputable def lfI (n : Nat → Nat) (I : Nat → Nat → Int32) (ow sq : Nat → Nat) (F : Nat → Nat → Nat → Int32) (pl : Nat → Int32) : Nat → Nat → Int
  | 0 => fun c => (lfA pl (F 3) (pwF pl) (fun _ => 0) (n 2) c).toInt
  | k + 1 => (svI (I 7 (sq k)).toInt (fun c => pWants I ow F (sq k) c (pl c)) (lfI n I ow sq F pl k) (n 2)).1
/-- what the order of a rank gets -/
noncomputable def gI (n : Nat → Nat) (I : Nat → Nat → Int32) (ow sq : Nat → Nat) (F : Nat → Nat → Nat → Int32) (pl : Nat → Int32) (k : Nat) : Int := (svI (I 7 (sq k)).toInt (fun c => pWants I ow F (sq k) c (pl c)) (lfI n I ow sq F pl k) (n 2)).2
theorem lfA_at {kl : Nat → Nat → Int32} {pw : Nat → Nat} {f : Nat → Int32} : ∀ N c, c < N → lfA pl kl pw f N c = if pl c = -1 then 0 else kl c (pw c) := by
  intro N
  induction N with
  | zero => exact fun c h => absurd h (Nat.not_lt_zero c)
  | succ N ih =>
    intro c hc
    simp only [lfA]
    by_cases e : c = N
    · rw [e, pk_us]
    · rw [pk_un e]; exact ih c (by omega)
theorem sq_inj (hD : dR n I J hm ow sq F) {i j : Nat} (hi : i < n 4) (hj : j < n 4) (e : sq i = sq j) : i = j := by
  have h := hD.2.2.2.2.2.2.2.2.2
  rcases Nat.lt_trichotomy i j with g | g | g
  · rcases h i j g hj with q | q
    · rw [e] at q; exact (Int32.lt_irrefl q).elim
    · omega
  · exact g
  · rcases h j i g hi with q | q
    · rw [e] at q; exact (Int32.lt_irrefl q).elim
    · omega
theorem lfI_rg (hD : dR n I J hm ow sq F) (ok : okT n pl) : ∀ k, k ≤ n 4 → ∀ c, c < n 2 → 0 ≤ lfI n I ow sq F pl k c ∧ lfI n I ow sq F pl k c ≤ 2000000 := by
  intro k
  induction k with
  | zero =>
    intro _ c hc
    simp only [lfI]
    rw [lfA_at _ _ hc]
    rcases okT_pw hD.1.2.1 ok c hc with h | ⟨h1, h2⟩
    · rw [if_pos h, i32_0]; omega
    · split
      · rw [i32_0]; omega
      · exact (kM_i hD hc h2).2
  | succ k ih =>
    intro hk c hc
    have i := ih (by omega)
    have hs := hD.2.2.2.2.2.2.2.1 k (by omega)
    obtain ⟨_, _, _, _, h7, _⟩ := hD.2.2.2.2.2.2.1 (sq k) hs
    have g := (svI_rg (wa := fun c => pWants I ow F (sq k) c (pl c)) (lf := lfI n I ow sq F pl k) h7.1 (n 2) (fun c hc _ => (i c hc).1)).2 c (fun h _ => (i c h).1)
    simp only [lfI]
    by_cases h : pWants I ow F (sq k) c (pl c)
    · have a := g.1 hc h
      have b := g.2
      have := i c hc
      omega
    · rw [svI_no (wa := fun c => pWants I ow F (sq k) c (pl c)) h]; exact i c hc
theorem gI_rg (hD : dR n I J hm ow sq F) (ok : okT n pl) {k : Nat} (hk : k < n 4) : 0 ≤ gI n I ow sq F pl k ∧ gI n I ow sq F pl k ≤ 100000000 := by
  have hs := hD.2.2.2.2.2.2.2.1 k hk
  obtain ⟨_, _, _, _, h7, _⟩ := hD.2.2.2.2.2.2.1 (sq k) hs
  have g := (svI_rg (wa := fun c => pWants I ow F (sq k) c (pl c)) (lf := lfI n I ow sq F pl k) h7.1 (n 2) (fun c hc _ => (lfI_rg hD ok k (by omega) c hc).1)).1
  unfold rg at h7
  unfold gI
  omega
noncomputable def gvI (n : Nat → Nat) (I : Nat → Nat → Int32) (ow sq : Nat → Nat) (F : Nat → Nat → Nat → Int32) (pl : Nat → Int32) (k : Nat) : Int := gI n I ow sq F pl k * (I 8 (sq k)).toInt
theorem gvI_rg (hD : dR n I J hm ow sq F) (ok : okT n pl) {k : Nat} (hk : k < n 4) : 0 ≤ gvI n I ow sq F pl k ∧ gvI n I ow sq F pl k ≤ 1000000000000 := by
  obtain ⟨h1, h2⟩ := gI_rg hD ok hk
  have hs := hD.2.2.2.2.2.2.2.1 k hk
  obtain ⟨_, _, _, _, _, h8, h9⟩ := hD.2.2.2.2.2.2.1 (sq k) hs
  exact mul_rg h1 h2 h8 h9
theorem sa_i (hD : dR n I J hm ow sq F) (ok : okT n pl) : ∀ k, k ≤ n 4 → (∀ c, ((saS n I ow sq F pl (lfA pl (F 3) (pwF pl) (fun _ => 0) (n 2)) (fun _ => 0) k).1 c).toInt = lfI n I ow sq F pl k c) ∧ (saS n I ow sq F pl (lfA pl (F 3) (pwF pl) (fun _ => 0) (n 2)) (fun _ => 0) k).2.2.toInt = sm (gvI n I ow sq F pl) k ∧ ∀ j, j < k → ((saS n I ow sq F pl (lfA pl (F 3) (pwF pl) (fun _ => 0) (n 2)) (fun _ => 0) k).2.1 (sq j)).toInt = gI n I ow sq F pl j := by
  have h6 := hD.1.2.2.2.2.2
  intro k
  induction k with
  | zero => exact fun _ => ⟨fun _ => rfl, i64_0, fun j h => absurd h (Nat.not_lt_zero j)⟩
  | succ k ih =>
    intro hk
    obtain ⟨i1, i2, i3⟩ := ih (by omega)
    have hs := hD.2.2.2.2.2.2.2.1 k (by omega)
    obtain ⟨_, _, _, _, h7, h8⟩ := hD.2.2.2.2.2.2.1 (sq k) hs
    have i1' : (fun c => ((saS n I ow sq F pl (lfA pl (F 3) (pwF pl) (fun _ => 0) (n 2)) (fun _ => 0) k).1 c).toInt) = lfI n I ow sq F pl k := funext i1
    obtain ⟨g1, g2⟩ := sv_i (I := I) (ow := ow) (F := F) (o := sq k) (pl := pl) (lf := (saS n I ow sq F pl (lfA pl (F 3) (pwF pl) (fun _ => 0) (n 2)) (fun _ => 0) k).1) h7 (n 2) (fun c hc => by unfold rg; rw [i1 c]; exact lfI_rg hD ok k (by omega) c hc)
    rw [i1'] at g1 g2
    have g1' : (svS I ow F (sq k) pl (saS n I ow sq F pl (lfA pl (F 3) (pwF pl) (fun _ => 0) (n 2)) (fun _ => 0) k).1 (n 2)).2.toInt = gI n I ow sq F pl k := g1
    obtain ⟨v1, v2⟩ := gvI_rg hD ok (show k < n 4 by omega)
    obtain ⟨b1, b2⟩ := sm_b (f := gvI n I ow sq F pl) (B := 1000000000000) (k := k) (fun j hj => gvI_rg hD ok (by omega))
    have ep : ((svS I ow F (sq k) pl (saS n I ow sq F pl (lfA pl (F 3) (pwF pl) (fun _ => 0) (n 2)) (fun _ => 0) k).1 (n 2)).2.toInt64 * (I 8 (sq k)).toInt64).toInt = gvI n I ow sq F pl k := by
      unfold gvI at v1 v2 ⊢
      rw [i64_mul (by rw [Int32.toInt_toInt64, Int32.toInt_toInt64, g1']; omega) (by rw [Int32.toInt_toInt64, Int32.toInt_toInt64, g1']; omega), Int32.toInt_toInt64, Int32.toInt_toInt64, g1']
    refine ⟨g2, ?_, fun j hj => ?_⟩
    · simp only [saS, sm]
      rw [i64_add (by rw [i2, ep]; omega) (by rw [i2, ep]; omega), i2, ep]
    · simp only [saS]
      by_cases e : j = k
      · rw [e, pk_us]; exact g1'
      · rw [pk_un (fun q => e (sq_inj hD (by omega) (by omega) q))]; exact i3 j (by omega)
/-- what a cage's rest is worth -/
noncomputable def rsI (n : Nat → Nat) (I : Nat → Nat → Int32) (ow sq : Nat → Nat) (F : Nat → Nat → Nat → Int32) (pl : Nat → Int32) (c : Nat) : Int := if pl c = -1 then (ckL n I F c).toInt else lfI n I ow sq F pl (n 4) c * (I 0 1).toInt
theorem rsI_rg (hD : dR n I J hm ow sq F) (ok : okT n pl) (hc : c < n 2) : 0 ≤ rsI n I ow sq F pl c ∧ rsI n I ow sq F pl c ≤ 20000000000 := by
  unfold rsI
  split
  · exact (eq_top (tk := none) hD hc (fun w h => by cases h)).2
  · obtain ⟨a, b⟩ := lfI_rg hD ok (n 4) (Nat.le_refl _) c hc
    have := hD.2.1.2.1
    exact mul_rg a b this.1 this.2
theorem wr_i (hD : dR n I J hm ow sq F) (ok : okT n pl) : (wrL n I ow sq F pl).toInt = sm (gvI n I ow sq F pl) (n 4) + sm (rsI n I ow sq F pl) (n 2) := by
  have h6 := hD.1.2.2.2.1
  have h66 := hD.1.2.2.2.2.2
  obtain ⟨s1, s2, s3⟩ := sa_i hD ok (n 4) (Nat.le_refl _)
  have pr : ∀ k, k ≤ n 2 → (prS n I F pl (saF n I ow sq F pl).1 k).toInt = sm (rsI n I ow sq F pl) k := by
    intro k
    induction k with
    | zero => exact fun _ => i64_0
    | succ k ih =>
      intro hk
      have i := ih (by omega)
      obtain ⟨b1, b2⟩ := sm_b (f := rsI n I ow sq F pl) (B := 20000000000) (k := k) (fun j hj => rsI_rg hD ok (by omega))
      obtain ⟨v1, v2⟩ := rsI_rg hD ok (show k < n 2 by omega)
      simp only [sm]
      by_cases h : pl k = -1
      · have e : rsI n I ow sq F pl k = (ckL n I F k).toInt := by unfold rsI; rw [if_pos h]
        rw [prS_t h, i64_add (by rw [i]; omega) (by rw [i]; omega), i, e]
      · have e : rsI n I ow sq F pl k = lfI n I ow sq F pl (n 4) k * (I 0 1).toInt := by unfold rsI; rw [if_neg h]
        have el : ((saF n I ow sq F pl).1 k).toInt = lfI n I ow sq F pl (n 4) k := s1 k
        have ep : (((saF n I ow sq F pl).1 k).toInt64 * (I 0 1).toInt64).toInt = rsI n I ow sq F pl k := by
          rw [i64_mul (by rw [Int32.toInt_toInt64, Int32.toInt_toInt64, el]; omega) (by rw [Int32.toInt_toInt64, Int32.toInt_toInt64, el]; omega), Int32.toInt_toInt64, Int32.toInt_toInt64, el, e]
        rw [prS_f h, i64_add (by rw [i, ep]; omega) (by rw [i, ep]; omega), i, ep]
  obtain ⟨b1, b2⟩ := sm_b (f := rsI n I ow sq F pl) (B := 20000000000) (k := n 2) (fun j hj => rsI_rg hD ok (by omega))
  obtain ⟨b3, b4⟩ := sm_b (f := gvI n I ow sq F pl) (B := 1000000000000) (k := n 4) (fun j hj => gvI_rg hD ok (by omega))
  have s2' : (saF n I ow sq F pl).2.2.toInt = sm (gvI n I ow sq F pl) (n 4) := s2
  unfold wrL
  rw [i64_add (by rw [s2', pr _ (Nat.le_refl _)]; omega) (by rw [s2', pr _ (Nat.le_refl _)]; omega), s2', pr _ (Nat.le_refl _)]
end EW
