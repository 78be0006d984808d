/-! PURE WORDS of sellAll: the worth, what orders get; neither depends on what the scratch rows held before -/
theorem upR_same2 {S : Nat → Nat → Nat → Int32} {t j : Nat} {f : Nat → Int32} (h : f = S t j) : upR S t j f = S := by subst h; exact upR_same
theorem lfA_val {pl : Nat → Int32} {kl : Nat → Nat → Int32} {pw : Nat → Nat} {f g : Nat → Int32} {N c : Nat} (hc : c < N) : lfA pl kl pw f N c = lfA pl kl pw g N c := by
  induction N with
  | zero => exact absurd hc (Nat.not_lt_zero c)
  | succ N ih =>
    simp only [lfA, upd]
    by_cases h : c = N
    · rw [if_pos h, if_pos h]
    · rw [if_neg h, if_neg h]
      exact ih (by omega)
section BASE
variable {n : Nat → Nat} {I : Nat → Nat → Int32} {ow sq : Nat → Nat} {S0 : Nat → Nat → Nat → Int32} {o N : Nat} {pl lf lf' gt gt' : Nat → Int32}
theorem svS_base (h : ∀ c, c < N → lf c = lf' c) : ∀ k, k ≤ N → (∀ c, c < N → (svS I ow S0 o pl lf k).1 c = (svS I ow S0 o pl lf' k).1 c) ∧ (svS I ow S0 o pl lf k).2 = (svS I ow S0 o pl lf' k).2 := by
  intro k
  induction k with
  | zero => exact fun _ => ⟨h, rfl⟩
  | succ k ih =>
    intro hk
    obtain ⟨h1, h2⟩ := ih (by omega)
    by_cases hp : pWants I ow S0 o k (pl k)
    · rw [svS_t (lf := lf) hp, svS_t (lf := lf') hp, h1 k (by omega), h2]
      refine ⟨fun c hc => ?_, rfl⟩
      simp only [upd]
      by_cases hq : c = k
      · rw [if_pos hq, if_pos hq]
      · rw [if_neg hq, if_neg hq]
        exact h1 c hc
    · rw [svS_f (lf := lf) hp, svS_f (lf := lf') hp]
      exact ⟨h1, h2⟩
theorem saS_base (h : ∀ c, c < n 2 → lf c = lf' c) : ∀ k, (∀ c, c < n 2 → (saS n I ow sq S0 pl lf gt k).1 c = (saS n I ow sq S0 pl lf' gt' k).1 c) ∧ (∀ q, (∃ j, j < k ∧ sq j = q) → (saS n I ow sq S0 pl lf gt k).2.1 q = (saS n I ow sq S0 pl lf' gt' k).2.1 q) ∧ (saS n I ow sq S0 pl lf gt k).2.2 = (saS n I ow sq S0 pl lf' gt' k).2.2 := by
  intro k
  induction k with
  | zero => exact ⟨h, fun q ⟨j, hj, _⟩ => absurd hj (Nat.not_lt_zero j), rfl⟩
  | succ k ih =>
    obtain ⟨h1, h2, h3⟩ := ih
    obtain ⟨g1, g2⟩ := svS_base (I := I) (ow := ow) (S0 := S0) (o := sq k) (pl := pl) h1 (n 2) (Nat.le_refl _)
    refine ⟨g1, fun q hq => ?_, ?_⟩
    · simp only [saS, upd]
      by_cases he : q = sq k
      · rw [if_pos he, if_pos he, g2]
      · rw [if_neg he, if_neg he]
        obtain ⟨j, hj, hjq⟩ := hq
        exact h2 q ⟨j, by rcases Nat.lt_or_ge j k with hl | hl; exact hl; exact absurd (by rw [← hjq, show j = k by omega]) he, hjq⟩
    · simp only [saS]
      rw [g2, h3]
theorem prS_base (h : ∀ c, c < N → lf c = lf' c) : ∀ k, k ≤ N → prS n I S0 pl lf k = prS n I S0 pl lf' k := by
  intro k
  induction k with
  | zero => exact fun _ => rfl
  | succ k ih =>
    intro hk
    simp only [prS]
    rw [ih (by omega), h k (by omega)]
end BASE
/-- a plan's week of a cage, where it has one -/
def pwF (pl : Nat → Int32) (c : Nat) : Nat := (pl c).toNatClampNeg
def okT (n : Nat → Nat) (pl : Nat → Int32) : Prop := ∀ c, c < n 2 → pl c = -1 ∨ ∃ w, w < n 0 ∧ pl c = nI w
theorem okT_pw {n : Nat → Nat} {pl : Nat → Int32} (hn : n 0 ≤ 8) (h : okT n pl) : ∀ c, c < n 2 → pl c = -1 ∨ (pl c = nI (pwF pl c) ∧ pwF pl c < n 0) := by
  intro c hc
  rcases h c hc with h1 | ⟨w, hw, h1⟩
  · exact Or.inl h1
  · refine Or.inr ?_
    have e : pwF pl c = w := by rw [pwF, h1, nI_clamp (by omega)]
    rw [e]
    exact ⟨h1, hw⟩
noncomputable def saF (n : Nat → Nat) (I : Nat → Nat → Int32) (ow sq : Nat → Nat) (S0 : Nat → Nat → Nat → Int32) (pl : Nat → Int32) : (Nat → Int32) × (Nat → Int32) × Int64 := saS n I ow sq S0 pl (lfA pl (S0 3) (pwF pl) (fun _ => 0) (n 2)) (fun _ => 0) (n 4)
/-- THE WORTH -/
noncomputable def wrL (n : Nat → Nat) (I : Nat → Nat → Int32) (ow sq : Nat → Nat) (S0 : Nat → Nat → Nat → Int32) (pl : Nat → Int32) : Int64 := (saF n I ow sq S0 pl).2.2 + prS n I S0 pl (saF n I ow sq S0 pl).1 (n 2)
theorem wr_base {n : Nat → Nat} {I : Nat → Nat → Int32} {ow sq : Nat → Nat} {S0 : Nat → Nat → Nat → Int32} {pl f g : Nat → Int32} : (saS n I ow sq S0 pl (lfA pl (S0 3) (pwF pl) f (n 2)) g (n 4)).2.2 + prS n I S0 pl (saS n I ow sq S0 pl (lfA pl (S0 3) (pwF pl) f (n 2)) g (n 4)).1 (n 2) = wrL n I ow sq S0 pl := by
  obtain ⟨h1, h2, h3⟩ := saS_base (n := n) (I := I) (ow := ow) (sq := sq) (S0 := S0) (pl := pl) (lf := lfA pl (S0 3) (pwF pl) f (n 2)) (lf' := lfA pl (S0 3) (pwF pl) (fun _ => 0) (n 2)) (gt := g) (gt' := fun _ => 0) (fun c hc => lfA_val hc) (n 4)
  rw [wrL, saF, h3, prS_base h1 (n 2) (Nat.le_refl _)]
theorem sd_base {n : Nat → Nat} {I : Nat → Nat → Int32} {ow sq : Nat → Nat} {S0 : Nat → Nat → Nat → Int32} {pl f g : Nat → Int32} {q : Nat} (hq : ∃ j, j < n 4 ∧ sq j = q) : (saS n I ow sq S0 pl (lfA pl (S0 3) (pwF pl) f (n 2)) g (n 4)).2.1 q = (saF n I ow sq S0 pl).2.1 q :=
  (saS_base (n := n) (I := I) (ow := ow) (sq := sq) (S0 := S0) (pl := pl) (lf := lfA pl (S0 3) (pwF pl) f (n 2)) (lf' := lfA pl (S0 3) (pwF pl) (fun _ => 0) (n 2)) (gt := g) (gt' := fun _ => 0) (fun c hc => lfA_val hc) (n 4)).2.1 q hq
/-- it returns v; scratch is another one, of which X holds -/
def nw_sx (v : Option Value) (wf : (Nat → Nat → Nat → Int32) → nw_N) (S0 : Nat → Nat → Nat → Int32) (ad : Nat → Nat) (X : (Nat → Nat → Nat → Int32) → Prop) : nw_P := fun o wn' ad' => o = v ∧ ad' = ad ∧ ∃ S', scr S0 S' ∧ X S' ∧ wn' = wf S'
theorem nw_sxL {x v : Int64} {wf : (Nat → Nat → Nat → Int32) → nw_N} {S0 S' : Nat → Nat → Nat → Int32} {ad : Nat → Nat} {X : (Nat → Nat → Nat → Int32) → Prop} (hs : scr S0 S') (hX : X S') (h : x = v) : nw_sx (some (.long v)) wf S0 ad X (some (.long x)) (wf S') ad := by subst h; exact ⟨rfl, rfl, S', hs, hX, rfl⟩
theorem nw_sx_out {v rv : Option Value} {wf : (Nat → Nat → Nat → Int32) → nw_N} {S0 : Nat → Nat → Nat → Int32} {ad ad' : Nat → Nat} {X : (Nat → Nat → Nat → Int32) → Prop} {wn' : nw_N} {D : va_G} {cl : List vw_C} {A : Nat → Prop} {H : Heap} (h : nw_sx v wf S0 ad X rv wn' ad') (hw : nw_W D cl A wn' ad' H) : rv = v ∧ ∃ S', scr S0 S' ∧ X S' ∧ nw_W D cl A (wf S') ad H := by
  obtain ⟨h1, h2, S', h3, h5, h4⟩ := h
  rw [h2, h4] at hw
  exact ⟨h1, S', h3, h5, hw⟩
