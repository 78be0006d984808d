/-! PURE WORDS of the model's search. A state: nodes, whether it ended early, hasBest, bestWorth, tried, best. -/
abbrev mX : Type := Nat × Bool × Bool × Int64 × (Nat → Int32) × (Nat → Int32)
def mF (F : Nat → Nat → Nat → Int32) (y : mX) : Nat → Nat → Nat → Int32 := upR (upR F 5 14 y.2.2.2.2.1) 5 15 y.2.2.2.2.2
def mJ (J : Nat → Int32) (y : mX) : Nat → Int32 := va_up (va_up J 4 (nI y.1)) 5 (bI y.2.2.1)
/-- the first m of one row laid over another -/
def cpR (f g : Nat → Int32) (m : Nat) : Nat → Int32 := fun i => if i < m then f i else g i
theorem cpR_0 {f g : Nat → Int32} : cpR f g 0 = g := by funext i; simp [cpR]
theorem cpR_s {f g : Nat → Int32} {m : Nat} : upd (cpR f g m) m (f m) = cpR f g (m + 1) := by
  funext i
  by_cases h : i = m
  · subst h
    simp [upd, cpR]
  · simp only [upd, cpR, if_neg h]
    by_cases h2 : i < m
    · rw [if_pos h2, if_pos (by omega)]
    · rw [if_neg h2, if_neg (by omega)]
theorem scm_14 {F S : Nat → Nat → Nat → Int32} {tr be : Nat → Int32} {c : Nat} {v : Int32} (h : scm (upR (upR F 5 14 tr) 5 15 be) S) : scm (upR (upR F 5 14 (upd tr c v)) 5 15 be) (upR S 5 14 (upd (S 5 14) c v)) := fun t j hj => by
  have e9 : S 5 14 = tr := h 5 14 (by omega)
  by_cases h1 : t = 5 ∧ j = 14
  · obtain ⟨rfl, rfl⟩ := h1
    rw [upR_self, e9, upR_ne (by omega), upR_self]
  · rw [upR_ne h1, h t j hj]
    by_cases h2 : t = 5 ∧ j = 15
    · obtain ⟨rfl, rfl⟩ := h2
      rw [upR_self, upR_self]
    · rw [upR_ne h2, upR_ne h1, upR_ne h2, upR_ne h1]
theorem scm_15 {F S : Nat → Nat → Nat → Int32} {tr be : Nat → Int32} {c : Nat} {v : Int32} (h : scm (upR (upR F 5 14 tr) 5 15 be) S) : scm (upR (upR F 5 14 tr) 5 15 (upd be c v)) (upR S 5 15 (upd (S 5 15) c v)) := fun t j hj => by
  have e9 : S 5 15 = be := h 5 15 (by omega)
  by_cases h1 : t = 5 ∧ j = 15
  · obtain ⟨rfl, rfl⟩ := h1
    rw [upR_self, e9, upR_self]
  · rw [upR_ne h1, h t j hj, upR_ne h1, upR_ne h1]
section EXM
variable {D : va_G} {A : Nat → Prop} {ad : Nat → Nat} {tC : Nat → ClassId} {n : Nat → Nat} {J : Nat → Int32} {bw : Int64} {L : Nat → Nat → Int64} {bX : Nat → Option va_E} {aY : Nat → Nat → Option (ClassId × Nat)} {F S : Nat → Nat → Nat → Int32} {tr be : Nat → Int32} {c : Nat} {v : Int32} {H : Heap}
theorem ex_14 (h : scm (upR (upR F 5 14 tr) 5 15 be) S) (hw : nw_W D hpC A (mW ad tC n J bw L bX aY (upR S 5 14 (upd (S 5 14) c v))) ad H) : ∃ S', scm (upR (upR F 5 14 (upd tr c v)) 5 15 be) S' ∧ nw_W D hpC A (mW ad tC n J bw L bX aY S') ad H := ⟨_, scm_14 h, hw⟩
theorem ex_15 (h : scm (upR (upR F 5 14 tr) 5 15 be) S) (hw : nw_W D hpC A (mW ad tC n J bw L bX aY (upR S 5 15 (upd (S 5 15) c v))) ad H) : ∃ S', scm (upR (upR F 5 14 tr) 5 15 (upd be c v)) S' ∧ nw_W D hpC A (mW ad tC n J bw L bX aY S') ad H := ⟨_, scm_15 h, hw⟩
end EXM
theorem kup4 {J : Nat → Int32} {a b v : Int32} : va_up (va_up (va_up J 4 a) 5 b) 4 v = va_up (va_up J 4 v) 5 b := by
  funext j
  simp only [va_up]
  by_cases h : j = 4
  · subst h; simp
  · simp [h]
theorem kup5 {J : Nat → Int32} {a b v : Int32} : va_up (va_up (va_up J 4 a) 5 b) 5 v = va_up (va_up J 4 a) 5 v := by
  funext j
  simp only [va_up]
  by_cases h : j = 5
  · subst h; simp
  · simp [h]
section SM
variable (n : Nat → Nat) (J : Nat → Int32) (hm : Nat → Nat) (F : Nat → Nat → Nat → Int32) (lim : Nat)
noncomputable def meM (y : mX) : mX := pif ((∀ j, j < n 0 → qAll n (mF F y) hm (n 2) true j) ∧ (y.2.2.1 = false ∨ y.2.2.2.1 < vlL n (mF F y) (mJ J y))) (y.1, y.2.1, true, vlL n (mF F y) (mJ J y), y.2.2.2.2.1, cpR y.2.2.2.2.1 y.2.2.2.2.2 (n 2)) y
def stM (y : mX) (c : Nat) (v : Int32) : mX := (y.1, y.2.1, y.2.2.1, y.2.2.2.1, upd y.2.2.2.2.1 c v, y.2.2.2.2.2)
noncomputable def hoM (y : mX) (many : Nat) : Int64 := moS n (mJ J y) (mF F y) (fun c => (y.2.2.2.2.1 c).toNatClampNeg) many (n 2)
def kpM (y : mX) (c : Nat) : Prop := ∀ j, j < n 0 → qAll n (mF F y) hm (c + 1) false j
noncomputable def wlM (nd : mX → mX) (c : Nat) (y : mX) : Nat → mX
  | 0 => y
  | t + 1 => if (wlM nd c y t).2.1 = true then wlM nd c y t else pif (kpM n hm F (stM (wlM nd c y t) c (nI t)) c) (if (wlM nd c y t).1 = lim then ((wlM nd c y t).1, true, (stM (wlM nd c y t) c (nI t)).2.2) else nd ((wlM nd c y t).1 + 1, (stM (wlM nd c y t) c (nI t)).2)) (stM (wlM nd c y t) c (nI t))
def fiM (c : Nat) (z : mX) : mX := if z.2.1 = true then z else stM z c (nI (n 0 + 1))
def boM (z : mX) (c : Nat) : Prop := z.2.2.1 = false ∨ z.2.2.2.1 < hoM n J F z (c + 1)
noncomputable def brM : Nat → Nat → mX → mX
  | 0, c, y => fiM n c (wlM n hm F lim (meM n J hm F) c y (n 0 + 1))
  | d + 1, c, y => fiM n c (wlM n hm F lim (fun z => pif (boM n J F z c) (brM d (c + 1) (stM z (c + 1) (-1))) z) c y (n 0 + 1))
end SM
section SM2
variable {n : Nat → Nat} {J : Nat → Int32} {hm : Nat → Nat} {F : Nat → Nat → Nat → Int32} {lim : Nat} {nd : mX → mX} {c : Nat} {y : mX}
theorem wlM_sp {t : Nat} (h : (wlM n hm F lim nd c y t).2.1 = true) : ∀ k, wlM n hm F lim nd c y (t + k) = wlM n hm F lim nd c y t := by
  intro k
  induction k with
  | zero => rfl
  | succ k ih =>
    show wlM n hm F lim nd c y (t + k + 1) = _
    simp only [wlM]
    rw [ih, if_pos h]
theorem wlM_n {t : Nat} (h : ¬ (wlM n hm F lim nd c y t).2.1 = true) (h2 : ¬ kpM n hm F (stM (wlM n hm F lim nd c y t) c (nI t)) c) : wlM n hm F lim nd c y (t + 1) = stM (wlM n hm F lim nd c y t) c (nI t) := by
  simp only [wlM]; rw [if_neg h, pif_f h2]
theorem wlM_l {t : Nat} (h : ¬ (wlM n hm F lim nd c y t).2.1 = true) (h2 : kpM n hm F (stM (wlM n hm F lim nd c y t) c (nI t)) c) (h3 : (wlM n hm F lim nd c y t).1 = lim) : wlM n hm F lim nd c y (t + 1) = ((wlM n hm F lim nd c y t).1, true, (stM (wlM n hm F lim nd c y t) c (nI t)).2.2) := by
  simp only [wlM]; rw [if_neg h, pif_t h2, if_pos h3]
theorem wlM_y {t : Nat} (h : ¬ (wlM n hm F lim nd c y t).2.1 = true) (h2 : kpM n hm F (stM (wlM n hm F lim nd c y t) c (nI t)) c) (h3 : ¬ (wlM n hm F lim nd c y t).1 = lim) : wlM n hm F lim nd c y (t + 1) = nd ((wlM n hm F lim nd c y t).1 + 1, (stM (wlM n hm F lim nd c y t) c (nI t)).2) := by
  simp only [wlM]; rw [if_neg h, pif_t h2, if_neg h3]
theorem meM_k : (meM n J hm F y).1 = y.1 ∧ (meM n J hm F y).2.1 = y.2.1 ∧ (meM n J hm F y).2.2.2.2.1 = y.2.2.2.2.1 := by
  unfold meM
  by_cases hp : (∀ j, j < n 0 → qAll n (mF F y) hm (n 2) true j) ∧ (y.2.2.1 = false ∨ y.2.2.2.1 < vlL n (mF F y) (mJ J y))
  · rw [pif_t hp]; exact ⟨rfl, rfl, rfl⟩
  · rw [pif_f hp]; exact ⟨rfl, rfl, rfl⟩
theorem stM_tr {j : Nat} {v : Int32} (h : j ≠ c) : (stM y c v).2.2.2.2.1 j = y.2.2.2.2.1 j := by simp only [stM, upd]; rw [if_neg h]
theorem stM_tc {v : Int32} : (stM y c v).2.2.2.2.1 c = v := by simp [stM, upd]
/-- a node leaves the count below the limit, and the cages before alone -/
def ndK (lim c : Nat) (nd : mX → mX) : Prop := ∀ z : mX, z.1 ≤ lim → (nd z).1 ≤ lim ∧ ∀ j, j ≤ c → (nd z).2.2.2.2.1 j = z.2.2.2.2.1 j
theorem wlM_k (hn : ndK lim c nd) (hy : y.1 ≤ lim) (hc : y.2.2.2.2.1 c = -1) : ∀ t, (wlM n hm F lim nd c y t).1 ≤ lim ∧ (∀ j, j < c → (wlM n hm F lim nd c y t).2.2.2.2.1 j = y.2.2.2.2.1 j) ∧ ((wlM n hm F lim nd c y t).2.1 = false → (wlM n hm F lim nd c y t).2.2.2.2.1 c = nI t - 1) := by
  intro t
  induction t with
  | zero => exact ⟨hy, fun _ _ => rfl, fun _ => by show y.2.2.2.2.1 c = _; rw [hc]; decide⟩
  | succ t ih =>
    obtain ⟨i1, i2, i3⟩ := ih
    have hs : ∀ j, j < c → (stM (wlM n hm F lim nd c y t) c (nI t)).2.2.2.2.1 j = y.2.2.2.2.1 j := fun j hj => by rw [stM_tr (by omega)]; exact i2 j hj
    have e1 : nI (t + 1) - 1 = nI t := nI_pred t
    by_cases h1 : (wlM n hm F lim nd c y t).2.1 = true
    · rw [wlM_sp h1 1]
      exact ⟨i1, i2, fun h => absurd (h1.symm.trans h) (by decide)⟩
    · by_cases h2 : kpM n hm F (stM (wlM n hm F lim nd c y t) c (nI t)) c
      · by_cases h3 : (wlM n hm F lim nd c y t).1 = lim
        · rw [wlM_l h1 h2 h3]
          exact ⟨i1, hs, fun h => Bool.noConfusion h⟩
        · rw [wlM_y h1 h2 h3]
          obtain ⟨n1, n2⟩ := hn ((wlM n hm F lim nd c y t).1 + 1, (stM (wlM n hm F lim nd c y t) c (nI t)).2) (show (wlM n hm F lim nd c y t).1 + 1 ≤ lim by omega)
          exact ⟨n1, fun j hj => (n2 j (by omega)).trans (hs j hj), fun _ => by rw [n2 c (Nat.le_refl _), e1]; exact stM_tc⟩
      · rw [wlM_n h1 h2]
        exact ⟨i1, hs, fun _ => by rw [e1]; exact stM_tc⟩
theorem fiM_k {z : mX} (h1 : z.1 ≤ lim) (h2 : ∀ j, j < c → z.2.2.2.2.1 j = y.2.2.2.2.1 j) : (fiM n c z).1 ≤ lim ∧ ∀ j, j < c → (fiM n c z).2.2.2.2.1 j = y.2.2.2.2.1 j := by
  unfold fiM
  split
  · exact ⟨h1, h2⟩
  · exact ⟨h1, fun j hj => (stM_tr (by omega)).trans (h2 j hj)⟩
theorem meM_nd : ndK lim c (meM n J hm F) := fun z hz => ⟨by rw [meM_k.1]; exact hz, fun j _ => by rw [meM_k.2.2]⟩
theorem brM_k : ∀ (d c : Nat) (y : mX), y.1 ≤ lim → y.2.2.2.2.1 c = -1 → (brM n J hm F lim d c y).1 ≤ lim ∧ ∀ j, j < c → (brM n J hm F lim d c y).2.2.2.2.1 j = y.2.2.2.2.1 j := by
  intro d
  induction d with
  | zero =>
    intro c y hy hc
    obtain ⟨k1, k2, -⟩ := wlM_k (n := n) (hm := hm) (F := F) (meM_nd (J := J) (n := n) (hm := hm) (F := F)) hy hc (n 0 + 1)
    exact fiM_k k1 k2
  | succ d ih =>
    intro c y hy hc
    have hnd : ndK lim c (fun z => pif (boM n J F z c) (brM n J hm F lim d (c + 1) (stM z (c + 1) (-1))) z) := fun z hz => by
      show (pif (boM n J F z c) (brM n J hm F lim d (c + 1) (stM z (c + 1) (-1))) z).1 ≤ lim ∧ ∀ j, j ≤ c → (pif (boM n J F z c) (brM n J hm F lim d (c + 1) (stM z (c + 1) (-1))) z).2.2.2.2.1 j = z.2.2.2.2.1 j
      by_cases hb : boM n J F z c
      · rw [pif_t hb]
        obtain ⟨a, b⟩ := ih (c + 1) (stM z (c + 1) (-1)) hz stM_tc
        exact ⟨a, fun j hj => (b j (by omega)).trans (stM_tr (by omega))⟩
      · rw [pif_f hb]
        exact ⟨hz, fun _ _ => rfl⟩
    obtain ⟨k1, k2, -⟩ := wlM_k (n := n) (hm := hm) (F := F) hnd hy hc (n 0 + 1)
    exact fiM_k k1 k2
end SM2
/-- it returns; the model's search is in the state x -/
def nw_mz (v : Option Value) (ad : Nat → Nat) (tC : Nat → ClassId) (n : Nat → Nat) (J : Nat → Int32) (bX : Nat → Option va_E) (aY : Nat → Nat → Option (ClassId × Nat)) (F : Nat → Nat → Nat → Int32) (x : mX) : nw_P := fun o wn' ad' => o = v ∧ ad' = ad ∧ ∃ L' S', scm (mF F x) S' ∧ wn' = mW ad tC n (mJ J x) x.2.2.2.1 L' bX aY S'
section NSX
variable {v rv : Option Value} {ad ad' : Nat → Nat} {tC : Nat → ClassId} {n : Nat → Nat} {J : Nat → Int32} {bX : Nat → Option va_E} {aY : Nat → Nat → Option (ClassId × Nat)} {F S : Nat → Nat → Nat → Int32} {L : Nat → Nat → Int64} {x y : mX} {wn' : nw_N} {D : va_G} {A : Nat → Prop} {H : Heap}
theorem nw_mz_in (e : x = y) (hv : rv = v) (h : scm (mF F x) S) : nw_mz v ad tC n J bX aY F y rv (mW ad tC n (mJ J x) x.2.2.2.1 L bX aY S) ad := by subst e; exact ⟨hv, rfl, L, S, h, rfl⟩
theorem nw_mz_out (h : nw_mz v ad tC n J bX aY F x rv wn' ad') (hw : nw_W D hpC A wn' ad' H) : rv = v ∧ ∃ L' S', scm (mF F x) S' ∧ nw_W D hpC A (mW ad tC n (mJ J x) x.2.2.2.1 L' bX aY S') ad H := by
  obtain ⟨h1, h2, L', S', h3, h4⟩ := h
  rw [h2, h4] at hw
  exact ⟨h1, L', S', h3, hw⟩
end NSX
