/-! THE SEARCH is the same -/
section ES
variable {n : Nat → Nat} {I : Nat → Nat → Int32} {J : Nat → Int32} {hm ow sq : Nat → Nat} {F : Nat → Nat → Nat → Int32} {pl pl' tr : Nat → Int32} {m w c o lim : Nat}
theorem dR_m (hD : dR n I J hm ow sq F) (y : mX) : dR n I (mJ J y) hm ow sq (mF F y) := hD
theorem kpS_pc (h : ∀ c, c < m → (pl c = nI w ↔ pl' c = nI w)) : ∀ c, c ≤ m → kpS pl (F 3) w c = kpS pl' (F 3) w c := by
  intro c
  induction c with
  | zero => exact fun _ => rfl
  | succ c ih =>
    intro hc
    by_cases e : pl c = nI w
    · rw [kpS_t e, kpS_t ((h c (by omega)).mp e), ih (by omega)]
    · rw [kpS_f e, kpS_f (fun q => e ((h c (by omega)).mpr q)), ih (by omega)]
theorem ng_pc (h : ∀ c, c < m → (pl c = nI w ↔ pl' c = nI w)) : ∀ c, c ≤ m → ngC pl (F 3) w c = ngC pl' (F 3) w c ∧ ngA pl (F 3) w (fun _ => 0) c = ngA pl' (F 3) w (fun _ => 0) c := by
  intro c
  induction c with
  | zero => exact fun _ => ⟨rfl, rfl⟩
  | succ c ih =>
    intro hc
    obtain ⟨i1, i2⟩ := ih (by omega)
    by_cases e : pl c = nI w ∧ 0 < F 3 c w
    · obtain ⟨a1, a2⟩ := ng_t (f := fun _ => 0) e.1 e.2
      obtain ⟨b1, b2⟩ := ng_t (f := fun _ => 0) ((h c (by omega)).mp e.1) e.2
      rw [a1, a2, b1, b2, i1, i2]; exact ⟨rfl, rfl⟩
    · obtain ⟨a1, a2⟩ := ng_f (f := fun _ => 0) e
      obtain ⟨b1, b2⟩ := ng_f (f := fun _ => 0) (fun q => e ⟨(h c (by omega)).mpr q.1, q.2⟩)
      rw [a1, a2, b1, b2]; exact ⟨i1, i2⟩
theorem pAll_pc (h : ∀ c, c < n 2 → (pl c = nI w ↔ pl' c = nI w)) : pAll n I hm F pl w ↔ pAll n I hm F pl' w := by
  unfold pAll
  refine and_congr ?_ (and_congr ?_ ?_)
  · unfold pClosed
    exact ⟨fun g j hj e => g j hj ((h j hj).mpr e), fun g j hj e => g j hj ((h j hj).mp e)⟩
  · unfold pPlant; rw [kpS_pc h _ (Nat.le_refl _)]
  · unfold pBoats; rw [(ng_pc h _ (Nat.le_refl _)).1, (ng_pc h _ (Nat.le_refl _)).2]
theorem pAll_none (hD : dR n I J hm ow sq F) (hw : w < n 0) (h : ∀ c, c < n 2 → pl c = -1) : pAll n I hm F pl w := by
  have h8 := hD.1.2.1
  have hne : ∀ c, c < n 2 → ¬ pl c = nI w := fun c hc e => by rw [h c hc] at e; exact absurd e.symm (nI_ne_m1 (by omega))
  refine ⟨fun j hj e => absurd e (hne j hj), ?_, Or.inl ?_⟩
  · unfold pPlant
    have z : ∀ k, k ≤ n 2 → kpS pl (F 3) w k = 0 := by
      intro k
      induction k with
      | zero => exact fun _ => rfl
      | succ k ih => intro hk; rw [kpS_f (hne k (by omega)), ih (by omega)]
    rw [z _ (Nat.le_refl _), Int32.le_iff_toInt_le, i32_0]
    exact (hD.2.2.2.2.2.1 w hw).2.1
  · have z : ∀ k, k ≤ n 2 → ngC pl (F 3) w k = 0 := by
      intro k
      induction k with
      | zero => exact fun _ => rfl
      | succ k ih => intro hk; rw [(ng_f (f := fun _ => 0) (fun q => hne k (by omega) q.1)).1, ih (by omega)]
    exact z _ (Nat.le_refl _)
theorem eq_all (hD : dR n I J hm ow sq F) (hR : pR n m pl (F 5 14)) (hm2 : m ≤ n 2) (hw : w < n 0) : pAll n I hm F pl w ↔ qAll n F hm m false w := by
  unfold pAll qAll
  rw [eq_plant hD hR hm2 hw, eq_boats hD hR hm2 hw, eq_open hD hR hm2 hw]
  exact ⟨fun ⟨a, b, c⟩ => ⟨b, c, a, fun h => Bool.noConfusion h⟩, fun ⟨a, b, c, _⟩ => ⟨c, a, b⟩⟩
theorem eq_allz (hD : dR n I J hm ow sq F) {y : mX} (hR : pR n m pl y.2.2.2.2.1) (hm2 : m ≤ n 2) (hw : w < n 0) : pAll n I hm F pl w ↔ qAll n (mF F y) hm m false w := eq_all (dR_m hD y) hR hm2 hw
theorem mtS_z {y : mX} : ∀ o, mtS (mF F y) (mJ J y) c w o = mtS F J c w o := by
  intro o
  induction o with
  | zero => rfl
  | succ o ih => simp only [mtS]; rw [ih]; rfl
theorem mtL_z {y : mX} {t : Nat} : mtL n (mJ J y) (mF F y) c t = mtL n J F c t := by
  unfold mtL
  rw [mtS_z]; rfl
theorem hp_b (hD : dR n I J hm ow sq F) : ∀ d, d ≤ n 2 → 0 ≤ (hpS n I ow F d).toInt ∧ (hpS n I ow F d).toInt ≤ d * 20000000000 := by
  have h6 := hD.1.2.2.2.1
  intro d
  induction d with
  | zero => intro _; simp only [hpS]; rw [i64_0]; omega
  | succ d ih =>
    intro hd
    obtain ⟨i1, i2⟩ := ih (by omega)
    obtain ⟨_, _, g1, g2⟩ := eq_gt hD (show n 2 - d - 1 < n 2 by omega)
    simp only [hpS]
    rw [i64_add (by omega) (by omega), Int.natCast_add, Int.add_mul]
    omega
/-- what was met so far is the same -/
def bR (n : Nat → Nat) (x : sX) (y : mX) : Prop := (y.2.2.1 = false ∧ x.2.2.1 = -1) ∨ (y.2.2.1 = true ∧ x.2.2.1 = y.2.2.2.1 ∧ 0 ≤ x.2.2.1.toInt ∧ pR n (n 2) x.2.2.2.2 y.2.2.2.2.2)
def tnF (y : mX) (c : Nat) : Nat := (y.2.2.2.2.1 c).toNatClampNeg
theorem i64_m1 : (-1 : Int64).toInt = -1 := by decide
/-- a full plan is met -/
theorem eq_meet (hD : dR n I J hm ow sq F) {x : sX} {y : mX} (hb : bR n x y) (h1 : x.1 = y.1) (h2 : x.2.1 = y.2.1) (hR : pR n (n 2) x.2.2.2.1 y.2.2.2.2.1) (hI : ∀ j, j < n 0 → pAll n I hm F x.2.2.2.1 j) :
    let x' := meF n I hm ow sq F x; let y' := meM n J hm F y
    (x'.1 = x.1 ∧ x'.2.1 = x.2.1 ∧ x'.2.2.2.1 = x.2.2.2.1) ∧ bR n x' y' ∧ (¬ x.2.2.1 < tpM n J F (tnF y) (n 2) → y' = y) := by
  have hDm := dR_m hD y
  have hRm : pR n (n 2) x.2.2.2.1 (mF F y 5 14) := hR
  have h6 := hD.1.2.2.2.1
  have ew : wrL n I ow sq F x.2.2.2.1 = vlL n (mF F y) (mJ J y) := (wrL_cg (S0 := F) (S1 := mF F y) rfl rfl).symm.trans (eq_worth hDm hRm)
  obtain ⟨w0, w1⟩ := worth_le hDm hRm
  rw [wrL_cg (S0 := F) (S1 := mF F y) rfl rfl] at w0 w1
  have et : sm (fun c => (topL n I ow (mF F y) c (tkO (x.2.2.2.1 c))).toInt) (n 2) = (tpM n J F (tnF y) (n 2)).toInt := by
    have tk : ∀ c, c < n 2 → tnF y c ≤ n 0 := fun c hc => (tw_is hD.1.2.1 hRm hc).1
    rw [(tp_b hD (n 2) (Nat.le_refl _) tk).2.2]
    refine sm_cg (fun c hc => ?_)
    obtain ⟨t1, t2, t3, t4, t5, t6⟩ := tw_is hD.1.2.1 hRm hc
    rw [(eq_top hDm hc (tkO_eq hD.1.2.1 (pR_ok hRm) hc).2).1, t6, mtL_z]
    rfl
  rw [et] at w1
  have hq : (∀ j, j < n 0 → qAll n (mF F y) hm (n 2) true j) ↔ (∀ w, w < n 0 → pHeld n I hm F x.2.2.2.1 w) := by
    refine forall_congr' (fun j => forall_congr' (fun hj => ?_))
    obtain ⟨a1, a2, a3, _⟩ := (eq_all hDm hRm (Nat.le_refl _) hj).mp (hI j hj)
    have eh := eq_held hDm hRm hj
    exact ⟨fun h => eh.mpr (h.2.2.2 rfl), fun h => ⟨a1, a2, a3, fun _ => eh.mp h⟩⟩
  have hlt : x.2.2.1 < wrL n I ow sq F x.2.2.2.1 ↔ (y.2.2.1 = false ∨ y.2.2.2.1 < vlL n (mF F y) (mJ J y)) := by
    rcases hb with ⟨b1, b2⟩ | ⟨b1, b2, b3, b4⟩
    · rw [b1, b2]
      refine ⟨fun _ => Or.inl rfl, fun _ => ?_⟩
      rw [Int64.lt_iff_toInt_lt, i64_m1]; omega
    · rw [b1, b2, ew]
      exact ⟨Or.inr, fun h => h.elim (fun h => Bool.noConfusion h) id⟩
  intro x' y'
  by_cases g : (∀ w, w < n 0 → pHeld n I hm F x.2.2.2.1 w) ∧ x.2.2.1 < wrL n I ow sq F x.2.2.2.1
  · have g' : (∀ j, j < n 0 → qAll n (mF F y) hm (n 2) true j) ∧ (y.2.2.1 = false ∨ y.2.2.2.1 < vlL n (mF F y) (mJ J y)) := ⟨hq.mpr g.1, hlt.mp g.2⟩
    have ex : x' = (x.1, x.2.1, wrL n I ow sq F x.2.2.2.1, x.2.2.2.1, va_cpy x.2.2.2.1 x.2.2.2.2 0 0 6) := pif_t g
    have ey : y' = (y.1, y.2.1, true, vlL n (mF F y) (mJ J y), y.2.2.2.2.1, cpR y.2.2.2.2.1 y.2.2.2.2.2 (n 2)) := pif_t g'
    rw [ex, ey]
    refine ⟨⟨rfl, rfl, rfl⟩, Or.inr ⟨rfl, ew, w0, ⟨fun c hc => ?_, fun c h1 h2 => by omega⟩⟩, fun h => ?_⟩
    · have e1 : va_cpy x.2.2.2.1 x.2.2.2.2 0 0 6 c = x.2.2.2.1 c := cpy_lo (by omega)
      have e2 : cpR y.2.2.2.2.1 y.2.2.2.2.2 (n 2) c = y.2.2.2.2.1 c := if_pos hc
      show (va_cpy _ _ 0 0 6 c = _ ∧ cpR _ _ _ c = _) ∨ ∃ w, _ ∧ va_cpy _ _ 0 0 6 c = _ ∧ cpR _ _ _ c = _
      rw [e1, e2]
      exact hR.1 c hc
    · have := g.2
      rw [Int64.lt_iff_toInt_lt] at h this
      omega
  · have g' : ¬ ((∀ j, j < n 0 → qAll n (mF F y) hm (n 2) true j) ∧ (y.2.2.1 = false ∨ y.2.2.2.1 < vlL n (mF F y) (mJ J y))) := fun h => g ⟨hq.mp h.1, hlt.mpr h.2⟩
    have ex : x' = x := pif_f g
    have ey : y' = y := pif_f g'
    rw [ex, ey]
    exact ⟨⟨rfl, rfl, rfl⟩, hb, fun _ => rfl⟩
/-- both searches stand at the same place, the first c cages settled -/
def sR (n : Nat → Nat) (lim : Nat) (x : sX) (y : mX) : Prop := x.1 = y.1 ∧ x.2.1 = y.2.1 ∧ x.1 ≤ lim ∧ bR n x y
/-- what a piece of both searches leaves of the first c cages, where it was not cut off -/
def kR (n : Nat → Nat) (c : Nat) (x x' : sX) (y y' : mX) : Prop := x'.2.1 = false → (∀ j, j < c → x'.2.2.2.1 j = x.2.2.2.1 j) ∧ (∀ j, c ≤ j → j < n 2 → x'.2.2.2.1 j = -1) ∧ ∀ j, j < c → y'.2.2.2.2.1 j = y.2.2.2.2.1 j
def goR (n : Nat → Nat) (I : Nat → Nat → Int32) (J : Nat → Int32) (hm ow : Nat → Nat) (F : Nat → Nat → Nat → Int32) (lim c : Nat) (br : Int64 → sX → sX) (nd : mX → mX) : Prop :=
  ∀ (tops : Int64) (x : sX) (y : mX), sR n lim x y → x.2.1 = false → pR n c x.2.2.2.1 y.2.2.2.2.1 → (∀ j, j < n 0 → pAll n I hm F x.2.2.2.1 j) → tops = tpM n J F (tnF y) c →
    sR n lim (pif (x.2.2.1 < tops + hpS n I ow F (n 2 - c)) (br tops x) x) (nd y) ∧ kR n c x (pif (x.2.2.1 < tops + hpS n I ow F (n 2 - c)) (br tops x) x) y (nd y)
theorem go_meet (hD : dR n I J hm ow sq F) : goR n I J hm ow F lim (n 2) (fun t x => meF n I hm ow sq F x) (meM n J hm F) := by
  intro tops x y hs hf hR hI ht
  obtain ⟨s1, s2, s3, s4⟩ := hs
  obtain ⟨⟨e1, e2, e3⟩, e4, e5⟩ := eq_meet hD s4 s1 s2 hR hI
  have z : hpS n I ow F (n 2 - n 2) = 0 := by rw [Nat.sub_self]; rfl
  obtain ⟨m1, m2, m3⟩ := meM_k (n := n) (J := J) (hm := hm) (F := F) (y := y)
  rw [z, Int64.add_zero]
  by_cases g : x.2.2.1 < tops
  · rw [pif_t g]
    refine ⟨⟨by rw [e1, m1]; exact s1, by rw [e2, m2]; exact s2, by rw [e1]; exact s3, e4⟩, fun _ => ⟨fun j _ => by rw [e3], fun j h1 h2 => by omega, fun j _ => by rw [m3]⟩⟩
  · rw [pif_f g, e5 (by rw [← ht]; exact g)]
    exact ⟨⟨s1, s2, s3, s4⟩, fun _ => ⟨fun _ _ => rfl, fun j h1 h2 => by omega, fun _ _ => rfl⟩⟩
theorem tp_tn {y y' : mX} : ∀ k, (∀ j, j < k → y'.2.2.2.2.1 j = y.2.2.2.2.1 j) → tpM n J F (tnF y') k = tpM n J F (tnF y) k := by
  intro k h
  exact tp_cg (fun _ _ => rfl) k (fun c hc => by unfold tnF; rw [h c hc])
end ES
