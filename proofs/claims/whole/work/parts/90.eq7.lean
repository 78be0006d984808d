/-! the branching -/
section EN
variable {n : Nat → Nat} {I : Nat → Nat → Int32} {J : Nat → Int32} {hm ow sq : Nat → Nat} {F : Nat → Nat → Nat → Int32} {pl pl' tr : Nat → Int32} {m w c o lim : Nat} {br : Int64 → sX → sX} {nd : mX → mX}
theorem pif_if {α : Type} {p : Prop} [Decidable p] {a b : α} : pif p a b = if p then a else b := by
  by_cases h : p
  · rw [pif_t h, if_pos h]
  · rw [pif_f h, if_neg h]
theorem go_node (hD : dR n I J hm ow sq F) (hg : goR n I J hm ow F lim (c + 1) br nd) (hc : c < n 2) {tops : Int64} {x : sX} {y : mX} (hs : sR n lim x y) (hf : x.2.1 = false) (hR : pR n (c + 1) x.2.2.2.1 y.2.2.2.2.1) (hI : ∀ j, j < n 0 → pAll n I hm F x.2.2.2.1 j) (ht : tops = tpM n J F (tnF y) c) :
    sR n lim (mkF n I ow F lim br c tops x) (if y.1 = lim then (y.1, true, y.2.2) else nd (y.1 + 1, y.2)) ∧ kR n (c + 1) x (mkF n I ow F lim br c tops x) y (if y.1 = lim then (y.1, true, y.2.2) else nd (y.1 + 1, y.2)) := by
  obtain ⟨s1, s2, s3, s4⟩ := hs
  unfold mkF
  by_cases h : y.1 = lim
  · rw [if_pos h, if_pos (by omega)]
    exact ⟨⟨s1, rfl, s3, s4⟩, fun q => Bool.noConfusion q⟩
  · rw [if_neg h, if_neg (by omega)]
    have hRm : pR n (c + 1) x.2.2.2.1 (mF F y 5 14) := hR
    obtain ⟨t1, t2, t3, t4, t5, t6⟩ := tw_is hD.1.2.1 hRm (Nat.lt_succ_self c)
    have t6' : tkN n (tkO (x.2.2.2.1 c)) = tnF y c := t6
    have hk : ∀ w, tkO (x.2.2.2.1 c) = some w → w < n 0 := fun w hw => by
      rw [hw] at t6'
      have e : w = tnF y c := t6'
      rcases hR.1 c (Nat.lt_succ_self c) with ⟨a, _⟩ | ⟨v, hv, a, _⟩
      · rw [a] at hw; simp [tkO] at hw
      · have h8 := hD.1.2.1
        rw [a] at hw
        simp only [tkO] at hw
        rw [if_neg (nI_ne_m1 (by omega)), nI_clamp (by omega)] at hw
        cases hw; exact hv
    have et : tops + topL n I ow F c (tkO (x.2.2.2.1 c)) = tpM n J F (tnF y) (c + 1) := by
      rw [(eq_top hD hc hk).1, t6', ht]; rfl
    have g := hg (tops + topL n I ow F c (tkO (x.2.2.2.1 c))) (x.1 + 1, x.2) (y.1 + 1, y.2) ⟨by show x.1 + 1 = y.1 + 1; omega, s2, by show x.1 + 1 ≤ lim; omega, s4⟩ hf hR hI (et.trans (tp_tn (c + 1) (fun _ _ => rfl)))
    rw [pif_if] at g
    exact g
theorem go_loop (hD : dR n I J hm ow sq F) (hg : goR n I J hm ow F lim (c + 1) br nd) (hc : c < n 2) {tops : Int64} {x : sX} {y : mX} (hs : sR n lim x y) (hf : x.2.1 = false) (hR : pR n c x.2.2.2.1 y.2.2.2.2.1) (hI : ∀ j, j < n 0 → pAll n I hm F x.2.2.2.1 j) (ht : tops = tpM n J F (tnF y) c) :
    ∀ t, t ≤ n 0 → sR n lim (wlF n I hm ow F lim br c tops x t) (wlM n hm F lim nd c y t) ∧ ((wlF n I hm ow F lim br c tops x t).2.1 = false → (∀ j, j < c → (wlF n I hm ow F lim br c tops x t).2.2.2.1 j = x.2.2.2.1 j) ∧ (∀ j, c < j → j < n 2 → (wlF n I hm ow F lim br c tops x t).2.2.2.1 j = -1) ∧ ∀ j, j < c → (wlM n hm F lim nd c y t).2.2.2.2.1 j = y.2.2.2.2.1 j) := by
  have h8 := hD.1.2.1
  intro t
  induction t with
  | zero => exact fun _ => ⟨hs, fun _ => ⟨fun _ _ => rfl, fun j h1 h2 => hR.2 j (by omega) h2, fun _ _ => rfl⟩⟩
  | succ t ih =>
    intro htn
    obtain ⟨i1, i2⟩ := ih (by omega)
    generalize eX : wlF n I hm ow F lim br c tops x t = X at *
    generalize eY : wlM n hm F lim nd c y t = Y at *
    have eX1 : wlF n I hm ow F lim br c tops x (t + 1) = if X.2.1 = true then X else pif (pAll n I hm F (upd X.2.2.2.1 c (nI t)) t) (mkF n I ow F lim br c tops (stT X c (nI t))) (stT X c (nI t)) := by rw [← eX]; rfl
    have eY1 : wlM n hm F lim nd c y (t + 1) = if Y.2.1 = true then Y else pif (kpM n hm F (stM Y c (nI t)) c) (if Y.1 = lim then (Y.1, true, (stM Y c (nI t)).2.2) else nd (Y.1 + 1, (stM Y c (nI t)).2)) (stM Y c (nI t)) := by rw [← eY]; rfl
    rw [eX1, eY1]
    by_cases hsp : X.2.1 = true
    · rw [if_pos hsp, if_pos (by rw [← i1.2.1]; exact hsp)]
      exact ⟨i1, i2⟩
    · rw [if_neg hsp, if_neg (by rw [← i1.2.1]; exact hsp)]
      have hsf : X.2.1 = false := by simpa using hsp
      obtain ⟨k1, k2, k3⟩ := i2 hsf
      have pc : ∀ v, upd X.2.2.2.1 c v c = v := fun v => pk_us
      have pn : ∀ v j, j ≠ c → upd X.2.2.2.1 c v j = X.2.2.2.1 j := fun v j h => pk_un h
      have hR1 : pR n (c + 1) (stT X c (nI t)).2.2.2.1 (stM Y c (nI t)).2.2.2.2.1 := by
        refine ⟨fun j hj => ?_, fun j h1 h2 => ?_⟩
        · by_cases e : j = c
          · subst e
            exact Or.inr ⟨t, by omega, pk_us, pk_us⟩
          · have a1 : (stT X c (nI t)).2.2.2.1 j = x.2.2.2.1 j := (pk_un e).trans (k1 j (by omega))
            have a2 : (stM Y c (nI t)).2.2.2.2.1 j = y.2.2.2.2.1 j := (pk_un e).trans (k3 j (by omega))
            rw [a1, a2]
            exact hR.1 j (by omega)
        · have a1 : (stT X c (nI t)).2.2.2.1 j = X.2.2.2.1 j := pk_un (by omega)
          rw [a1]; exact k2 j (by omega) h2
      have hoth : ∀ j, j < n 0 → j ≠ t → pAll n I hm F (stT X c (nI t)).2.2.2.1 j := fun j hj hjt => by
        refine (pAll_pc (fun c' hc' => ?_)).mp (hI j hj)
        by_cases e : c' = c
        · subst e
          have a1 : (stT X c' (nI t)).2.2.2.1 c' = nI t := pk_us
          rw [a1, hR.2 c' (Nat.le_refl _) hc', nI_eq (by omega) (by omega)]
          exact ⟨fun q => absurd q.symm (nI_ne_m1 (by omega)), fun q => absurd q.symm hjt⟩
        · have a1 : (stT X c (nI t)).2.2.2.1 c' = X.2.2.2.1 c' := pk_un e
          rw [a1]
          by_cases l : c' < c
          · rw [k1 c' l]
          · rw [k2 c' (by omega) hc', hR.2 c' (by omega) hc']
      have hkp : kpM n hm F (stM Y c (nI t)) c ↔ pAll n I hm F (stT X c (nI t)).2.2.2.1 t := by
        have e : ∀ j, j < n 0 → (pAll n I hm F (stT X c (nI t)).2.2.2.1 j ↔ qAll n (mF F (stM Y c (nI t))) hm (c + 1) false j) := fun j hj => eq_allz hD hR1 (by omega) hj
        constructor
        · intro h; exact (e t (by omega)).mpr (h t (by omega))
        · intro h j hj
          refine (e j hj).mp ?_
          by_cases q : j = t
          · rw [q]; exact h
          · exact hoth j hj q
      have hs1 : sR n lim (stT X c (nI t)) (stM Y c (nI t)) := i1
      by_cases hp : pAll n I hm F (stT X c (nI t)).2.2.2.1 t
      · rw [pif_t (show pAll n I hm F (upd X.2.2.2.1 c (nI t)) t from hp), pif_t (hkp.mpr hp)]
        obtain ⟨g1, g2⟩ := go_node hD hg hc hs1 hsf hR1 (fun j hj => by
          by_cases q : j = t
          · rw [q]; exact hp
          · exact hoth j hj q) (ht.trans (tp_tn c (fun j hj => ((pk_un (show j ≠ c by omega)).trans (k3 j hj)).symm)))
        refine ⟨g1, fun q => ?_⟩
        obtain ⟨r1, r2, r3⟩ := g2 q
        refine ⟨fun j hj => (r1 j (by omega)).trans ((pk_un (show j ≠ c by omega)).trans (k1 j hj)), fun j h1 h2 => r2 j (by omega) h2, fun j hj => (r3 j (by omega)).trans ((pk_un (show j ≠ c by omega)).trans (k3 j hj))⟩
      · rw [pif_f (show ¬ pAll n I hm F (upd X.2.2.2.1 c (nI t)) t from hp), pif_f (fun q => hp (hkp.mp q))]
        refine ⟨hs1, fun q => ⟨fun j hj => (pk_un (show j ≠ c by omega)).trans (k1 j hj), fun j h1 h2 => (pk_un (show j ≠ c by omega)).trans (k2 j h1 h2), fun j hj => (pk_un (show j ≠ c by omega)).trans (k3 j hj)⟩⟩
/-- a cage's branch, from its nodes -/
theorem go_cage (hD : dR n I J hm ow sq F) (hg : goR n I J hm ow F lim (c + 1) br nd) (hc : c < n 2) {tops : Int64} {x : sX} {y : mX} (hs : sR n lim x y) (hf : x.2.1 = false) (hR : pR n c x.2.2.2.1 y.2.2.2.2.1) (hI : ∀ j, j < n 0 → pAll n I hm F x.2.2.2.1 j) (ht : tops = tpM n J F (tnF y) c) :
    sR n lim (if (wlF n I hm ow F lim br c tops x (n 0)).2.1 = true then stT (wlF n I hm ow F lim br c tops x (n 0)) c (-1) else mkF n I ow F lim br c tops (stT (wlF n I hm ow F lim br c tops x (n 0)) c (-1))) (fiM n c (wlM n hm F lim nd c y (n 0 + 1))) ∧
    kR n c x (if (wlF n I hm ow F lim br c tops x (n 0)).2.1 = true then stT (wlF n I hm ow F lim br c tops x (n 0)) c (-1) else mkF n I ow F lim br c tops (stT (wlF n I hm ow F lim br c tops x (n 0)) c (-1))) y (fiM n c (wlM n hm F lim nd c y (n 0 + 1))) := by
  have h8 := hD.1.2.1
  obtain ⟨i1, i2⟩ := go_loop hD hg hc hs hf hR hI ht (n 0) (Nat.le_refl _)
  generalize eX : wlF n I hm ow F lim br c tops x (n 0) = X at *
  generalize eY : wlM n hm F lim nd c y (n 0) = Y at *
  have eY1 : wlM n hm F lim nd c y (n 0 + 1) = if Y.2.1 = true then Y else pif (kpM n hm F (stM Y c (nI (n 0))) c) (if Y.1 = lim then (Y.1, true, (stM Y c (nI (n 0))).2.2) else nd (Y.1 + 1, (stM Y c (nI (n 0))).2)) (stM Y c (nI (n 0))) := by rw [← eY]; rfl
  rw [eY1]
  by_cases hsp : X.2.1 = true
  · have hspY : Y.2.1 = true := by rw [← i1.2.1]; exact hsp
    rw [if_pos hsp, if_pos hspY]
    have ef : fiM n c Y = Y := by unfold fiM; rw [if_pos hspY]
    rw [ef]
    refine ⟨i1, fun q => ?_⟩
    have q' : X.2.1 = false := q
    rw [hsp] at q'; exact Bool.noConfusion q'
  · rw [if_neg hsp, if_neg (by rw [← i1.2.1]; exact hsp)]
    have hsf : X.2.1 = false := by simpa using hsp
    obtain ⟨k1, k2, k3⟩ := i2 hsf
    have hR1 : pR n (c + 1) (stT X c (-1)).2.2.2.1 (stM Y c (nI (n 0))).2.2.2.2.1 := by
      refine ⟨fun j hj => ?_, fun j h1 h2 => ?_⟩
      · by_cases e : j = c
        · subst e
          exact Or.inl ⟨pk_us, pk_us⟩
        · have a1 : (stT X c (-1)).2.2.2.1 j = x.2.2.2.1 j := (pk_un e).trans (k1 j (by omega))
          have a2 : (stM Y c (nI (n 0))).2.2.2.2.1 j = y.2.2.2.2.1 j := (pk_un e).trans (k3 j (by omega))
          rw [a1, a2]
          exact hR.1 j (by omega)
      · have a1 : (stT X c (-1)).2.2.2.1 j = X.2.2.2.1 j := pk_un (by omega)
        rw [a1]; exact k2 j (by omega) h2
    have hall : ∀ j, j < n 0 → pAll n I hm F (stT X c (-1)).2.2.2.1 j := fun j hj => by
      refine (pAll_pc (fun c' hc' => ?_)).mp (hI j hj)
      by_cases e : c' = c
      · subst e
        have a1 : (stT X c' (-1)).2.2.2.1 c' = -1 := pk_us
        rw [a1, hR.2 c' (Nat.le_refl _) hc']
      · have a1 : (stT X c (-1)).2.2.2.1 c' = X.2.2.2.1 c' := pk_un e
        rw [a1]
        by_cases l : c' < c
        · rw [k1 c' l]
        · rw [k2 c' (by omega) hc', hR.2 c' (by omega) hc']
    have hkp : kpM n hm F (stM Y c (nI (n 0))) c := fun j hj => (eq_allz hD hR1 (by omega) hj).mp (hall j hj)
    rw [pif_t hkp]
    obtain ⟨g1, g2⟩ := go_node hD hg hc (x := stT X c (-1)) (y := stM Y c (nI (n 0))) i1 hsf hR1 hall (ht.trans (tp_tn c (fun j hj => ((pk_un (show j ≠ c by omega)).trans (k3 j hj)).symm)))
    have ey : (if Y.1 = lim then (Y.1, true, (stM Y c (nI (n 0))).2.2) else nd (Y.1 + 1, (stM Y c (nI (n 0))).2)) = (if (stM Y c (nI (n 0))).1 = lim then ((stM Y c (nI (n 0))).1, true, (stM Y c (nI (n 0))).2.2) else nd ((stM Y c (nI (n 0))).1 + 1, (stM Y c (nI (n 0))).2)) := rfl
    rw [ey]
    generalize (if (stM Y c (nI (n 0))).1 = lim then ((stM Y c (nI (n 0))).1, true, (stM Y c (nI (n 0))).2.2) else nd ((stM Y c (nI (n 0))).1 + 1, (stM Y c (nI (n 0))).2)) = Z at g1 g2 ⊢
    generalize mkF n I ow F lim br c tops (stT X c (-1)) = V at g1 g2 ⊢
    have fz : (fiM n c Z).1 = Z.1 ∧ (fiM n c Z).2.1 = Z.2.1 ∧ (fiM n c Z).2.2.1 = Z.2.2.1 ∧ (fiM n c Z).2.2.2.1 = Z.2.2.2.1 ∧ (fiM n c Z).2.2.2.2.2 = Z.2.2.2.2.2 ∧ ∀ j, j < c → (fiM n c Z).2.2.2.2.1 j = Z.2.2.2.2.1 j := by
      unfold fiM
      split
      · exact ⟨rfl, rfl, rfl, rfl, rfl, fun _ _ => rfl⟩
      · exact ⟨rfl, rfl, rfl, rfl, rfl, fun j hj => pk_un (by omega)⟩
    obtain ⟨f1, f2, f3, f4, f5, f6⟩ := fz
    obtain ⟨s1, s2, s3, s4⟩ := g1
    refine ⟨⟨by rw [f1]; exact s1, by rw [f2]; exact s2, s3, ?_⟩, fun q => ?_⟩
    · unfold bR at s4 ⊢
      rw [f3, f4, f5]; exact s4
    · obtain ⟨r1, r2, r3⟩ := g2 q
      refine ⟨fun j hj => (r1 j (by omega)).trans ((pk_un (show j ≠ c by omega)).trans (k1 j hj)), fun j h1 h2 => ?_, fun j hj => (f6 j hj).trans ((r3 j (by omega)).trans ((pk_un (show j ≠ c by omega)).trans (k3 j hj)))⟩
      by_cases e : j = c
      · rw [r1 j (by omega), e]; exact pk_us
      · exact r2 j (by omega) h2
/-- THE BRANCHING is the same -/
theorem eq_branch (hD : dR n I J hm ow sq F) : ∀ d c, c + d + 1 = n 2 → ∀ (tops : Int64) (x : sX) (y : mX), sR n lim x y → x.2.1 = false → pR n c x.2.2.2.1 y.2.2.2.2.1 → (∀ j, j < n 0 → pAll n I hm F x.2.2.2.1 j) → tops = tpM n J F (tnF y) c →
    sR n lim (brF n I hm ow sq F lim (d + 1) c tops x) (brM n J hm F lim d c y) ∧ kR n c x (brF n I hm ow sq F lim (d + 1) c tops x) y (brM n J hm F lim d c y) := by
  have h6 := hD.1.2.2.2.1
  intro d
  induction d with
  | zero =>
    intro c hcd tops x y hs hf hR hI ht
    have hg : goR n I J hm ow F lim (c + 1) (brF n I hm ow sq F lim 0 (c + 1)) (meM n J hm F) := by
      rw [show c + 1 = n 2 by omega]
      exact go_meet hD
    exact go_cage hD hg (by omega) hs hf hR hI ht
  | succ d ih =>
    intro c hcd tops x y hs hf hR hI ht
    have hg : goR n I J hm ow F lim (c + 1) (brF n I hm ow sq F lim (d + 1) (c + 1)) (fun z => pif (boM n J F z c) (brM n J hm F lim d (c + 1) (stM z (c + 1) (-1))) z) := by
      intro tops x y hs hf hR hI ht
      have hb : x.2.2.1 < tops + hpS n I ow F (n 2 - (c + 1)) ↔ boM n J F y c := by
        have ho : hoM n J F y (c + 1) = tops + hpS n I ow F (n 2 - (c + 1)) := by
          unfold hoM
          rw [eq_hope (dR_m hD y) (by omega), hpS_cg (S0 := F) (S1 := mF F y) rfl rfl, ht]
          congr 1
          exact tp_cg (fun _ _ => mtL_z) (c + 1) (fun _ _ => rfl)
        have tk : ∀ j, j < c + 1 → tnF y j ≤ n 0 := fun j hj => (tw_is (F := mF F y) hD.1.2.1 hR hj).1
        obtain ⟨a1, a2, _⟩ := tp_b hD (c + 1) (by omega) tk
        obtain ⟨b1, b2⟩ := hp_b hD (n 2 - (c + 1)) (by omega)
        unfold boM
        rw [ho]
        rcases hs.2.2.2 with ⟨e1, e2⟩ | ⟨e1, e2, _⟩
        · rw [e1, e2]
          refine ⟨fun _ => Or.inl rfl, fun _ => ?_⟩
          rw [Int64.lt_iff_toInt_lt, i64_m1, ht, i64_add (by omega) (by omega)]
          omega
        · rw [e1, e2]
          exact ⟨Or.inr, fun h => h.elim (fun h => Bool.noConfusion h) id⟩
      show sR n lim _ (pif (boM n J F y c) (brM n J hm F lim d (c + 1) (stM y (c + 1) (-1))) y) ∧ kR n (c + 1) x _ y (pif (boM n J F y c) (brM n J hm F lim d (c + 1) (stM y (c + 1) (-1))) y)
      by_cases h : x.2.2.1 < tops + hpS n I ow F (n 2 - (c + 1))
      · rw [pif_t h, pif_t (hb.mp h)]
        have un : ∀ j, j < c + 1 → (stM y (c + 1) (-1)).2.2.2.2.1 j = y.2.2.2.2.1 j := fun j hj => pk_un (by omega)
        obtain ⟨r1, r2⟩ := ih (c + 1) (by omega) tops x (stM y (c + 1) (-1)) hs hf ⟨fun j hj => by rw [un j hj]; exact hR.1 j hj, hR.2⟩ hI (ht.trans (tp_tn (c + 1) (fun j hj => (un j hj).symm)))
        refine ⟨r1, fun q => ?_⟩
        obtain ⟨u1, u2, u3⟩ := r2 q
        exact ⟨u1, u2, fun j hj => (u3 j hj).trans (un j hj)⟩
      · rw [pif_f h, pif_f (fun q => h (hb.mpr q))]
        exact ⟨hs, fun _ => ⟨fun _ _ => rfl, fun j h1 h2 => hR.2 j h1 h2, fun _ _ => rfl⟩⟩
    exact go_cage hD hg (by omega) hs hf hR hI ht
end EN
