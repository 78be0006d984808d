/-! boats -/
/-- a number by its digits -/
def enc (f : Nat → Nat) (B : Nat) : Nat → Nat
  | 0 => 0
  | k + 1 => enc f B k + f k * B ^ k
theorem enc_lt {f : Nat → Nat} {B : Nat} : ∀ {k : Nat}, (∀ j, j < k → f j < B) → enc f B k < B ^ k := by
  intro k
  induction k with
  | zero => intro _; simp [enc]
  | succ k ih =>
    intro h
    have a := ih (fun j hj => h j (by omega))
    have b : f k + 1 ≤ B := h k (by omega)
    have c := Nat.mul_le_mul_right (B ^ k) b
    simp only [enc]
    rw [Nat.pow_succ, Nat.mul_comm (B ^ k) B]
    rw [Nat.add_mul] at c
    omega
theorem enc_dig {f : Nat → Nat} {B : Nat} (h0 : 0 < B) : ∀ {k : Nat}, (∀ j, j < k → f j < B) → ∀ j, j < k → enc f B k / B ^ j % B = f j := by
  intro k
  induction k with
  | zero => intro _ j hj; omega
  | succ k ih =>
    intro h j hj
    simp only [enc]
    by_cases e : j = k
    · subst e
      have a := enc_lt (f := f) (B := B) (k := j) (fun i hi => h i (by omega))
      rw [Nat.add_mul_div_right _ _ (Nat.pow_pos h0), Nat.div_eq_of_lt a, Nat.zero_add, Nat.mod_eq_of_lt (h j (by omega))]
    · obtain ⟨d, rfl⟩ : ∃ d, k = j + d + 1 := ⟨k - j - 1, by omega⟩
      have e1 : f (j + d + 1) * B ^ (j + d + 1) = f (j + d + 1) * B ^ d * B * B ^ j := by
        rw [show j + d + 1 = d + 1 + j by omega, Nat.pow_add, Nat.pow_succ, ← Nat.mul_assoc, ← Nat.mul_assoc]
      rw [e1, Nat.add_mul_div_right _ _ (Nat.pow_pos h0), Nat.add_mul_mod_self_right]
      exact ih (fun i hi => h i (by omega)) j (by omega)
section EB
variable {n : Nat → Nat} {I : Nat → Nat → Int32} {J : Nat → Int32} {hm ow sq : Nat → Nat} {F : Nat → Nat → Nat → Int32} {pl tr : Nat → Int32} {m w c : Nat}
theorem lg_sm {br : Nat → Nat → Int32} {e ld : Nat → Int32} {g : Nat → Int32 → Int32 → Int} : ∀ b, sm (fun j => g j (lgA br e w (fun _ => 0) b j) (lgA br ld w (fun _ => 0) b j)) (lgC br w b) = sm (fun b' => if br b' w = 0 then g (lgC br w b') (e b') (ld b') else 0) b := by
  intro b
  induction b with
  | zero => rfl
  | succ b ih =>
    simp only [sm]
    rw [← ih]
    by_cases h : br b w = 0
    · rw [if_pos h, (lg_t (ld := e) (f := fun _ => 0) h).2, (lg_t (ld := ld) (f := fun _ => 0) h).2, (lg_t (ld := ld) (f := fun _ => 0) h).1]
      simp only [sm, pk_us]
      congr 1
      refine sm_cg (fun j hj => ?_)
      rw [pk_un (by omega), pk_un (by omega)]
    · rw [if_neg h, (lg_f (ld := e) (f := fun _ => 0) h).2, (lg_f (ld := ld) (f := fun _ => 0) h).2, (lg_f (ld := ld) (f := fun _ => 0) h).1]
      omega
theorem lgC_sm {br : Nat → Nat → Int32} : ∀ b, (lgC br w b : Int) = sm (fun b' => if br b' w = 0 then 1 else 0) b := by
  intro b
  induction b with
  | zero => rfl
  | succ b ih =>
    simp only [sm, lgC]
    by_cases h : br b w = 0
    · rw [if_pos h, if_pos h, ← ih]; omega
    · rw [if_neg h, if_neg h, ← ih]; omega
theorem lgA_of {br : Nat → Nat → Int32} {ld : Nat → Int32} {P : Int32 → Prop} : ∀ b, (∀ i, i < b → P (ld i)) → ∀ j, j < lgC br w b → P (lgA br ld w (fun _ => 0) b j) := by
  intro b
  induction b with
  | zero => intro _ j hj; exact absurd hj (Nat.not_lt_zero j)
  | succ b ih =>
    intro h j hj
    by_cases hb : br b w = 0
    · rw [(lg_t (ld := ld) (f := fun _ => 0) hb).2]
      rw [(lg_t (ld := ld) (f := fun _ => 0) hb).1] at hj
      by_cases e : j = lgC br w b
      · rw [e, pk_us]; exact h b (by omega)
      · rw [pk_un e]; exact ih (fun i hi => h i (by omega)) j (by omega)
    · rw [(lg_f (ld := ld) (f := fun _ => 0) hb).2]
      rw [(lg_f (ld := ld) (f := fun _ => 0) hb).1] at hj
      exact ih (fun i hi => h i (by omega)) j hj
/-- each of N wants one of the boats: there are N or more -/
theorem cnt_ge {P : Nat → Prop} [DecidablePred P] {g : Nat → Nat} {B : Nat} : ∀ N, (∀ k, k < N → ∃ b, b < B ∧ P b ∧ g b = k) → (N : Int) ≤ sm (fun b => if P b ∧ g b < N then 1 else 0) B := by
  intro N
  induction N with
  | zero =>
    intro _
    exact (sm_b (B := 1) (fun c _ => by split <;> omega)).1
  | succ N ih =>
    intro h
    have a := ih (fun k hk => h k (by omega))
    obtain ⟨b, hb, hp, hg⟩ := h N (by omega)
    have e : sm (fun b => if P b ∧ g b < N + 1 then (1 : Int) else 0) B = sm (fun b => (if P b ∧ g b < N then (1 : Int) else 0) + (if P b ∧ g b = N then 1 else 0)) B := by
      refine sm_cg (fun c _ => ?_)
      by_cases h1 : P c
      · by_cases h2 : g c < N
        · rw [if_pos ⟨h1, by omega⟩, if_pos ⟨h1, h2⟩, if_neg (fun q => by omega)]; rfl
        · by_cases h3 : g c = N
          · rw [if_pos ⟨h1, by omega⟩, if_neg (fun q => h2 q.2), if_pos ⟨h1, h3⟩]; rfl
          · rw [if_neg (fun q => by omega), if_neg (fun q => h2 q.2), if_neg (fun q => h3 q.2)]; rfl
      · rw [if_neg (fun q => h1 q.1), if_neg (fun q => h1 q.1), if_neg (fun q => h1 q.1)]; rfl
    rw [e, sm_add]
    have k1 := sm_ge1 (f := fun b => if P b ∧ g b = N then (1 : Int) else 0) (k := B) (c := b) (fun c _ => by (try dsimp only); split <;> omega) hb (by (try dsimp only); rw [if_pos ⟨hp, hg⟩]; omega)
    omega
/-- what a cage still wants, in numbers -/
theorem ms_i {ld f : Nat → Int32} {way nd : Nat} (hf : ∀ k, rg (f k) 2000000) : ∀ b, b ≤ 3 → (∀ j, j < b → rg (ld j) 100000000) → ∀ k, (msA ld way nd f b k).toInt = (f k).toInt - sm (fun j => if way / nd ^ j % nd = k then (ld j).toInt else 0) b := by
  intro b
  induction b with
  | zero => intro _ _ k; simp only [msA, sm]; omega
  | succ b ih =>
    intro hb hl k
    have hi := ih (by omega) (fun j hj => hl j (by omega))
    have hL := hl b (by omega)
    have q := sm_b (f := fun j => if way / nd ^ j % nd = k then (ld j).toInt else 0) (B := 100000000) (k := b) (fun j hj => by
      have := hl j (by omega)
      (try dsimp only)
      split
      · exact this
      · omega)
    have hk := hf k
    unfold rg at hL hk
    simp only [ms_s, upd, sm]
    by_cases e : k = way / nd ^ b % nd
    · subst e
      rw [if_pos rfl, if_pos rfl]
      rw [i32_sub (by rw [hi]; omega) (by rw [hi]; omega), hi]
      omega
    · rw [if_neg e, if_neg (fun q => e q.symm), hi]; omega
theorem mc_i {N code : Nat} : ∀ b, b ≤ 3 → (∀ j, j < b → rg (F 5 5 j) 100000000) → ∀ k, (mcA F w N (fun _ => 0) code b k).toInt = sm (fun j => if code / (N + 1) ^ j % (N + 1) = k then (if F 5 6 (8 * j + w) = 0 then (F 5 5 j).toInt else 0) else 0) b := by
  intro b
  induction b with
  | zero => intro _ _ k; exact i64_0
  | succ b ih =>
    intro hb hl k
    have hi := ih (by omega) (fun j hj => hl j (by omega))
    have hL := hl b (by omega)
    have q := sm_b (f := fun j => if code / (N + 1) ^ j % (N + 1) = k then (if F 5 6 (8 * j + w) = 0 then (F 5 5 j).toInt else 0) else 0) (B := 100000000) (k := b) (fun j hj => by
      have := hl j (by omega)
      unfold rg at this
      (try dsimp only)
      split
      · split <;> omega
      · omega)
    unfold rg at hL
    have eL : (if F 5 6 (8 * b + w) = 0 then (F 5 5 b).toInt64 else 0).toInt = (if F 5 6 (8 * b + w) = 0 then (F 5 5 b).toInt else 0) := by
      split
      · exact Int32.toInt_toInt64 _
      · exact i64_0
    have bL : 0 ≤ (if F 5 6 (8 * b + w) = 0 then (F 5 5 b).toInt else 0) ∧ (if F 5 6 (8 * b + w) = 0 then (F 5 5 b).toInt else 0) ≤ 100000000 := by split <;> omega
    simp only [mcA, vp_updL, sm]
    by_cases e : k = code / (N + 1) ^ b % (N + 1)
    · subst e
      rw [if_pos rfl, if_pos rfl, i64_add (by rw [hi, eL]; omega) (by rw [hi, eL]; omega), hi, eL]
    · rw [if_neg e, if_neg (fun q => e q.symm), hi]; omega
/-- the needs of both are the same -/
theorem ng_mn (hD : dR n I J hm ow sq F) (hR : pR n m pl (F 5 14)) (hm2 : m ≤ n 2) (hw : w < n 0) : ∀ c, c ≤ m → ngC pl (F 3) w c = mnC F w c ∧ ∀ k, (ngA pl (F 3) w (fun _ => 0) c k).toInt64 = mnA F w (fun _ => 0) c k := by
  intro c
  induction c with
  | zero => exact fun _ => ⟨rfl, fun _ => rfl⟩
  | succ c ih =>
    intro hc
    obtain ⟨i1, i2⟩ := ih (by omega)
    have e1 := pR_w (c := c) hR hD.1.2.1 hw (by omega)
    obtain ⟨_, _, e3, _⟩ := (hD.2.2.2.1 c (by omega)).2.2 w hw
    have e4 : 0 < F 3 c w ↔ 0 < kM F c w := by rw [← e3, Int32.lt_iff_toInt_lt, Int64.lt_iff_toInt_lt, Int32.toInt_toInt64, i32_0, i64_0]
    by_cases h : pl c = nI w ∧ 0 < F 3 c w
    · have h1 := (e1.mp h.1).2
      have h2 := e4.mp h.2
      obtain ⟨a1, a2⟩ := ng_t (f := fun _ => 0) h.1 h.2
      obtain ⟨b1, b2⟩ := mn_t (f := fun _ => 0) h1 h2
      rw [a1, a2, b1, b2, i1]
      refine ⟨rfl, fun k => ?_⟩
      simp only [upd, vp_updL]
      by_cases e : k = mnC F w c
      · rw [if_pos e, if_pos e, e3]
      · rw [if_neg e, if_neg e, i2]
    · have h' : ¬ (F 5 14 c = nI w ∧ 0 < kM F c w) := fun q => h ⟨e1.mpr ⟨by omega, q.1⟩, e4.mpr q.2⟩
      obtain ⟨a1, a2⟩ := ng_f (f := fun _ => 0) h
      obtain ⟨b1, b2⟩ := mn_f (f := fun _ => 0) h'
      rw [a1, a2, b1, b2]
      exact ⟨i1, i2⟩
theorem ng_rest (hD : dR n I J hm ow sq F) (hR : pR n m pl (F 5 14)) (hw : w < n 0) : ∀ d, m + d ≤ n 2 → ngC pl (F 3) w (m + d) = ngC pl (F 3) w m ∧ ngA pl (F 3) w (fun _ => 0) (m + d) = ngA pl (F 3) w (fun _ => 0) m := by
  intro d
  induction d with
  | zero => exact fun _ => ⟨rfl, rfl⟩
  | succ d ih =>
    intro hd
    have h8 := hD.1.2.1
    have h : ¬ (pl (m + d) = nI w ∧ 0 < F 3 (m + d) w) := fun q => absurd ((pR_w hR h8 hw (by omega)).mp q.1).1 (by omega)
    obtain ⟨a1, a2⟩ := ng_f (f := fun _ => 0) h
    obtain ⟨i1, i2⟩ := ih (by omega)
    exact ⟨a1.trans i1, a2.trans i2⟩
theorem ng_rg (hD : dR n I J hm ow sq F) (hw : w < n 0) : ∀ c, c ≤ n 2 → ∀ k, rg (ngA pl (F 3) w (fun _ => 0) c k) 2000000 ∧ (k < ngC pl (F 3) w c → 0 < (ngA pl (F 3) w (fun _ => 0) c k).toInt) := by
  intro c
  induction c with
  | zero => exact fun _ k => ⟨⟨by simp only [ngA]; rw [i32_0]; omega, by simp only [ngA]; rw [i32_0]; omega⟩, fun h => absurd h (Nat.not_lt_zero k)⟩
  | succ c ih =>
    intro hc k
    have ik := ih (by omega) k
    have kg := (kM_i hD (show c < n 2 by omega) hw).2
    by_cases h : pl c = nI w ∧ 0 < F 3 c w
    · obtain ⟨a1, a2⟩ := ng_t (f := fun _ => 0) h.1 h.2
      rw [a1, a2]
      simp only [upd]
      by_cases e : k = ngC pl (F 3) w c
      · rw [if_pos e]
        exact ⟨kg, fun _ => by have := Int32.lt_iff_toInt_lt.mp h.2; rw [i32_0] at this; exact this⟩
      · rw [if_neg e]
        exact ⟨ik.1, fun q => ik.2 (by omega)⟩
    · obtain ⟨a1, a2⟩ := ng_f (f := fun _ => 0) h
      rw [a1, a2]
      exact ik
theorem eq_boats (hD : dR n I J hm ow sq F) (hR : pR n m pl (F 5 14)) (hm2 : m ≤ n 2) (hw : w < n 0) : pBoats n I F pl w ↔ qBoats n F w m := by
  obtain ⟨d, hd⟩ : ∃ d, n 2 = m + d := ⟨n 2 - m, by omega⟩
  have h6 := hD.1.2.2.2.1
  have h3 := hD.1.2.2.2.2.1
  obtain ⟨r1, r2⟩ := ng_rest hD hR hw d (by omega)
  rw [← hd] at r1 r2
  obtain ⟨e1, e2⟩ := ng_mn hD hR hm2 hw m (Nat.le_refl _)
  have hg := ng_rg (pl := pl) hD hw m hm2
  have hB : ∀ b, b < n 3 → rg (F 5 5 b) 100000000 := fun b hb => by obtain ⟨q1, q2, _⟩ := hD.2.2.2.2.1 b hb; rw [← q1]; exact q2
  have hI : ∀ b, b < n 3 → I 3 b = F 5 5 b := fun b hb => (hD.2.2.2.2.1 b hb).1
  have hbr : ∀ b, b < n 3 → F 4 b w = F 5 6 (8 * b + w) := fun b hb => (hD.2.2.2.2.1 b hb).2.2 w hw
  have haf : lgC (F 4) w (n 3) ≤ 3 := Nat.le_trans lgC_le h3
  have hld : ∀ j, j < lgC (F 4) w (n 3) → rg (lgA (F 4) (I 3) w (fun _ => 0) (n 3) j) 100000000 := lgA_of (P := fun x => rg x 100000000) (n 3) (fun i hi => by rw [hI i hi]; exact hB i hi)
  unfold pBoats qBoats qFd
  rw [r1, r2, e1]
  generalize hN : mnC F w m = N at *
  by_cases hz : N = 0
  · exact ⟨fun _ => Or.inl hz, fun _ => Or.inl hz⟩
  have cls : ∀ way, pCarries (ngA pl (F 3) w (fun _ => 0) m) (lgA (F 4) (I 3) w (fun _ => 0) (n 3)) N (lgC (F 4) w (n 3)) way ↔ ∀ k, k < N → (ngA pl (F 3) w (fun _ => 0) m k).toInt ≤ sm (fun j => if way / N ^ j % N = k then (lgA (F 4) (I 3) w (fun _ => 0) (n 3) j).toInt else 0) (lgC (F 4) w (n 3)) := fun way => by
    unfold pCarries
    refine forall_congr' (fun k => forall_congr' (fun hk => ?_))
    rw [Int32.le_iff_toInt_le, ms_i (fun k => (hg k).1) _ haf hld, i32_0]
    omega
  have mdl : ∀ v, qCar n F w m v ↔ ∀ k, k < N → (ngA pl (F 3) w (fun _ => 0) m k).toInt ≤ sm (fun j => if v / (N + 1) ^ j % (N + 1) = k then (if F 5 6 (8 * j + w) = 0 then (F 5 5 j).toInt else 0) else 0) (n 3) := fun v => by
    unfold qCar
    rw [hN]
    refine forall_congr' (fun k => forall_congr' (fun hk => ?_))
    rw [Int64.le_iff_toInt_le, ← e2, Int32.toInt_toInt64, mc_i _ h3 hB]
  constructor
  · rintro (h | ⟨h1, v, hv, hc⟩)
    · exact absurd h hz
    · refine Or.inr ?_
      have hf : ∀ b, b < n 3 → (if F 4 b w = 0 then v / N ^ lgC (F 4) w b % N else N) < N + 1 := fun b _ => by
        have := Nat.mod_lt (v / N ^ lgC (F 4) w b) (show 0 < N by omega)
        split <;> omega
      refine ⟨enc (fun b => if F 4 b w = 0 then v / N ^ lgC (F 4) w b % N else N) (N + 1) (n 3), ?_, (mdl _).mpr (fun k hk => ?_)⟩
      · have a1 := enc_lt hf
        have a2 := Nat.pow_le_pow_right (show 0 < N + 1 by omega) h3
        have a3 : (N + 1) ^ 3 = (N + 1) * (N + 1) * (N + 1) := by rw [Nat.pow_succ, Nat.pow_succ, Nat.pow_succ, Nat.pow_zero, Nat.one_mul]
        omega
      · refine Int.le_trans ((cls v).mp hc k hk) ?_
        have e := lg_sm (w := w) (br := F 4) (e := I 3) (ld := I 3) (g := fun j _ x => if v / N ^ j % N = k then x.toInt else 0) (n 3)
        rw [e]
        refine Int.le_of_eq (sm_cg (fun b hb => ?_))
        rw [enc_dig (by omega) hf b hb, ← hbr b hb, hI b hb]
        by_cases h : F 4 b w = 0
        · simp only [if_pos h]
        · simp only [if_neg h]
          split <;> rfl
  · rintro (h | ⟨v, hv, hc⟩)
    · exact absurd h hz
    · refine Or.inr ?_
      have hc' := (mdl v).mp hc
      refine ⟨?_, ?_⟩
      · have a := cnt_ge (P := fun b => F 4 b w = 0) (g := fun b => v / (N + 1) ^ b % (N + 1)) (B := n 3) N (fun k hk => by
          have p1 := (hg k).2 (by rw [e1]; exact hk)
          obtain ⟨b, hb, p2⟩ := sm_pos (Int.lt_of_lt_of_le p1 (hc' k hk))
          refine ⟨b, hb, ?_⟩
          try dsimp only at p2 ⊢
          rw [hbr b hb]
          by_cases q1 : v / (N + 1) ^ b % (N + 1) = k
          · rw [if_pos q1] at p2
            by_cases q2 : F 5 6 (8 * b + w) = 0
            · exact ⟨q2, q1⟩
            · rw [if_neg q2] at p2; omega
          · rw [if_neg q1] at p2; omega)
        have b1 := lgC_sm (w := w) (br := F 4) (n 3)
        have b2 := sm_le (f := fun b => if F 4 b w = 0 ∧ v / (N + 1) ^ b % (N + 1) < N then (1 : Int) else 0) (g := fun b => if F 4 b w = 0 then (1 : Int) else 0) (k := n 3) (fun c _ => by
          (try dsimp only)
          by_cases q : F 4 c w = 0
          · rw [if_pos q]; split <;> omega
          · rw [if_neg q, if_neg (fun z => q z.1)]; omega)
        try dsimp only at a b2
        omega
      · have hdg : ∀ b, (if v / (N + 1) ^ b % (N + 1) < N then v / (N + 1) ^ b % (N + 1) else 0) < N := fun b => by split <;> omega
        have hgl : ∀ j, j < lgC (F 4) w (n 3) → (lgA (F 4) (fun b => nI (if v / (N + 1) ^ b % (N + 1) < N then v / (N + 1) ^ b % (N + 1) else 0)) w (fun _ => 0) (n 3) j).toNatClampNeg < N := lgA_of (P := fun x => x.toNatClampNeg < N) (n 3) (fun i _ => by
          have h7 : N ≤ 6 := by rw [← hN]; exact Nat.le_trans mnC_le (by omega)
          have := hdg i
          rw [nI_clamp (by omega)]; exact this)
        refine ⟨enc (fun j => (lgA (F 4) (fun b => nI (if v / (N + 1) ^ b % (N + 1) < N then v / (N + 1) ^ b % (N + 1) else 0)) w (fun _ => 0) (n 3) j).toNatClampNeg) N (lgC (F 4) w (n 3)), enc_lt hgl, (cls _).mpr (fun k hk => ?_)⟩
        refine Int.le_trans (hc' k hk) ?_
        have h7 : N ≤ 6 := by rw [← hN]; exact Nat.le_trans mnC_le (by omega)
        have e := lg_sm (w := w) (br := F 4) (e := fun b => nI (if v / (N + 1) ^ b % (N + 1) < N then v / (N + 1) ^ b % (N + 1) else 0)) (ld := I 3) (g := fun _ y x => if y.toNatClampNeg = k then x.toInt else 0) (n 3)
        rw [sm_cg (g := fun j => if (lgA (F 4) (fun b => nI (if v / (N + 1) ^ b % (N + 1) < N then v / (N + 1) ^ b % (N + 1) else 0)) w (fun _ => 0) (n 3) j).toNatClampNeg = k then (lgA (F 4) (I 3) w (fun _ => 0) (n 3) j).toInt else 0) (k := lgC (F 4) w (n 3)) (fun j hj => by rw [enc_dig (by omega) hgl j hj]), e]
        refine sm_le (fun b hb => ?_)
        (try dsimp only)
        have hl := hB b hb
        have h9 := hdg b
        unfold rg at hl
        rw [hbr b hb, nI_clamp (by omega), hI b hb]
        by_cases q2 : F 5 6 (8 * b + w) = 0
        · rw [if_pos q2, if_pos q2]
          by_cases q1 : v / (N + 1) ^ b % (N + 1) = k
          · rw [if_pos q1, if_pos (show v / (N + 1) ^ b % (N + 1) < N by omega), if_pos q1]; omega
          · rw [if_neg q1]; split <;> omega
        · rw [if_neg q2, if_neg q2]; split <;> omega
end EB
