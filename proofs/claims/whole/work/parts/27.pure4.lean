/-! PURE WORDS of the search -/
def bI (b : Bool) : Int32 := if b then 1 else 0
theorem bI_1 {b : Bool} (h : ¬ bI b = 0) : b = true := by cases b; exact absurd rfl h; rfl
theorem bI_0 {b : Bool} (h : bI b = 0) : b = false := by cases b; rfl; exact absurd h (by decide)
theorem kup2 {K : Nat → Int32} {a b v : Int32} : va_up (va_up (va_up K 2 a) 3 b) 2 v = va_up (va_up K 2 v) 3 b := by
  funext j
  simp only [va_up]
  by_cases h : j = 2
  · subst h; simp
  · simp [h]
theorem kup3 {K : Nat → Int32} {a b v : Int32} : va_up (va_up (va_up K 2 a) 3 b) 3 v = va_up (va_up K 2 a) 3 v := by
  funext j
  simp only [va_up]
  by_cases h : j = 3
  · subst h; simp
  · simp [h]
theorem scr_9 {F S : Nat → Nat → Nat → Int32} {tr be : Nat → Int32} {c : Nat} {v : Int32} (h : scr (upR (upR F 0 9 tr) 0 10 be) S) : scr (upR (upR F 0 9 (upd tr c v)) 0 10 be) (upR S 0 9 (upd (S 0 9) c v)) := fun t j hj => by
  have e9 : S 0 9 = tr := h 0 9 (by omega)
  by_cases h1 : t = 0 ∧ j = 9
  · obtain ⟨rfl, rfl⟩ := h1
    rw [upR_self, e9, upR_ne (by omega), upR_self]
  · rw [upR_ne h1, h t j hj]
    by_cases h2 : t = 0 ∧ j = 10
    · obtain ⟨rfl, rfl⟩ := h2
      rw [upR_self, upR_self]
    · rw [upR_ne h2, upR_ne h1, upR_ne h2, upR_ne h1]
theorem scr_10 {F S : Nat → Nat → Nat → Int32} {tr be : Nat → Int32} (h : scr (upR (upR F 0 9 tr) 0 10 be) S) : scr (upR (upR F 0 9 tr) 0 10 (va_cpy tr be 0 0 6)) (upR S 0 10 (va_cpy (S 0 9) (S 0 10) 0 0 6)) := fun t j hj => by
  have e9 : S 0 9 = tr := h 0 9 (by omega)
  have e10 : S 0 10 = be := h 0 10 (by omega)
  by_cases h1 : t = 0 ∧ j = 10
  · obtain ⟨rfl, rfl⟩ := h1
    rw [upR_self, e9, e10, upR_self]
  · rw [upR_ne h1, h t j hj, upR_ne h1, upR_ne h1]
theorem ex_9 {D : va_G} {A : Nat → Prop} {ad : Nat → Nat} {tC : Nat → ClassId} {n : Nat → Nat} {I : Nat → Nat → Int32} {K : Nat → Int32} {bw : Int64} {LA : Nat → Int64} {bM : Nat → Option va_E} {aM : Nat → Nat → Option (ClassId × Nat)} {F S : Nat → Nat → Nat → Int32} {tr be : Nat → Int32} {c : Nat} {v : Int32} {H : Heap} (h : scr (upR (upR F 0 9 tr) 0 10 be) S) (hw : nw_W D hpC A (hW ad tC n I K bw LA bM aM (upR S 0 9 (upd (S 0 9) c v))) ad H) : ∃ S', scr (upR (upR F 0 9 (upd tr c v)) 0 10 be) S' ∧ nw_W D hpC A (hW ad tC n I K bw LA bM aM S') ad H := ⟨_, scr_9 h, hw⟩
theorem ex_10 {D : va_G} {A : Nat → Prop} {ad : Nat → Nat} {tC : Nat → ClassId} {n : Nat → Nat} {I : Nat → Nat → Int32} {K : Nat → Int32} {bw : Int64} {LA : Nat → Int64} {bM : Nat → Option va_E} {aM : Nat → Nat → Option (ClassId × Nat)} {F S : Nat → Nat → Nat → Int32} {tr be : Nat → Int32} {H : Heap} (h : scr (upR (upR F 0 9 tr) 0 10 be) S) (hw : nw_W D hpC A (hW ad tC n I K bw LA bM aM (upR S 0 10 (va_cpy (S 0 9) (S 0 10) 0 0 6))) ad H) : ∃ S', scr (upR (upR F 0 9 tr) 0 10 (va_cpy tr be 0 0 6)) S' ∧ nw_W D hpC A (hW ad tC n I K bw LA bM aM S') ad H := ⟨_, scr_10 h, hw⟩
/-- what the last d cages hope for -/
noncomputable def hpS (n : Nat → Nat) (I : Nat → Nat → Int32) (ow : Nat → Nat) (F : Nat → Nat → Nat → Int32) : Nat → Int64
  | 0 => 0
  | d + 1 => hpS n I ow F d + gtS n I ow F (n 2 - d - 1) (n 0)
noncomputable def hfA (n : Nat → Nat) (I : Nat → Nat → Int32) (ow : Nat → Nat) (F : Nat → Nat → Nat → Int32) (LA : Nat → Int64) : Nat → Nat → Int64
  | 0 => vp_updL LA (n 2) 0
  | d + 1 => vp_updL (hfA n I ow F LA d) (n 2 - d - 1) (hfA n I ow F LA d (n 2 - d) + gtS n I ow F (n 2 - d - 1) (n 0))
theorem hfA_hp {n : Nat → Nat} {I : Nat → Nat → Int32} {ow : Nat → Nat} {F : Nat → Nat → Nat → Int32} {LA : Nat → Int64} : ∀ d, d ≤ n 2 → ∀ e, e ≤ d → hfA n I ow F LA d (n 2 - e) = hpS n I ow F e := by
  intro d
  induction d with
  | zero =>
    intro _ e he
    obtain rfl : e = 0 := by omega
    simp only [hfA, hpS, vp_updL]
    rw [if_pos (by omega)]
  | succ d ih =>
    intro hd e he
    simp only [hfA, vp_updL]
    by_cases h : n 2 - e = n 2 - d - 1
    · obtain rfl : e = d + 1 := by omega
      rw [if_pos h, ih (by omega) d (Nat.le_refl _)]
      rfl
    · rw [if_neg h]
      exact ih (by omega) e (by omega)
theorem dn_t {i : Nat} (hi : i < 2 ^ 31) (h : nI i - 1 < 0) : i = 0 := by
  rcases Nat.eq_zero_or_pos i with h0 | h0
  · exact h0
  · obtain ⟨j, rfl⟩ : ∃ j, i = j + 1 := ⟨i - 1, by omega⟩
    rw [nI_pred] at h
    exact absurd h (nI_pos (by omega))
theorem dn_f {i : Nat} (h : ¬ nI i - 1 < 0) : 1 ≤ i ∧ nI i - 1 = nI (i - 1) := by
  rcases Nat.eq_zero_or_pos i with h0 | h0
  · subst h0
    exact absurd (by decide) h
  · obtain ⟨j, rfl⟩ : ∃ j, i = j + 1 := ⟨i - 1, by omega⟩
    exact ⟨h0, nI_pred j⟩
abbrev sX : Type := Nat × Bool × Int64 × (Nat → Int32) × (Nat → Int32)
def tkO (v : Int32) : Option Nat := if v = -1 then none else some v.toNatClampNeg
theorem tkO_eq {n : Nat → Nat} {pl : Nat → Int32} (hn : n 0 ≤ 8) (h : okT n pl) {c : Nat} (hc : c < n 2) : pl c = oI (tkO (pl c)) ∧ ∀ w, tkO (pl c) = some w → w < n 0 := by
  rcases h c hc with h1 | ⟨w, hw, h1⟩
  · rw [h1]
    exact ⟨rfl, fun w hw => by simp [tkO] at hw⟩
  · rw [h1]
    have e : tkO (nI w) = some w := by simp only [tkO]; rw [if_neg (nI_ne_m1 (by omega)), nI_clamp (by omega)]
    rw [e]
    exact ⟨rfl, fun w' h' => by cases h'; exact hw⟩
def pAll (n : Nat → Nat) (I : Nat → Nat → Int32) (hm : Nat → Nat) (F : Nat → Nat → Nat → Int32) (pl : Nat → Int32) (w : Nat) : Prop := pClosed n hm F pl w ∧ pPlant n F pl w ∧ pBoats n I F pl w
section SEARCH
variable (n : Nat → Nat) (I : Nat → Nat → Int32) (hm ow sq : Nat → Nat) (F : Nat → Nat → Nat → Int32) (lim : Nat)
noncomputable def meF (x : sX) : sX := pif ((∀ w, w < n 0 → pHeld n I hm F x.2.2.2.1 w) ∧ x.2.2.1 < wrL n I ow sq F x.2.2.2.1) (x.1, x.2.1, wrL n I ow sq F x.2.2.2.1, x.2.2.2.1, va_cpy x.2.2.2.1 x.2.2.2.2 0 0 6) x
noncomputable def mkF (br : Int64 → sX → sX) (cg : Nat) (tops : Int64) (x : sX) : sX :=
  if lim ≤ x.1 then (x.1, true, x.2.2) else if x.2.2.1 < (tops + topL n I ow F cg (tkO (x.2.2.2.1 cg))) + hpS n I ow F (n 2 - (cg + 1)) then br (tops + topL n I ow F cg (tkO (x.2.2.2.1 cg))) (x.1 + 1, x.2) else (x.1 + 1, x.2)
def stT (x : sX) (c : Nat) (v : Int32) : sX := (x.1, x.2.1, x.2.2.1, upd x.2.2.2.1 c v, x.2.2.2.2)
noncomputable def wlF (br : Int64 → sX → sX) (cg : Nat) (tops : Int64) (x : sX) : Nat → sX
  | 0 => x
  | w + 1 => if (wlF br cg tops x w).2.1 = true then wlF br cg tops x w else pif (pAll n I hm F (upd (wlF br cg tops x w).2.2.2.1 cg (nI w)) w) (mkF n I ow F lim br cg tops (stT (wlF br cg tops x w) cg (nI w))) (stT (wlF br cg tops x w) cg (nI w))
noncomputable def brF : Nat → Nat → Int64 → sX → sX
  | 0, _, _, x => meF n I hm ow sq F x
  | d + 1, cg, tops, x => if (wlF n I hm ow F lim (brF d (cg + 1)) cg tops x (n 0)).2.1 = true then stT (wlF n I hm ow F lim (brF d (cg + 1)) cg tops x (n 0)) cg (-1) else mkF n I ow F lim (brF d (cg + 1)) cg tops (stT (wlF n I hm ow F lim (brF d (cg + 1)) cg tops x (n 0)) cg (-1))
end SEARCH
section SEARCH2
variable {n : Nat → Nat} {I : Nat → Nat → Int32} {hm ow sq : Nat → Nat} {F : Nat → Nat → Nat → Int32} {lim : Nat} {br : Int64 → sX → sX} {cg : Nat} {tops : Int64} {x : sX}
theorem wlF_sp {w : Nat} (h : (wlF n I hm ow F lim br cg tops x w).2.1 = true) : ∀ k, wlF n I hm ow F lim br cg tops x (w + k) = wlF n I hm ow F lim br cg tops x w := by
  intro k
  induction k with
  | zero => rfl
  | succ k ih =>
    show wlF n I hm ow F lim br cg tops x (w + k + 1) = _
    simp only [wlF]
    rw [ih, if_pos h]
/-- what stays through the search -/
def sOk (n : Nat → Nat) (lim : Nat) (x : sX) : Prop := x.1 ≤ lim ∧ okT n x.2.2.2.1
theorem okT_up {pl : Nat → Int32} {v : Int32} {c : Nat} (h : okT n pl) (hv : v = -1 ∨ ∃ w, w < n 0 ∧ v = nI w) : okT n (upd pl c v) := fun j hj => by
  simp only [upd]
  by_cases e : j = c
  · rw [if_pos e]; exact hv
  · rw [if_neg e]; exact h j hj
theorem stT_ok {v : Int32} {c : Nat} (h : sOk n lim x) (hv : v = -1 ∨ ∃ w, w < n 0 ∧ v = nI w) : sOk n lim (stT x c v) := ⟨h.1, okT_up h.2 hv⟩
theorem meF_ok (h : sOk n lim x) : sOk n lim (meF n I hm ow sq F x) := by
  unfold meF
  by_cases hp : (∀ w, w < n 0 → pHeld n I hm F x.2.2.2.1 w) ∧ x.2.2.1 < wrL n I ow sq F x.2.2.2.1
  · rw [pif_t hp]; exact h
  · rw [pif_f hp]; exact h
theorem mkF_ok (hb : ∀ t y, sOk n lim y → sOk n lim (br t y)) (h : sOk n lim x) : sOk n lim (mkF n I ow F lim br cg tops x) := by
  unfold mkF
  by_cases h1 : lim ≤ x.1
  · rw [if_pos h1]; exact h
  · rw [if_neg h1]
    have h2 : sOk n lim (x.1 + 1, x.2) := ⟨by show x.1 + 1 ≤ lim; omega, h.2⟩
    split
    · exact hb _ _ h2
    · exact h2
theorem wlF_ok (hb : ∀ t y, sOk n lim y → sOk n lim (br t y)) (h : sOk n lim x) : ∀ w, w ≤ n 0 → sOk n lim (wlF n I hm ow F lim br cg tops x w) := by
  intro w
  induction w with
  | zero => exact fun _ => h
  | succ w ih =>
    intro hw
    have h0 := ih (by omega)
    have h1 := stT_ok (c := cg) h0 (Or.inr ⟨w, by omega, rfl⟩)
    simp only [wlF]
    split
    · exact h0
    · by_cases hp : pAll n I hm F (upd (wlF n I hm ow F lim br cg tops x w).2.2.2.1 cg (nI w)) w
      · rw [pif_t hp]; exact mkF_ok hb h1
      · rw [pif_f hp]; exact h1
theorem brF_ok : ∀ (d cg : Nat) (tops : Int64) (x : sX), sOk n lim x → sOk n lim (brF n I hm ow sq F lim d cg tops x) := by
  intro d
  induction d with
  | zero => exact fun _ _ x h => meF_ok h
  | succ d ih =>
    intro cg tops x h
    have h1 := wlF_ok (I := I) (hm := hm) (ow := ow) (F := F) (cg := cg) (tops := tops) (fun t y hy => ih (cg + 1) t y hy) h (n 0) (Nat.le_refl _)
    have h2 := stT_ok (c := cg) h1 (Or.inl rfl)
    simp only [brF]
    split
    · exact h2
    · exact mkF_ok (fun t y hy => ih (cg + 1) t y hy) h2
end SEARCH2
def hWx (ad : Nat → Nat) (tC : Nat → ClassId) (n : Nat → Nat) (I : Nat → Nat → Int32) (K : Nat → Int32) (LA : Nat → Int64) (bM : Nat → Option va_E) (aM : Nat → Nat → Option (ClassId × Nat)) (x : sX) (S : Nat → Nat → Nat → Int32) : nw_N := hW ad tC n I (va_up (va_up K 2 (nI x.1)) 3 (bI x.2.1)) x.2.2.1 LA bM aM S
/-- it returns; the search's state is x -/
def nw_xs (ad : Nat → Nat) (tC : Nat → ClassId) (n : Nat → Nat) (I : Nat → Nat → Int32) (K : Nat → Int32) (LA : Nat → Int64) (bM : Nat → Option va_E) (aM : Nat → Nat → Option (ClassId × Nat)) (F : Nat → Nat → Nat → Int32) (x : sX) : nw_P := fun o wn' ad' => o = none ∧ ad' = ad ∧ ∃ S', scr (upR (upR F 0 9 x.2.2.2.1) 0 10 x.2.2.2.2) S' ∧ wn' = hWx ad tC n I K LA bM aM x S'
theorem nw_xs_in {ad : Nat → Nat} {tC : Nat → ClassId} {n : Nat → Nat} {I : Nat → Nat → Int32} {K : Nat → Int32} {LA : Nat → Int64} {bM : Nat → Option va_E} {aM : Nat → Nat → Option (ClassId × Nat)} {F S : Nat → Nat → Nat → Int32} {x y : sX} (e : x = y) (h : scr (upR (upR F 0 9 x.2.2.2.1) 0 10 x.2.2.2.2) S) : nw_xs ad tC n I K LA bM aM F y none (hWx ad tC n I K LA bM aM x S) ad := by subst e; exact ⟨rfl, rfl, S, h, rfl⟩
theorem nw_xs_out {ad ad' : Nat → Nat} {tC : Nat → ClassId} {n : Nat → Nat} {I : Nat → Nat → Int32} {K : Nat → Int32} {LA : Nat → Int64} {bM : Nat → Option va_E} {aM : Nat → Nat → Option (ClassId × Nat)} {F : Nat → Nat → Nat → Int32} {x : sX} {rv : Option Value} {wn' : nw_N} {D : va_G} {A : Nat → Prop} {H : Heap} (h : nw_xs ad tC n I K LA bM aM F x rv wn' ad') (hw : nw_W D hpC A wn' ad' H) : rv = none ∧ ∃ S', scr (upR (upR F 0 9 x.2.2.2.1) 0 10 x.2.2.2.2) S' ∧ nw_W D hpC A (hWx ad tC n I K LA bM aM x S') ad H := by
  obtain ⟨h1, h2, S', h3, h4⟩ := h
  rw [h2, h4] at hw
  exact ⟨h1, S', h3, hw⟩
def nw_fo (v : Option Value) (wf : (Nat → Int64) → nw_N) (ad : Nat → Nat) (X : (Nat → Int64) → Prop) : nw_P := fun o wn' ad' => o = v ∧ ad' = ad ∧ ∃ L', X L' ∧ wn' = wf L'
theorem nw_fo_out {v rv : Option Value} {wf : (Nat → Int64) → nw_N} {ad ad' : Nat → Nat} {X : (Nat → Int64) → Prop} {wn' : nw_N} {D : va_G} {cl : List vw_C} {A : Nat → Prop} {H : Heap} (h : nw_fo v wf ad X rv wn' ad') (hw : nw_W D cl A wn' ad' H) : rv = v ∧ ∃ L', X L' ∧ nw_W D cl A (wf L') ad H := by
  obtain ⟨h1, h2, L', h3, h4⟩ := h
  rw [h2, h4] at hw
  exact ⟨h1, L', h3, hw⟩
theorem m1_sub (x : Int32) : x + Int32.ofInt (-1) = x - 1 := by rw [Int32.sub_eq_add_neg]; rfl
section CG
variable {n : Nat → Nat} {I : Nat → Nat → Int32} {ow sq : Nat → Nat} {S0 S1 : Nat → Nat → Nat → Int32}
theorem svS_cg (h2 : S1 2 = S0 2) {o : Nat} {pl lf : Nat → Int32} : ∀ k, svS I ow S1 o pl lf k = svS I ow S0 o pl lf k := by
  intro k
  induction k with
  | zero => rfl
  | succ k ih => simp only [svS, pWants, ih, h2]
theorem saS_cg (h2 : S1 2 = S0 2) {pl lf gt : Nat → Int32} : ∀ k, saS n I ow sq S1 pl lf gt k = saS n I ow sq S0 pl lf gt k := by
  intro k
  induction k with
  | zero => rfl
  | succ k ih => simp only [saS, ih, svS_cg h2]
theorem prS_cg (h3 : S1 3 = S0 3) {pl lf : Nat → Int32} : ∀ k, prS n I S1 pl lf k = prS n I S0 pl lf k := by
  intro k
  induction k with
  | zero => rfl
  | succ k ih => simp only [prS, ckL, ih, h3]
theorem saF_cg (h2 : S1 2 = S0 2) (h3 : S1 3 = S0 3) {pl : Nat → Int32} : saF n I ow sq S1 pl = saF n I ow sq S0 pl := by simp only [saF, saS_cg h2, h3]
theorem wrL_cg (h2 : S1 2 = S0 2) (h3 : S1 3 = S0 3) {pl : Nat → Int32} : wrL n I ow sq S1 pl = wrL n I ow sq S0 pl := by simp only [wrL, saF_cg h2 h3, prS_cg h3]
theorem tcS_cg (h2 : S1 2 = S0 2) {c : Nat} {tk : Int32} : ∀ k, tcS I ow S1 c tk k = tcS I ow S0 c tk k := by
  intro k
  induction k with
  | zero => rfl
  | succ k ih => simp only [tcS, pWants, ih, h2]
theorem topL_cg (h2 : S1 2 = S0 2) (h3 : S1 3 = S0 3) {c : Nat} {tk : Option Nat} : topL n I ow S1 c tk = topL n I ow S0 c tk := by
  cases tk with
  | none => simp only [topL, ckL, h3]
  | some w => simp only [topL, tcS_cg h2, h3]
theorem gtS_cg (h2 : S1 2 = S0 2) (h3 : S1 3 = S0 3) {c : Nat} : ∀ k, gtS n I ow S1 c k = gtS n I ow S0 c k := by
  intro k
  induction k with
  | zero => simp only [gtS, ckL, h3]
  | succ k ih => simp only [gtS, ih, topL_cg h2 h3]
theorem hpS_cg (h2 : S1 2 = S0 2) (h3 : S1 3 = S0 3) : ∀ k, hpS n I ow S1 k = hpS n I ow S0 k := by
  intro k
  induction k with
  | zero => rfl
  | succ k ih => simp only [hpS, ih, gtS_cg h2 h3]
end CG
theorem wrL_F {n : Nat → Nat} {I : Nat → Nat → Int32} {ow sq : Nat → Nat} {F : Nat → Nat → Nat → Int32} {tr be : Nat → Int32} : wrL n I ow sq (upR (upR F 0 9 tr) 0 10 be) (upR (upR F 0 9 tr) 0 10 be 0 9) = wrL n I ow sq F tr := by
  rw [show upR (upR F 0 9 tr) 0 10 be 0 9 = tr from rfl]
  exact wrL_cg (S0 := F) (S1 := upR (upR F 0 9 tr) 0 10 be) rfl rfl
theorem topL_F {n : Nat → Nat} {I : Nat → Nat → Int32} {ow : Nat → Nat} {F : Nat → Nat → Nat → Int32} {tr be : Nat → Int32} {c : Nat} {tk : Option Nat} : topL n I ow (upR (upR F 0 9 tr) 0 10 be) c tk = topL n I ow F c tk := topL_cg (S0 := F) (S1 := upR (upR F 0 9 tr) 0 10 be) rfl rfl
