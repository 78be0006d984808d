/-! THE WORLD OF THE LAW: the class's and the model's together, and the law's row 'out' (69) -/
def aE0 (_ _ : Nat) : Option (ClassId × Nat) := none
def bE (tC : Nat → ClassId) (o : Nat → Int64) (k : Nat) : Option va_E := if k = 69 then some (.inl (tC 1, 1, .inr (.inl o))) else none
def cW (ad : Nat → Nat) (tC : Nat → ClassId) (n : Nat → Nat) (I : Nat → Nat → Int32) (K : Nat → Int32) (bw : Int64) (LA : Nat → Int64) (n' : Nat → Nat) (J : Nat → Int32) (bw' : Int64) (L : Nat → Nat → Int64) (o : Nat → Int64) (S : Nat → Nat → Nat → Int32) : nw_N := hW ad tC n I K bw LA (obM ad tC n' J bw' L (bE tC o)) (arM tC aE0) S
section CWW
variable {ad ad' : Nat → Nat} {tC : Nat → ClassId} {n n' : Nat → Nat} {I : Nat → Nat → Int32} {K J : Nat → Int32} {bw bw' : Int64} {LA o o' : Nat → Int64} {L : Nat → Nat → Int64} {S : Nat → Nat → Nat → Int32} {D : va_G} {A : Nat → Prop} {H : Heap} {bX : Nat → Option va_E}
theorem cW_m : cW ad tC n I K bw LA n' J bw' L o S = mW ad tC n' J bw' L (obX ad tC n I K bw LA (bE tC o)) (arX tC n aE0) S := by
  funext k
  simp only [cW, hW, mW, gw]
  by_cases h : k < 100
  · rw [if_pos h, if_pos h]
    simp only [obX, obM]
    by_cases h1 : k < 56
    · rw [if_pos h1, if_neg (by omega), if_pos h1]
    · rw [if_neg h1]
      by_cases h2 : 64 ≤ k ∧ k < 69
      · rw [if_pos h2, if_pos h2]
      · rw [if_neg h2, if_neg h2, if_neg h1]
  · rw [if_neg h, if_neg h]
    have e : arX tC n (arM tC aE0) ((k - 100) / 16) ((k - 100) % 16) = arM tC (arX tC n aE0) ((k - 100) / 16) ((k - 100) % 16) := by
      generalize (k - 100) / 16 = t
      simp only [arX, arM]
      by_cases h1 : t < 5
      · rw [if_pos h1, if_neg (by omega), if_pos h1]
      · rw [if_neg h1]
        by_cases h2 : 5 ≤ t ∧ t < 7
        · rw [if_pos h2, if_pos h2]
        · rw [if_neg h2, if_neg h2, if_neg h1]
    rw [e]
theorem cW_69 : cW ad tC n I K bw LA n' J bw' L o S 69 = some (.inl (tC 1, 1, .inr (.inl o))) := rfl
theorem cW_setO (hw : nw_W D hpC A (va_up (cW ad tC n I K bw LA n' J bw' L o S) 69 (some (.inl (tC 1, 1, .inr (.inl o'))))) ad H) : nw_W D hpC A (cW ad tC n I K bw LA n' J bw' L o' S) ad H := by
  refine gw_put (q := 69) (by omega) rfl (fun k hk => ?_) hw
  simp only [obX, obM, bE]
  by_cases h1 : k < 56
  · rw [if_pos h1, if_pos h1]
  · rw [if_neg h1, if_neg h1]
    by_cases h2 : 64 ≤ k ∧ k < 69
    · rw [if_pos h2, if_pos h2]
    · rw [if_neg h2, if_neg h2, if_neg hk, if_neg hk]
theorem obM_ad (h : ∀ k, (65 ≤ k ∧ k < 69) ∨ (180 ≤ k ∧ k < 197) → ad' k = ad k) : obM ad' tC n J bw L bX = obM ad tC n J bw L bX := by
  funext k
  simp only [obM]
  by_cases h2 : 64 ≤ k ∧ k < 69
  · rw [if_pos h2, if_pos h2]
    unfold oM
    rw [h 65 (by omega), h 66 (by omega), h 67 (by omega), h 68 (by omega), h 180 (by omega), h 181 (by omega), h 182 (by omega), h 183 (by omega), h 184 (by omega), h 185 (by omega), h 186 (by omega), h 187 (by omega), h 188 (by omega), h 189 (by omega), h 190 (by omega), h 191 (by omega), h 192 (by omega), h 193 (by omega), h 194 (by omega), h 195 (by omega), h 196 (by omega)]
  · rw [if_neg h2, if_neg h2]
theorem cW_ad (h : ∀ k, (65 ≤ k ∧ k < 69) ∨ (180 ≤ k ∧ k < 197) → ad' k = ad k) : hW ad' tC n I K bw LA (obM ad tC n' J bw' L (bE tC o)) (arM tC aE0) S = cW ad' tC n I K bw LA n' J bw' L o S := by
  rw [cW, obM_ad (ad := ad) (ad' := ad') h]
theorem obX_ad {ad ad' : Nat → Nat} {n : Nat → Nat} {bX : Nat → Option va_E} (h : ∀ k, (k < 10 ∨ (24 ≤ k ∧ k < 24 + n 1) ∨ (32 ≤ k ∧ k < 32 + n 2) ∨ (40 ≤ k ∧ k < 40 + n 3) ∨ (48 ≤ k ∧ k < 48 + n 4) ∨ (100 ≤ k ∧ k < 111) ∨ (116 ≤ k ∧ k < 116 + n 1) ∨ (132 ≤ k ∧ k < 132 + n 2) ∨ (148 ≤ k ∧ k < 148 + n 2) ∨ (164 ≤ k ∧ k < 164 + n 3)) → ad' k = ad k) : obX ad' tC n I K bw LA bX = obX ad tC n I K bw LA bX := by
  funext k
  simp only [obX]
  by_cases h1 : k < 56
  · rw [if_pos h1, if_pos h1]
    have e := congrFun (hW_ad (tC := tC) (I := I) (K := K) (bw := bw) (LA := LA) (bM := bX) (aM := fun _ _ => none) (S := fun _ _ _ => 0) h) k
    rw [hW_ob h1, hW_ob h1] at e
    exact e
  · rw [if_neg h1, if_neg h1]
theorem cW_new {ad2 : Nat → Nat} (h1 : obX ad2 tC n I K bw LA (fun _ => none) = obX ad' tC n I K bw LA (fun _ => none)) (h2 : ∀ k, (65 ≤ k ∧ k < 69) ∨ (180 ≤ k ∧ k < 197) → ad' k = ad k) : cW ad' tC n I K bw LA n' J bw' L o S = va_up (mW ad tC n' J bw' L (obX ad2 tC n I K bw LA (fun _ => none)) (arX tC n (fun _ _ => none)) S) 69 (some (.inl (tC 1, 1, .inr (.inl o)))) := by
  rw [cW_m, h1]
  funext k
  by_cases hk : k = 69
  · subst hk; rw [va_up_self]; rfl
  · rw [va_up_ne _ _ hk]
    simp only [mW, gw]
    rw [obM_ad (bX := obX ad' tC n I K bw LA (bE tC o)) h2]
    by_cases h : k < 100
    · rw [if_pos h, if_pos h]
      simp only [obM, obX, bE]
      by_cases h3 : 64 ≤ k ∧ k < 69
      · rw [if_pos h3, if_pos h3]
      · rw [if_neg h3, if_neg h3, if_neg hk]
    · rw [if_neg h, if_neg h]
      rfl
end CWW
/-- the addresses of what the law holds stay -/
def agr (ad ad' : Nat → Nat) : Prop := ad' 0 = ad 0 ∧ ad' 64 = ad 64 ∧ ad' 69 = ad 69
theorem agr_rf {ad : Nat → Nat} : agr ad ad := ⟨rfl, rfl, rfl⟩
/-- what a call through the law gives: 1 and ts where it was refused, else 0 -/
def lw_po (ba bs : Prop) (ts : Int32) (W0 : nw_N) (ad : Nat → Nat) (G : nw_N → (Nat → Nat) → Prop) : nx_P := fun r wn' ad' => (r = .inl (some (.int 1)) ∧ ba ∧ wn' = W0 ∧ ad' = ad) ∨ (r = .inl (some (.int ts)) ∧ ¬ ba ∧ bs ∧ wn' = W0 ∧ ad' = ad) ∨ (r = .inl (some (.int 0)) ∧ ¬ ba ∧ ¬ bs ∧ G wn' ad')
theorem lw_po_x {ba bs : Prop} {ts : Int32} {W0 : nw_N} {ad : Nat → Nat} {G : nw_N → (Nat → Nat) → Prop} {X : String} {wn' : nw_N} {ad' : Nat → Nat} (h : lw_po ba bs ts W0 ad G (.inr X) wn' ad') : False := by
  rcases h with ⟨h, _⟩ | ⟨h, _⟩ | ⟨h, _⟩ <;> cases h
theorem lw_po_i {ba bs : Prop} {ts : Int32} {W0 : nw_N} {ad : Nat → Nat} {G : nw_N → (Nat → Nat) → Prop} {v : Option Value} {wn' : nw_N} {ad' : Nat → Nat} (h : lw_po ba bs ts W0 ad G (.inl v) wn' ad') : (v = some (.int (nI 1)) ∧ ba ∧ wn' = W0 ∧ ad' = ad) ∨ (v = some (.int ts) ∧ ¬ ba ∧ bs ∧ wn' = W0 ∧ ad' = ad) ∨ (v = some (.int (nI 0)) ∧ ¬ ba ∧ ¬ bs ∧ G wn' ad') := by
  rcases h with ⟨h, h2⟩ | ⟨h, h2⟩ | ⟨h, h2⟩ <;> cases h
  · exact Or.inl ⟨rfl, h2⟩
  · exact Or.inr (Or.inl ⟨rfl, h2⟩)
  · exact Or.inr (Or.inr ⟨rfl, h2⟩)
theorem nx_po_x {ba bs : Prop} {W0 : nw_N} {ad : Nat → Nat} {G : Option Value → nw_N → (Nat → Nat) → Prop} {X : String} {wn' : nw_N} {ad' : Nat → Nat} (h : nx_po ba bs W0 ad G (.inr X) wn' ad') : wn' = W0 ∧ ad' = ad ∧ ((X = xIA ∧ ba) ∨ (X = xIS ∧ ¬ ba ∧ bs)) := h
theorem nx_po_i {ba bs : Prop} {W0 : nw_N} {ad : Nat → Nat} {G : Option Value → nw_N → (Nat → Nat) → Prop} {v : Option Value} {wn' : nw_N} {ad' : Nat → Nat} (h : nx_po ba bs W0 ad G (.inl v) wn' ad') : ¬ ba ∧ ¬ bs ∧ G v wn' ad' := h
theorem LR_N {n : Nat → Nat} {I : Nat → Nat → Int32} {K J : Nat → Int32} {S : Nat → Nat → Nat → Int32} (h : LR n I K J S) : hpN n := by
  obtain ⟨_, _, _, h9⟩ := h
  exact h9.1.1
