/-! the search's start -/
theorem scr_fill {S0 S : Nat → Nat → Nat → Int32} {v : Int32} {m : Nat} (h : scr S0 S) : scr (upR (upR S0 0 9 (flR (S0 0 9) v m)) 0 10 (S0 0 10)) (upR S 0 9 (flR (S 0 9) v m)) := fun t j hj => by
  have e9 : S 0 9 = S0 0 9 := h 0 9 (by omega)
  by_cases h1 : t = 0 ∧ j = 9
  · obtain ⟨rfl, rfl⟩ := h1
    rw [upR_self, e9, upR_ne (by omega), upR_self]
  · rw [upR_ne h1, h t j hj]
    by_cases h2 : t = 0 ∧ j = 10
    · obtain ⟨rfl, rfl⟩ := h2
      rw [upR_self]
    · rw [upR_ne h2, upR_ne h1]
theorem ex_fill {D : va_G} {A : Nat → Prop} {ad : Nat → Nat} {tC : Nat → ClassId} {n : Nat → Nat} {I : Nat → Nat → Int32} {K : Nat → Int32} {bw : Int64} {LA : Nat → Int64} {bM : Nat → Option va_E} {aM : Nat → Nat → Option (ClassId × Nat)} {S0 S : Nat → Nat → Nat → Int32} {v : Int32} {m : Nat} {H : Heap} (h : scr S0 S) (hw : nw_W D hpC A (hW ad tC n I K bw LA bM aM (upR S 0 9 (flR (S 0 9) v m))) ad H) : ∃ S', scr (upR (upR S0 0 9 (flR (S0 0 9) v m)) 0 10 (S0 0 10)) S' ∧ nw_W D hpC A (hW ad tC n I K bw LA bM aM S') ad H := ⟨_, scr_fill h, hw⟩
theorem okT_fl {n : Nat → Nat} {f : Nat → Int32} (hn : n 2 ≤ 6) : okT n (flR f (-1) 6) := fun c hc => Or.inl (by simp only [flR]; rw [if_pos (by omega)])
/-- what the search leaves, from its start -/
noncomputable def stX (n : Nat → Nat) (I : Nat → Nat → Int32) (hm ow sq : Nat → Nat) (S0 : Nat → Nat → Nat → Int32) (lim : Nat) : sX := brF n I hm ow sq S0 lim (n 2) 0 0 (0, false, -1, flR (S0 0 9) (-1) 6, S0 0 10)
def nw_st (ad : Nat → Nat) (tC : Nat → ClassId) (n : Nat → Nat) (I : Nat → Nat → Int32) (K : Nat → Int32) (bM : Nat → Option va_E) (aM : Nat → Nat → Option (ClassId × Nat)) (F : Nat → Nat → Nat → Int32) (x : sX) : nw_P := fun o wn' ad' => o = none ∧ ad' = ad ∧ ∃ LA' S', scr (upR (upR F 0 9 x.2.2.2.1) 0 10 x.2.2.2.2) S' ∧ wn' = hWx ad tC n I K LA' bM aM x S'
theorem nw_st_out {ad ad' : Nat → Nat} {tC : Nat → ClassId} {n : Nat → Nat} {I : Nat → Nat → Int32} {K : Nat → Int32} {bM : Nat → Option va_E} {aM : Nat → Nat → Option (ClassId × Nat)} {F : Nat → Nat → Nat → Int32} {x : sX} {rv : Option Value} {wn' : nw_N} {D : va_G} {A : Nat → Prop} {H : Heap} (h : nw_st ad tC n I K bM aM F x rv wn' ad') (hw : nw_W D hpC A wn' ad' H) : rv = none ∧ ∃ LA' S', scr (upR (upR F 0 9 x.2.2.2.1) 0 10 x.2.2.2.2) S' ∧ nw_W D hpC A (hWx ad tC n I K LA' bM aM x S') ad H := by
  obtain ⟨h1, h2, L', S', h3, h4⟩ := h
  rw [h2, h4] at hw
  exact ⟨h1, L', S', h3, hw⟩
