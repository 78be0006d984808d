/-! WHAT CALLS ASK FIRST -/
abbrev xIA : String := "java/lang/IllegalArgumentException"
abbrev xIS : String := "java/lang/IllegalStateException"
/-- it returns where P holds, else it throws X; the world stays -/
def nx_req (P : Prop) (X : String) (wn : nw_N) (ad : Nat → Nat) : nx_P := fun r wn' ad' => wn' = wn ∧ ad' = ad ∧ ((r = .inl none ∧ P) ∨ (r = .inr X ∧ ¬ P))
theorem nx_req_i {P : Prop} {X : String} {wn wn' : nw_N} {ad ad' : Nat → Nat} {v : Option Value} (h : nx_req P X wn ad (.inl v) wn' ad') : v = none ∧ wn' = wn ∧ ad' = ad ∧ P := by
  obtain ⟨h1, h2, ⟨h3, h4⟩ | ⟨h3, h4⟩⟩ := h
  · cases h3; exact ⟨rfl, h1, h2, h4⟩
  · cases h3
theorem nx_req_x {P : Prop} {X Y : String} {wn wn' : nw_N} {ad ad' : Nat → Nat} (h : nx_req P X wn ad (.inr Y) wn' ad') : Y = X ∧ wn' = wn ∧ ad' = ad ∧ ¬ P := by
  obtain ⟨h1, h2, ⟨h3, h4⟩ | ⟨h3, h4⟩⟩ := h
  · cases h3
  · cases h3; exact ⟨rfl, h1, h2, h4⟩
/-- an operation: ba: an argument is bad; bs: the state is; else G -/
def nx_po (ba bs : Prop) (W0 : nw_N) (ad : Nat → Nat) (G : Option Value → nw_N → (Nat → Nat) → Prop) : nx_P := fun r wn' ad' => match r with
  | .inl v => ¬ ba ∧ ¬ bs ∧ G v wn' ad'
  | .inr X => wn' = W0 ∧ ad' = ad ∧ ((X = xIA ∧ ba) ∨ (X = xIS ∧ ¬ ba ∧ bs))
theorem nat_of {x : Int32} {k : Nat} (hk : k < 2 ^ 31) (h : 0 ≤ x ∧ x < nI k) : ∃ i, x = nI i ∧ i < k := by
  have e : x = nI x.toNatClampNeg := (Int32.ofNat_toNatClampNeg x h.1).symm
  have h2 := h.2
  rw [e] at h2
  exact ⟨x.toNatClampNeg, e, (nI_ltI (Int32.toNatClampNeg_lt x) hk).mp h2⟩
set_option maxHeartbeats 4000000 in
set_option maxRecDepth 100000 in
/-- a number within bounds -/
theorem c_X_requireWithin (l : Launch) (D : va_G) (tC : Nat → ClassId) (A : Nat → Prop) (ad : Nat → Nat) (wn : nw_N) (s0 : State) (hF : nx_F s0) (hfl : l.stackTraces = false) (hAs : ∀ q, A q → s0.heap.size ≤ q) (x lo hi : Int32) : nx_M l y_X_requireWithin [Cond.code y_X_requireWithin b_X_requireWithin 3 none] ({ frames := 6, cells := 1, slots := 6, locals := 110 } : Room) D hpC A [.int (x), .int (lo), .int (hi)] (nx_pre D hpC (hpT tC) A (wn) ad s0) (nx_req (lo ≤ x ∧ x ≤ hi) xIA wn ad) 1 6 := by
  refine nx_bodyK (by decide) (Nat.le_of_ble_eq_true rfl) ?_
  intro p e s m below meth cd ls args Q hSx hr hlocks hout hB hA hKs hw hS hl hQ
  obtain ⟨hx, hb, hml, hown, hts⟩ := id hSx
  have hK := hKs.1
  have hl : lv_has ls 3 [(0, .int (x)), (1, .int (lo)), (2, .int (hi))] := hl
  refine lv_iload_n hx hb d_X_requireWithin_0 rfl (lv_at hl 0 rfl) ?_
  refine lv_iload_n hx hb d_X_requireWithin_1 rfl (lv_at hl 1 rfl) ?_
  refine lv_icmp_lt (tgt := 10) hx hb d_X_requireWithin_2 (by decide) (fun c_2 => ?_) (fun c_2 => ?_)
  · skip
    have hneg : ¬ (lo ≤ x ∧ x ≤ hi) := fun h => Int32.not_le.mpr c_2 h.1
    exact nx_throw hfl hF hB hx hb (hml.trans hl.1.symm) hown hQ hlocks hout (hts _ kw_271) (hts _ kw_272) (hts _ kw_12) (by decide +kernel) nx_atA kt_311 hw hA (⟨rfl, rfl, Or.inr ⟨rfl, hneg⟩⟩) (Nat.le_of_ble_eq_true rfl) (Nat.le_of_ble_eq_true rfl) (Nat.le_of_ble_eq_true rfl) (Nat.le_of_ble_eq_true rfl) (Nat.le_of_ble_eq_true rfl) (Nat.le_of_ble_eq_true rfl) d_X_requireWithin_10 d_X_requireWithin_13 d_X_requireWithin_14 d_X_requireWithin_16 d_X_requireWithin_19
  · skip
    refine lv_iload_n hx hb d_X_requireWithin_5 rfl (lv_at hl 0 rfl) ?_
    refine lv_iload_n hx hb d_X_requireWithin_6 rfl (lv_at hl 2 rfl) ?_
    refine lv_icmp_le (tgt := 20) hx hb d_X_requireWithin_7 (by decide) (fun c_7 => ?_) (fun c_7 => ?_)
    · skip
      exact nx_ret hQ (nw_vret rfl hx hb hr hlocks hw hS (⟨rfl, rfl, Or.inl ⟨rfl, Int32.not_lt.mp c_2, c_7⟩⟩) (Nat.le_of_ble_eq_true rfl) (Nat.le_of_ble_eq_true rfl) d_X_requireWithin_20)
    · skip
      have hneg : ¬ (lo ≤ x ∧ x ≤ hi) := fun h => Int32.not_le.mpr (Int32.not_le.mp c_7) h.2
      exact nx_throw hfl hF hB hx hb (hml.trans hl.1.symm) hown hQ hlocks hout (hts _ kw_271) (hts _ kw_272) (hts _ kw_12) (by decide +kernel) nx_atA kt_311 hw hA (⟨rfl, rfl, Or.inr ⟨rfl, hneg⟩⟩) (Nat.le_of_ble_eq_true rfl) (Nat.le_of_ble_eq_true rfl) (Nat.le_of_ble_eq_true rfl) (Nat.le_of_ble_eq_true rfl) (Nat.le_of_ble_eq_true rfl) (Nat.le_of_ble_eq_true rfl) d_X_requireWithin_10 d_X_requireWithin_13 d_X_requireWithin_14 d_X_requireWithin_16 d_X_requireWithin_19

set_option maxHeartbeats 4000000 in
set_option maxRecDepth 100000 in
/-- one of so many -/
theorem c_X_requireOneOf (l : Launch) (D : va_G) (tC : Nat → ClassId) (A : Nat → Prop) (ad : Nat → Nat) (wn : nw_N) (s0 : State) (hF : nx_F s0) (hfl : l.stackTraces = false) (hAs : ∀ q, A q → s0.heap.size ≤ q) (x k : Int32) : nx_M l y_X_requireOneOf [Cond.code y_X_requireOneOf b_X_requireOneOf 2 none] ({ frames := 6, cells := 1, slots := 6, locals := 110 } : Room) D hpC A [.int (x), .int (k)] (nx_pre D hpC (hpT tC) A (wn) ad s0) (nx_req (0 ≤ x ∧ x < k) xIA wn ad) 1 6 := by
  refine nx_bodyK (by decide) (Nat.le_of_ble_eq_true rfl) ?_
  intro p e s m below meth cd ls args Q hSx hr hlocks hout hB hA hKs hw hS hl hQ
  obtain ⟨hx, hb, hml, hown, hts⟩ := id hSx
  have hK := hKs.1
  have hl : lv_has ls 2 [(0, .int (x)), (1, .int (k))] := hl
  refine lv_iload_n hx hb d_X_requireOneOf_0 rfl (lv_at hl 0 rfl) ?_
  refine lv_if_lt (tgt := 9) hx hb d_X_requireOneOf_1 (by decide) (fun c_1 => ?_) (fun c_1 => ?_)
  · skip
    have hneg : ¬ (0 ≤ x ∧ x < k) := fun h => Int32.not_le.mpr c_1 h.1
    exact nx_throw hfl hF hB hx hb (hml.trans hl.1.symm) hown hQ hlocks hout (hts _ kw_271) (hts _ kw_272) (hts _ kw_12) (by decide +kernel) nx_atA kt_392 hw hA (⟨rfl, rfl, Or.inr ⟨rfl, hneg⟩⟩) (Nat.le_of_ble_eq_true rfl) (Nat.le_of_ble_eq_true rfl) (Nat.le_of_ble_eq_true rfl) (Nat.le_of_ble_eq_true rfl) (Nat.le_of_ble_eq_true rfl) (Nat.le_of_ble_eq_true rfl) d_X_requireOneOf_9 d_X_requireOneOf_12 d_X_requireOneOf_13 d_X_requireOneOf_15 d_X_requireOneOf_18
  · skip
    refine lv_iload_n hx hb d_X_requireOneOf_4 rfl (lv_at hl 0 rfl) ?_
    refine lv_iload_n hx hb d_X_requireOneOf_5 rfl (lv_at hl 1 rfl) ?_
    refine lv_icmp_lt (tgt := 19) hx hb d_X_requireOneOf_6 (by decide) (fun c_6 => ?_) (fun c_6 => ?_)
    · skip
      exact nx_ret hQ (nw_vret rfl hx hb hr hlocks hw hS (⟨rfl, rfl, Or.inl ⟨rfl, Int32.not_lt.mp c_1, c_6⟩⟩) (Nat.le_of_ble_eq_true rfl) (Nat.le_of_ble_eq_true rfl) d_X_requireOneOf_19)
    · skip
      have hneg : ¬ (0 ≤ x ∧ x < k) := fun h => c_6 h.2
      exact nx_throw hfl hF hB hx hb (hml.trans hl.1.symm) hown hQ hlocks hout (hts _ kw_271) (hts _ kw_272) (hts _ kw_12) (by decide +kernel) nx_atA kt_392 hw hA (⟨rfl, rfl, Or.inr ⟨rfl, hneg⟩⟩) (Nat.le_of_ble_eq_true rfl) (Nat.le_of_ble_eq_true rfl) (Nat.le_of_ble_eq_true rfl) (Nat.le_of_ble_eq_true rfl) (Nat.le_of_ble_eq_true rfl) (Nat.le_of_ble_eq_true rfl) d_X_requireOneOf_9 d_X_requireOneOf_12 d_X_requireOneOf_13 d_X_requireOneOf_15 d_X_requireOneOf_18

set_option maxHeartbeats 4000000 in
set_option maxRecDepth 100000 in
/-- room for one more -/
theorem c_X_requireRoom (l : Launch) (D : va_G) (tC : Nat → ClassId) (A : Nat → Prop) (ad : Nat → Nat) (wn : nw_N) (s0 : State) (hF : nx_F s0) (hfl : l.stackTraces = false) (hAs : ∀ q, A q → s0.heap.size ≤ q) (x k : Int32) : nx_M l y_X_requireRoom [Cond.code y_X_requireRoom b_X_requireRoom 2 none] ({ frames := 6, cells := 1, slots := 6, locals := 110 } : Room) D hpC A [.int (x), .int (k)] (nx_pre D hpC (hpT tC) A (wn) ad s0) (nx_req (x < k) xIS wn ad) 1 6 := by
  refine nx_bodyK (by decide) (Nat.le_of_ble_eq_true rfl) ?_
  intro p e s m below meth cd ls args Q hSx hr hlocks hout hB hA hKs hw hS hl hQ
  obtain ⟨hx, hb, hml, hown, hts⟩ := id hSx
  have hK := hKs.1
  have hl : lv_has ls 2 [(0, .int (x)), (1, .int (k))] := hl
  refine lv_iload_n hx hb d_X_requireRoom_0 rfl (lv_at hl 0 rfl) ?_
  refine lv_iload_n hx hb d_X_requireRoom_1 rfl (lv_at hl 1 rfl) ?_
  refine lv_icmp_lt (tgt := 15) hx hb d_X_requireRoom_2 (by decide) (fun c_2 => ?_) (fun c_2 => ?_)
  · skip
    exact nx_ret hQ (nw_vret rfl hx hb hr hlocks hw hS (⟨rfl, rfl, Or.inl ⟨rfl, c_2⟩⟩) (Nat.le_of_ble_eq_true rfl) (Nat.le_of_ble_eq_true rfl) d_X_requireRoom_15)
  · skip
    exact nx_throw hfl hF hB hx hb (hml.trans hl.1.symm) hown hQ hlocks hout (hts _ kw_341) (hts _ kw_342) (hts _ kw_13) (by decide +kernel) nx_atS kt_350 hw hA (⟨rfl, rfl, Or.inr ⟨rfl, c_2⟩⟩) (Nat.le_of_ble_eq_true rfl) (Nat.le_of_ble_eq_true rfl) (Nat.le_of_ble_eq_true rfl) (Nat.le_of_ble_eq_true rfl) (Nat.le_of_ble_eq_true rfl) (Nat.le_of_ble_eq_true rfl) d_X_requireRoom_5 d_X_requireRoom_8 d_X_requireRoom_9 d_X_requireRoom_11 d_X_requireRoom_14
