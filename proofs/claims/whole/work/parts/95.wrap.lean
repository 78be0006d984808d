set_option maxHeartbeats 4000000 in
set_option maxRecDepth 100000 in
/-- closed, by the law -/
theorem w_closed (l : Launch) (D : va_G) (tC : Nat → ClassId) (A : Nat → Prop) (ad : Nat → Nat) (n : Nat → Nat) (I : Nat → Nat → Int32) (K : Nat → Int32) (bw : Int64) (LA : Nat → Int64) (n2 : Nat → Nat) (J : Nat → Int32) (bw2 : Int64) (L : Nat → Nat → Int64) (o : Nat → Int64) (S : Nat → Nat → Nat → Int32) (hN : hpN n) (s0 : State) (hF : nx_F s0) (hfl : l.stackTraces = false) (hAs : ∀ q, A q → s0.heap.size ≤ q) (x1 x2 x3 : Int32) (hz : x3 = 0 ∨ x3 = 1) (hzz : ∀ j k, S 1 j k = 0 ∨ S 1 j k = 1) : nx_M l y_L_closed [(Jvm.Cond.codeWith ({ cls := "HarvestPlansLaw", name := "closed", desc := "(LHarvestPlans;IIZ[J)I" } : Jvm.MethodName) method_4_code (6 : Nat) (Option.some Jvm.ClassFile.FieldType.int) [((0 : Nat), (19 : Nat), (22 : Nat), (13 : Nat))])] ({ frames := 9, cells := 2, slots := 12, locals := 177 } : Room) D hpC A [.ref (ad (0)), .int (x1), .int (x2), .int (x3), .ref (ad (69))] (nx_pre D hpC (hpT tC) A (cW ad tC n I K bw LA n2 J bw2 L o S) ad s0) (lw_po (¬ ((0 ≤ x1 ∧ x1 < nI (n 1)) ∧ (0 ≤ x2 ∧ x2 < nI (n 0)))) (¬ (True)) 2 (cW ad tC n I K bw LA n2 J bw2 L o S) ad (fun wn' ad' => ad' = ad ∧ wn' = cW ad tC n I (va_up K 0 (nI 0)) bw LA n2 J bw2 L (vp_updL o 0 (if (upR S 0 0 (flR (S 0 0) (-1) 6)) 1 (x1.toNatClampNeg) (x2.toNatClampNeg) = 0 then (0 : Int64) else 1)) (upR (upR S 0 0 (flR (S 0 0) (-1) 6)) 1 (x1.toNatClampNeg) (upd ((upR S 0 0 (flR (S 0 0) (-1) 6)) 1 (x1.toNatClampNeg)) (x2.toNatClampNeg) x3)))) 2 12 := by
  refine nx_bodyW (by decide) (Nat.le_of_ble_eq_true rfl) ?_
  intro p e s m below meth cd ls args Q hSx hr hlocks hexc hB hA hKs hw hS hl hQ
  obtain ⟨hx, hb, hml, hown, hts⟩ := id hSx
  have hK := hKs.1
  have hl : lv_has ls 6 [(0, .ref (ad (0))), (1, .int (x1)), (2, .int (x2)), (3, .int (x3)), (4, .ref (ad (69)))] := hl
  obtain ⟨hn0, hn0', hn1, hn2, hn3, hn4⟩ := id hN
  refine lv_aload hx hb d_L_closed_0 (lv_at hl 4 rfl) ?_
  refine lv_iconst (v := nI 0) hx hb d_L_closed_2 (by decide) ?_
  refine lv_aload_n hx hb d_L_closed_3 rfl (lv_at hl 0 rfl) ?_
  refine lv_iload_n hx hb d_L_closed_4 rfl (lv_at hl 1 rfl) ?_
  refine lv_iload_n hx hb d_L_closed_5 rfl (lv_at hl 2 rfl) ?_
  refine lv_iload_n hx hb d_L_closed_6 rfl (lv_at hl 3 rfl) ?_
  refine nx_callC (nx_goV (n := 3) (As := [.int (x1), .int (x2), .int (x3)]) (rest := [.int (nI 0), .ref (ad (69))]) hSx hA hKs hB hAs hw hS (c_X_closed l D tC A ad n I K bw LA (obM ad tC n2 J bw2 L (bE tC o)) (arM tC aE0) S hN s0 hF hfl hAs (x1) (x2) (x3) hz hzz) kw_388 kw_385 kw_386 kw_387 kw_1 rfl rfl (by decide +kernel) ⟨Nat.le_of_ble_eq_true rfl, Nat.le_of_ble_eq_true rfl⟩ (nw_recv hK hw (hW_0) rfl) rfl hl.1 (Nat.le_of_ble_eq_true rfl) d_L_closed_7 ⟨Nat.le_of_ble_eq_true rfl, Nat.le_of_ble_eq_true rfl⟩) hS (fun X wn' ad' H locs x cell hpost hw hS hcell hst hcls T' hT X0 => ?_) (fun rv wn' ad' H locs hpost hw hS => ?_)
  · skip
    obtain ⟨hw0, had0, hcase⟩ := nx_po_x hpost
    rw [hw0, had0] at hw
    have hw := nw_W.as (wn' := cW ad tC n I K bw LA n2 J bw2 L o S) hw rfl
    rcases hcase with ⟨rfl, hba⟩ | ⟨rfl, hnba, hbs⟩
    · skip
      refine nx_catch1 hexc rfl (by decide) hown (hts _ kw_261) (nx_tab hB.1 rfl rfl (hF.1 _ kt_273)) hcell hst hcls hT X0 ?_
      refine lv_astore (lv' := [(5, .ref (x)), (0, .ref (ad (0))), (1, .int (x1)), (2, .int (x2)), (3, .int (x3)), (4, .ref (ad (69)))]) hx hb d_L_closed_22 hl (by decide) rfl (fun ls hl => ?_)
      refine lv_iconst (v := nI 1) hx hb d_L_closed_24 (by decide) ?_
      exact nx_ret hQ (nw_iret rfl hx hb hr hlocks hw hS (Or.inl ⟨rfl, hba, rfl, rfl⟩) (Nat.le_of_ble_eq_true rfl) (Nat.le_of_ble_eq_true rfl) d_L_closed_25)
    · skip
      exact absurd trivial hbs
  obtain ⟨hnba, hnbs, hG⟩ := nx_po_i hpost
  obtain ⟨hv, hwn, had⟩ := hG
  subst hv
  rw [hwn, had] at hw
  have hw := nw_W.as (wn' := cW ad tC n I (va_up K 0 (nI 0)) bw LA n2 J bw2 L o (upR (upR S 0 0 (flR (S 0 0) (-1) 6)) 1 (x1.toNatClampNeg) (upd ((upR S 0 0 (flR (S 0 0) (-1) 6)) 1 (x1.toNatClampNeg)) (x2.toNatClampNeg) x3))) hw rfl
  refine lv_if_eq (tgt := 17) hx hb d_L_closed_10 (by decide) (fun c_10 => ?_) (fun c_10 => ?_)
  · skip
    have hval : (0 : Int64) = (if (upR S 0 0 (flR (S 0 0) (-1) 6)) 1 (x1.toNatClampNeg) (x2.toNatClampNeg) = 0 then (0 : Int64) else 1) := (if_pos c_10).symm
    refine lv_lconst (v := 0) hx hb d_L_closed_17 (by decide) ?_
    refine lv_el (y := (if (upR S 0 0 (flR (S 0 0) (-1) 6)) 1 (x1.toNatClampNeg) (x2.toNatClampNeg) = 0 then (0 : Int64) else 1)) hval ?_
    refine nw_last hx hb hK hw hS (69) 1 (cW_69) rfl (0) (rfl) (by omega) (by omega) d_L_closed_18 (fun H locs hw hS => ?_)
    have hw := cW_setO hw
    refine lv_goto (tgt := 26) hx hb d_L_closed_19 (by decide) ?_
    refine lv_iconst (v := nI 0) hx hb d_L_closed_26 (by decide) ?_
    exact nx_ret hQ (nw_iret rfl hx hb hr hlocks hw hS (Or.inr (Or.inr ⟨rfl, hnba, hnbs, ⟨rfl, rfl⟩⟩)) (Nat.le_of_ble_eq_true rfl) (Nat.le_of_ble_eq_true rfl) d_L_closed_27)
  · skip
    have hval : (1 : Int64) = (if (upR S 0 0 (flR (S 0 0) (-1) 6)) 1 (x1.toNatClampNeg) (x2.toNatClampNeg) = 0 then (0 : Int64) else 1) := (if_neg c_10).symm
    refine lv_lconst (v := 1) hx hb d_L_closed_13 (by decide) ?_
    refine lv_goto (tgt := 18) hx hb d_L_closed_14 (by decide) ?_
    refine lv_el (y := (if (upR S 0 0 (flR (S 0 0) (-1) 6)) 1 (x1.toNatClampNeg) (x2.toNatClampNeg) = 0 then (0 : Int64) else 1)) hval ?_
    refine nw_last hx hb hK hw hS (69) 1 (cW_69) rfl (0) (rfl) (by omega) (by omega) d_L_closed_18 (fun H locs hw hS => ?_)
    have hw := cW_setO hw
    refine lv_goto (tgt := 26) hx hb d_L_closed_19 (by decide) ?_
    refine lv_iconst (v := nI 0) hx hb d_L_closed_26 (by decide) ?_
    exact nx_ret hQ (nw_iret rfl hx hb hr hlocks hw hS (Or.inr (Or.inr ⟨rfl, hnba, hnbs, ⟨rfl, rfl⟩⟩)) (Nat.le_of_ble_eq_true rfl) (Nat.le_of_ble_eq_true rfl) d_L_closed_27)

set_option maxHeartbeats 4000000 in
set_option maxRecDepth 100000 in
/-- weather, by the law -/
theorem w_weather (l : Launch) (D : va_G) (tC : Nat → ClassId) (A : Nat → Prop) (ad : Nat → Nat) (n : Nat → Nat) (I : Nat → Nat → Int32) (K : Nat → Int32) (bw : Int64) (LA : Nat → Int64) (n2 : Nat → Nat) (J : Nat → Int32) (bw2 : Int64) (L : Nat → Nat → Int64) (o : Nat → Int64) (S : Nat → Nat → Nat → Int32) (hN : hpN n) (s0 : State) (hF : nx_F s0) (hfl : l.stackTraces = false) (hAs : ∀ q, A q → s0.heap.size ≤ q) (x1 x2 x3 : Int32) (hz : x3 = 0 ∨ x3 = 1) (hzz : ∀ j k, S 4 j k = 0 ∨ S 4 j k = 1) : nx_M l y_L_weather [(Jvm.Cond.codeWith ({ cls := "HarvestPlansLaw", name := "weather", desc := "(LHarvestPlans;IIZ[J)I" } : Jvm.MethodName) method_8_code (6 : Nat) (Option.some Jvm.ClassFile.FieldType.int) [((0 : Nat), (19 : Nat), (22 : Nat), (13 : Nat))])] ({ frames := 9, cells := 2, slots := 12, locals := 177 } : Room) D hpC A [.ref (ad (0)), .int (x1), .int (x2), .int (x3), .ref (ad (69))] (nx_pre D hpC (hpT tC) A (cW ad tC n I K bw LA n2 J bw2 L o S) ad s0) (lw_po (¬ ((0 ≤ x1 ∧ x1 < nI (n 3)) ∧ (0 ≤ x2 ∧ x2 < nI (n 0)))) (¬ (True)) 2 (cW ad tC n I K bw LA n2 J bw2 L o S) ad (fun wn' ad' => ad' = ad ∧ wn' = cW ad tC n I (va_up K 0 (nI 0)) bw LA n2 J bw2 L (vp_updL o 0 (if (upR S 0 0 (flR (S 0 0) (-1) 6)) 4 (x1.toNatClampNeg) (x2.toNatClampNeg) = 0 then (0 : Int64) else 1)) (upR (upR S 0 0 (flR (S 0 0) (-1) 6)) 4 (x1.toNatClampNeg) (upd ((upR S 0 0 (flR (S 0 0) (-1) 6)) 4 (x1.toNatClampNeg)) (x2.toNatClampNeg) x3)))) 2 12 := by
  refine nx_bodyW (by decide) (Nat.le_of_ble_eq_true rfl) ?_
  intro p e s m below meth cd ls args Q hSx hr hlocks hexc hB hA hKs hw hS hl hQ
  obtain ⟨hx, hb, hml, hown, hts⟩ := id hSx
  have hK := hKs.1
  have hl : lv_has ls 6 [(0, .ref (ad (0))), (1, .int (x1)), (2, .int (x2)), (3, .int (x3)), (4, .ref (ad (69)))] := hl
  obtain ⟨hn0, hn0', hn1, hn2, hn3, hn4⟩ := id hN
  refine lv_aload hx hb d_L_weather_0 (lv_at hl 4 rfl) ?_
  refine lv_iconst (v := nI 0) hx hb d_L_weather_2 (by decide) ?_
  refine lv_aload_n hx hb d_L_weather_3 rfl (lv_at hl 0 rfl) ?_
  refine lv_iload_n hx hb d_L_weather_4 rfl (lv_at hl 1 rfl) ?_
  refine lv_iload_n hx hb d_L_weather_5 rfl (lv_at hl 2 rfl) ?_
  refine lv_iload_n hx hb d_L_weather_6 rfl (lv_at hl 3 rfl) ?_
  refine nx_callC (nx_goV (n := 3) (As := [.int (x1), .int (x2), .int (x3)]) (rest := [.int (nI 0), .ref (ad (69))]) hSx hA hKs hB hAs hw hS (c_X_weather l D tC A ad n I K bw LA (obM ad tC n2 J bw2 L (bE tC o)) (arM tC aE0) S hN s0 hF hfl hAs (x1) (x2) (x3) hz hzz) kw_472 kw_469 kw_470 kw_471 kw_1 rfl rfl (by decide +kernel) ⟨Nat.le_of_ble_eq_true rfl, Nat.le_of_ble_eq_true rfl⟩ (nw_recv hK hw (hW_0) rfl) rfl hl.1 (Nat.le_of_ble_eq_true rfl) d_L_weather_7 ⟨Nat.le_of_ble_eq_true rfl, Nat.le_of_ble_eq_true rfl⟩) hS (fun X wn' ad' H locs x cell hpost hw hS hcell hst hcls T' hT X0 => ?_) (fun rv wn' ad' H locs hpost hw hS => ?_)
  · skip
    obtain ⟨hw0, had0, hcase⟩ := nx_po_x hpost
    rw [hw0, had0] at hw
    have hw := nw_W.as (wn' := cW ad tC n I K bw LA n2 J bw2 L o S) hw rfl
    rcases hcase with ⟨rfl, hba⟩ | ⟨rfl, hnba, hbs⟩
    · skip
      refine nx_catch1 hexc rfl (by decide) hown (hts _ kw_261) (nx_tab hB.1 rfl rfl (hF.1 _ kt_273)) hcell hst hcls hT X0 ?_
      refine lv_astore (lv' := [(5, .ref (x)), (0, .ref (ad (0))), (1, .int (x1)), (2, .int (x2)), (3, .int (x3)), (4, .ref (ad (69)))]) hx hb d_L_weather_22 hl (by decide) rfl (fun ls hl => ?_)
      refine lv_iconst (v := nI 1) hx hb d_L_weather_24 (by decide) ?_
      exact nx_ret hQ (nw_iret rfl hx hb hr hlocks hw hS (Or.inl ⟨rfl, hba, rfl, rfl⟩) (Nat.le_of_ble_eq_true rfl) (Nat.le_of_ble_eq_true rfl) d_L_weather_25)
    · skip
      exact absurd trivial hbs
  obtain ⟨hnba, hnbs, hG⟩ := nx_po_i hpost
  obtain ⟨hv, hwn, had⟩ := hG
  subst hv
  rw [hwn, had] at hw
  have hw := nw_W.as (wn' := cW ad tC n I (va_up K 0 (nI 0)) bw LA n2 J bw2 L o (upR (upR S 0 0 (flR (S 0 0) (-1) 6)) 4 (x1.toNatClampNeg) (upd ((upR S 0 0 (flR (S 0 0) (-1) 6)) 4 (x1.toNatClampNeg)) (x2.toNatClampNeg) x3))) hw rfl
  refine lv_if_eq (tgt := 17) hx hb d_L_weather_10 (by decide) (fun c_10 => ?_) (fun c_10 => ?_)
  · skip
    have hval : (0 : Int64) = (if (upR S 0 0 (flR (S 0 0) (-1) 6)) 4 (x1.toNatClampNeg) (x2.toNatClampNeg) = 0 then (0 : Int64) else 1) := (if_pos c_10).symm
    refine lv_lconst (v := 0) hx hb d_L_weather_17 (by decide) ?_
    refine lv_el (y := (if (upR S 0 0 (flR (S 0 0) (-1) 6)) 4 (x1.toNatClampNeg) (x2.toNatClampNeg) = 0 then (0 : Int64) else 1)) hval ?_
    refine nw_last hx hb hK hw hS (69) 1 (cW_69) rfl (0) (rfl) (by omega) (by omega) d_L_weather_18 (fun H locs hw hS => ?_)
    have hw := cW_setO hw
    refine lv_goto (tgt := 26) hx hb d_L_weather_19 (by decide) ?_
    refine lv_iconst (v := nI 0) hx hb d_L_weather_26 (by decide) ?_
    exact nx_ret hQ (nw_iret rfl hx hb hr hlocks hw hS (Or.inr (Or.inr ⟨rfl, hnba, hnbs, ⟨rfl, rfl⟩⟩)) (Nat.le_of_ble_eq_true rfl) (Nat.le_of_ble_eq_true rfl) d_L_weather_27)
  · skip
    have hval : (1 : Int64) = (if (upR S 0 0 (flR (S 0 0) (-1) 6)) 4 (x1.toNatClampNeg) (x2.toNatClampNeg) = 0 then (0 : Int64) else 1) := (if_neg c_10).symm
    refine lv_lconst (v := 1) hx hb d_L_weather_13 (by decide) ?_
    refine lv_goto (tgt := 18) hx hb d_L_weather_14 (by decide) ?_
    refine lv_el (y := (if (upR S 0 0 (flR (S 0 0) (-1) 6)) 4 (x1.toNatClampNeg) (x2.toNatClampNeg) = 0 then (0 : Int64) else 1)) hval ?_
    refine nw_last hx hb hK hw hS (69) 1 (cW_69) rfl (0) (rfl) (by omega) (by omega) d_L_weather_18 (fun H locs hw hS => ?_)
    have hw := cW_setO hw
    refine lv_goto (tgt := 26) hx hb d_L_weather_19 (by decide) ?_
    refine lv_iconst (v := nI 0) hx hb d_L_weather_26 (by decide) ?_
    exact nx_ret hQ (nw_iret rfl hx hb hr hlocks hw hS (Or.inr (Or.inr ⟨rfl, hnba, hnbs, ⟨rfl, rfl⟩⟩)) (Nat.le_of_ble_eq_true rfl) (Nat.le_of_ble_eq_true rfl) d_L_weather_27)

set_option maxHeartbeats 4000000 in
set_option maxRecDepth 100000 in
/-- size, by the law -/
theorem w_size (l : Launch) (D : va_G) (tC : Nat → ClassId) (A : Nat → Prop) (ad : Nat → Nat) (n : Nat → Nat) (I : Nat → Nat → Int32) (K : Nat → Int32) (bw : Int64) (LA : Nat → Int64) (n2 : Nat → Nat) (J : Nat → Int32) (bw2 : Int64) (L : Nat → Nat → Int64) (o : Nat → Int64) (S : Nat → Nat → Nat → Int32) (hN : hpN n) (s0 : State) (hF : nx_F s0) (hfl : l.stackTraces = false) (hAs : ∀ q, A q → s0.heap.size ≤ q) (x1 x2 x3 x4 : Int32) : nx_M l y_L_size [(Jvm.Cond.codeWith ({ cls := "HarvestPlansLaw", name := "size", desc := "(LHarvestPlans;IIII[J)I" } : Jvm.MethodName) method_6_code (7 : Nat) (Option.some Jvm.ClassFile.FieldType.int) [((0 : Nat), (14 : Nat), (17 : Nat), (13 : Nat))])] ({ frames := 9, cells := 4, slots := 24, locals := 177 } : Room) D hpC A [.ref (ad (0)), .int (x1), .int (x2), .int (x3), .int (x4), .ref (ad (69))] (nx_pre D hpC (hpT tC) A (cW ad tC n I K bw LA n2 J bw2 L o S) ad s0) (lw_po (¬ ((0 ≤ x1 ∧ x1 < nI (n 2)) ∧ (0 ≤ x2 ∧ x2 < nI (n 0)) ∧ (nI 0 ≤ x3 ∧ x3 ≤ nI 20000) ∧ (nI 0 ≤ x4 ∧ x4 ≤ 100000))) (¬ (True)) 2 (cW ad tC n I K bw LA n2 J bw2 L o S) ad (fun wn' ad' => ad' = ad ∧ wn' = cW ad tC n I (va_up K 0 (nI 0)) bw LA n2 J bw2 L (vp_updL o 0 ((((x3 * x4) / (nI 1000))).toInt64)) (upR (upR (upR S 0 0 (flR (S 0 0) (-1) 6)) 2 (x1.toNatClampNeg) (upd ((upR S 0 0 (flR (S 0 0) (-1) 6)) 2 (x1.toNatClampNeg)) (x2.toNatClampNeg) x3)) 3 (x1.toNatClampNeg) (upd ((upR (upR S 0 0 (flR (S 0 0) (-1) 6)) 2 (x1.toNatClampNeg) (upd ((upR S 0 0 (flR (S 0 0) (-1) 6)) 2 (x1.toNatClampNeg)) (x2.toNatClampNeg) x3)) 3 (x1.toNatClampNeg)) (x2.toNatClampNeg) ((x3 * x4) / (nI 1000)))))) 4 24 := by
  refine nx_bodyW (by decide) (Nat.le_of_ble_eq_true rfl) ?_
  intro p e s m below meth cd ls args Q hSx hr hlocks hexc hB hA hKs hw hS hl hQ
  obtain ⟨hx, hb, hml, hown, hts⟩ := id hSx
  have hK := hKs.1
  have hl : lv_has ls 7 [(0, .ref (ad (0))), (1, .int (x1)), (2, .int (x2)), (3, .int (x3)), (4, .int (x4)), (5, .ref (ad (69)))] := hl
  obtain ⟨hn0, hn0', hn1, hn2, hn3, hn4⟩ := id hN
  refine lv_aload hx hb d_L_size_0 (lv_at hl 5 rfl) ?_
  refine lv_iconst (v := nI 0) hx hb d_L_size_2 (by decide) ?_
  refine lv_aload_n hx hb d_L_size_3 rfl (lv_at hl 0 rfl) ?_
  refine lv_iload_n hx hb d_L_size_4 rfl (lv_at hl 1 rfl) ?_
  refine lv_iload_n hx hb d_L_size_5 rfl (lv_at hl 2 rfl) ?_
  refine lv_iload_n hx hb d_L_size_6 rfl (lv_at hl 3 rfl) ?_
  refine lv_iload hx hb d_L_size_7 (lv_at hl 4 rfl) ?_
  refine nx_callC (nx_goV (n := 4) (As := [.int (x1), .int (x2), .int (x3), .int (x4)]) (rest := [.int (nI 0), .ref (ad (69))]) hSx hA hKs hB hAs hw hS (c_X_size l D tC A ad n I K bw LA (obM ad tC n2 J bw2 L (bE tC o)) (arM tC aE0) S hN s0 hF hfl hAs (x1) (x2) (x3) (x4) ) kw_437 kw_434 kw_435 kw_436 kw_1 rfl rfl (by decide +kernel) ⟨Nat.le_of_ble_eq_true rfl, Nat.le_of_ble_eq_true rfl⟩ (nw_recv hK hw (hW_0) rfl) rfl hl.1 (Nat.le_of_ble_eq_true rfl) d_L_size_9 ⟨Nat.le_of_ble_eq_true rfl, Nat.le_of_ble_eq_true rfl⟩) hS (fun X wn' ad' H locs x cell hpost hw hS hcell hst hcls T' hT X0 => ?_) (fun rv wn' ad' H locs hpost hw hS => ?_)
  · skip
    obtain ⟨hw0, had0, hcase⟩ := nx_po_x hpost
    rw [hw0, had0] at hw
    have hw := nw_W.as (wn' := cW ad tC n I K bw LA n2 J bw2 L o S) hw rfl
    rcases hcase with ⟨rfl, hba⟩ | ⟨rfl, hnba, hbs⟩
    · skip
      refine nx_catch1 hexc rfl (by decide) hown (hts _ kw_261) (nx_tab hB.1 rfl rfl (hF.1 _ kt_273)) hcell hst hcls hT X0 ?_
      refine lv_astore (lv' := [(6, .ref (x)), (0, .ref (ad (0))), (1, .int (x1)), (2, .int (x2)), (3, .int (x3)), (4, .int (x4)), (5, .ref (ad (69)))]) hx hb d_L_size_17 hl (by decide) rfl (fun ls hl => ?_)
      refine lv_iconst (v := nI 1) hx hb d_L_size_19 (by decide) ?_
      exact nx_ret hQ (nw_iret rfl hx hb hr hlocks hw hS (Or.inl ⟨rfl, hba, rfl, rfl⟩) (Nat.le_of_ble_eq_true rfl) (Nat.le_of_ble_eq_true rfl) d_L_size_20)
    · skip
      exact absurd trivial hbs
  obtain ⟨hnba, hnbs, hG⟩ := nx_po_i hpost
  obtain ⟨hv, hwn, had⟩ := hG
  subst hv
  rw [hwn, had] at hw
  have hw := nw_W.as (wn' := cW ad tC n I (va_up K 0 (nI 0)) bw LA n2 J bw2 L o (upR (upR (upR S 0 0 (flR (S 0 0) (-1) 6)) 2 (x1.toNatClampNeg) (upd ((upR S 0 0 (flR (S 0 0) (-1) 6)) 2 (x1.toNatClampNeg)) (x2.toNatClampNeg) x3)) 3 (x1.toNatClampNeg) (upd ((upR (upR S 0 0 (flR (S 0 0) (-1) 6)) 2 (x1.toNatClampNeg) (upd ((upR S 0 0 (flR (S 0 0) (-1) 6)) 2 (x1.toNatClampNeg)) (x2.toNatClampNeg) x3)) 3 (x1.toNatClampNeg)) (x2.toNatClampNeg) ((x3 * x4) / (nI 1000))))) hw rfl
  refine lv_i2l (v := ((((x3 * x4) / (nI 1000))).toInt64)) hx hb d_L_size_12 rfl ?_
  refine nw_last hx hb hK hw hS (69) 1 (cW_69) rfl (0) (rfl) (by omega) (by omega) d_L_size_13 (fun H locs hw hS => ?_)
  have hw := cW_setO hw
  refine lv_goto (tgt := 21) hx hb d_L_size_14 (by decide) ?_
  refine lv_iconst (v := nI 0) hx hb d_L_size_21 (by decide) ?_
  exact nx_ret hQ (nw_iret rfl hx hb hr hlocks hw hS (Or.inr (Or.inr ⟨rfl, hnba, hnbs, ⟨rfl, rfl⟩⟩)) (Nat.le_of_ble_eq_true rfl) (Nat.le_of_ble_eq_true rfl) d_L_size_22)

set_option maxHeartbeats 4000000 in
set_option maxRecDepth 100000 in
/-- plant, by the law -/
theorem w_plant (l : Launch) (D : va_G) (tC : Nat → ClassId) (A : Nat → Prop) (ad : Nat → Nat) (n : Nat → Nat) (I : Nat → Nat → Int32) (K : Nat → Int32) (bw : Int64) (LA : Nat → Int64) (n2 : Nat → Nat) (J : Nat → Int32) (bw2 : Int64) (L : Nat → Nat → Int64) (o : Nat → Int64) (S : Nat → Nat → Nat → Int32) (hN : hpN n) (s0 : State) (hF : nx_F s0) (hfl : l.stackTraces = false) (hAs : ∀ q, A q → s0.heap.size ≤ q) (x1 x2 : Int32) : nx_M l y_L_plant [(Jvm.Cond.codeWith ({ cls := "HarvestPlansLaw", name := "plant", desc := "(LHarvestPlans;II[J)I" } : Jvm.MethodName) method_9_code (5 : Nat) (Option.some Jvm.ClassFile.FieldType.int) [((0 : Nat), (10 : Nat), (13 : Nat), (13 : Nat))])] ({ frames := 9, cells := 2, slots := 12, locals := 175 } : Room) D hpC A [.ref (ad (0)), .int (x1), .int (x2), .ref (ad (69))] (nx_pre D hpC (hpT tC) A (cW ad tC n I K bw LA n2 J bw2 L o S) ad s0) (lw_po (¬ ((0 ≤ x1 ∧ x1 < nI (n 0)) ∧ (nI 0 ≤ x2 ∧ x2 ≤ 100000000))) (¬ (True)) 2 (cW ad tC n I K bw LA n2 J bw2 L o S) ad (fun wn' ad' => ad' = ad ∧ wn' = cW ad tC n I (va_up K 0 (nI 0)) bw LA n2 J bw2 L (vp_updL o 0 (((upR S 0 0 (flR (S 0 0) (-1) 6)) 0 2 (x1.toNatClampNeg)).toInt64)) (upR (upR S 0 0 (flR (S 0 0) (-1) 6)) 0 2 (upd ((upR S 0 0 (flR (S 0 0) (-1) 6)) 0 2) (x1.toNatClampNeg) x2)))) 2 12 := by
  refine nx_bodyW (by decide) (Nat.le_of_ble_eq_true rfl) ?_
  intro p e s m below meth cd ls args Q hSx hr hlocks hexc hB hA hKs hw hS hl hQ
  obtain ⟨hx, hb, hml, hown, hts⟩ := id hSx
  have hK := hKs.1
  have hl : lv_has ls 5 [(0, .ref (ad (0))), (1, .int (x1)), (2, .int (x2)), (3, .ref (ad (69)))] := hl
  obtain ⟨hn0, hn0', hn1, hn2, hn3, hn4⟩ := id hN
  refine lv_aload_n hx hb d_L_plant_0 rfl (lv_at hl 3 rfl) ?_
  refine lv_iconst (v := nI 0) hx hb d_L_plant_1 (by decide) ?_
  refine lv_aload_n hx hb d_L_plant_2 rfl (lv_at hl 0 rfl) ?_
  refine lv_iload_n hx hb d_L_plant_3 rfl (lv_at hl 1 rfl) ?_
  refine lv_iload_n hx hb d_L_plant_4 rfl (lv_at hl 2 rfl) ?_
  refine nx_callC (nx_goV (n := 2) (As := [.int (x1), .int (x2)]) (rest := [.int (nI 0), .ref (ad (69))]) hSx hA hKs hB hAs hw hS (c_X_plant l D tC A ad n I K bw LA (obM ad tC n2 J bw2 L (bE tC o)) (arM tC aE0) S hN s0 hF hfl hAs (x1) (x2) ) kw_479 kw_476 kw_477 kw_478 kw_1 rfl rfl (by decide +kernel) ⟨Nat.le_of_ble_eq_true rfl, Nat.le_of_ble_eq_true rfl⟩ (nw_recv hK hw (hW_0) rfl) rfl hl.1 (Nat.le_of_ble_eq_true rfl) d_L_plant_5 ⟨Nat.le_of_ble_eq_true rfl, Nat.le_of_ble_eq_true rfl⟩) hS (fun X wn' ad' H locs x cell hpost hw hS hcell hst hcls T' hT X0 => ?_) (fun rv wn' ad' H locs hpost hw hS => ?_)
  · skip
    obtain ⟨hw0, had0, hcase⟩ := nx_po_x hpost
    rw [hw0, had0] at hw
    have hw := nw_W.as (wn' := cW ad tC n I K bw LA n2 J bw2 L o S) hw rfl
    rcases hcase with ⟨rfl, hba⟩ | ⟨rfl, hnba, hbs⟩
    · skip
      refine nx_catch1 hexc rfl (by decide) hown (hts _ kw_261) (nx_tab hB.1 rfl rfl (hF.1 _ kt_273)) hcell hst hcls hT X0 ?_
      refine lv_astore (lv' := [(4, .ref (x)), (0, .ref (ad (0))), (1, .int (x1)), (2, .int (x2)), (3, .ref (ad (69)))]) hx hb d_L_plant_13 hl (by decide) rfl (fun ls hl => ?_)
      refine lv_iconst (v := nI 1) hx hb d_L_plant_15 (by decide) ?_
      exact nx_ret hQ (nw_iret rfl hx hb hr hlocks hw hS (Or.inl ⟨rfl, hba, rfl, rfl⟩) (Nat.le_of_ble_eq_true rfl) (Nat.le_of_ble_eq_true rfl) d_L_plant_16)
    · skip
      exact absurd trivial hbs
  obtain ⟨hnba, hnbs, hG⟩ := nx_po_i hpost
  obtain ⟨hv, hwn, had⟩ := hG
  subst hv
  rw [hwn, had] at hw
  have hw := nw_W.as (wn' := cW ad tC n I (va_up K 0 (nI 0)) bw LA n2 J bw2 L o (upR (upR S 0 0 (flR (S 0 0) (-1) 6)) 0 2 (upd ((upR S 0 0 (flR (S 0 0) (-1) 6)) 0 2) (x1.toNatClampNeg) x2))) hw rfl
  refine lv_i2l (v := (((upR S 0 0 (flR (S 0 0) (-1) 6)) 0 2 (x1.toNatClampNeg)).toInt64)) hx hb d_L_plant_8 rfl ?_
  refine nw_last hx hb hK hw hS (69) 1 (cW_69) rfl (0) (rfl) (by omega) (by omega) d_L_plant_9 (fun H locs hw hS => ?_)
  have hw := cW_setO hw
  refine lv_goto (tgt := 17) hx hb d_L_plant_10 (by decide) ?_
  refine lv_iconst (v := nI 0) hx hb d_L_plant_17 (by decide) ?_
  exact nx_ret hQ (nw_iret rfl hx hb hr hlocks hw hS (Or.inr (Or.inr ⟨rfl, hnba, hnbs, ⟨rfl, rfl⟩⟩)) (Nat.le_of_ble_eq_true rfl) (Nat.le_of_ble_eq_true rfl) d_L_plant_18)

set_option maxHeartbeats 4000000 in
set_option maxRecDepth 100000 in
/-- prices, by the law -/
theorem w_prices (l : Launch) (D : va_G) (tC : Nat → ClassId) (A : Nat → Prop) (ad : Nat → Nat) (n : Nat → Nat) (I : Nat → Nat → Int32) (K : Nat → Int32) (bw : Int64) (LA : Nat → Int64) (n2 : Nat → Nat) (J : Nat → Int32) (bw2 : Int64) (L : Nat → Nat → Int64) (o : Nat → Int64) (S : Nat → Nat → Nat → Int32) (hN : hpN n) (s0 : State) (hF : nx_F s0) (hfl : l.stackTraces = false) (hAs : ∀ q, A q → s0.heap.size ≤ q) (x1 x2 : Int32) : nx_M l y_L_prices [(Jvm.Cond.codeWith ({ cls := "HarvestPlansLaw", name := "prices", desc := "(LHarvestPlans;II)I" } : Jvm.MethodName) method_11_code (4 : Nat) (Option.some Jvm.ClassFile.FieldType.int) [((0 : Nat), (6 : Nat), (9 : Nat), (13 : Nat))])] ({ frames := 8, cells := 2, slots := 12, locals := 154 } : Room) D hpC A [.ref (ad (0)), .int (x1), .int (x2)] (nx_pre D hpC (hpT tC) A (cW ad tC n I K bw LA n2 J bw2 L o S) ad s0) (lw_po (¬ ((nI 0 ≤ x1 ∧ x1 ≤ nI 10000) ∧ (nI 0 ≤ x2 ∧ x2 ≤ nI 10000))) (¬ (True)) 2 (cW ad tC n I K bw LA n2 J bw2 L o S) ad (fun wn' ad' => ad' = ad ∧ wn' = cW ad tC n (up2 (up2 I 0 1 x1) 0 2 x2) (va_up K 0 (nI 0)) bw LA n2 J bw2 L o (upR S 0 0 (flR (S 0 0) (-1) 6)))) 2 12 := by
  refine nx_bodyW (by decide) (Nat.le_of_ble_eq_true rfl) ?_
  intro p e s m below meth cd ls args Q hSx hr hlocks hexc hB hA hKs hw hS hl hQ
  obtain ⟨hx, hb, hml, hown, hts⟩ := id hSx
  have hK := hKs.1
  have hl : lv_has ls 4 [(0, .ref (ad (0))), (1, .int (x1)), (2, .int (x2))] := hl
  obtain ⟨hn0, hn0', hn1, hn2, hn3, hn4⟩ := id hN
  refine lv_aload_n hx hb d_L_prices_0 rfl (lv_at hl 0 rfl) ?_
  refine lv_iload_n hx hb d_L_prices_1 rfl (lv_at hl 1 rfl) ?_
  refine lv_iload_n hx hb d_L_prices_2 rfl (lv_at hl 2 rfl) ?_
  refine nx_callC (nx_goV (n := 2) (As := [.int (x1), .int (x2)]) (rest := []) hSx hA hKs hB hAs hw hS (c_X_prices l D tC A ad n I K bw LA (obM ad tC n2 J bw2 L (bE tC o)) (arM tC aE0) S hN s0 hF hfl hAs (x1) (x2) ) kw_521 kw_518 kw_519 kw_520 kw_1 rfl rfl (by decide +kernel) ⟨Nat.le_of_ble_eq_true rfl, Nat.le_of_ble_eq_true rfl⟩ (nw_recv hK hw (hW_0) rfl) rfl hl.1 (Nat.le_of_ble_eq_true rfl) d_L_prices_3 ⟨Nat.le_of_ble_eq_true rfl, Nat.le_of_ble_eq_true rfl⟩) hS (fun X wn' ad' H locs x cell hpost hw hS hcell hst hcls T' hT X0 => ?_) (fun rv wn' ad' H locs hpost hw hS => ?_)
  · skip
    obtain ⟨hw0, had0, hcase⟩ := nx_po_x hpost
    rw [hw0, had0] at hw
    have hw := nw_W.as (wn' := cW ad tC n I K bw LA n2 J bw2 L o S) hw rfl
    rcases hcase with ⟨rfl, hba⟩ | ⟨rfl, hnba, hbs⟩
    · skip
      refine nx_catch1 hexc rfl (by decide) hown (hts _ kw_261) (nx_tab hB.1 rfl rfl (hF.1 _ kt_273)) hcell hst hcls hT X0 ?_
      refine lv_astore_n (lv' := [(3, .ref (x)), (0, .ref (ad (0))), (1, .int (x1)), (2, .int (x2))]) hx hb d_L_prices_9 rfl hl (by decide) rfl (fun ls hl => ?_)
      refine lv_iconst (v := nI 1) hx hb d_L_prices_10 (by decide) ?_
      exact nx_ret hQ (nw_iret rfl hx hb hr hlocks hw hS (Or.inl ⟨rfl, hba, rfl, rfl⟩) (Nat.le_of_ble_eq_true rfl) (Nat.le_of_ble_eq_true rfl) d_L_prices_11)
    · skip
      exact absurd trivial hbs
  obtain ⟨hnba, hnbs, hG⟩ := nx_po_i hpost
  obtain ⟨hv, hwn, had⟩ := hG
  subst hv
  rw [hwn, had] at hw
  have hw := nw_W.as (wn' := cW ad tC n (up2 (up2 I 0 1 x1) 0 2 x2) (va_up K 0 (nI 0)) bw LA n2 J bw2 L o (upR S 0 0 (flR (S 0 0) (-1) 6))) hw rfl
  refine lv_goto (tgt := 12) hx hb d_L_prices_6 (by decide) ?_
  refine lv_iconst (v := nI 0) hx hb d_L_prices_12 (by decide) ?_
  exact nx_ret hQ (nw_iret rfl hx hb hr hlocks hw hS (Or.inr (Or.inr ⟨rfl, hnba, hnbs, ⟨rfl, rfl⟩⟩)) (Nat.le_of_ble_eq_true rfl) (Nat.le_of_ble_eq_true rfl) d_L_prices_13)

set_option maxHeartbeats 4000000 in
set_option maxRecDepth 100000 in
/-- taken, by the law -/
theorem w_taken (l : Launch) (D : va_G) (tC : Nat → ClassId) (A : Nat → Prop) (ad : Nat → Nat) (n : Nat → Nat) (I : Nat → Nat → Int32) (K : Nat → Int32) (bw : Int64) (LA : Nat → Int64) (n2 : Nat → Nat) (J : Nat → Int32) (bw2 : Int64) (L : Nat → Nat → Int64) (o : Nat → Int64) (S : Nat → Nat → Nat → Int32) (hN : hpN n) (s0 : State) (hF : nx_F s0) (hfl : l.stackTraces = false) (hAs : ∀ q, A q → s0.heap.size ≤ q) (x1 : Int32) : nx_M l y_L_taken [(Jvm.Cond.codeWith ({ cls := "HarvestPlansLaw", name := "taken", desc := "(LHarvestPlans;I[J)I" } : Jvm.MethodName) method_14_code (4 : Nat) (Option.some Jvm.ClassFile.FieldType.int) [((0 : Nat), (9 : Nat), (12 : Nat), (13 : Nat))])] ({ frames := 8, cells := 1, slots := 6, locals := 152 } : Room) D hpC A [.ref (ad (0)), .int (x1), .ref (ad (69))] (nx_pre D hpC (hpT tC) A (cW ad tC n I K bw LA n2 J bw2 L o S) ad s0) (lw_po (¬ ((0 ≤ x1 ∧ x1 < nI (n 2)))) (¬ (True)) 2 (cW ad tC n I K bw LA n2 J bw2 L o S) ad (fun wn' ad' => ad' = ad ∧ wn' = cW ad tC n I K bw LA n2 J bw2 L (vp_updL o 0 ((S 0 0 (x1.toNatClampNeg)).toInt64)) S)) 1 6 := by
  refine nx_bodyW (by decide) (Nat.le_of_ble_eq_true rfl) ?_
  intro p e s m below meth cd ls args Q hSx hr hlocks hexc hB hA hKs hw hS hl hQ
  obtain ⟨hx, hb, hml, hown, hts⟩ := id hSx
  have hK := hKs.1
  have hl : lv_has ls 4 [(0, .ref (ad (0))), (1, .int (x1)), (2, .ref (ad (69)))] := hl
  obtain ⟨hn0, hn0', hn1, hn2, hn3, hn4⟩ := id hN
  refine lv_aload_n hx hb d_L_taken_0 rfl (lv_at hl 2 rfl) ?_
  refine lv_iconst (v := nI 0) hx hb d_L_taken_1 (by decide) ?_
  refine lv_aload_n hx hb d_L_taken_2 rfl (lv_at hl 0 rfl) ?_
  refine lv_iload_n hx hb d_L_taken_3 rfl (lv_at hl 1 rfl) ?_
  refine nx_callC (nx_goV (n := 1) (As := [.int (x1)]) (rest := [.int (nI 0), .ref (ad (69))]) hSx hA hKs hB hAs hw hS (c_X_taken l D tC A ad n I K bw LA (obM ad tC n2 J bw2 L (bE tC o)) (arM tC aE0) S hN s0 hF hfl hAs (x1) ) kw_621 kw_618 kw_619 kw_620 kw_1 rfl rfl (by decide +kernel) ⟨Nat.le_of_ble_eq_true rfl, Nat.le_of_ble_eq_true rfl⟩ (nw_recv hK hw (hW_0) rfl) rfl hl.1 (Nat.le_of_ble_eq_true rfl) d_L_taken_4 ⟨Nat.le_of_ble_eq_true rfl, Nat.le_of_ble_eq_true rfl⟩) hS (fun X wn' ad' H locs x cell hpost hw hS hcell hst hcls T' hT X0 => ?_) (fun rv wn' ad' H locs hpost hw hS => ?_)
  · skip
    obtain ⟨hw0, had0, hcase⟩ := nx_po_x hpost
    rw [hw0, had0] at hw
    have hw := nw_W.as (wn' := cW ad tC n I K bw LA n2 J bw2 L o S) hw rfl
    rcases hcase with ⟨rfl, hba⟩ | ⟨rfl, hnba, hbs⟩
    · skip
      refine nx_catch1 hexc rfl (by decide) hown (hts _ kw_261) (nx_tab hB.1 rfl rfl (hF.1 _ kt_273)) hcell hst hcls hT X0 ?_
      refine lv_astore_n (lv' := [(3, .ref (x)), (0, .ref (ad (0))), (1, .int (x1)), (2, .ref (ad (69)))]) hx hb d_L_taken_12 rfl hl (by decide) rfl (fun ls hl => ?_)
      refine lv_iconst (v := nI 1) hx hb d_L_taken_13 (by decide) ?_
      exact nx_ret hQ (nw_iret rfl hx hb hr hlocks hw hS (Or.inl ⟨rfl, hba, rfl, rfl⟩) (Nat.le_of_ble_eq_true rfl) (Nat.le_of_ble_eq_true rfl) d_L_taken_14)
    · skip
      exact absurd trivial hbs
  obtain ⟨hnba, hnbs, hG⟩ := nx_po_i hpost
  obtain ⟨hv, hwn, had⟩ := hG
  subst hv
  rw [hwn, had] at hw
  have hw := nw_W.as (wn' := cW ad tC n I K bw LA n2 J bw2 L o S) hw rfl
  refine lv_i2l (v := ((S 0 0 (x1.toNatClampNeg)).toInt64)) hx hb d_L_taken_7 rfl ?_
  refine nw_last hx hb hK hw hS (69) 1 (cW_69) rfl (0) (rfl) (by omega) (by omega) d_L_taken_8 (fun H locs hw hS => ?_)
  have hw := cW_setO hw
  refine lv_goto (tgt := 15) hx hb d_L_taken_9 (by decide) ?_
  refine lv_iconst (v := nI 0) hx hb d_L_taken_15 (by decide) ?_
  exact nx_ret hQ (nw_iret rfl hx hb hr hlocks hw hS (Or.inr (Or.inr ⟨rfl, hnba, hnbs, ⟨rfl, rfl⟩⟩)) (Nat.le_of_ble_eq_true rfl) (Nat.le_of_ble_eq_true rfl) d_L_taken_16)

set_option maxHeartbeats 4000000 in
set_option maxRecDepth 100000 in
/-- move, by the law -/
theorem w_move (l : Launch) (D : va_G) (tC : Nat → ClassId) (A : Nat → Prop) (ad : Nat → Nat) (n : Nat → Nat) (I : Nat → Nat → Int32) (K : Nat → Int32) (bw : Int64) (LA : Nat → Int64) (n2 : Nat → Nat) (J : Nat → Int32) (bw2 : Int64) (L : Nat → Nat → Int64) (o : Nat → Int64) (S : Nat → Nat → Nat → Int32) (hN : hpN n) (s0 : State) (hF : nx_F s0) (hfl : l.stackTraces = false) (hAs : ∀ q, A q → s0.heap.size ≤ q) (x1 x2 : Int32) : nx_M l y_L_move [(Jvm.Cond.codeWith ({ cls := "HarvestPlansLaw", name := "move", desc := "(LHarvestPlans;II[J)I" } : Jvm.MethodName) method_13_code (5 : Nat) (Option.some Jvm.ClassFile.FieldType.int) [((0 : Nat), (10 : Nat), (13 : Nat), (13 : Nat))])] ({ frames := 9, cells := 2, slots := 12, locals := 175 } : Room) D hpC A [.ref (ad (0)), .int (x1), .int (x2), .ref (ad (69))] (nx_pre D hpC (hpT tC) A (cW ad tC n I K bw LA n2 J bw2 L o S) ad s0) (lw_po (¬ ((0 ≤ x1 ∧ x1 < nI (n 2)) ∧ (x2 = -1 ∨ (0 ≤ x2 ∧ x2 < nI (n 0))))) (¬ (True)) 2 (cW ad tC n I K bw LA n2 J bw2 L o S) ad (fun wn' ad' => ad' = ad ∧ wn' = cW ad tC n I (va_up K 0 (nI 1)) bw LA n2 J bw2 L (vp_updL o 0 ((S 0 0 (x1.toNatClampNeg)).toInt64)) (upR S 0 0 (upd (S 0 0) (x1.toNatClampNeg) x2)))) 2 12 := by
  refine nx_bodyW (by decide) (Nat.le_of_ble_eq_true rfl) ?_
  intro p e s m below meth cd ls args Q hSx hr hlocks hexc hB hA hKs hw hS hl hQ
  obtain ⟨hx, hb, hml, hown, hts⟩ := id hSx
  have hK := hKs.1
  have hl : lv_has ls 5 [(0, .ref (ad (0))), (1, .int (x1)), (2, .int (x2)), (3, .ref (ad (69)))] := hl
  obtain ⟨hn0, hn0', hn1, hn2, hn3, hn4⟩ := id hN
  refine lv_aload_n hx hb d_L_move_0 rfl (lv_at hl 3 rfl) ?_
  refine lv_iconst (v := nI 0) hx hb d_L_move_1 (by decide) ?_
  refine lv_aload_n hx hb d_L_move_2 rfl (lv_at hl 0 rfl) ?_
  refine lv_iload_n hx hb d_L_move_3 rfl (lv_at hl 1 rfl) ?_
  refine lv_iload_n hx hb d_L_move_4 rfl (lv_at hl 2 rfl) ?_
  refine nx_callC (nx_goV (n := 2) (As := [.int (x1), .int (x2)]) (rest := [.int (nI 0), .ref (ad (69))]) hSx hA hKs hB hAs hw hS (c_X_move l D tC A ad n I K bw LA (obM ad tC n2 J bw2 L (bE tC o)) (arM tC aE0) S hN s0 hF hfl hAs (x1) (x2) ) kw_614 kw_611 kw_612 kw_613 kw_1 rfl rfl (by decide +kernel) ⟨Nat.le_of_ble_eq_true rfl, Nat.le_of_ble_eq_true rfl⟩ (nw_recv hK hw (hW_0) rfl) rfl hl.1 (Nat.le_of_ble_eq_true rfl) d_L_move_5 ⟨Nat.le_of_ble_eq_true rfl, Nat.le_of_ble_eq_true rfl⟩) hS (fun X wn' ad' H locs x cell hpost hw hS hcell hst hcls T' hT X0 => ?_) (fun rv wn' ad' H locs hpost hw hS => ?_)
  · skip
    obtain ⟨hw0, had0, hcase⟩ := nx_po_x hpost
    rw [hw0, had0] at hw
    have hw := nw_W.as (wn' := cW ad tC n I K bw LA n2 J bw2 L o S) hw rfl
    rcases hcase with ⟨rfl, hba⟩ | ⟨rfl, hnba, hbs⟩
    · skip
      refine nx_catch1 hexc rfl (by decide) hown (hts _ kw_261) (nx_tab hB.1 rfl rfl (hF.1 _ kt_273)) hcell hst hcls hT X0 ?_
      refine lv_astore (lv' := [(4, .ref (x)), (0, .ref (ad (0))), (1, .int (x1)), (2, .int (x2)), (3, .ref (ad (69)))]) hx hb d_L_move_13 hl (by decide) rfl (fun ls hl => ?_)
      refine lv_iconst (v := nI 1) hx hb d_L_move_15 (by decide) ?_
      exact nx_ret hQ (nw_iret rfl hx hb hr hlocks hw hS (Or.inl ⟨rfl, hba, rfl, rfl⟩) (Nat.le_of_ble_eq_true rfl) (Nat.le_of_ble_eq_true rfl) d_L_move_16)
    · skip
      exact absurd trivial hbs
  obtain ⟨hnba, hnbs, hG⟩ := nx_po_i hpost
  obtain ⟨hv, hwn, had⟩ := hG
  subst hv
  rw [hwn, had] at hw
  have hw := nw_W.as (wn' := cW ad tC n I (va_up K 0 (nI 1)) bw LA n2 J bw2 L o (upR S 0 0 (upd (S 0 0) (x1.toNatClampNeg) x2))) hw rfl
  refine lv_i2l (v := ((S 0 0 (x1.toNatClampNeg)).toInt64)) hx hb d_L_move_8 rfl ?_
  refine nw_last hx hb hK hw hS (69) 1 (cW_69) rfl (0) (rfl) (by omega) (by omega) d_L_move_9 (fun H locs hw hS => ?_)
  have hw := cW_setO hw
  refine lv_goto (tgt := 17) hx hb d_L_move_10 (by decide) ?_
  refine lv_iconst (v := nI 0) hx hb d_L_move_17 (by decide) ?_
  exact nx_ret hQ (nw_iret rfl hx hb hr hlocks hw hS (Or.inr (Or.inr ⟨rfl, hnba, hnbs, ⟨rfl, rfl⟩⟩)) (Nat.le_of_ble_eq_true rfl) (Nat.le_of_ble_eq_true rfl) d_L_move_18)

set_option maxHeartbeats 4000000 in
set_option maxRecDepth 100000 in
/-- check, by the law -/
theorem w_check (l : Launch) (D : va_G) (tC : Nat → ClassId) (A : Nat → Prop) (ad : Nat → Nat) (n : Nat → Nat) (I : Nat → Nat → Int32) (K : Nat → Int32) (bw : Int64) (LA : Nat → Int64) (n2 : Nat → Nat) (J : Nat → Int32) (bw2 : Int64) (L : Nat → Nat → Int64) (o : Nat → Int64) (S : Nat → Nat → Nat → Int32) (hN : hpN n) (s0 : State) (hF : nx_F s0) (hfl : l.stackTraces = false) (hAs : ∀ q, A q → s0.heap.size ≤ q) (hm : Nat → Nat) (hH : ∀ c, c < n 2 → I 2 c = nI (hm c) ∧ hm c < n 1) : nx_M l y_L_check [(Jvm.Cond.codeWith ({ cls := "HarvestPlansLaw", name := "check", desc := "(LHarvestPlans;[J)I" } : Jvm.MethodName) method_15_code (3 : Nat) (Option.some Jvm.ClassFile.FieldType.int) [((0 : Nat), (8 : Nat), (11 : Nat), (15 : Nat))])] ({ frames := 8, cells := 1, slots := 6, locals := 152 } : Room) D hpC A [.ref (ad (0)), .ref (ad (69))] (nx_pre D hpC (hpT tC) A (cW ad tC n I K bw LA n2 J bw2 L o S) ad s0) (lw_po (¬ (True)) (¬ ((¬ K 0 = 0))) 1 (cW ad tC n I K bw LA n2 J bw2 L o S) ad (fun wn' ad' => ad' = ad ∧ ∃ S1, scr S S1 ∧ wn' = cW ad tC n I K bw LA n2 J bw2 L (vp_updL o 0 ((ckV (fun w => lbI (pPlant n S (S 0 0) w) (pBoats n I S (S 0 0) w) (pClosed n hm S (S 0 0) w) (pHeld n I hm S (S 0 0) w)) (n 0)).toInt64)) S1)) 1 6 := by
  refine nx_bodyW (by decide) (Nat.le_of_ble_eq_true rfl) ?_
  intro p e s m below meth cd ls args Q hSx hr hlocks hexc hB hA hKs hw hS hl hQ
  obtain ⟨hx, hb, hml, hown, hts⟩ := id hSx
  have hK := hKs.1
  have hl : lv_has ls 3 [(0, .ref (ad (0))), (1, .ref (ad (69)))] := hl
  obtain ⟨hn0, hn0', hn1, hn2, hn3, hn4⟩ := id hN
  refine lv_aload_n hx hb d_L_check_0 rfl (lv_at hl 1 rfl) ?_
  refine lv_iconst (v := nI 0) hx hb d_L_check_1 (by decide) ?_
  refine lv_aload_n hx hb d_L_check_2 rfl (lv_at hl 0 rfl) ?_
  refine nx_callC (nx_goV (n := 0) (As := []) (rest := [.int (nI 0), .ref (ad (69))]) hSx hA hKs hB hAs hw hS (c_X_check l D tC A ad n I K bw LA (obM ad tC n2 J bw2 L (bE tC o)) (arM tC aE0) S hN s0 hF hfl hAs  hm hH) kw_628 kw_625 kw_626 kw_627 kw_1 rfl rfl (by decide +kernel) ⟨Nat.le_of_ble_eq_true rfl, Nat.le_of_ble_eq_true rfl⟩ (nw_recv hK hw (hW_0) rfl) rfl hl.1 (Nat.le_of_ble_eq_true rfl) d_L_check_3 ⟨Nat.le_of_ble_eq_true rfl, Nat.le_of_ble_eq_true rfl⟩) hS (fun X wn' ad' H locs x cell hpost hw hS hcell hst hcls T' hT X0 => ?_) (fun rv wn' ad' H locs hpost hw hS => ?_)
  · skip
    obtain ⟨hw0, had0, hcase⟩ := nx_po_x hpost
    rw [hw0, had0] at hw
    have hw := nw_W.as (wn' := cW ad tC n I K bw LA n2 J bw2 L o S) hw rfl
    rcases hcase with ⟨rfl, hba⟩ | ⟨rfl, hnba, hbs⟩
    · skip
      exact absurd trivial hba
    · skip
      refine nx_catch1 hexc rfl (by decide) hown (hts _ kw_262) (nx_tab hB.1 rfl rfl (hF.1 _ kt_343)) hcell hst hcls hT X0 ?_
      refine lv_astore_n (lv' := [(2, .ref (x)), (0, .ref (ad (0))), (1, .ref (ad (69)))]) hx hb d_L_check_11 rfl hl (by decide) rfl (fun ls hl => ?_)
      refine lv_iconst (v := nI 1) hx hb d_L_check_12 (by decide) ?_
      exact nx_ret hQ (nw_iret rfl hx hb hr hlocks hw hS (Or.inr (Or.inl ⟨rfl, hnba, hbs, rfl, rfl⟩)) (Nat.le_of_ble_eq_true rfl) (Nat.le_of_ble_eq_true rfl) d_L_check_13)
  obtain ⟨hnba, hnbs, hG⟩ := nx_po_i hpost
  obtain ⟨hv, had, S1, hsc, hwn⟩ := hG
  subst hv
  rw [hwn, had] at hw
  have hw := nw_W.as (wn' := cW ad tC n I K bw LA n2 J bw2 L o S1) hw rfl
  refine lv_i2l (v := ((ckV (fun w => lbI (pPlant n S (S 0 0) w) (pBoats n I S (S 0 0) w) (pClosed n hm S (S 0 0) w) (pHeld n I hm S (S 0 0) w)) (n 0)).toInt64)) hx hb d_L_check_6 rfl ?_
  refine nw_last hx hb hK hw hS (69) 1 (cW_69) rfl (0) (rfl) (by omega) (by omega) d_L_check_7 (fun H locs hw hS => ?_)
  have hw := cW_setO hw
  refine lv_goto (tgt := 14) hx hb d_L_check_8 (by decide) ?_
  refine lv_iconst (v := nI 0) hx hb d_L_check_14 (by decide) ?_
  exact nx_ret hQ (nw_iret rfl hx hb hr hlocks hw hS (Or.inr (Or.inr ⟨rfl, hnba, hnbs, ⟨rfl, S1, hsc, rfl⟩⟩)) (Nat.le_of_ble_eq_true rfl) (Nat.le_of_ble_eq_true rfl) d_L_check_15)

set_option maxHeartbeats 4000000 in
set_option maxRecDepth 100000 in
/-- worth, by the law -/
theorem w_worth (l : Launch) (D : va_G) (tC : Nat → ClassId) (A : Nat → Prop) (ad : Nat → Nat) (n : Nat → Nat) (I : Nat → Nat → Int32) (K : Nat → Int32) (bw : Int64) (LA : Nat → Int64) (n2 : Nat → Nat) (J : Nat → Int32) (bw2 : Int64) (L : Nat → Nat → Int64) (o : Nat → Int64) (S : Nat → Nat → Nat → Int32) (hN : hpN n) (s0 : State) (hF : nx_F s0) (hfl : l.stackTraces = false) (hAs : ∀ q, A q → s0.heap.size ≤ q) (ow : Nat → Nat) (hO : ∀ o, o < n 4 → I 4 o = nI (ow o) ∧ ow o < n 0) (hPl : okT n (S 0 0)) (sq : Nat → Nat) (hSq : ∀ k, k < n 4 → S 0 1 k = nI (sq k) ∧ sq k < n 4) (hSo : ∀ q, q < n 4 → ∃ j, j < n 4 ∧ sq j = q) : nx_M l y_L_worth [(Jvm.Cond.codeWith ({ cls := "HarvestPlansLaw", name := "worth", desc := "(LHarvestPlans;[J)I" } : Jvm.MethodName) method_16_code (3 : Nat) (Option.some Jvm.ClassFile.FieldType.int) [((0 : Nat), (7 : Nat), (10 : Nat), (15 : Nat))])] ({ frames := 8, cells := 1, slots := 6, locals := 150 } : Room) D hpC A [.ref (ad (0)), .ref (ad (69))] (nx_pre D hpC (hpT tC) A (cW ad tC n I K bw LA n2 J bw2 L o S) ad s0) (lw_po (¬ (True)) (¬ ((¬ K 0 = 0))) 1 (cW ad tC n I K bw LA n2 J bw2 L o S) ad (fun wn' ad' => ad' = ad ∧ ∃ S1, scr S S1 ∧ wn' = cW ad tC n I K bw LA n2 J bw2 L (vp_updL o 0 (wrL n I ow sq S (S 0 0))) S1)) 1 6 := by
  refine nx_bodyW (by decide) (Nat.le_of_ble_eq_true rfl) ?_
  intro p e s m below meth cd ls args Q hSx hr hlocks hexc hB hA hKs hw hS hl hQ
  obtain ⟨hx, hb, hml, hown, hts⟩ := id hSx
  have hK := hKs.1
  have hl : lv_has ls 3 [(0, .ref (ad (0))), (1, .ref (ad (69)))] := hl
  obtain ⟨hn0, hn0', hn1, hn2, hn3, hn4⟩ := id hN
  refine lv_aload_n hx hb d_L_worth_0 rfl (lv_at hl 1 rfl) ?_
  refine lv_iconst (v := nI 0) hx hb d_L_worth_1 (by decide) ?_
  refine lv_aload_n hx hb d_L_worth_2 rfl (lv_at hl 0 rfl) ?_
  refine nx_callC (nx_goV (n := 0) (As := []) (rest := [.int (nI 0), .ref (ad (69))]) hSx hA hKs hB hAs hw hS (c_X_worth l D tC A ad n I K bw LA (obM ad tC n2 J bw2 L (bE tC o)) (arM tC aE0) S hN s0 hF hfl hAs  ow hO hPl sq hSq hSo) kw_644 kw_641 kw_642 kw_643 kw_1 rfl rfl (by decide +kernel) ⟨Nat.le_of_ble_eq_true rfl, Nat.le_of_ble_eq_true rfl⟩ (nw_recv hK hw (hW_0) rfl) rfl hl.1 (Nat.le_of_ble_eq_true rfl) d_L_worth_3 ⟨Nat.le_of_ble_eq_true rfl, Nat.le_of_ble_eq_true rfl⟩) hS (fun X wn' ad' H locs x cell hpost hw hS hcell hst hcls T' hT X0 => ?_) (fun rv wn' ad' H locs hpost hw hS => ?_)
  · skip
    obtain ⟨hw0, had0, hcase⟩ := nx_po_x hpost
    rw [hw0, had0] at hw
    have hw := nw_W.as (wn' := cW ad tC n I K bw LA n2 J bw2 L o S) hw rfl
    rcases hcase with ⟨rfl, hba⟩ | ⟨rfl, hnba, hbs⟩
    · skip
      exact absurd trivial hba
    · skip
      refine nx_catch1 hexc rfl (by decide) hown (hts _ kw_262) (nx_tab hB.1 rfl rfl (hF.1 _ kt_343)) hcell hst hcls hT X0 ?_
      refine lv_astore_n (lv' := [(2, .ref (x)), (0, .ref (ad (0))), (1, .ref (ad (69)))]) hx hb d_L_worth_10 rfl hl (by decide) rfl (fun ls hl => ?_)
      refine lv_iconst (v := nI 1) hx hb d_L_worth_11 (by decide) ?_
      exact nx_ret hQ (nw_iret rfl hx hb hr hlocks hw hS (Or.inr (Or.inl ⟨rfl, hnba, hbs, rfl, rfl⟩)) (Nat.le_of_ble_eq_true rfl) (Nat.le_of_ble_eq_true rfl) d_L_worth_12)
  obtain ⟨hnba, hnbs, hG⟩ := nx_po_i hpost
  obtain ⟨hv, had, S1, hsc, hwn⟩ := hG
  subst hv
  rw [hwn, had] at hw
  have hw := nw_W.as (wn' := cW ad tC n I K bw LA n2 J bw2 L o S1) hw rfl
  refine nw_last hx hb hK hw hS (69) 1 (cW_69) rfl (0) (rfl) (by omega) (by omega) d_L_worth_6 (fun H locs hw hS => ?_)
  have hw := cW_setO hw
  refine lv_goto (tgt := 13) hx hb d_L_worth_7 (by decide) ?_
  refine lv_iconst (v := nI 0) hx hb d_L_worth_13 (by decide) ?_
  exact nx_ret hQ (nw_iret rfl hx hb hr hlocks hw hS (Or.inr (Or.inr ⟨rfl, hnba, hnbs, ⟨rfl, S1, hsc, rfl⟩⟩)) (Nat.le_of_ble_eq_true rfl) (Nat.le_of_ble_eq_true rfl) d_L_worth_14)

set_option maxHeartbeats 4000000 in
set_option maxRecDepth 100000 in
/-- sold, by the law -/
theorem w_sold (l : Launch) (D : va_G) (tC : Nat → ClassId) (A : Nat → Prop) (ad : Nat → Nat) (n : Nat → Nat) (I : Nat → Nat → Int32) (K : Nat → Int32) (bw : Int64) (LA : Nat → Int64) (n2 : Nat → Nat) (J : Nat → Int32) (bw2 : Int64) (L : Nat → Nat → Int64) (o : Nat → Int64) (S : Nat → Nat → Nat → Int32) (hN : hpN n) (s0 : State) (hF : nx_F s0) (hfl : l.stackTraces = false) (hAs : ∀ q, A q → s0.heap.size ≤ q) (x1 : Int32) (ow : Nat → Nat) (hO : ∀ o, o < n 4 → I 4 o = nI (ow o) ∧ ow o < n 0) (hPl : okT n (S 0 0)) (sq : Nat → Nat) (hSq : ∀ k, k < n 4 → S 0 1 k = nI (sq k) ∧ sq k < n 4) (hSo : ∀ q, q < n 4 → ∃ j, j < n 4 ∧ sq j = q) : nx_M l y_L_sold [(Jvm.Cond.codeWith ({ cls := "HarvestPlansLaw", name := "sold", desc := "(LHarvestPlans;I[J)I" } : Jvm.MethodName) method_17_code (4 : Nat) (Option.some Jvm.ClassFile.FieldType.int) [((0 : Nat), (9 : Nat), (12 : Nat), (13 : Nat)), ((0 : Nat), (9 : Nat), (15 : Nat), (15 : Nat))])] ({ frames := 8, cells := 2, slots := 12, locals := 152 } : Room) D hpC A [.ref (ad (0)), .int (x1), .ref (ad (69))] (nx_pre D hpC (hpT tC) A (cW ad tC n I K bw LA n2 J bw2 L o S) ad s0) (lw_po (¬ ((0 ≤ x1 ∧ x1 < nI (n 4)))) (¬ ((¬ K 0 = 0))) 2 (cW ad tC n I K bw LA n2 J bw2 L o S) ad (fun wn' ad' => ad' = ad ∧ ∃ S1, scr S S1 ∧ wn' = cW ad tC n I K bw LA n2 J bw2 L (vp_updL o 0 (((saF n I ow sq S (S 0 0)).2.1 (x1.toNatClampNeg)).toInt64)) S1)) 2 12 := by
  refine nx_bodyW (by decide) (Nat.le_of_ble_eq_true rfl) ?_
  intro p e s m below meth cd ls args Q hSx hr hlocks hexc hB hA hKs hw hS hl hQ
  obtain ⟨hx, hb, hml, hown, hts⟩ := id hSx
  have hK := hKs.1
  have hl : lv_has ls 4 [(0, .ref (ad (0))), (1, .int (x1)), (2, .ref (ad (69)))] := hl
  obtain ⟨hn0, hn0', hn1, hn2, hn3, hn4⟩ := id hN
  refine lv_aload_n hx hb d_L_sold_0 rfl (lv_at hl 2 rfl) ?_
  refine lv_iconst (v := nI 0) hx hb d_L_sold_1 (by decide) ?_
  refine lv_aload_n hx hb d_L_sold_2 rfl (lv_at hl 0 rfl) ?_
  refine lv_iload_n hx hb d_L_sold_3 rfl (lv_at hl 1 rfl) ?_
  refine nx_callC (nx_goV (n := 1) (As := [.int (x1)]) (rest := [.int (nI 0), .ref (ad (69))]) hSx hA hKs hB hAs hw hS (c_X_sold l D tC A ad n I K bw LA (obM ad tC n2 J bw2 L (bE tC o)) (arM tC aE0) S hN s0 hF hfl hAs (x1) ow hO hPl sq hSq hSo) kw_652 kw_649 kw_650 kw_651 kw_1 rfl rfl (by decide +kernel) ⟨Nat.le_of_ble_eq_true rfl, Nat.le_of_ble_eq_true rfl⟩ (nw_recv hK hw (hW_0) rfl) rfl hl.1 (Nat.le_of_ble_eq_true rfl) d_L_sold_4 ⟨Nat.le_of_ble_eq_true rfl, Nat.le_of_ble_eq_true rfl⟩) hS (fun X wn' ad' H locs x cell hpost hw hS hcell hst hcls T' hT X0 => ?_) (fun rv wn' ad' H locs hpost hw hS => ?_)
  · skip
    obtain ⟨hw0, had0, hcase⟩ := nx_po_x hpost
    rw [hw0, had0] at hw
    have hw := nw_W.as (wn' := cW ad tC n I K bw LA n2 J bw2 L o S) hw rfl
    rcases hcase with ⟨rfl, hba⟩ | ⟨rfl, hnba, hbs⟩
    · skip
      refine nx_catch1 hexc rfl (by decide) hown (hts _ kw_261) (nx_tab hB.1 rfl rfl (hF.1 _ kt_273)) hcell hst hcls hT X0 ?_
      refine lv_astore_n (lv' := [(3, .ref (x)), (0, .ref (ad (0))), (1, .int (x1)), (2, .ref (ad (69)))]) hx hb d_L_sold_12 rfl hl (by decide) rfl (fun ls hl => ?_)
      refine lv_iconst (v := nI 1) hx hb d_L_sold_13 (by decide) ?_
      exact nx_ret hQ (nw_iret rfl hx hb hr hlocks hw hS (Or.inl ⟨rfl, hba, rfl, rfl⟩) (Nat.le_of_ble_eq_true rfl) (Nat.le_of_ble_eq_true rfl) d_L_sold_14)
    · skip
      refine nx_catch2 hexc rfl rfl (by decide) (by decide) hown (hts _ kw_261) (hts _ kw_262) (nx_tab hB.1 rfl rfl (hF.1 _ kt_343)) hB hF.2.2.2 hcell hst hcls hT X0 ?_
      refine lv_astore_n (lv' := [(3, .ref (x)), (0, .ref (ad (0))), (1, .int (x1)), (2, .ref (ad (69)))]) hx hb d_L_sold_15 rfl hl (by decide) rfl (fun ls hl => ?_)
      refine lv_iconst (v := nI 2) hx hb d_L_sold_16 (by decide) ?_
      exact nx_ret hQ (nw_iret rfl hx hb hr hlocks hw hS (Or.inr (Or.inl ⟨rfl, hnba, hbs, rfl, rfl⟩)) (Nat.le_of_ble_eq_true rfl) (Nat.le_of_ble_eq_true rfl) d_L_sold_17)
  obtain ⟨hnba, hnbs, hG⟩ := nx_po_i hpost
  obtain ⟨hv, had, S1, hsc, hwn⟩ := hG
  subst hv
  rw [hwn, had] at hw
  have hw := nw_W.as (wn' := cW ad tC n I K bw LA n2 J bw2 L o S1) hw rfl
  refine lv_i2l (v := (((saF n I ow sq S (S 0 0)).2.1 (x1.toNatClampNeg)).toInt64)) hx hb d_L_sold_7 rfl ?_
  refine nw_last hx hb hK hw hS (69) 1 (cW_69) rfl (0) (rfl) (by omega) (by omega) d_L_sold_8 (fun H locs hw hS => ?_)
  have hw := cW_setO hw
  refine lv_goto (tgt := 18) hx hb d_L_sold_9 (by decide) ?_
  refine lv_iconst (v := nI 0) hx hb d_L_sold_18 (by decide) ?_
  exact nx_ret hQ (nw_iret rfl hx hb hr hlocks hw hS (Or.inr (Or.inr ⟨rfl, hnba, hnbs, ⟨rfl, S1, hsc, rfl⟩⟩)) (Nat.le_of_ble_eq_true rfl) (Nat.le_of_ble_eq_true rfl) d_L_sold_19)

set_option maxHeartbeats 4000000 in
set_option maxRecDepth 100000 in
/-- run, by the law -/
theorem w_run (l : Launch) (D : va_G) (tC : Nat → ClassId) (A : Nat → Prop) (ad : Nat → Nat) (n : Nat → Nat) (I : Nat → Nat → Int32) (K : Nat → Int32) (bw : Int64) (LA : Nat → Int64) (n2 : Nat → Nat) (J : Nat → Int32) (bw2 : Int64) (L : Nat → Nat → Int64) (o : Nat → Int64) (S : Nat → Nat → Nat → Int32) (hN : hpN n) (s0 : State) (hF : nx_F s0) (hfl : l.stackTraces = false) (hAs : ∀ q, A q → s0.heap.size ≤ q) (x1 : Int32) (hm : Nat → Nat) (hH : ∀ c, c < n 2 → I 2 c = nI (hm c) ∧ hm c < n 1) (ow : Nat → Nat) (hO : ∀ o, o < n 4 → I 4 o = nI (ow o) ∧ ow o < n 0) (sq : Nat → Nat) (hSq : ∀ k, k < n 4 → S 0 1 k = nI (sq k) ∧ sq k < n 4) (hSo : ∀ q, q < n 4 → ∃ j, j < n 4 ∧ sq j = q) : nx_M l y_L_run [(Jvm.Cond.codeWith ({ cls := "HarvestPlansLaw", name := "run", desc := "(LHarvestPlans;I[J)I" } : Jvm.MethodName) method_12_code (4 : Nat) (Option.some Jvm.ClassFile.FieldType.int) [((0 : Nat), (9 : Nat), (12 : Nat), (13 : Nat))])] ({ frames := 52, cells := 1, slots := 6, locals := 1342 } : Room) D hpC A [.ref (ad (0)), .int (x1), .ref (ad (69))] (nx_pre D hpC (hpT tC) A (cW ad tC n I K bw LA n2 J bw2 L o S) ad s0) (lw_po (¬ ((nI 1 ≤ x1 ∧ x1 ≤ nI 5000))) (¬ (True)) 2 (cW ad tC n I K bw LA n2 J bw2 L o S) ad (fun wn' ad' => ad' = ad ∧ ∃ (rv9 : Int32) (K9 : Nat → Int32) (L9 : Nat → Int64) (S9 : Nat → Nat → Nat → Int32), wn' = cW ad tC n I K9 ((stX n I hm ow sq (upR S 0 0 (flR (S 0 0) (-1) 6)) (x1.toNatClampNeg)).2.2.1) L9 n2 J bw2 L (vp_updL o 0 rv9.toInt64) S9 ∧ (((stX n I hm ow sq (upR S 0 0 (flR (S 0 0) (-1) 6)) (x1.toNatClampNeg)).2.2.1 = -1 ∧ rv9 = (if (stX n I hm ow sq (upR S 0 0 (flR (S 0 0) (-1) 6)) (x1.toNatClampNeg)).2.1 = true then nI 3 else nI 2) ∧ K9 = (va_up (va_up (va_up (va_up K 0 (nI 0)) 1 (nI (x1.toNatClampNeg))) 2 (nI (stX n I hm ow sq (upR S 0 0 (flR (S 0 0) (-1) 6)) (x1.toNatClampNeg)).1)) 3 (bI (stX n I hm ow sq (upR S 0 0 (flR (S 0 0) (-1) 6)) (x1.toNatClampNeg)).2.1)) ∧ scr (upR (upR (upR S 0 0 (flR (S 0 0) (-1) 6)) 0 9 (stX n I hm ow sq (upR S 0 0 (flR (S 0 0) (-1) 6)) (x1.toNatClampNeg)).2.2.2.1) 0 10 (stX n I hm ow sq (upR S 0 0 (flR (S 0 0) (-1) 6)) (x1.toNatClampNeg)).2.2.2.2) S9) ∨ (¬ (stX n I hm ow sq (upR S 0 0 (flR (S 0 0) (-1) 6)) (x1.toNatClampNeg)).2.2.1 = -1 ∧ rv9 = (if (stX n I hm ow sq (upR S 0 0 (flR (S 0 0) (-1) 6)) (x1.toNatClampNeg)).2.1 = true then nI 1 else nI 0) ∧ K9 = va_up (va_up (va_up (va_up (va_up K 0 (nI 0)) 1 (nI (x1.toNatClampNeg))) 2 (nI (stX n I hm ow sq (upR S 0 0 (flR (S 0 0) (-1) 6)) (x1.toNatClampNeg)).1)) 3 (bI (stX n I hm ow sq (upR S 0 0 (flR (S 0 0) (-1) 6)) (x1.toNatClampNeg)).2.1)) 0 (nI 1) ∧ scr (upR (upR (upR (upR S 0 0 (flR (S 0 0) (-1) 6)) 0 9 (stX n I hm ow sq (upR S 0 0 (flR (S 0 0) (-1) 6)) (x1.toNatClampNeg)).2.2.2.1) 0 10 (stX n I hm ow sq (upR S 0 0 (flR (S 0 0) (-1) 6)) (x1.toNatClampNeg)).2.2.2.2) 0 0 (va_cpy (stX n I hm ow sq (upR S 0 0 (flR (S 0 0) (-1) 6)) (x1.toNatClampNeg)).2.2.2.2 (upR S 0 0 (flR (S 0 0) (-1) 6) 0 0) 0 0 6)) S9)))) 1 6 := by
  refine nx_bodyW (by decide) (Nat.le_of_ble_eq_true rfl) ?_
  intro p e s m below meth cd ls args Q hSx hr hlocks hexc hB hA hKs hw hS hl hQ
  obtain ⟨hx, hb, hml, hown, hts⟩ := id hSx
  have hK := hKs.1
  have hl : lv_has ls 4 [(0, .ref (ad (0))), (1, .int (x1)), (2, .ref (ad (69)))] := hl
  obtain ⟨hn0, hn0', hn1, hn2, hn3, hn4⟩ := id hN
  refine lv_aload_n hx hb d_L_run_0 rfl (lv_at hl 2 rfl) ?_
  refine lv_iconst (v := nI 0) hx hb d_L_run_1 (by decide) ?_
  refine lv_aload_n hx hb d_L_run_2 rfl (lv_at hl 0 rfl) ?_
  refine lv_iload_n hx hb d_L_run_3 rfl (lv_at hl 1 rfl) ?_
  refine nx_callC (nx_goV (n := 1) (As := [.int (x1)]) (rest := [.int (nI 0), .ref (ad (69))]) hSx hA hKs hB hAs hw hS (c_X_run l D tC A ad n I K bw LA (obM ad tC n2 J bw2 L (bE tC o)) (arM tC aE0) S hN s0 hF hfl hAs (x1) hm hH ow hO sq hSq hSo) kw_528 kw_525 kw_526 kw_527 kw_1 rfl rfl (by decide +kernel) ⟨Nat.le_of_ble_eq_true rfl, Nat.le_of_ble_eq_true rfl⟩ (nw_recv hK hw (hW_0) rfl) rfl hl.1 (Nat.le_of_ble_eq_true rfl) d_L_run_4 ⟨Nat.le_of_ble_eq_true rfl, Nat.le_of_ble_eq_true rfl⟩) hS (fun X wn' ad' H locs x cell hpost hw hS hcell hst hcls T' hT X0 => ?_) (fun rv wn' ad' H locs hpost hw hS => ?_)
  · skip
    obtain ⟨hw0, had0, hcase⟩ := nx_po_x hpost
    rw [hw0, had0] at hw
    have hw := nw_W.as (wn' := cW ad tC n I K bw LA n2 J bw2 L o S) hw rfl
    rcases hcase with ⟨rfl, hba⟩ | ⟨rfl, hnba, hbs⟩
    · skip
      refine nx_catch1 hexc rfl (by decide) hown (hts _ kw_261) (nx_tab hB.1 rfl rfl (hF.1 _ kt_273)) hcell hst hcls hT X0 ?_
      refine lv_astore_n (lv' := [(3, .ref (x)), (0, .ref (ad (0))), (1, .int (x1)), (2, .ref (ad (69)))]) hx hb d_L_run_12 rfl hl (by decide) rfl (fun ls hl => ?_)
      refine lv_iconst (v := nI 1) hx hb d_L_run_13 (by decide) ?_
      exact nx_ret hQ (nw_iret rfl hx hb hr hlocks hw hS (Or.inl ⟨rfl, hba, rfl, rfl⟩) (Nat.le_of_ble_eq_true rfl) (Nat.le_of_ble_eq_true rfl) d_L_run_14)
    · skip
      exact absurd trivial hbs
  obtain ⟨hnba, hnbs, hG⟩ := nx_po_i hpost
  obtain ⟨had, hrun⟩ := hG
  have hrun2 : ∃ (rv9 : Int32) (K9 : Nat → Int32) (L9 : Nat → Int64) (S9 : Nat → Nat → Nat → Int32), rv = some (.int rv9) ∧ wn' = hW ad tC n I K9 (stX n I hm ow sq (upR S 0 0 (flR (S 0 0) (-1) 6)) (x1.toNatClampNeg)).2.2.1 L9 (obM ad tC n2 J bw2 L (bE tC o)) (arM tC aE0) S9 ∧ (((stX n I hm ow sq (upR S 0 0 (flR (S 0 0) (-1) 6)) (x1.toNatClampNeg)).2.2.1 = -1 ∧ rv9 = (if (stX n I hm ow sq (upR S 0 0 (flR (S 0 0) (-1) 6)) (x1.toNatClampNeg)).2.1 = true then nI 3 else nI 2) ∧ K9 = (va_up (va_up (va_up (va_up K 0 (nI 0)) 1 (nI (x1.toNatClampNeg))) 2 (nI (stX n I hm ow sq (upR S 0 0 (flR (S 0 0) (-1) 6)) (x1.toNatClampNeg)).1)) 3 (bI (stX n I hm ow sq (upR S 0 0 (flR (S 0 0) (-1) 6)) (x1.toNatClampNeg)).2.1)) ∧ scr (upR (upR (upR S 0 0 (flR (S 0 0) (-1) 6)) 0 9 (stX n I hm ow sq (upR S 0 0 (flR (S 0 0) (-1) 6)) (x1.toNatClampNeg)).2.2.2.1) 0 10 (stX n I hm ow sq (upR S 0 0 (flR (S 0 0) (-1) 6)) (x1.toNatClampNeg)).2.2.2.2) S9) ∨ (¬ (stX n I hm ow sq (upR S 0 0 (flR (S 0 0) (-1) 6)) (x1.toNatClampNeg)).2.2.1 = -1 ∧ rv9 = (if (stX n I hm ow sq (upR S 0 0 (flR (S 0 0) (-1) 6)) (x1.toNatClampNeg)).2.1 = true then nI 1 else nI 0) ∧ K9 = va_up (va_up (va_up (va_up (va_up K 0 (nI 0)) 1 (nI (x1.toNatClampNeg))) 2 (nI (stX n I hm ow sq (upR S 0 0 (flR (S 0 0) (-1) 6)) (x1.toNatClampNeg)).1)) 3 (bI (stX n I hm ow sq (upR S 0 0 (flR (S 0 0) (-1) 6)) (x1.toNatClampNeg)).2.1)) 0 (nI 1) ∧ scr (upR (upR (upR (upR S 0 0 (flR (S 0 0) (-1) 6)) 0 9 (stX n I hm ow sq (upR S 0 0 (flR (S 0 0) (-1) 6)) (x1.toNatClampNeg)).2.2.2.1) 0 10 (stX n I hm ow sq (upR S 0 0 (flR (S 0 0) (-1) 6)) (x1.toNatClampNeg)).2.2.2.2) 0 0 (va_cpy (stX n I hm ow sq (upR S 0 0 (flR (S 0 0) (-1) 6)) (x1.toNatClampNeg)).2.2.2.2 (upR S 0 0 (flR (S 0 0) (-1) 6) 0 0) 0 0 6)) S9)) := by
    rcases hrun with ⟨a, b, L9, S9, d, e⟩ | ⟨a, b, L9, S9, d, e⟩
    · exact ⟨_, _, L9, S9, b, e, Or.inl ⟨a, rfl, rfl, d⟩⟩
    · exact ⟨_, _, L9, S9, b, e, Or.inr ⟨a, rfl, rfl, d⟩⟩
  obtain ⟨rv9, K9, L9, S9, hv, hwn, hR9⟩ := hrun2
  subst hv
  rw [hwn, had] at hw
  have hw := nw_W.as (wn' := cW ad tC n I K9 ((stX n I hm ow sq (upR S 0 0 (flR (S 0 0) (-1) 6)) (x1.toNatClampNeg)).2.2.1) L9 n2 J bw2 L o S9) hw rfl
  refine lv_i2l (v := ((rv9).toInt64)) hx hb d_L_run_7 rfl ?_
  refine nw_last hx hb hK hw hS (69) 1 (cW_69) rfl (0) (rfl) (by omega) (by omega) d_L_run_8 (fun H locs hw hS => ?_)
  have hw := cW_setO hw
  refine lv_goto (tgt := 15) hx hb d_L_run_9 (by decide) ?_
  refine lv_iconst (v := nI 0) hx hb d_L_run_15 (by decide) ?_
  exact nx_ret hQ (nw_iret rfl hx hb hr hlocks hw hS (Or.inr (Or.inr ⟨rfl, hnba, hnbs, ⟨rfl, rv9, K9, L9, S9, rfl, hR9⟩⟩)) (Nat.le_of_ble_eq_true rfl) (Nat.le_of_ble_eq_true rfl) d_L_run_16)

set_option maxHeartbeats 4000000 in
set_option maxRecDepth 100000 in
/-- place, by the law -/
theorem w_place (l : Launch) (D : va_G) (tC : Nat → ClassId) (A : Nat → Prop) (ad : Nat → Nat) (n : Nat → Nat) (I : Nat → Nat → Int32) (K : Nat → Int32) (bw : Int64) (LA : Nat → Int64) (n2 : Nat → Nat) (J : Nat → Int32) (bw2 : Int64) (L : Nat → Nat → Int64) (o : Nat → Int64) (S : Nat → Nat → Nat → Int32) (hN : hpN n) (s0 : State) (hF : nx_F s0) (hfl : l.stackTraces = false) (hAs : ∀ q, A q → s0.heap.size ≤ q) (x1 : Int32) : nx_M l y_L_place [(Jvm.Cond.codeWith ({ cls := "HarvestPlansLaw", name := "place", desc := "(LHarvestPlans;I[J)I" } : Jvm.MethodName) method_3_code (4 : Nat) (Option.some Jvm.ClassFile.FieldType.int) [((0 : Nat), (9 : Nat), (12 : Nat), (13 : Nat)), ((0 : Nat), (9 : Nat), (15 : Nat), (15 : Nat))])] ({ frames := 8, cells := 4, slots := 22, locals := 153 } : Room) D hpC A [.ref (ad (0)), .int (x1), .ref (ad (69))] (nx_pre D hpC (hpT tC) A (cW ad tC n I K bw LA n2 J bw2 L o S) ad s0) (lw_po (¬ ((nI 0 ≤ x1 ∧ x1 ≤ 100000000))) (¬ ((nI (n 1) < nI 4))) 2 (cW ad tC n I K bw LA n2 J bw2 L o S) ad (fun wn' ad' => agr ad ad' ∧ wn' = cW ad' tC (va_up n 1 (n 1 + 1)) (adI I 1 1 (n 1) (fun _ => x1)) (va_up K 0 (nI 0)) bw LA n2 J bw2 L (vp_updL o 0 ((nI (n 1)).toInt64)) (adS (upR S 0 0 (flR (S 0 0) (-1) 6)) 1 1 (n 1)))) 4 22 := by
  refine nx_bodyW (by decide) (Nat.le_of_ble_eq_true rfl) ?_
  intro p e s m below meth cd ls args Q hSx hr hlocks hexc hB hA hKs hw hS hl hQ
  obtain ⟨hx, hb, hml, hown, hts⟩ := id hSx
  have hK := hKs.1
  have hl : lv_has ls 4 [(0, .ref (ad (0))), (1, .int (x1)), (2, .ref (ad (69)))] := hl
  obtain ⟨hn0, hn0', hn1, hn2, hn3, hn4⟩ := id hN
  refine lv_aload_n hx hb d_L_place_0 rfl (lv_at hl 2 rfl) ?_
  refine lv_iconst (v := nI 0) hx hb d_L_place_1 (by decide) ?_
  refine lv_aload_n hx hb d_L_place_2 rfl (lv_at hl 0 rfl) ?_
  refine lv_iload_n hx hb d_L_place_3 rfl (lv_at hl 1 rfl) ?_
  refine nx_callC (nx_goV (n := 1) (As := [.int (x1)]) (rest := [.int (nI 0), .ref (ad (69))]) hSx hA hKs hB hAs hw hS (c_X_place l D tC A ad n I K bw LA (obM ad tC n2 J bw2 L (bE tC o)) (arM tC aE0) S hN s0 hF hfl hAs (x1) ) kw_266 kw_263 kw_264 kw_265 kw_1 rfl rfl (by decide +kernel) ⟨Nat.le_of_ble_eq_true rfl, Nat.le_of_ble_eq_true rfl⟩ (nw_recv hK hw (hW_0) rfl) rfl hl.1 (Nat.le_of_ble_eq_true rfl) d_L_place_4 ⟨Nat.le_of_ble_eq_true rfl, Nat.le_of_ble_eq_true rfl⟩) hS (fun X wn' ad' H locs x cell hpost hw hS hcell hst hcls T' hT X0 => ?_) (fun rv wn' ad' H locs hpost hw hS => ?_)
  · skip
    obtain ⟨hw0, had0, hcase⟩ := nx_po_x hpost
    rw [hw0, had0] at hw
    have hw := nw_W.as (wn' := cW ad tC n I K bw LA n2 J bw2 L o S) hw rfl
    rcases hcase with ⟨rfl, hba⟩ | ⟨rfl, hnba, hbs⟩
    · skip
      refine nx_catch1 hexc rfl (by decide) hown (hts _ kw_261) (nx_tab hB.1 rfl rfl (hF.1 _ kt_273)) hcell hst hcls hT X0 ?_
      refine lv_astore_n (lv' := [(3, .ref (x)), (0, .ref (ad (0))), (1, .int (x1)), (2, .ref (ad (69)))]) hx hb d_L_place_12 rfl hl (by decide) rfl (fun ls hl => ?_)
      refine lv_iconst (v := nI 1) hx hb d_L_place_13 (by decide) ?_
      exact nx_ret hQ (nw_iret rfl hx hb hr hlocks hw hS (Or.inl ⟨rfl, hba, rfl, rfl⟩) (Nat.le_of_ble_eq_true rfl) (Nat.le_of_ble_eq_true rfl) d_L_place_14)
    · skip
      refine nx_catch2 hexc rfl rfl (by decide) (by decide) hown (hts _ kw_261) (hts _ kw_262) (nx_tab hB.1 rfl rfl (hF.1 _ kt_343)) hB hF.2.2.2 hcell hst hcls hT X0 ?_
      refine lv_astore_n (lv' := [(3, .ref (x)), (0, .ref (ad (0))), (1, .int (x1)), (2, .ref (ad (69)))]) hx hb d_L_place_15 rfl hl (by decide) rfl (fun ls hl => ?_)
      refine lv_iconst (v := nI 2) hx hb d_L_place_16 (by decide) ?_
      exact nx_ret hQ (nw_iret rfl hx hb hr hlocks hw hS (Or.inr (Or.inl ⟨rfl, hnba, hbs, rfl, rfl⟩)) (Nat.le_of_ble_eq_true rfl) (Nat.le_of_ble_eq_true rfl) d_L_place_17)
  obtain ⟨hnba, hnbs, hG⟩ := nx_po_i hpost
  have hi9 : n 1 < 4 := (nI_ltI (by omega) (by omega)).mp (Classical.not_not.mp hnbs)
  obtain ⟨hv, hag, hwn⟩ := hG
  subst hv
  have ea : ad 69 = ad' 69 := (hag 69 (by omega) (by omega)).symm
  rw [hwn] at hw
  have hw := nw_W.as (wn' := cW ad' tC (va_up n 1 (n 1 + 1)) (adI I 1 1 (n 1) (fun _ => x1)) (va_up K 0 (nI 0)) bw LA n2 J bw2 L o (adS (upR S 0 0 (flR (S 0 0) (-1) 6)) 1 1 (n 1))) hw (cW_ad (fun k h1 => hag k (by omega) (by omega))).symm
  rw [ea]
  refine lv_i2l (v := ((nI (n 1)).toInt64)) hx hb d_L_place_7 rfl ?_
  refine nw_last hx hb hK hw hS (69) 1 (cW_69) rfl (0) (rfl) (by omega) (by omega) d_L_place_8 (fun H locs hw hS => ?_)
  have hw := cW_setO hw
  refine lv_goto (tgt := 18) hx hb d_L_place_9 (by decide) ?_
  refine lv_iconst (v := nI 0) hx hb d_L_place_18 (by decide) ?_
  exact nx_ret hQ (nw_iret rfl hx hb hr hlocks hw hS (Or.inr (Or.inr ⟨rfl, hnba, hnbs, ⟨⟨hag 0 (by omega) (by omega), hag 64 (by omega) (by omega), hag 69 (by omega) (by omega)⟩, rfl⟩⟩)) (Nat.le_of_ble_eq_true rfl) (Nat.le_of_ble_eq_true rfl) d_L_place_19)

set_option maxHeartbeats 4000000 in
set_option maxRecDepth 100000 in
/-- cage, by the law -/
theorem w_cage (l : Launch) (D : va_G) (tC : Nat → ClassId) (A : Nat → Prop) (ad : Nat → Nat) (n : Nat → Nat) (I : Nat → Nat → Int32) (K : Nat → Int32) (bw : Int64) (LA : Nat → Int64) (n2 : Nat → Nat) (J : Nat → Int32) (bw2 : Int64) (L : Nat → Nat → Int64) (o : Nat → Int64) (S : Nat → Nat → Nat → Int32) (hN : hpN n) (s0 : State) (hF : nx_F s0) (hfl : l.stackTraces = false) (hAs : ∀ q, A q → s0.heap.size ≤ q) (x1 : Int32) : nx_M l y_L_cage [(Jvm.Cond.codeWith ({ cls := "HarvestPlansLaw", name := "cage", desc := "(LHarvestPlans;I[J)I" } : Jvm.MethodName) method_5_code (4 : Nat) (Option.some Jvm.ClassFile.FieldType.int) [((0 : Nat), (9 : Nat), (12 : Nat), (13 : Nat)), ((0 : Nat), (9 : Nat), (15 : Nat), (15 : Nat))])] ({ frames := 8, cells := 5, slots := 31, locals := 152 } : Room) D hpC A [.ref (ad (0)), .int (x1), .ref (ad (69))] (nx_pre D hpC (hpT tC) A (cW ad tC n I K bw LA n2 J bw2 L o S) ad s0) (lw_po (¬ ((0 ≤ x1 ∧ x1 < nI (n 1)))) (¬ ((nI (n 2) < nI 6))) 2 (cW ad tC n I K bw LA n2 J bw2 L o S) ad (fun wn' ad' => agr ad ad' ∧ wn' = cW ad' tC (va_up n 2 (n 2 + 1)) (adI I 2 2 (n 2) (fun _ => x1)) (va_up K 0 (nI 0)) bw LA n2 J bw2 L (vp_updL o 0 ((nI (n 2)).toInt64)) (adS (upR S 0 0 (flR (S 0 0) (-1) 6)) 2 3 (n 2)))) 5 31 := by
  refine nx_bodyW (by decide) (Nat.le_of_ble_eq_true rfl) ?_
  intro p e s m below meth cd ls args Q hSx hr hlocks hexc hB hA hKs hw hS hl hQ
  obtain ⟨hx, hb, hml, hown, hts⟩ := id hSx
  have hK := hKs.1
  have hl : lv_has ls 4 [(0, .ref (ad (0))), (1, .int (x1)), (2, .ref (ad (69)))] := hl
  obtain ⟨hn0, hn0', hn1, hn2, hn3, hn4⟩ := id hN
  refine lv_aload_n hx hb d_L_cage_0 rfl (lv_at hl 2 rfl) ?_
  refine lv_iconst (v := nI 0) hx hb d_L_cage_1 (by decide) ?_
  refine lv_aload_n hx hb d_L_cage_2 rfl (lv_at hl 0 rfl) ?_
  refine lv_iload_n hx hb d_L_cage_3 rfl (lv_at hl 1 rfl) ?_
  refine nx_callC (nx_goV (n := 1) (As := [.int (x1)]) (rest := [.int (nI 0), .ref (ad (69))]) hSx hA hKs hB hAs hw hS (c_X_cage l D tC A ad n I K bw LA (obM ad tC n2 J bw2 L (bE tC o)) (arM tC aE0) S hN s0 hF hfl hAs (x1) ) kw_403 kw_400 kw_401 kw_402 kw_1 rfl rfl (by decide +kernel) ⟨Nat.le_of_ble_eq_true rfl, Nat.le_of_ble_eq_true rfl⟩ (nw_recv hK hw (hW_0) rfl) rfl hl.1 (Nat.le_of_ble_eq_true rfl) d_L_cage_4 ⟨Nat.le_of_ble_eq_true rfl, Nat.le_of_ble_eq_true rfl⟩) hS (fun X wn' ad' H locs x cell hpost hw hS hcell hst hcls T' hT X0 => ?_) (fun rv wn' ad' H locs hpost hw hS => ?_)
  · skip
    obtain ⟨hw0, had0, hcase⟩ := nx_po_x hpost
    rw [hw0, had0] at hw
    have hw := nw_W.as (wn' := cW ad tC n I K bw LA n2 J bw2 L o S) hw rfl
    rcases hcase with ⟨rfl, hba⟩ | ⟨rfl, hnba, hbs⟩
    · skip
      refine nx_catch1 hexc rfl (by decide) hown (hts _ kw_261) (nx_tab hB.1 rfl rfl (hF.1 _ kt_273)) hcell hst hcls hT X0 ?_
      refine lv_astore_n (lv' := [(3, .ref (x)), (0, .ref (ad (0))), (1, .int (x1)), (2, .ref (ad (69)))]) hx hb d_L_cage_12 rfl hl (by decide) rfl (fun ls hl => ?_)
      refine lv_iconst (v := nI 1) hx hb d_L_cage_13 (by decide) ?_
      exact nx_ret hQ (nw_iret rfl hx hb hr hlocks hw hS (Or.inl ⟨rfl, hba, rfl, rfl⟩) (Nat.le_of_ble_eq_true rfl) (Nat.le_of_ble_eq_true rfl) d_L_cage_14)
    · skip
      refine nx_catch2 hexc rfl rfl (by decide) (by decide) hown (hts _ kw_261) (hts _ kw_262) (nx_tab hB.1 rfl rfl (hF.1 _ kt_343)) hB hF.2.2.2 hcell hst hcls hT X0 ?_
      refine lv_astore_n (lv' := [(3, .ref (x)), (0, .ref (ad (0))), (1, .int (x1)), (2, .ref (ad (69)))]) hx hb d_L_cage_15 rfl hl (by decide) rfl (fun ls hl => ?_)
      refine lv_iconst (v := nI 2) hx hb d_L_cage_16 (by decide) ?_
      exact nx_ret hQ (nw_iret rfl hx hb hr hlocks hw hS (Or.inr (Or.inl ⟨rfl, hnba, hbs, rfl, rfl⟩)) (Nat.le_of_ble_eq_true rfl) (Nat.le_of_ble_eq_true rfl) d_L_cage_17)
  obtain ⟨hnba, hnbs, hG⟩ := nx_po_i hpost
  have hi9 : n 2 < 6 := (nI_ltI (by omega) (by omega)).mp (Classical.not_not.mp hnbs)
  obtain ⟨hv, hag, hwn⟩ := hG
  subst hv
  have ea : ad 69 = ad' 69 := (hag 69 (by omega) (by omega) (by omega)).symm
  rw [hwn] at hw
  have hw := nw_W.as (wn' := cW ad' tC (va_up n 2 (n 2 + 1)) (adI I 2 2 (n 2) (fun _ => x1)) (va_up K 0 (nI 0)) bw LA n2 J bw2 L o (adS (upR S 0 0 (flR (S 0 0) (-1) 6)) 2 3 (n 2))) hw (cW_ad (fun k h1 => hag k (by omega) (by omega) (by omega))).symm
  rw [ea]
  refine lv_i2l (v := ((nI (n 2)).toInt64)) hx hb d_L_cage_7 rfl ?_
  refine nw_last hx hb hK hw hS (69) 1 (cW_69) rfl (0) (rfl) (by omega) (by omega) d_L_cage_8 (fun H locs hw hS => ?_)
  have hw := cW_setO hw
  refine lv_goto (tgt := 18) hx hb d_L_cage_9 (by decide) ?_
  refine lv_iconst (v := nI 0) hx hb d_L_cage_18 (by decide) ?_
  exact nx_ret hQ (nw_iret rfl hx hb hr hlocks hw hS (Or.inr (Or.inr ⟨rfl, hnba, hnbs, ⟨⟨hag 0 (by omega) (by omega) (by omega), hag 64 (by omega) (by omega) (by omega), hag 69 (by omega) (by omega) (by omega)⟩, rfl⟩⟩)) (Nat.le_of_ble_eq_true rfl) (Nat.le_of_ble_eq_true rfl) d_L_cage_19)

set_option maxHeartbeats 4000000 in
set_option maxRecDepth 100000 in
/-- boat, by the law -/
theorem w_boat (l : Launch) (D : va_G) (tC : Nat → ClassId) (A : Nat → Prop) (ad : Nat → Nat) (n : Nat → Nat) (I : Nat → Nat → Int32) (K : Nat → Int32) (bw : Int64) (LA : Nat → Int64) (n2 : Nat → Nat) (J : Nat → Int32) (bw2 : Int64) (L : Nat → Nat → Int64) (o : Nat → Int64) (S : Nat → Nat → Nat → Int32) (hN : hpN n) (s0 : State) (hF : nx_F s0) (hfl : l.stackTraces = false) (hAs : ∀ q, A q → s0.heap.size ≤ q) (x1 : Int32) : nx_M l y_L_boat [(Jvm.Cond.codeWith ({ cls := "HarvestPlansLaw", name := "boat", desc := "(LHarvestPlans;I[J)I" } : Jvm.MethodName) method_7_code (4 : Nat) (Option.some Jvm.ClassFile.FieldType.int) [((0 : Nat), (9 : Nat), (12 : Nat), (13 : Nat)), ((0 : Nat), (9 : Nat), (15 : Nat), (15 : Nat))])] ({ frames := 8, cells := 4, slots := 22, locals := 153 } : Room) D hpC A [.ref (ad (0)), .int (x1), .ref (ad (69))] (nx_pre D hpC (hpT tC) A (cW ad tC n I K bw LA n2 J bw2 L o S) ad s0) (lw_po (¬ ((nI 0 ≤ x1 ∧ x1 ≤ 100000000))) (¬ ((nI (n 3) < nI 3))) 2 (cW ad tC n I K bw LA n2 J bw2 L o S) ad (fun wn' ad' => agr ad ad' ∧ wn' = cW ad' tC (va_up n 3 (n 3 + 1)) (adI I 3 3 (n 3) (fun _ => x1)) (va_up K 0 (nI 0)) bw LA n2 J bw2 L (vp_updL o 0 ((nI (n 3)).toInt64)) (adS (upR S 0 0 (flR (S 0 0) (-1) 6)) 4 4 (n 3)))) 4 22 := by
  refine nx_bodyW (by decide) (Nat.le_of_ble_eq_true rfl) ?_
  intro p e s m below meth cd ls args Q hSx hr hlocks hexc hB hA hKs hw hS hl hQ
  obtain ⟨hx, hb, hml, hown, hts⟩ := id hSx
  have hK := hKs.1
  have hl : lv_has ls 4 [(0, .ref (ad (0))), (1, .int (x1)), (2, .ref (ad (69)))] := hl
  obtain ⟨hn0, hn0', hn1, hn2, hn3, hn4⟩ := id hN
  refine lv_aload_n hx hb d_L_boat_0 rfl (lv_at hl 2 rfl) ?_
  refine lv_iconst (v := nI 0) hx hb d_L_boat_1 (by decide) ?_
  refine lv_aload_n hx hb d_L_boat_2 rfl (lv_at hl 0 rfl) ?_
  refine lv_iload_n hx hb d_L_boat_3 rfl (lv_at hl 1 rfl) ?_
  refine nx_callC (nx_goV (n := 1) (As := [.int (x1)]) (rest := [.int (nI 0), .ref (ad (69))]) hSx hA hKs hB hAs hw hS (c_X_boat l D tC A ad n I K bw LA (obM ad tC n2 J bw2 L (bE tC o)) (arM tC aE0) S hN s0 hF hfl hAs (x1) ) kw_445 kw_442 kw_443 kw_444 kw_1 rfl rfl (by decide +kernel) ⟨Nat.le_of_ble_eq_true rfl, Nat.le_of_ble_eq_true rfl⟩ (nw_recv hK hw (hW_0) rfl) rfl hl.1 (Nat.le_of_ble_eq_true rfl) d_L_boat_4 ⟨Nat.le_of_ble_eq_true rfl, Nat.le_of_ble_eq_true rfl⟩) hS (fun X wn' ad' H locs x cell hpost hw hS hcell hst hcls T' hT X0 => ?_) (fun rv wn' ad' H locs hpost hw hS => ?_)
  · skip
    obtain ⟨hw0, had0, hcase⟩ := nx_po_x hpost
    rw [hw0, had0] at hw
    have hw := nw_W.as (wn' := cW ad tC n I K bw LA n2 J bw2 L o S) hw rfl
    rcases hcase with ⟨rfl, hba⟩ | ⟨rfl, hnba, hbs⟩
    · skip
      refine nx_catch1 hexc rfl (by decide) hown (hts _ kw_261) (nx_tab hB.1 rfl rfl (hF.1 _ kt_273)) hcell hst hcls hT X0 ?_
      refine lv_astore_n (lv' := [(3, .ref (x)), (0, .ref (ad (0))), (1, .int (x1)), (2, .ref (ad (69)))]) hx hb d_L_boat_12 rfl hl (by decide) rfl (fun ls hl => ?_)
      refine lv_iconst (v := nI 1) hx hb d_L_boat_13 (by decide) ?_
      exact nx_ret hQ (nw_iret rfl hx hb hr hlocks hw hS (Or.inl ⟨rfl, hba, rfl, rfl⟩) (Nat.le_of_ble_eq_true rfl) (Nat.le_of_ble_eq_true rfl) d_L_boat_14)
    · skip
      refine nx_catch2 hexc rfl rfl (by decide) (by decide) hown (hts _ kw_261) (hts _ kw_262) (nx_tab hB.1 rfl rfl (hF.1 _ kt_343)) hB hF.2.2.2 hcell hst hcls hT X0 ?_
      refine lv_astore_n (lv' := [(3, .ref (x)), (0, .ref (ad (0))), (1, .int (x1)), (2, .ref (ad (69)))]) hx hb d_L_boat_15 rfl hl (by decide) rfl (fun ls hl => ?_)
      refine lv_iconst (v := nI 2) hx hb d_L_boat_16 (by decide) ?_
      exact nx_ret hQ (nw_iret rfl hx hb hr hlocks hw hS (Or.inr (Or.inl ⟨rfl, hnba, hbs, rfl, rfl⟩)) (Nat.le_of_ble_eq_true rfl) (Nat.le_of_ble_eq_true rfl) d_L_boat_17)
  obtain ⟨hnba, hnbs, hG⟩ := nx_po_i hpost
  have hi9 : n 3 < 3 := (nI_ltI (by omega) (by omega)).mp (Classical.not_not.mp hnbs)
  obtain ⟨hv, hag, hwn⟩ := hG
  subst hv
  have ea : ad 69 = ad' 69 := (hag 69 (by omega) (by omega)).symm
  rw [hwn] at hw
  have hw := nw_W.as (wn' := cW ad' tC (va_up n 3 (n 3 + 1)) (adI I 3 3 (n 3) (fun _ => x1)) (va_up K 0 (nI 0)) bw LA n2 J bw2 L o (adS (upR S 0 0 (flR (S 0 0) (-1) 6)) 4 4 (n 3))) hw (cW_ad (fun k h1 => hag k (by omega) (by omega))).symm
  rw [ea]
  refine lv_i2l (v := ((nI (n 3)).toInt64)) hx hb d_L_boat_7 rfl ?_
  refine nw_last hx hb hK hw hS (69) 1 (cW_69) rfl (0) (rfl) (by omega) (by omega) d_L_boat_8 (fun H locs hw hS => ?_)
  have hw := cW_setO hw
  refine lv_goto (tgt := 18) hx hb d_L_boat_9 (by decide) ?_
  refine lv_iconst (v := nI 0) hx hb d_L_boat_18 (by decide) ?_
  exact nx_ret hQ (nw_iret rfl hx hb hr hlocks hw hS (Or.inr (Or.inr ⟨rfl, hnba, hnbs, ⟨⟨hag 0 (by omega) (by omega), hag 64 (by omega) (by omega), hag 69 (by omega) (by omega)⟩, rfl⟩⟩)) (Nat.le_of_ble_eq_true rfl) (Nat.le_of_ble_eq_true rfl) d_L_boat_19)

set_option maxHeartbeats 4000000 in
set_option maxRecDepth 100000 in
/-- order, by the law -/
theorem w_order (l : Launch) (D : va_G) (tC : Nat → ClassId) (A : Nat → Prop) (ad : Nat → Nat) (n : Nat → Nat) (I : Nat → Nat → Int32) (K : Nat → Int32) (bw : Int64) (LA : Nat → Int64) (n2 : Nat → Nat) (J : Nat → Int32) (bw2 : Int64) (L : Nat → Nat → Int64) (o : Nat → Int64) (S : Nat → Nat → Nat → Int32) (hN : hpN n) (s0 : State) (hF : nx_F s0) (hfl : l.stackTraces = false) (hAs : ∀ q, A q → s0.heap.size ≤ q) (x1 x2 x3 x4 x5 : Int32) (sq : Nat → Nat) (hSq : ∀ k, k < n 4 → S 0 1 k = nI (sq k) ∧ sq k < n 4) : nx_M l y_L_order [(Jvm.Cond.codeWith ({ cls := "HarvestPlansLaw", name := "order", desc := "(LHarvestPlans;IIIII[J)I" } : Jvm.MethodName) method_10_code (8 : Nat) (Option.some Jvm.ClassFile.FieldType.int) [((0 : Nat), (16 : Nat), (19 : Nat), (13 : Nat)), ((0 : Nat), (16 : Nat), (23 : Nat), (15 : Nat))])] ({ frames := 9, cells := 7, slots := 41, locals := 177 } : Room) D hpC A [.ref (ad (0)), .int (x1), .int (x2), .int (x3), .int (x4), .int (x5), .ref (ad (69))] (nx_pre D hpC (hpT tC) A (cW ad tC n I K bw LA n2 J bw2 L o S) ad s0) (lw_po (¬ ((0 ≤ x1 ∧ x1 < nI (n 0)) ∧ (nI 0 ≤ x3 ∧ x3 ≤ nI 20000) ∧ (nI 0 ≤ x2 ∧ x2 ≤ x3) ∧ (nI 0 ≤ x4 ∧ x4 ≤ 100000000) ∧ (nI 0 ≤ x5 ∧ x5 ≤ nI 10000))) (¬ ((nI (n 4) < nI 6))) 2 (cW ad tC n I K bw LA n2 J bw2 L o S) ad (fun wn' ad' => agr ad ad' ∧ ∃ d, d ≤ n 4 ∧ (∀ j, j < d → I 8 (sq (n 4 - 1 - j)) < x5) ∧ (d < n 4 → ¬ I 8 (sq (n 4 - 1 - d)) < x5) ∧ wn' = cW ad' tC (va_up n 4 (n 4 + 1)) (adI I 4 8 (n 4) (v4 x1 x2 x3 x4 x5)) (va_up K 0 (nI 0)) bw LA n2 J bw2 L (vp_updL o 0 ((nI (n 4)).toInt64)) (upR (upR S 0 0 (flR (S 0 0) (-1) 6)) 0 1 (inF ((upR S 0 0 (flR (S 0 0) (-1) 6)) 0 1) (n 4) d)))) 7 41 := by
  refine nx_bodyW (by decide) (Nat.le_of_ble_eq_true rfl) ?_
  intro p e s m below meth cd ls args Q hSx hr hlocks hexc hB hA hKs hw hS hl hQ
  obtain ⟨hx, hb, hml, hown, hts⟩ := id hSx
  have hK := hKs.1
  have hl : lv_has ls 8 [(0, .ref (ad (0))), (1, .int (x1)), (2, .int (x2)), (3, .int (x3)), (4, .int (x4)), (5, .int (x5)), (6, .ref (ad (69)))] := hl
  obtain ⟨hn0, hn0', hn1, hn2, hn3, hn4⟩ := id hN
  refine lv_aload hx hb d_L_order_0 (lv_at hl 6 rfl) ?_
  refine lv_iconst (v := nI 0) hx hb d_L_order_2 (by decide) ?_
  refine lv_aload_n hx hb d_L_order_3 rfl (lv_at hl 0 rfl) ?_
  refine lv_iload_n hx hb d_L_order_4 rfl (lv_at hl 1 rfl) ?_
  refine lv_iload_n hx hb d_L_order_5 rfl (lv_at hl 2 rfl) ?_
  refine lv_iload_n hx hb d_L_order_6 rfl (lv_at hl 3 rfl) ?_
  refine lv_iload hx hb d_L_order_7 (lv_at hl 4 rfl) ?_
  refine lv_iload hx hb d_L_order_9 (lv_at hl 5 rfl) ?_
  refine nx_callC (nx_goV (n := 5) (As := [.int (x1), .int (x2), .int (x3), .int (x4), .int (x5)]) (rest := [.int (nI 0), .ref (ad (69))]) hSx hA hKs hB hAs hw hS (c_X_order l D tC A ad n I K bw LA (obM ad tC n2 J bw2 L (bE tC o)) (arM tC aE0) S hN s0 hF hfl hAs (x1) (x2) (x3) (x4) (x5) sq hSq) kw_486 kw_483 kw_484 kw_485 kw_1 rfl rfl (by decide +kernel) ⟨Nat.le_of_ble_eq_true rfl, Nat.le_of_ble_eq_true rfl⟩ (nw_recv hK hw (hW_0) rfl) rfl hl.1 (Nat.le_of_ble_eq_true rfl) d_L_order_11 ⟨Nat.le_of_ble_eq_true rfl, Nat.le_of_ble_eq_true rfl⟩) hS (fun X wn' ad' H locs x cell hpost hw hS hcell hst hcls T' hT X0 => ?_) (fun rv wn' ad' H locs hpost hw hS => ?_)
  · skip
    obtain ⟨hw0, had0, hcase⟩ := nx_po_x hpost
    rw [hw0, had0] at hw
    have hw := nw_W.as (wn' := cW ad tC n I K bw LA n2 J bw2 L o S) hw rfl
    rcases hcase with ⟨rfl, hba⟩ | ⟨rfl, hnba, hbs⟩
    · skip
      refine nx_catch1 hexc rfl (by decide) hown (hts _ kw_261) (nx_tab hB.1 rfl rfl (hF.1 _ kt_273)) hcell hst hcls hT X0 ?_
      refine lv_astore (lv' := [(7, .ref (x)), (0, .ref (ad (0))), (1, .int (x1)), (2, .int (x2)), (3, .int (x3)), (4, .int (x4)), (5, .int (x5)), (6, .ref (ad (69)))]) hx hb d_L_order_19 hl (by decide) rfl (fun ls hl => ?_)
      refine lv_iconst (v := nI 1) hx hb d_L_order_21 (by decide) ?_
      exact nx_ret hQ (nw_iret rfl hx hb hr hlocks hw hS (Or.inl ⟨rfl, hba, rfl, rfl⟩) (Nat.le_of_ble_eq_true rfl) (Nat.le_of_ble_eq_true rfl) d_L_order_22)
    · skip
      refine nx_catch2 hexc rfl rfl (by decide) (by decide) hown (hts _ kw_261) (hts _ kw_262) (nx_tab hB.1 rfl rfl (hF.1 _ kt_343)) hB hF.2.2.2 hcell hst hcls hT X0 ?_
      refine lv_astore (lv' := [(7, .ref (x)), (0, .ref (ad (0))), (1, .int (x1)), (2, .int (x2)), (3, .int (x3)), (4, .int (x4)), (5, .int (x5)), (6, .ref (ad (69)))]) hx hb d_L_order_23 hl (by decide) rfl (fun ls hl => ?_)
      refine lv_iconst (v := nI 2) hx hb d_L_order_25 (by decide) ?_
      exact nx_ret hQ (nw_iret rfl hx hb hr hlocks hw hS (Or.inr (Or.inl ⟨rfl, hnba, hbs, rfl, rfl⟩)) (Nat.le_of_ble_eq_true rfl) (Nat.le_of_ble_eq_true rfl) d_L_order_26)
  obtain ⟨hnba, hnbs, hG⟩ := nx_po_i hpost
  have hi9 : n 4 < 6 := (nI_ltI (by omega) (by omega)).mp (Classical.not_not.mp hnbs)
  obtain ⟨hv, hag, d, hd, g1, g2, hwn⟩ := hG
  subst hv
  have ea : ad 69 = ad' 69 := (hag 69 (by omega)).symm
  rw [hwn] at hw
  have hw := nw_W.as (wn' := cW ad' tC (va_up n 4 (n 4 + 1)) (adI I 4 8 (n 4) (v4 x1 x2 x3 x4 x5)) (va_up K 0 (nI 0)) bw LA n2 J bw2 L o (upR (upR S 0 0 (flR (S 0 0) (-1) 6)) 0 1 (inF ((upR S 0 0 (flR (S 0 0) (-1) 6)) 0 1) (n 4) d))) hw (cW_ad (fun k h1 => hag k (by omega))).symm
  rw [ea]
  refine lv_i2l (v := ((nI (n 4)).toInt64)) hx hb d_L_order_14 rfl ?_
  refine nw_last hx hb hK hw hS (69) 1 (cW_69) rfl (0) (rfl) (by omega) (by omega) d_L_order_15 (fun H locs hw hS => ?_)
  have hw := cW_setO hw
  refine lv_goto (tgt := 27) hx hb d_L_order_16 (by decide) ?_
  refine lv_iconst (v := nI 0) hx hb d_L_order_27 (by decide) ?_
  exact nx_ret hQ (nw_iret rfl hx hb hr hlocks hw hS (Or.inr (Or.inr ⟨rfl, hnba, hnbs, ⟨⟨hag 0 (by omega), hag 64 (by omega), hag 69 (by omega)⟩, d, hd, g1, g2, rfl⟩⟩)) (Nat.le_of_ble_eq_true rfl) (Nat.le_of_ble_eq_true rfl) d_L_order_28)
