/-! NEW OBJECTS -/
theorem va_cong {α : Type} {f g : Nat → α} {j : Nat} {b : α} (h : f = g) : va_up f j b = va_up g j b := by rw [h]
/-- it ends; the addresses are others, at new names alone -/
def nw_np (v : Option Value) (R : (Nat → Nat) → Prop) (wf : (Nat → Nat) → nw_N) : nw_P := fun o wn' ad' => o = v ∧ R ad' ∧ wn' = wf ad'
set_option maxHeartbeats 4000000 in
set_option maxRecDepth 100000 in
/-- a place -/
theorem c_Place_init (l : Launch) (D : va_G) (tC : Nat → ClassId) (A : Nat → Prop) (ad : Nat → Nat) (wn : nw_N) (q r : Nat) (hn_r : wn r = none) (ne_q_r : q ≠ r) (v : Int32) (w : Nat) (hw8 : w ≤ 8) : nw_Met l y_Place_init [Cond.code y_Place_init b_Place_init 3 none] ({ frames := 1, cells := 1, slots := 8, locals := 40 } : Room) D hpC A [.ref (ad (q)), .int (v), .int (nI w)] (nw_pre D hpC (hpT tC) A (va_up (wn) (q) (some (.inr (5, [.int (nI 0), .null])))) ad) (nw_np none (fun ad' => ∀ k, k ≠ r → ad' k = ad k) (fun ad' => va_up (va_up (wn) (q) (some (.inr (5, [.int (v), .ref (ad' (r))])))) (r) (some (.inl (tC 2, w, .inl (fun _ => 0)))))) 1 8 := by
  refine nw_bodyK (by decide) (Nat.le_of_ble_eq_true rfl) ?_
  intro p e s m below meth cd ls args Q hSx hr hlocks hname hA hKs hw hS hl hQ
  obtain ⟨hx, hb, hml, hown, hts⟩ := id hSx
  have hK := hKs.1
  have hl : lv_has ls 3 [(0, .ref (ad (q))), (1, .int (v)), (2, .int (nI w))] := hl
  have hin : meth.name = "<init>" := hname
  refine lv_aload_n hx hb d_Place_init_0 rfl (lv_at hl 0 rfl) ?_
  refine W.objInit hx hb hown (hts _ kw_366) (hts _ kw_25) (hts _ kw_26) rfl (hl.1.trans hml.symm) rfl d_Place_init_1 (Nat.le_of_ble_eq_true rfl) (Nat.le_of_ble_eq_true rfl) ?_
  refine lv_aload_n hx hb d_Place_init_4 rfl (lv_at hl 0 rfl) ?_
  refine lv_iload_n hx hb d_Place_init_5 rfl (lv_at hl 1 rfl) ?_
  refine nw_putF (v := .int (v)) (ty := .int) hx hb hts i_Place t_Place tk_Place n_Place hown hK hw hS (q) (va_up_self ..) rfl 0 (by decide) (hts _ kw_367) (fun _ h9 => h9) rfl hin rfl (by decide +kernel) (rfl) (rfl) (Nat.le_of_ble_eq_true rfl) d_Place_init_6 (fun H locs hw hS => ?_)
  have hw := nw_W.as (wn' := va_up (wn) (q) (some (.inr (5, [.int (v), .null])))) hw (Eq.symm (bx_uu _ _ _ _))
  refine lv_aload_n hx hb d_Place_init_9 rfl (lv_at hl 0 rfl) ?_
  refine lv_iload_n hx hb d_Place_init_10 rfl (lv_at hl 2 rfl) ?_
  refine nw_newa (atype := .boolean) (ty := .boolean) (a0 := (w, .inl (fun _ => 0))) (N' := w) hx hb (hts _ kw_377) rfl hK hw hS hA (r) ((va_up_ne _ _ (by omega)).trans (hn_r)) 2 rfl (fun _ => by first | rfl | exact vp_zero _ _) (nI_pos (by omega)) (nI_clamp (by omega)) (by show w * 1 ≤ 536870912; omega) (Nat.le_of_ble_eq_true rfl) (by dsimp only; omega) d_Place_init_11 (fun ad1 H had1 hw hS => ?_)
  refine W.widen (Nat.le_refl _) (show _ ≤ 8 by omega) ?_
  have ea0 : ad (q) = ad1 (q) := (had1 (q) (by omega)).symm
  try rw [ea0] at hl
  simp only [ea0]
  try simp only [ea0] at hw
  refine nw_putF (v := .ref (ad1 (r))) (ty := (.array .boolean)) hx hb hts i_Place t_Place tk_Place n_Place hown hK hw hS (q) ((va_up_ne _ _ (by omega)).trans (va_up_self ..)) rfl 1 (by decide) (hts _ kw_369) (fun _ h9 => h9) rfl hin rfl (by decide +kernel) (rfl) (rfl) (Nat.le_of_ble_eq_true rfl) d_Place_init_13 (fun H locs hw hS => ?_)
  have hw := nw_W.as (wn' := va_up (va_up (wn) (q) (some (.inr (5, [.int (v), .ref (ad1 (r))])))) (r) (some (.inl (tC 2, w, .inl (fun _ => 0))))) hw (Eq.symm ((va_comm (by omega)).trans (va_cong (bx_uu _ _ _ _))))
  exact nw_vret hQ hx hb hr hlocks hw hS (⟨rfl, fun k g0 => by rw [had1 k (by omega)], rfl⟩) (Nat.le_of_ble_eq_true rfl) (Nat.le_of_ble_eq_true rfl) d_Place_init_16

set_option maxHeartbeats 4000000 in
set_option maxRecDepth 100000 in
/-- a cage -/
theorem c_Cage_init (l : Launch) (D : va_G) (tC : Nat → ClassId) (A : Nat → Prop) (ad : Nat → Nat) (wn : nw_N) (q r r2 : Nat) (hn_r : wn r = none) (hn_r2 : wn r2 = none) (ne_q_r : q ≠ r) (ne_q_r2 : q ≠ r2) (ne_r_r2 : r ≠ r2) (v : Int32) (w : Nat) (hw8 : w ≤ 8) : nw_Met l y_Cage_init [Cond.code y_Cage_init b_Cage_init 3 none] ({ frames := 1, cells := 2, slots := 16, locals := 40 } : Room) D hpC A [.ref (ad (q)), .int (v), .int (nI w)] (nw_pre D hpC (hpT tC) A (va_up (wn) (q) (some (.inr (6, [.int (nI 0), .null, .null])))) ad) (nw_np none (fun ad' => ∀ k, k ≠ r → k ≠ r2 → ad' k = ad k) (fun ad' => va_up (va_up (va_up (wn) (q) (some (.inr (6, [.int (v), .ref (ad' (r)), .ref (ad' (r2))])))) (r) (some (.inl (tC 0, w, .inl (fun _ => 0))))) (r2) (some (.inl (tC 0, w, .inl (fun _ => 0)))))) 2 16 := by
  refine nw_bodyK (by decide) (Nat.le_of_ble_eq_true rfl) ?_
  intro p e s m below meth cd ls args Q hSx hr hlocks hname hA hKs hw hS hl hQ
  obtain ⟨hx, hb, hml, hown, hts⟩ := id hSx
  have hK := hKs.1
  have hl : lv_has ls 3 [(0, .ref (ad (q))), (1, .int (v)), (2, .int (nI w))] := hl
  have hin : meth.name = "<init>" := hname
  refine lv_aload_n hx hb d_Cage_init_0 rfl (lv_at hl 0 rfl) ?_
  refine W.objInit hx hb hown (hts _ kw_409) (hts _ kw_25) (hts _ kw_26) rfl (hl.1.trans hml.symm) rfl d_Cage_init_1 (Nat.le_of_ble_eq_true rfl) (Nat.le_of_ble_eq_true rfl) ?_
  refine lv_aload_n hx hb d_Cage_init_4 rfl (lv_at hl 0 rfl) ?_
  refine lv_iload_n hx hb d_Cage_init_5 rfl (lv_at hl 1 rfl) ?_
  refine nw_putF (v := .int (v)) (ty := .int) hx hb hts i_Cage t_Cage tk_Cage n_Cage hown hK hw hS (q) (va_up_self ..) rfl 0 (by decide) (hts _ kw_410) (fun _ h9 => h9) rfl hin rfl (by decide +kernel) (rfl) (rfl) (Nat.le_of_ble_eq_true rfl) d_Cage_init_6 (fun H locs hw hS => ?_)
  have hw := nw_W.as (wn' := va_up (wn) (q) (some (.inr (6, [.int (v), .null, .null])))) hw (Eq.symm (bx_uu _ _ _ _))
  refine lv_aload_n hx hb d_Cage_init_9 rfl (lv_at hl 0 rfl) ?_
  refine lv_iload_n hx hb d_Cage_init_10 rfl (lv_at hl 2 rfl) ?_
  refine nw_newa (atype := .int) (ty := .int) (a0 := (w, .inl (fun _ => 0))) (N' := w) hx hb (hts _ kw_114) rfl hK hw hS hA (r) ((va_up_ne _ _ (by omega)).trans (hn_r)) 0 rfl (fun _ => by first | rfl | exact vp_zero _ _) (nI_pos (by omega)) (nI_clamp (by omega)) (by show w * 4 ≤ 536870912; omega) (Nat.le_of_ble_eq_true rfl) (by dsimp only; omega) d_Cage_init_11 (fun ad1 H had1 hw hS => ?_)
  refine W.widen (Nat.le_refl _) (show _ ≤ 8 by omega) ?_
  have ea0 : ad (q) = ad1 (q) := (had1 (q) (by omega)).symm
  try rw [ea0] at hl
  simp only [ea0]
  try simp only [ea0] at hw
  refine nw_putF (v := .ref (ad1 (r))) (ty := (.array .int)) hx hb hts i_Cage t_Cage tk_Cage n_Cage hown hK hw hS (q) ((va_up_ne _ _ (by omega)).trans (va_up_self ..)) rfl 1 (by decide) (hts _ kw_412) (fun _ h9 => h9) rfl hin rfl (by decide +kernel) (rfl) (rfl) (Nat.le_of_ble_eq_true rfl) d_Cage_init_13 (fun H locs hw hS => ?_)
  have hw := nw_W.as (wn' := va_up (va_up (wn) (q) (some (.inr (6, [.int (v), .ref (ad1 (r)), .null])))) (r) (some (.inl (tC 0, w, .inl (fun _ => 0))))) hw (Eq.symm ((va_comm (by omega)).trans (va_cong (bx_uu _ _ _ _))))
  refine lv_aload_n hx hb d_Cage_init_16 rfl (lv_at hl 0 rfl) ?_
  refine lv_iload_n hx hb d_Cage_init_17 rfl (lv_at hl 2 rfl) ?_
  refine nw_newa (atype := .int) (ty := .int) (a0 := (w, .inl (fun _ => 0))) (N' := w) hx hb (hts _ kw_114) rfl hK hw hS hA (r2) ((va_up_ne _ _ (by omega)).trans ((va_up_ne _ _ (by omega)).trans (hn_r2))) 0 rfl (fun _ => by first | rfl | exact vp_zero _ _) (nI_pos (by omega)) (nI_clamp (by omega)) (by show w * 4 ≤ 536870912; omega) (Nat.le_of_ble_eq_true rfl) (by dsimp only; omega) d_Cage_init_18 (fun ad2 H had2 hw hS => ?_)
  refine W.widen (Nat.le_refl _) (show _ ≤ 16 by omega) ?_
  have ea0 : ad1 (q) = ad2 (q) := (had2 (q) (by omega)).symm
  have ea1 : ad1 (r) = ad2 (r) := (had2 (r) (by omega)).symm
  simp only [ea0, ea1] at hl
  simp only [ea0, ea1]
  try simp only [ea0, ea1] at hw
  refine nw_putF (v := .ref (ad2 (r2))) (ty := (.array .int)) hx hb hts i_Cage t_Cage tk_Cage n_Cage hown hK hw hS (q) ((va_up_ne _ _ (by omega)).trans ((va_up_ne _ _ (by omega)).trans (va_up_self ..))) rfl 2 (by decide) (hts _ kw_415) (fun _ h9 => h9) rfl hin rfl (by decide +kernel) (rfl) (rfl) (Nat.le_of_ble_eq_true rfl) d_Cage_init_20 (fun H locs hw hS => ?_)
  have hw := nw_W.as (wn' := va_up (va_up (va_up (wn) (q) (some (.inr (6, [.int (v), .ref (ad2 (r)), .ref (ad2 (r2))])))) (r) (some (.inl (tC 0, w, .inl (fun _ => 0))))) (r2) (some (.inl (tC 0, w, .inl (fun _ => 0))))) hw (Eq.symm ((va_comm (by omega)).trans (va_cong ((va_comm (by omega)).trans (va_cong (bx_uu _ _ _ _))))))
  exact nw_vret hQ hx hb hr hlocks hw hS (⟨rfl, fun k g0 g1 => by rw [had2 k (by omega)]; rw [had1 k (by omega)], rfl⟩) (Nat.le_of_ble_eq_true rfl) (Nat.le_of_ble_eq_true rfl) d_Cage_init_23

set_option maxHeartbeats 4000000 in
set_option maxRecDepth 100000 in
/-- a boat -/
theorem c_Boat_init (l : Launch) (D : va_G) (tC : Nat → ClassId) (A : Nat → Prop) (ad : Nat → Nat) (wn : nw_N) (q r : Nat) (hn_r : wn r = none) (ne_q_r : q ≠ r) (v : Int32) (w : Nat) (hw8 : w ≤ 8) : nw_Met l y_Boat_init [Cond.code y_Boat_init b_Boat_init 3 none] ({ frames := 1, cells := 1, slots := 8, locals := 40 } : Room) D hpC A [.ref (ad (q)), .int (v), .int (nI w)] (nw_pre D hpC (hpT tC) A (va_up (wn) (q) (some (.inr (7, [.int (nI 0), .null])))) ad) (nw_np none (fun ad' => ∀ k, k ≠ r → ad' k = ad k) (fun ad' => va_up (va_up (wn) (q) (some (.inr (7, [.int (v), .ref (ad' (r))])))) (r) (some (.inl (tC 2, w, .inl (fun _ => 0)))))) 1 8 := by
  refine nw_bodyK (by decide) (Nat.le_of_ble_eq_true rfl) ?_
  intro p e s m below meth cd ls args Q hSx hr hlocks hname hA hKs hw hS hl hQ
  obtain ⟨hx, hb, hml, hown, hts⟩ := id hSx
  have hK := hKs.1
  have hl : lv_has ls 3 [(0, .ref (ad (q))), (1, .int (v)), (2, .int (nI w))] := hl
  have hin : meth.name = "<init>" := hname
  refine lv_aload_n hx hb d_Boat_init_0 rfl (lv_at hl 0 rfl) ?_
  refine W.objInit hx hb hown (hts _ kw_451) (hts _ kw_25) (hts _ kw_26) rfl (hl.1.trans hml.symm) rfl d_Boat_init_1 (Nat.le_of_ble_eq_true rfl) (Nat.le_of_ble_eq_true rfl) ?_
  refine lv_aload_n hx hb d_Boat_init_4 rfl (lv_at hl 0 rfl) ?_
  refine lv_iload_n hx hb d_Boat_init_5 rfl (lv_at hl 1 rfl) ?_
  refine nw_putF (v := .int (v)) (ty := .int) hx hb hts i_Boat t_Boat tk_Boat n_Boat hown hK hw hS (q) (va_up_self ..) rfl 0 (by decide) (hts _ kw_452) (fun _ h9 => h9) rfl hin rfl (by decide +kernel) (rfl) (rfl) (Nat.le_of_ble_eq_true rfl) d_Boat_init_6 (fun H locs hw hS => ?_)
  have hw := nw_W.as (wn' := va_up (wn) (q) (some (.inr (7, [.int (v), .null])))) hw (Eq.symm (bx_uu _ _ _ _))
  refine lv_aload_n hx hb d_Boat_init_9 rfl (lv_at hl 0 rfl) ?_
  refine lv_iload_n hx hb d_Boat_init_10 rfl (lv_at hl 2 rfl) ?_
  refine nw_newa (atype := .boolean) (ty := .boolean) (a0 := (w, .inl (fun _ => 0))) (N' := w) hx hb (hts _ kw_377) rfl hK hw hS hA (r) ((va_up_ne _ _ (by omega)).trans (hn_r)) 2 rfl (fun _ => by first | rfl | exact vp_zero _ _) (nI_pos (by omega)) (nI_clamp (by omega)) (by show w * 1 ≤ 536870912; omega) (Nat.le_of_ble_eq_true rfl) (by dsimp only; omega) d_Boat_init_11 (fun ad1 H had1 hw hS => ?_)
  refine W.widen (Nat.le_refl _) (show _ ≤ 8 by omega) ?_
  have ea0 : ad (q) = ad1 (q) := (had1 (q) (by omega)).symm
  try rw [ea0] at hl
  simp only [ea0]
  try simp only [ea0] at hw
  refine nw_putF (v := .ref (ad1 (r))) (ty := (.array .boolean)) hx hb hts i_Boat t_Boat tk_Boat n_Boat hown hK hw hS (q) ((va_up_ne _ _ (by omega)).trans (va_up_self ..)) rfl 1 (by decide) (hts _ kw_454) (fun _ h9 => h9) rfl hin rfl (by decide +kernel) (rfl) (rfl) (Nat.le_of_ble_eq_true rfl) d_Boat_init_13 (fun H locs hw hS => ?_)
  have hw := nw_W.as (wn' := va_up (va_up (wn) (q) (some (.inr (7, [.int (v), .ref (ad1 (r))])))) (r) (some (.inl (tC 2, w, .inl (fun _ => 0))))) hw (Eq.symm ((va_comm (by omega)).trans (va_cong (bx_uu _ _ _ _))))
  exact nw_vret hQ hx hb hr hlocks hw hS (⟨rfl, fun k g0 => by rw [had1 k (by omega)], rfl⟩) (Nat.le_of_ble_eq_true rfl) (Nat.le_of_ble_eq_true rfl) d_Boat_init_16

set_option maxHeartbeats 4000000 in
set_option maxRecDepth 100000 in
/-- an order -/
theorem c_Order_init (l : Launch) (D : va_G) (tC : Nat → ClassId) (A : Nat → Prop) (ad : Nat → Nat) (wn : nw_N) (q : Nat)  (v0 v1 v2 v3 v4 : Int32) : nw_Met l y_Order_init [Cond.code y_Order_init b_Order_init 6 none] ({ frames := 1, cells := 0, slots := 0, locals := 40 } : Room) D hpC A [.ref (ad (q)), .int (v0), .int (v1), .int (v2), .int (v3), .int (v4)] (nw_pre D hpC (hpT tC) A (va_up (wn) (q) (some (.inr (8, [.int (nI 0), .int (nI 0), .int (nI 0), .int (nI 0), .int (nI 0)])))) ad) (nw_np none (fun ad' => ∀ k, ad' k = ad k) (fun ad' => va_up (wn) (q) (some (.inr (8, [.int (v0), .int (v1), .int (v2), .int (v3), .int (v4)]))))) 0 0 := by
  refine nw_bodyK (by decide) (Nat.le_of_ble_eq_true rfl) ?_
  intro p e s m below meth cd ls args Q hSx hr hlocks hname hA hKs hw hS hl hQ
  obtain ⟨hx, hb, hml, hown, hts⟩ := id hSx
  have hK := hKs.1
  have hl : lv_has ls 6 [(0, .ref (ad (q))), (1, .int (v0)), (2, .int (v1)), (3, .int (v2)), (4, .int (v3)), (5, .int (v4))] := hl
  have hin : meth.name = "<init>" := hname
  refine lv_aload_n hx hb d_Order_init_0 rfl (lv_at hl 0 rfl) ?_
  refine W.objInit hx hb hown (hts _ kw_491) (hts _ kw_25) (hts _ kw_26) rfl (hl.1.trans hml.symm) rfl d_Order_init_1 (Nat.le_of_ble_eq_true rfl) (Nat.le_of_ble_eq_true rfl) ?_
  refine lv_aload_n hx hb d_Order_init_4 rfl (lv_at hl 0 rfl) ?_
  refine lv_iload_n hx hb d_Order_init_5 rfl (lv_at hl 1 rfl) ?_
  refine nw_putF (v := .int (v0)) (ty := .int) hx hb hts i_Order t_Order tk_Order n_Order hown hK hw hS (q) (va_up_self ..) rfl 0 (by decide) (hts _ kw_492) (fun _ h9 => h9) rfl hin rfl (by decide +kernel) (rfl) (rfl) (Nat.le_of_ble_eq_true rfl) d_Order_init_6 (fun H locs hw hS => ?_)
  have hw := nw_W.as (wn' := va_up (wn) (q) (some (.inr (8, [.int (v0), .int (nI 0), .int (nI 0), .int (nI 0), .int (nI 0)])))) hw (Eq.symm (bx_uu _ _ _ _))
  refine lv_aload_n hx hb d_Order_init_9 rfl (lv_at hl 0 rfl) ?_
  refine lv_iload_n hx hb d_Order_init_10 rfl (lv_at hl 2 rfl) ?_
  refine nw_putF (v := .int (v1)) (ty := .int) hx hb hts i_Order t_Order tk_Order n_Order hown hK hw hS (q) (va_up_self ..) rfl 1 (by decide) (hts _ kw_493) (fun _ h9 => h9) rfl hin rfl (by decide +kernel) (rfl) (rfl) (Nat.le_of_ble_eq_true rfl) d_Order_init_11 (fun H locs hw hS => ?_)
  have hw := nw_W.as (wn' := va_up (wn) (q) (some (.inr (8, [.int (v0), .int (v1), .int (nI 0), .int (nI 0), .int (nI 0)])))) hw (Eq.symm (bx_uu _ _ _ _))
  refine lv_aload_n hx hb d_Order_init_14 rfl (lv_at hl 0 rfl) ?_
  refine lv_iload_n hx hb d_Order_init_15 rfl (lv_at hl 3 rfl) ?_
  refine nw_putF (v := .int (v2)) (ty := .int) hx hb hts i_Order t_Order tk_Order n_Order hown hK hw hS (q) (va_up_self ..) rfl 2 (by decide) (hts _ kw_494) (fun _ h9 => h9) rfl hin rfl (by decide +kernel) (rfl) (rfl) (Nat.le_of_ble_eq_true rfl) d_Order_init_16 (fun H locs hw hS => ?_)
  have hw := nw_W.as (wn' := va_up (wn) (q) (some (.inr (8, [.int (v0), .int (v1), .int (v2), .int (nI 0), .int (nI 0)])))) hw (Eq.symm (bx_uu _ _ _ _))
  refine lv_aload_n hx hb d_Order_init_19 rfl (lv_at hl 0 rfl) ?_
  refine lv_iload hx hb d_Order_init_20 (lv_at hl 4 rfl) ?_
  refine nw_putF (v := .int (v3)) (ty := .int) hx hb hts i_Order t_Order tk_Order n_Order hown hK hw hS (q) (va_up_self ..) rfl 3 (by decide) (hts _ kw_495) (fun _ h9 => h9) rfl hin rfl (by decide +kernel) (rfl) (rfl) (Nat.le_of_ble_eq_true rfl) d_Order_init_22 (fun H locs hw hS => ?_)
  have hw := nw_W.as (wn' := va_up (wn) (q) (some (.inr (8, [.int (v0), .int (v1), .int (v2), .int (v3), .int (nI 0)])))) hw (Eq.symm (bx_uu _ _ _ _))
  refine lv_aload_n hx hb d_Order_init_25 rfl (lv_at hl 0 rfl) ?_
  refine lv_iload hx hb d_Order_init_26 (lv_at hl 5 rfl) ?_
  refine nw_putF (v := .int (v4)) (ty := .int) hx hb hts i_Order t_Order tk_Order n_Order hown hK hw hS (q) (va_up_self ..) rfl 4 (by decide) (hts _ kw_497) (fun _ h9 => h9) rfl hin rfl (by decide +kernel) (rfl) (rfl) (Nat.le_of_ble_eq_true rfl) d_Order_init_28 (fun H locs hw hS => ?_)
  have hw := nw_W.as (wn' := va_up (wn) (q) (some (.inr (8, [.int (v0), .int (v1), .int (v2), .int (v3), .int (v4)])))) hw (Eq.symm (bx_uu _ _ _ _))
  exact nw_vret hQ hx hb hr hlocks hw hS (⟨rfl, fun _ => rfl, rfl⟩) (Nat.le_of_ble_eq_true rfl) (Nat.le_of_ble_eq_true rfl) d_Order_init_31
