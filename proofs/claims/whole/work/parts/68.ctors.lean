set_option maxHeartbeats 4000000 in
set_option maxRecDepth 100000 in
/-- the farm -/
theorem c_Farm_init (l : Launch) (D : va_G) (tC : Nat → ClassId) (A : Nat → Prop) (ad : Nat → Nat) (wn : nw_N) (hn_6 : wn 6 = none) (hn_7 : wn 7 = none) (hn_8 : wn 8 = none) (hn_9 : wn 9 = none) (hn_101 : wn 101 = none) (hn_102 : wn 102 = none) (w : Nat) (hw8 : w ≤ 8) : nw_Met l y_Farm_init [Cond.code y_Farm_init b_Farm_init 2 none] ({ frames := 1, cells := 6, slots := 33, locals := 40 } : Room) D hpC A [.ref (ad (1)), .int (nI w)] (nw_pre D hpC (hpT tC) A (va_up (wn) (1) (some (.inr (1, [.int (nI 0), .null, .null, .null, .null, .null, .null, .int (nI 0), .int (nI 0), .int (nI 0), .int (nI 0), .int (nI 0), .int (nI 0)])))) ad) (nw_np none (fun ad' => ∀ k, k ≠ 6 → k ≠ 7 → k ≠ 8 → k ≠ 9 → k ≠ 101 → k ≠ 102 → ad' k = ad k) (fun ad' => va_up (va_up (va_up (va_up (va_up (va_up (va_up (wn) (1) (some (.inr (1, [.int (nI w), .ref (ad' (6)), .ref (ad' (7)), .ref (ad' (8)), .ref (ad' (9)), .ref (ad' (101)), .ref (ad' (102)), .int (nI 0), .int (nI 0), .int (nI 0), .int (nI 0), .int (nI 0), .int (nI 0)])))) (6) (some (.inl (tC 3, 4, .inr (.inr (.inr (.inr (fun _ => none)))))))) (7) (some (.inl (tC 4, 6, .inr (.inr (.inr (.inr (fun _ => none)))))))) (8) (some (.inl (tC 5, 3, .inr (.inr (.inr (.inr (fun _ => none)))))))) (9) (some (.inl (tC 6, 6, .inr (.inr (.inr (.inr (fun _ => none)))))))) (101) (some (.inl (tC 0, 6, .inl (fun _ => 0))))) (102) (some (.inl (tC 0, w, .inl (fun _ => 0)))))) 6 33 := by
  refine nw_bodyK (by decide) (Nat.le_of_ble_eq_true rfl) ?_
  intro p e s m below meth cd ls args Q hSx hr hlocks hname hA hKs hw hS hl hQ
  obtain ⟨hx, hb, hml, hown, hts⟩ := id hSx
  have hK := hKs.1
  have hl : lv_has ls 2 [(0, .ref (ad (1))), (1, .int (nI w))] := hl
  have hin : meth.name = "<init>" := hname
  refine lv_aload_n hx hb d_Farm_init_0 rfl (lv_at hl 0 rfl) ?_
  refine W.objInit hx hb hown (hts _ kw_38) (hts _ kw_25) (hts _ kw_26) rfl (hl.1.trans hml.symm) rfl d_Farm_init_1 (Nat.le_of_ble_eq_true rfl) (Nat.le_of_ble_eq_true rfl) ?_
  refine lv_aload_n hx hb d_Farm_init_4 rfl (lv_at hl 0 rfl) ?_
  refine lv_iconst (v := nI 4) hx hb d_Farm_init_5 (by decide) ?_
  refine nw_newq (N' := 4) hx hb hown (hts _ kw_39) (hKs.2.2 _ (List.mem_append_right _ kt_40) rfl) hK hw hS hA (6) ((va_up_ne _ _ (by omega)).trans (hn_6)) 3 rfl (nI_pos (by omega)) (nI_clamp (by omega)) (by omega) (Nat.le_of_ble_eq_true rfl) (Nat.le_of_ble_eq_true rfl) d_Farm_init_6 (fun ad1 H had1 hw hS => ?_)
  have ea0 : ad (1) = ad1 (1) := (had1 (1) (by omega)).symm
  try rw [ea0] at hl
  simp only [ea0]
  try simp only [ea0] at hw
  refine nw_putF (v := .ref (ad1 (6))) (ty := (.array (.object "HarvestPlans$Place"))) hx hb hts i_Farm t_Farm tk_Farm n_Farm hown hK hw hS (1) ((va_up_ne _ _ (by omega)).trans (va_up_self ..)) rfl 1 (by decide) (hts _ kw_51) (fun _ h9 => h9) rfl hin rfl (by decide +kernel) (rfl) (rfl) (Nat.le_of_ble_eq_true rfl) d_Farm_init_9 (fun H locs hw hS => ?_)
  have hw := nw_W.as (wn' := va_up (va_up (wn) (1) (some (.inr (1, [.int (nI 0), .ref (ad1 (6)), .null, .null, .null, .null, .null, .int (nI 0), .int (nI 0), .int (nI 0), .int (nI 0), .int (nI 0), .int (nI 0)])))) (6) (some (.inl (tC 3, 4, .inr (.inr (.inr (.inr (fun _ => none)))))))) hw (Eq.symm ((va_comm (by omega)).trans (va_cong (bx_uu _ _ _ _))))
  refine lv_aload_n hx hb d_Farm_init_12 rfl (lv_at hl 0 rfl) ?_
  refine lv_bipush (v := nI 6) hx hb d_Farm_init_13 (by decide) ?_
  refine nw_newq (N' := 6) hx hb hown (hts _ kw_41) (hKs.2.2 _ (List.mem_append_right _ kt_42) rfl) hK hw hS hA (7) ((va_up_ne _ _ (by omega)).trans ((va_up_ne _ _ (by omega)).trans (hn_7))) 4 rfl (nI_pos (by omega)) (nI_clamp (by omega)) (by omega) (Nat.le_of_ble_eq_true rfl) (Nat.le_of_ble_eq_true rfl) d_Farm_init_15 (fun ad2 H had2 hw hS => ?_)
  have ea0 : ad1 (1) = ad2 (1) := (had2 (1) (by omega)).symm
  have ea1 : ad1 (6) = ad2 (6) := (had2 (6) (by omega)).symm
  simp only [ea0, ea1] at hl
  simp only [ea0, ea1]
  try simp only [ea0, ea1] at hw
  refine nw_putF (v := .ref (ad2 (7))) (ty := (.array (.object "HarvestPlans$Cage"))) hx hb hts i_Farm t_Farm tk_Farm n_Farm hown hK hw hS (1) ((va_up_ne _ _ (by omega)).trans ((va_up_ne _ _ (by omega)).trans (va_up_self ..))) rfl 2 (by decide) (hts _ kw_54) (fun _ h9 => h9) rfl hin rfl (by decide +kernel) (rfl) (rfl) (Nat.le_of_ble_eq_true rfl) d_Farm_init_18 (fun H locs hw hS => ?_)
  have hw := nw_W.as (wn' := va_up (va_up (va_up (wn) (1) (some (.inr (1, [.int (nI 0), .ref (ad2 (6)), .ref (ad2 (7)), .null, .null, .null, .null, .int (nI 0), .int (nI 0), .int (nI 0), .int (nI 0), .int (nI 0), .int (nI 0)])))) (6) (some (.inl (tC 3, 4, .inr (.inr (.inr (.inr (fun _ => none)))))))) (7) (some (.inl (tC 4, 6, .inr (.inr (.inr (.inr (fun _ => none)))))))) hw (Eq.symm ((va_comm (by omega)).trans (va_cong ((va_comm (by omega)).trans (va_cong (bx_uu _ _ _ _))))))
  refine lv_aload_n hx hb d_Farm_init_21 rfl (lv_at hl 0 rfl) ?_
  refine lv_iconst (v := nI 3) hx hb d_Farm_init_22 (by decide) ?_
  refine nw_newq (N' := 3) hx hb hown (hts _ kw_43) (hKs.2.2 _ (List.mem_append_right _ kt_44) rfl) hK hw hS hA (8) ((va_up_ne _ _ (by omega)).trans ((va_up_ne _ _ (by omega)).trans ((va_up_ne _ _ (by omega)).trans (hn_8)))) 5 rfl (nI_pos (by omega)) (nI_clamp (by omega)) (by omega) (Nat.le_of_ble_eq_true rfl) (Nat.le_of_ble_eq_true rfl) d_Farm_init_23 (fun ad3 H had3 hw hS => ?_)
  have ea0 : ad2 (1) = ad3 (1) := (had3 (1) (by omega)).symm
  have ea1 : ad2 (6) = ad3 (6) := (had3 (6) (by omega)).symm
  have ea2 : ad2 (7) = ad3 (7) := (had3 (7) (by omega)).symm
  simp only [ea0, ea1, ea2] at hl
  simp only [ea0, ea1, ea2]
  try simp only [ea0, ea1, ea2] at hw
  refine nw_putF (v := .ref (ad3 (8))) (ty := (.array (.object "HarvestPlans$Boat"))) hx hb hts i_Farm t_Farm tk_Farm n_Farm hown hK hw hS (1) ((va_up_ne _ _ (by omega)).trans ((va_up_ne _ _ (by omega)).trans ((va_up_ne _ _ (by omega)).trans (va_up_self ..)))) rfl 3 (by decide) (hts _ kw_58) (fun _ h9 => h9) rfl hin rfl (by decide +kernel) (rfl) (rfl) (Nat.le_of_ble_eq_true rfl) d_Farm_init_26 (fun H locs hw hS => ?_)
  have hw := nw_W.as (wn' := va_up (va_up (va_up (va_up (wn) (1) (some (.inr (1, [.int (nI 0), .ref (ad3 (6)), .ref (ad3 (7)), .ref (ad3 (8)), .null, .null, .null, .int (nI 0), .int (nI 0), .int (nI 0), .int (nI 0), .int (nI 0), .int (nI 0)])))) (6) (some (.inl (tC 3, 4, .inr (.inr (.inr (.inr (fun _ => none)))))))) (7) (some (.inl (tC 4, 6, .inr (.inr (.inr (.inr (fun _ => none)))))))) (8) (some (.inl (tC 5, 3, .inr (.inr (.inr (.inr (fun _ => none)))))))) hw (Eq.symm ((va_comm (by omega)).trans (va_cong ((va_comm (by omega)).trans (va_cong ((va_comm (by omega)).trans (va_cong (bx_uu _ _ _ _))))))))
  refine lv_aload_n hx hb d_Farm_init_29 rfl (lv_at hl 0 rfl) ?_
  refine lv_bipush (v := nI 6) hx hb d_Farm_init_30 (by decide) ?_
  refine nw_newq (N' := 6) hx hb hown (hts _ kw_45) (hKs.2.2 _ (List.mem_append_right _ kt_46) rfl) hK hw hS hA (9) ((va_up_ne _ _ (by omega)).trans ((va_up_ne _ _ (by omega)).trans ((va_up_ne _ _ (by omega)).trans ((va_up_ne _ _ (by omega)).trans (hn_9))))) 6 rfl (nI_pos (by omega)) (nI_clamp (by omega)) (by omega) (Nat.le_of_ble_eq_true rfl) (Nat.le_of_ble_eq_true rfl) d_Farm_init_32 (fun ad4 H had4 hw hS => ?_)
  have ea0 : ad3 (1) = ad4 (1) := (had4 (1) (by omega)).symm
  have ea1 : ad3 (6) = ad4 (6) := (had4 (6) (by omega)).symm
  have ea2 : ad3 (7) = ad4 (7) := (had4 (7) (by omega)).symm
  have ea3 : ad3 (8) = ad4 (8) := (had4 (8) (by omega)).symm
  simp only [ea0, ea1, ea2, ea3] at hl
  simp only [ea0, ea1, ea2, ea3]
  try simp only [ea0, ea1, ea2, ea3] at hw
  refine nw_putF (v := .ref (ad4 (9))) (ty := (.array (.object "HarvestPlans$Order"))) hx hb hts i_Farm t_Farm tk_Farm n_Farm hown hK hw hS (1) ((va_up_ne _ _ (by omega)).trans ((va_up_ne _ _ (by omega)).trans ((va_up_ne _ _ (by omega)).trans ((va_up_ne _ _ (by omega)).trans (va_up_self ..))))) rfl 4 (by decide) (hts _ kw_61) (fun _ h9 => h9) rfl hin rfl (by decide +kernel) (rfl) (rfl) (Nat.le_of_ble_eq_true rfl) d_Farm_init_35 (fun H locs hw hS => ?_)
  have hw := nw_W.as (wn' := va_up (va_up (va_up (va_up (va_up (wn) (1) (some (.inr (1, [.int (nI 0), .ref (ad4 (6)), .ref (ad4 (7)), .ref (ad4 (8)), .ref (ad4 (9)), .null, .null, .int (nI 0), .int (nI 0), .int (nI 0), .int (nI 0), .int (nI 0), .int (nI 0)])))) (6) (some (.inl (tC 3, 4, .inr (.inr (.inr (.inr (fun _ => none)))))))) (7) (some (.inl (tC 4, 6, .inr (.inr (.inr (.inr (fun _ => none)))))))) (8) (some (.inl (tC 5, 3, .inr (.inr (.inr (.inr (fun _ => none)))))))) (9) (some (.inl (tC 6, 6, .inr (.inr (.inr (.inr (fun _ => none)))))))) hw (Eq.symm ((va_comm (by omega)).trans (va_cong ((va_comm (by omega)).trans (va_cong ((va_comm (by omega)).trans (va_cong ((va_comm (by omega)).trans (va_cong (bx_uu _ _ _ _))))))))))
  refine lv_aload_n hx hb d_Farm_init_38 rfl (lv_at hl 0 rfl) ?_
  refine lv_bipush (v := nI 6) hx hb d_Farm_init_39 (by decide) ?_
  refine nw_newa (atype := .int) (ty := .int) (a0 := (6, .inl (fun _ => 0))) (N' := 6) hx hb (hts _ kw_114) rfl hK hw hS hA (101) ((va_up_ne _ _ (by omega)).trans ((va_up_ne _ _ (by omega)).trans ((va_up_ne _ _ (by omega)).trans ((va_up_ne _ _ (by omega)).trans ((va_up_ne _ _ (by omega)).trans (hn_101)))))) 0 rfl (fun _ => by first | rfl | exact vp_zero _ _) (nI_pos (by omega)) (nI_clamp (by omega)) (by show 6 * 4 ≤ 536870912; omega) (Nat.le_of_ble_eq_true rfl) (Nat.le_of_ble_eq_true rfl) d_Farm_init_41 (fun ad5 H had5 hw hS => ?_)
  have ea0 : ad4 (1) = ad5 (1) := (had5 (1) (by omega)).symm
  have ea1 : ad4 (6) = ad5 (6) := (had5 (6) (by omega)).symm
  have ea2 : ad4 (7) = ad5 (7) := (had5 (7) (by omega)).symm
  have ea3 : ad4 (8) = ad5 (8) := (had5 (8) (by omega)).symm
  have ea4 : ad4 (9) = ad5 (9) := (had5 (9) (by omega)).symm
  simp only [ea0, ea1, ea2, ea3, ea4] at hl
  simp only [ea0, ea1, ea2, ea3, ea4]
  try simp only [ea0, ea1, ea2, ea3, ea4] at hw
  refine nw_putF (v := .ref (ad5 (101))) (ty := (.array .int)) hx hb hts i_Farm t_Farm tk_Farm n_Farm hown hK hw hS (1) ((va_up_ne _ _ (by omega)).trans ((va_up_ne _ _ (by omega)).trans ((va_up_ne _ _ (by omega)).trans ((va_up_ne _ _ (by omega)).trans ((va_up_ne _ _ (by omega)).trans (va_up_self ..)))))) rfl 5 (by decide) (hts _ kw_63) (fun _ h9 => h9) rfl hin rfl (by decide +kernel) (rfl) (rfl) (Nat.le_of_ble_eq_true rfl) d_Farm_init_43 (fun H locs hw hS => ?_)
  have hw := nw_W.as (wn' := va_up (va_up (va_up (va_up (va_up (va_up (wn) (1) (some (.inr (1, [.int (nI 0), .ref (ad5 (6)), .ref (ad5 (7)), .ref (ad5 (8)), .ref (ad5 (9)), .ref (ad5 (101)), .null, .int (nI 0), .int (nI 0), .int (nI 0), .int (nI 0), .int (nI 0), .int (nI 0)])))) (6) (some (.inl (tC 3, 4, .inr (.inr (.inr (.inr (fun _ => none)))))))) (7) (some (.inl (tC 4, 6, .inr (.inr (.inr (.inr (fun _ => none)))))))) (8) (some (.inl (tC 5, 3, .inr (.inr (.inr (.inr (fun _ => none)))))))) (9) (some (.inl (tC 6, 6, .inr (.inr (.inr (.inr (fun _ => none)))))))) (101) (some (.inl (tC 0, 6, .inl (fun _ => 0))))) hw (Eq.symm ((va_comm (by omega)).trans (va_cong ((va_comm (by omega)).trans (va_cong ((va_comm (by omega)).trans (va_cong ((va_comm (by omega)).trans (va_cong ((va_comm (by omega)).trans (va_cong (bx_uu _ _ _ _))))))))))))
  refine lv_aload_n hx hb d_Farm_init_46 rfl (lv_at hl 0 rfl) ?_
  refine lv_iload_n hx hb d_Farm_init_47 rfl (lv_at hl 1 rfl) ?_
  refine nw_putF (v := .int (nI w)) (ty := .int) hx hb hts i_Farm t_Farm tk_Farm n_Farm hown hK hw hS (1) ((va_up_ne _ _ (by omega)).trans ((va_up_ne _ _ (by omega)).trans ((va_up_ne _ _ (by omega)).trans ((va_up_ne _ _ (by omega)).trans ((va_up_ne _ _ (by omega)).trans (va_up_self ..)))))) rfl 0 (by decide) (hts _ kw_47) (fun _ h9 => h9) rfl hin rfl (by decide +kernel) (rfl) (rfl) (Nat.le_of_ble_eq_true rfl) d_Farm_init_48 (fun H locs hw hS => ?_)
  have hw := nw_W.as (wn' := va_up (va_up (va_up (va_up (va_up (va_up (wn) (1) (some (.inr (1, [.int (nI w), .ref (ad5 (6)), .ref (ad5 (7)), .ref (ad5 (8)), .ref (ad5 (9)), .ref (ad5 (101)), .null, .int (nI 0), .int (nI 0), .int (nI 0), .int (nI 0), .int (nI 0), .int (nI 0)])))) (6) (some (.inl (tC 3, 4, .inr (.inr (.inr (.inr (fun _ => none)))))))) (7) (some (.inl (tC 4, 6, .inr (.inr (.inr (.inr (fun _ => none)))))))) (8) (some (.inl (tC 5, 3, .inr (.inr (.inr (.inr (fun _ => none)))))))) (9) (some (.inl (tC 6, 6, .inr (.inr (.inr (.inr (fun _ => none)))))))) (101) (some (.inl (tC 0, 6, .inl (fun _ => 0))))) hw (Eq.symm ((va_comm (by omega)).trans (va_cong ((va_comm (by omega)).trans (va_cong ((va_comm (by omega)).trans (va_cong ((va_comm (by omega)).trans (va_cong ((va_comm (by omega)).trans (va_cong (bx_uu _ _ _ _))))))))))))
  refine lv_aload_n hx hb d_Farm_init_51 rfl (lv_at hl 0 rfl) ?_
  refine lv_iload_n hx hb d_Farm_init_52 rfl (lv_at hl 1 rfl) ?_
  refine nw_newa (atype := .int) (ty := .int) (a0 := (w, .inl (fun _ => 0))) (N' := w) hx hb (hts _ kw_114) rfl hK hw hS hA (102) ((va_up_ne _ _ (by omega)).trans ((va_up_ne _ _ (by omega)).trans ((va_up_ne _ _ (by omega)).trans ((va_up_ne _ _ (by omega)).trans ((va_up_ne _ _ (by omega)).trans ((va_up_ne _ _ (by omega)).trans (hn_102))))))) 0 rfl (fun _ => by first | rfl | exact vp_zero _ _) (nI_pos (by omega)) (nI_clamp (by omega)) (by show w * 4 ≤ 536870912; omega) (Nat.le_of_ble_eq_true rfl) (by dsimp only; omega) d_Farm_init_53 (fun ad6 H had6 hw hS => ?_)
  refine W.widen (Nat.le_refl _) (show _ ≤ 33 by omega) ?_
  have ea0 : ad5 (1) = ad6 (1) := (had6 (1) (by omega)).symm
  have ea1 : ad5 (6) = ad6 (6) := (had6 (6) (by omega)).symm
  have ea2 : ad5 (7) = ad6 (7) := (had6 (7) (by omega)).symm
  have ea3 : ad5 (8) = ad6 (8) := (had6 (8) (by omega)).symm
  have ea4 : ad5 (9) = ad6 (9) := (had6 (9) (by omega)).symm
  have ea5 : ad5 (101) = ad6 (101) := (had6 (101) (by omega)).symm
  simp only [ea0, ea1, ea2, ea3, ea4, ea5] at hl
  simp only [ea0, ea1, ea2, ea3, ea4, ea5]
  try simp only [ea0, ea1, ea2, ea3, ea4, ea5] at hw
  refine nw_putF (v := .ref (ad6 (102))) (ty := (.array .int)) hx hb hts i_Farm t_Farm tk_Farm n_Farm hown hK hw hS (1) ((va_up_ne _ _ (by omega)).trans ((va_up_ne _ _ (by omega)).trans ((va_up_ne _ _ (by omega)).trans ((va_up_ne _ _ (by omega)).trans ((va_up_ne _ _ (by omega)).trans ((va_up_ne _ _ (by omega)).trans (va_up_self ..))))))) rfl 6 (by decide) (hts _ kw_65) (fun _ h9 => h9) rfl hin rfl (by decide +kernel) (rfl) (rfl) (Nat.le_of_ble_eq_true rfl) d_Farm_init_55 (fun H locs hw hS => ?_)
  have hw := nw_W.as (wn' := va_up (va_up (va_up (va_up (va_up (va_up (va_up (wn) (1) (some (.inr (1, [.int (nI w), .ref (ad6 (6)), .ref (ad6 (7)), .ref (ad6 (8)), .ref (ad6 (9)), .ref (ad6 (101)), .ref (ad6 (102)), .int (nI 0), .int (nI 0), .int (nI 0), .int (nI 0), .int (nI 0), .int (nI 0)])))) (6) (some (.inl (tC 3, 4, .inr (.inr (.inr (.inr (fun _ => none)))))))) (7) (some (.inl (tC 4, 6, .inr (.inr (.inr (.inr (fun _ => none)))))))) (8) (some (.inl (tC 5, 3, .inr (.inr (.inr (.inr (fun _ => none)))))))) (9) (some (.inl (tC 6, 6, .inr (.inr (.inr (.inr (fun _ => none)))))))) (101) (some (.inl (tC 0, 6, .inl (fun _ => 0))))) (102) (some (.inl (tC 0, w, .inl (fun _ => 0))))) hw (Eq.symm ((va_comm (by omega)).trans (va_cong ((va_comm (by omega)).trans (va_cong ((va_comm (by omega)).trans (va_cong ((va_comm (by omega)).trans (va_cong ((va_comm (by omega)).trans (va_cong ((va_comm (by omega)).trans (va_cong (bx_uu _ _ _ _))))))))))))))
  exact nw_vret hQ hx hb hr hlocks hw hS (⟨rfl, fun k g0 g1 g2 g3 g4 g5 => by rw [had6 k (by omega)]; rw [had5 k (by omega)]; rw [had4 k (by omega)]; rw [had3 k (by omega)]; rw [had2 k (by omega)]; rw [had1 k (by omega)], rfl⟩) (Nat.le_of_ble_eq_true rfl) (Nat.le_of_ble_eq_true rfl) d_Farm_init_58

set_option maxHeartbeats 4000000 in
set_option maxRecDepth 100000 in
/-- the rules -/
theorem c_Rules_init (l : Launch) (D : va_G) (tC : Nat → ClassId) (A : Nat → Prop) (ad : Nat → Nat) (wn : nw_N) (hn_103 : wn 103 = none) (hn_104 : wn 104 = none) (hn_105 : wn 105 = none) (hn_106 : wn 106 = none)  : nw_Met l y_Rules_init [Cond.code y_Rules_init b_Rules_init 2 none] ({ frames := 1, cells := 4, slots := 19, locals := 40 } : Room) D hpC A [.ref (ad (2)), .ref (ad (1))] (nw_pre D hpC (hpT tC) A (va_up (wn) (2) (some (.inr (2, [.null, .null, .null, .null, .null])))) ad) (nw_np none (fun ad' => ∀ k, k ≠ 103 → k ≠ 104 → k ≠ 105 → k ≠ 106 → ad' k = ad k) (fun ad' => va_up (va_up (va_up (va_up (va_up (wn) (2) (some (.inr (2, [.ref (ad' (1)), .ref (ad' (103)), .ref (ad' (104)), .ref (ad' (105)), .ref (ad' (106))])))) (103) (some (.inl (tC 0, 6, .inl (fun _ => 0))))) (104) (some (.inl (tC 0, 3, .inl (fun _ => 0))))) (105) (some (.inl (tC 0, 6, .inl (fun _ => 0))))) (106) (some (.inl (tC 0, 4, .inl (fun _ => 0)))))) 4 19 := by
  refine nw_bodyK (by decide) (Nat.le_of_ble_eq_true rfl) ?_
  intro p e s m below meth cd ls args Q hSx hr hlocks hname hA hKs hw hS hl hQ
  obtain ⟨hx, hb, hml, hown, hts⟩ := id hSx
  have hK := hKs.1
  have hl : lv_has ls 2 [(0, .ref (ad (2))), (1, .ref (ad (1)))] := hl
  have hin : meth.name = "<init>" := hname
  refine lv_aload_n hx hb d_Rules_init_0 rfl (lv_at hl 0 rfl) ?_
  refine W.objInit hx hb hown (hts _ kw_120) (hts _ kw_25) (hts _ kw_26) rfl (hl.1.trans hml.symm) rfl d_Rules_init_1 (Nat.le_of_ble_eq_true rfl) (Nat.le_of_ble_eq_true rfl) ?_
  refine lv_aload_n hx hb d_Rules_init_4 rfl (lv_at hl 0 rfl) ?_
  refine lv_bipush (v := nI 6) hx hb d_Rules_init_5 (by decide) ?_
  refine nw_newa (atype := .int) (ty := .int) (a0 := (6, .inl (fun _ => 0))) (N' := 6) hx hb (hts _ kw_114) rfl hK hw hS hA (103) ((va_up_ne _ _ (by omega)).trans (hn_103)) 0 rfl (fun _ => by first | rfl | exact vp_zero _ _) (nI_pos (by omega)) (nI_clamp (by omega)) (by show 6 * 4 ≤ 536870912; omega) (Nat.le_of_ble_eq_true rfl) (Nat.le_of_ble_eq_true rfl) d_Rules_init_7 (fun ad1 H had1 hw hS => ?_)
  have ea0 : ad (2) = ad1 (2) := (had1 (2) (by omega)).symm
  have ea1 : ad (1) = ad1 (1) := (had1 (1) (by omega)).symm
  simp only [ea0, ea1] at hl
  simp only [ea0, ea1]
  try simp only [ea0, ea1] at hw
  refine nw_putF (v := .ref (ad1 (103))) (ty := (.array .int)) hx hb hts i_Rules t_Rules tk_Rules n_Rules hown hK hw hS (2) ((va_up_ne _ _ (by omega)).trans (va_up_self ..)) rfl 1 (by decide) (hts _ kw_122) (fun _ h9 => h9) rfl hin rfl (by decide +kernel) (rfl) (rfl) (Nat.le_of_ble_eq_true rfl) d_Rules_init_9 (fun H locs hw hS => ?_)
  have hw := nw_W.as (wn' := va_up (va_up (wn) (2) (some (.inr (2, [.null, .ref (ad1 (103)), .null, .null, .null])))) (103) (some (.inl (tC 0, 6, .inl (fun _ => 0))))) hw (Eq.symm ((va_comm (by omega)).trans (va_cong (bx_uu _ _ _ _))))
  refine lv_aload_n hx hb d_Rules_init_12 rfl (lv_at hl 0 rfl) ?_
  refine lv_iconst (v := nI 3) hx hb d_Rules_init_13 (by decide) ?_
  refine nw_newa (atype := .int) (ty := .int) (a0 := (3, .inl (fun _ => 0))) (N' := 3) hx hb (hts _ kw_114) rfl hK hw hS hA (104) ((va_up_ne _ _ (by omega)).trans ((va_up_ne _ _ (by omega)).trans (hn_104))) 0 rfl (fun _ => by first | rfl | exact vp_zero _ _) (nI_pos (by omega)) (nI_clamp (by omega)) (by show 3 * 4 ≤ 536870912; omega) (Nat.le_of_ble_eq_true rfl) (Nat.le_of_ble_eq_true rfl) d_Rules_init_14 (fun ad2 H had2 hw hS => ?_)
  have ea0 : ad1 (2) = ad2 (2) := (had2 (2) (by omega)).symm
  have ea1 : ad1 (1) = ad2 (1) := (had2 (1) (by omega)).symm
  have ea2 : ad1 (103) = ad2 (103) := (had2 (103) (by omega)).symm
  simp only [ea0, ea1, ea2] at hl
  simp only [ea0, ea1, ea2]
  try simp only [ea0, ea1, ea2] at hw
  refine nw_putF (v := .ref (ad2 (104))) (ty := (.array .int)) hx hb hts i_Rules t_Rules tk_Rules n_Rules hown hK hw hS (2) ((va_up_ne _ _ (by omega)).trans ((va_up_ne _ _ (by omega)).trans (va_up_self ..))) rfl 2 (by decide) (hts _ kw_123) (fun _ h9 => h9) rfl hin rfl (by decide +kernel) (rfl) (rfl) (Nat.le_of_ble_eq_true rfl) d_Rules_init_16 (fun H locs hw hS => ?_)
  have hw := nw_W.as (wn' := va_up (va_up (va_up (wn) (2) (some (.inr (2, [.null, .ref (ad2 (103)), .ref (ad2 (104)), .null, .null])))) (103) (some (.inl (tC 0, 6, .inl (fun _ => 0))))) (104) (some (.inl (tC 0, 3, .inl (fun _ => 0))))) hw (Eq.symm ((va_comm (by omega)).trans (va_cong ((va_comm (by omega)).trans (va_cong (bx_uu _ _ _ _))))))
  refine lv_aload_n hx hb d_Rules_init_19 rfl (lv_at hl 0 rfl) ?_
  refine lv_bipush (v := nI 6) hx hb d_Rules_init_20 (by decide) ?_
  refine nw_newa (atype := .int) (ty := .int) (a0 := (6, .inl (fun _ => 0))) (N' := 6) hx hb (hts _ kw_114) rfl hK hw hS hA (105) ((va_up_ne _ _ (by omega)).trans ((va_up_ne _ _ (by omega)).trans ((va_up_ne _ _ (by omega)).trans (hn_105)))) 0 rfl (fun _ => by first | rfl | exact vp_zero _ _) (nI_pos (by omega)) (nI_clamp (by omega)) (by show 6 * 4 ≤ 536870912; omega) (Nat.le_of_ble_eq_true rfl) (Nat.le_of_ble_eq_true rfl) d_Rules_init_22 (fun ad3 H had3 hw hS => ?_)
  have ea0 : ad2 (2) = ad3 (2) := (had3 (2) (by omega)).symm
  have ea1 : ad2 (1) = ad3 (1) := (had3 (1) (by omega)).symm
  have ea2 : ad2 (103) = ad3 (103) := (had3 (103) (by omega)).symm
  have ea3 : ad2 (104) = ad3 (104) := (had3 (104) (by omega)).symm
  simp only [ea0, ea1, ea2, ea3] at hl
  simp only [ea0, ea1, ea2, ea3]
  try simp only [ea0, ea1, ea2, ea3] at hw
  refine nw_putF (v := .ref (ad3 (105))) (ty := (.array .int)) hx hb hts i_Rules t_Rules tk_Rules n_Rules hown hK hw hS (2) ((va_up_ne _ _ (by omega)).trans ((va_up_ne _ _ (by omega)).trans ((va_up_ne _ _ (by omega)).trans (va_up_self ..)))) rfl 3 (by decide) (hts _ kw_124) (fun _ h9 => h9) rfl hin rfl (by decide +kernel) (rfl) (rfl) (Nat.le_of_ble_eq_true rfl) d_Rules_init_24 (fun H locs hw hS => ?_)
  have hw := nw_W.as (wn' := va_up (va_up (va_up (va_up (wn) (2) (some (.inr (2, [.null, .ref (ad3 (103)), .ref (ad3 (104)), .ref (ad3 (105)), .null])))) (103) (some (.inl (tC 0, 6, .inl (fun _ => 0))))) (104) (some (.inl (tC 0, 3, .inl (fun _ => 0))))) (105) (some (.inl (tC 0, 6, .inl (fun _ => 0))))) hw (Eq.symm ((va_comm (by omega)).trans (va_cong ((va_comm (by omega)).trans (va_cong ((va_comm (by omega)).trans (va_cong (bx_uu _ _ _ _))))))))
  refine lv_aload_n hx hb d_Rules_init_27 rfl (lv_at hl 0 rfl) ?_
  refine lv_iconst (v := nI 4) hx hb d_Rules_init_28 (by decide) ?_
  refine nw_newa (atype := .int) (ty := .int) (a0 := (4, .inl (fun _ => 0))) (N' := 4) hx hb (hts _ kw_114) rfl hK hw hS hA (106) ((va_up_ne _ _ (by omega)).trans ((va_up_ne _ _ (by omega)).trans ((va_up_ne _ _ (by omega)).trans ((va_up_ne _ _ (by omega)).trans (hn_106))))) 0 rfl (fun _ => by first | rfl | exact vp_zero _ _) (nI_pos (by omega)) (nI_clamp (by omega)) (by show 4 * 4 ≤ 536870912; omega) (Nat.le_of_ble_eq_true rfl) (Nat.le_of_ble_eq_true rfl) d_Rules_init_29 (fun ad4 H had4 hw hS => ?_)
  have ea0 : ad3 (2) = ad4 (2) := (had4 (2) (by omega)).symm
  have ea1 : ad3 (1) = ad4 (1) := (had4 (1) (by omega)).symm
  have ea2 : ad3 (103) = ad4 (103) := (had4 (103) (by omega)).symm
  have ea3 : ad3 (104) = ad4 (104) := (had4 (104) (by omega)).symm
  have ea4 : ad3 (105) = ad4 (105) := (had4 (105) (by omega)).symm
  simp only [ea0, ea1, ea2, ea3, ea4] at hl
  simp only [ea0, ea1, ea2, ea3, ea4]
  try simp only [ea0, ea1, ea2, ea3, ea4] at hw
  refine nw_putF (v := .ref (ad4 (106))) (ty := (.array .int)) hx hb hts i_Rules t_Rules tk_Rules n_Rules hown hK hw hS (2) ((va_up_ne _ _ (by omega)).trans ((va_up_ne _ _ (by omega)).trans ((va_up_ne _ _ (by omega)).trans ((va_up_ne _ _ (by omega)).trans (va_up_self ..))))) rfl 4 (by decide) (hts _ kw_125) (fun _ h9 => h9) rfl hin rfl (by decide +kernel) (rfl) (rfl) (Nat.le_of_ble_eq_true rfl) d_Rules_init_31 (fun H locs hw hS => ?_)
  have hw := nw_W.as (wn' := va_up (va_up (va_up (va_up (va_up (wn) (2) (some (.inr (2, [.null, .ref (ad4 (103)), .ref (ad4 (104)), .ref (ad4 (105)), .ref (ad4 (106))])))) (103) (some (.inl (tC 0, 6, .inl (fun _ => 0))))) (104) (some (.inl (tC 0, 3, .inl (fun _ => 0))))) (105) (some (.inl (tC 0, 6, .inl (fun _ => 0))))) (106) (some (.inl (tC 0, 4, .inl (fun _ => 0))))) hw (Eq.symm ((va_comm (by omega)).trans (va_cong ((va_comm (by omega)).trans (va_cong ((va_comm (by omega)).trans (va_cong ((va_comm (by omega)).trans (va_cong (bx_uu _ _ _ _))))))))))
  refine lv_aload_n hx hb d_Rules_init_34 rfl (lv_at hl 0 rfl) ?_
  refine lv_aload_n hx hb d_Rules_init_35 rfl (lv_at hl 1 rfl) ?_
  refine nw_putF (v := .ref (ad4 (1))) (ty := (.object "HarvestPlans$Farm")) hx hb hts i_Rules t_Rules tk_Rules n_Rules hown hK hw hS (2) ((va_up_ne _ _ (by omega)).trans ((va_up_ne _ _ (by omega)).trans ((va_up_ne _ _ (by omega)).trans ((va_up_ne _ _ (by omega)).trans (va_up_self ..))))) rfl 0 (by decide) (hts _ kw_121) (fun _ h9 => h9) rfl hin rfl (by decide +kernel) (rfl) (rfl) (Nat.le_of_ble_eq_true rfl) d_Rules_init_36 (fun H locs hw hS => ?_)
  have hw := nw_W.as (wn' := va_up (va_up (va_up (va_up (va_up (wn) (2) (some (.inr (2, [.ref (ad4 (1)), .ref (ad4 (103)), .ref (ad4 (104)), .ref (ad4 (105)), .ref (ad4 (106))])))) (103) (some (.inl (tC 0, 6, .inl (fun _ => 0))))) (104) (some (.inl (tC 0, 3, .inl (fun _ => 0))))) (105) (some (.inl (tC 0, 6, .inl (fun _ => 0))))) (106) (some (.inl (tC 0, 4, .inl (fun _ => 0))))) hw (Eq.symm ((va_comm (by omega)).trans (va_cong ((va_comm (by omega)).trans (va_cong ((va_comm (by omega)).trans (va_cong ((va_comm (by omega)).trans (va_cong (bx_uu _ _ _ _))))))))))
  exact nw_vret hQ hx hb hr hlocks hw hS (⟨rfl, fun k g0 g1 g2 g3 => by rw [had4 k (by omega)]; rw [had3 k (by omega)]; rw [had2 k (by omega)]; rw [had1 k (by omega)], rfl⟩) (Nat.le_of_ble_eq_true rfl) (Nat.le_of_ble_eq_true rfl) d_Rules_init_39

set_option maxHeartbeats 4000000 in
set_option maxRecDepth 100000 in
/-- the sales -/
theorem c_Sales_init (l : Launch) (D : va_G) (tC : Nat → ClassId) (A : Nat → Prop) (ad : Nat → Nat) (wn : nw_N) (hn_107 : wn 107 = none) (hn_108 : wn 108 = none)  : nw_Met l y_Sales_init [Cond.code y_Sales_init b_Sales_init 2 none] ({ frames := 1, cells := 2, slots := 12, locals := 40 } : Room) D hpC A [.ref (ad (3)), .ref (ad (1))] (nw_pre D hpC (hpT tC) A (va_up (wn) (3) (some (.inr (3, [.null, .null, .null])))) ad) (nw_np none (fun ad' => ∀ k, k ≠ 107 → k ≠ 108 → ad' k = ad k) (fun ad' => va_up (va_up (va_up (wn) (3) (some (.inr (3, [.ref (ad' (1)), .ref (ad' (107)), .ref (ad' (108))])))) (107) (some (.inl (tC 0, 6, .inl (fun _ => 0))))) (108) (some (.inl (tC 0, 6, .inl (fun _ => 0)))))) 2 12 := by
  refine nw_bodyK (by decide) (Nat.le_of_ble_eq_true rfl) ?_
  intro p e s m below meth cd ls args Q hSx hr hlocks hname hA hKs hw hS hl hQ
  obtain ⟨hx, hb, hml, hown, hts⟩ := id hSx
  have hK := hKs.1
  have hl : lv_has ls 2 [(0, .ref (ad (3))), (1, .ref (ad (1)))] := hl
  have hin : meth.name = "<init>" := hname
  refine lv_aload_n hx hb d_Sales_init_0 rfl (lv_at hl 0 rfl) ?_
  refine W.objInit hx hb hown (hts _ kw_142) (hts _ kw_25) (hts _ kw_26) rfl (hl.1.trans hml.symm) rfl d_Sales_init_1 (Nat.le_of_ble_eq_true rfl) (Nat.le_of_ble_eq_true rfl) ?_
  refine lv_aload_n hx hb d_Sales_init_4 rfl (lv_at hl 0 rfl) ?_
  refine lv_bipush (v := nI 6) hx hb d_Sales_init_5 (by decide) ?_
  refine nw_newa (atype := .int) (ty := .int) (a0 := (6, .inl (fun _ => 0))) (N' := 6) hx hb (hts _ kw_114) rfl hK hw hS hA (107) ((va_up_ne _ _ (by omega)).trans (hn_107)) 0 rfl (fun _ => by first | rfl | exact vp_zero _ _) (nI_pos (by omega)) (nI_clamp (by omega)) (by show 6 * 4 ≤ 536870912; omega) (Nat.le_of_ble_eq_true rfl) (Nat.le_of_ble_eq_true rfl) d_Sales_init_7 (fun ad1 H had1 hw hS => ?_)
  have ea0 : ad (3) = ad1 (3) := (had1 (3) (by omega)).symm
  have ea1 : ad (1) = ad1 (1) := (had1 (1) (by omega)).symm
  simp only [ea0, ea1] at hl
  simp only [ea0, ea1]
  try simp only [ea0, ea1] at hw
  refine nw_putF (v := .ref (ad1 (107))) (ty := (.array .int)) hx hb hts i_Sales t_Sales tk_Sales n_Sales hown hK hw hS (3) ((va_up_ne _ _ (by omega)).trans (va_up_self ..)) rfl 1 (by decide) (hts _ kw_144) (fun _ h9 => h9) rfl hin rfl (by decide +kernel) (rfl) (rfl) (Nat.le_of_ble_eq_true rfl) d_Sales_init_9 (fun H locs hw hS => ?_)
  have hw := nw_W.as (wn' := va_up (va_up (wn) (3) (some (.inr (3, [.null, .ref (ad1 (107)), .null])))) (107) (some (.inl (tC 0, 6, .inl (fun _ => 0))))) hw (Eq.symm ((va_comm (by omega)).trans (va_cong (bx_uu _ _ _ _))))
  refine lv_aload_n hx hb d_Sales_init_12 rfl (lv_at hl 0 rfl) ?_
  refine lv_bipush (v := nI 6) hx hb d_Sales_init_13 (by decide) ?_
  refine nw_newa (atype := .int) (ty := .int) (a0 := (6, .inl (fun _ => 0))) (N' := 6) hx hb (hts _ kw_114) rfl hK hw hS hA (108) ((va_up_ne _ _ (by omega)).trans ((va_up_ne _ _ (by omega)).trans (hn_108))) 0 rfl (fun _ => by first | rfl | exact vp_zero _ _) (nI_pos (by omega)) (nI_clamp (by omega)) (by show 6 * 4 ≤ 536870912; omega) (Nat.le_of_ble_eq_true rfl) (Nat.le_of_ble_eq_true rfl) d_Sales_init_15 (fun ad2 H had2 hw hS => ?_)
  have ea0 : ad1 (3) = ad2 (3) := (had2 (3) (by omega)).symm
  have ea1 : ad1 (1) = ad2 (1) := (had2 (1) (by omega)).symm
  have ea2 : ad1 (107) = ad2 (107) := (had2 (107) (by omega)).symm
  simp only [ea0, ea1, ea2] at hl
  simp only [ea0, ea1, ea2]
  try simp only [ea0, ea1, ea2] at hw
  refine nw_putF (v := .ref (ad2 (108))) (ty := (.array .int)) hx hb hts i_Sales t_Sales tk_Sales n_Sales hown hK hw hS (3) ((va_up_ne _ _ (by omega)).trans ((va_up_ne _ _ (by omega)).trans (va_up_self ..))) rfl 2 (by decide) (hts _ kw_145) (fun _ h9 => h9) rfl hin rfl (by decide +kernel) (rfl) (rfl) (Nat.le_of_ble_eq_true rfl) d_Sales_init_17 (fun H locs hw hS => ?_)
  have hw := nw_W.as (wn' := va_up (va_up (va_up (wn) (3) (some (.inr (3, [.null, .ref (ad2 (107)), .ref (ad2 (108))])))) (107) (some (.inl (tC 0, 6, .inl (fun _ => 0))))) (108) (some (.inl (tC 0, 6, .inl (fun _ => 0))))) hw (Eq.symm ((va_comm (by omega)).trans (va_cong ((va_comm (by omega)).trans (va_cong (bx_uu _ _ _ _))))))
  refine lv_aload_n hx hb d_Sales_init_20 rfl (lv_at hl 0 rfl) ?_
  refine lv_aload_n hx hb d_Sales_init_21 rfl (lv_at hl 1 rfl) ?_
  refine nw_putF (v := .ref (ad2 (1))) (ty := (.object "HarvestPlans$Farm")) hx hb hts i_Sales t_Sales tk_Sales n_Sales hown hK hw hS (3) ((va_up_ne _ _ (by omega)).trans ((va_up_ne _ _ (by omega)).trans (va_up_self ..))) rfl 0 (by decide) (hts _ kw_143) (fun _ h9 => h9) rfl hin rfl (by decide +kernel) (rfl) (rfl) (Nat.le_of_ble_eq_true rfl) d_Sales_init_22 (fun H locs hw hS => ?_)
  have hw := nw_W.as (wn' := va_up (va_up (va_up (wn) (3) (some (.inr (3, [.ref (ad2 (1)), .ref (ad2 (107)), .ref (ad2 (108))])))) (107) (some (.inl (tC 0, 6, .inl (fun _ => 0))))) (108) (some (.inl (tC 0, 6, .inl (fun _ => 0))))) hw (Eq.symm ((va_comm (by omega)).trans (va_cong ((va_comm (by omega)).trans (va_cong (bx_uu _ _ _ _))))))
  exact nw_vret hQ hx hb hr hlocks hw hS (⟨rfl, fun k g0 g1 => by rw [had2 k (by omega)]; rw [had1 k (by omega)], rfl⟩) (Nat.le_of_ble_eq_true rfl) (Nat.le_of_ble_eq_true rfl) d_Sales_init_25

set_option maxHeartbeats 4000000 in
set_option maxRecDepth 100000 in
/-- the search -/
theorem c_Search_init (l : Launch) (D : va_G) (tC : Nat → ClassId) (A : Nat → Prop) (ad : Nat → Nat) (wn : nw_N) (hn_109 : wn 109 = none) (hn_110 : wn 110 = none) (hn_5 : wn 5 = none)  : nw_Met l y_Search_init [Cond.code y_Search_init b_Search_init 4 none] ({ frames := 1, cells := 3, slots := 19, locals := 40 } : Room) D hpC A [.ref (ad (4)), .ref (ad (1)), .ref (ad (2)), .ref (ad (3))] (nw_pre D hpC (hpT tC) A (va_up (wn) (4) (some (.inr (4, [.null, .null, .null, .null, .null, .null, .long (0), .int (nI 0), .int (nI 0), .int (nI 0)])))) ad) (nw_np none (fun ad' => ∀ k, k ≠ 109 → k ≠ 110 → k ≠ 5 → ad' k = ad k) (fun ad' => va_up (va_up (va_up (va_up (wn) (4) (some (.inr (4, [.ref (ad' (1)), .ref (ad' (2)), .ref (ad' (3)), .ref (ad' (109)), .ref (ad' (110)), .ref (ad' (5)), .long ((-1)), .int (nI 0), .int (nI 0), .int (nI 0)])))) (109) (some (.inl (tC 0, 6, .inl (fun _ => 0))))) (110) (some (.inl (tC 0, 6, .inl (fun _ => 0))))) (5) (some (.inl (tC 1, 7, .inr (.inl (fun _ => 0))))))) 3 19 := by
  refine nw_bodyK (by decide) (Nat.le_of_ble_eq_true rfl) ?_
  intro p e s m below meth cd ls args Q hSx hr hlocks hname hA hKs hw hS hl hQ
  obtain ⟨hx, hb, hml, hown, hts⟩ := id hSx
  have hK := hKs.1
  have hl : lv_has ls 4 [(0, .ref (ad (4))), (1, .ref (ad (1))), (2, .ref (ad (2))), (3, .ref (ad (3)))] := hl
  have hin : meth.name = "<init>" := hname
  refine lv_aload_n hx hb d_Search_init_0 rfl (lv_at hl 0 rfl) ?_
  refine W.objInit hx hb hown (hts _ kw_159) (hts _ kw_25) (hts _ kw_26) rfl (hl.1.trans hml.symm) rfl d_Search_init_1 (Nat.le_of_ble_eq_true rfl) (Nat.le_of_ble_eq_true rfl) ?_
  refine lv_aload_n hx hb d_Search_init_4 rfl (lv_at hl 0 rfl) ?_
  refine lv_bipush (v := nI 6) hx hb d_Search_init_5 (by decide) ?_
  refine nw_newa (atype := .int) (ty := .int) (a0 := (6, .inl (fun _ => 0))) (N' := 6) hx hb (hts _ kw_114) rfl hK hw hS hA (109) ((va_up_ne _ _ (by omega)).trans (hn_109)) 0 rfl (fun _ => by first | rfl | exact vp_zero _ _) (nI_pos (by omega)) (nI_clamp (by omega)) (by show 6 * 4 ≤ 536870912; omega) (Nat.le_of_ble_eq_true rfl) (Nat.le_of_ble_eq_true rfl) d_Search_init_7 (fun ad1 H had1 hw hS => ?_)
  have ea0 : ad (4) = ad1 (4) := (had1 (4) (by omega)).symm
  have ea1 : ad (1) = ad1 (1) := (had1 (1) (by omega)).symm
  have ea2 : ad (2) = ad1 (2) := (had1 (2) (by omega)).symm
  have ea3 : ad (3) = ad1 (3) := (had1 (3) (by omega)).symm
  simp only [ea0, ea1, ea2, ea3] at hl
  simp only [ea0, ea1, ea2, ea3]
  try simp only [ea0, ea1, ea2, ea3] at hw
  refine nw_putF (v := .ref (ad1 (109))) (ty := (.array .int)) hx hb hts i_Search t_Search tk_Search n_Search hown hK hw hS (4) ((va_up_ne _ _ (by omega)).trans (va_up_self ..)) rfl 3 (by decide) (hts _ kw_164) (fun _ h9 => h9) rfl hin rfl (by decide +kernel) (rfl) (rfl) (Nat.le_of_ble_eq_true rfl) d_Search_init_9 (fun H locs hw hS => ?_)
  have hw := nw_W.as (wn' := va_up (va_up (wn) (4) (some (.inr (4, [.null, .null, .null, .ref (ad1 (109)), .null, .null, .long (0), .int (nI 0), .int (nI 0), .int (nI 0)])))) (109) (some (.inl (tC 0, 6, .inl (fun _ => 0))))) hw (Eq.symm ((va_comm (by omega)).trans (va_cong (bx_uu _ _ _ _))))
  refine lv_aload_n hx hb d_Search_init_12 rfl (lv_at hl 0 rfl) ?_
  refine lv_bipush (v := nI 6) hx hb d_Search_init_13 (by decide) ?_
  refine nw_newa (atype := .int) (ty := .int) (a0 := (6, .inl (fun _ => 0))) (N' := 6) hx hb (hts _ kw_114) rfl hK hw hS hA (110) ((va_up_ne _ _ (by omega)).trans ((va_up_ne _ _ (by omega)).trans (hn_110))) 0 rfl (fun _ => by first | rfl | exact vp_zero _ _) (nI_pos (by omega)) (nI_clamp (by omega)) (by show 6 * 4 ≤ 536870912; omega) (Nat.le_of_ble_eq_true rfl) (Nat.le_of_ble_eq_true rfl) d_Search_init_15 (fun ad2 H had2 hw hS => ?_)
  have ea0 : ad1 (4) = ad2 (4) := (had2 (4) (by omega)).symm
  have ea1 : ad1 (1) = ad2 (1) := (had2 (1) (by omega)).symm
  have ea2 : ad1 (2) = ad2 (2) := (had2 (2) (by omega)).symm
  have ea3 : ad1 (3) = ad2 (3) := (had2 (3) (by omega)).symm
  have ea4 : ad1 (109) = ad2 (109) := (had2 (109) (by omega)).symm
  simp only [ea0, ea1, ea2, ea3, ea4] at hl
  simp only [ea0, ea1, ea2, ea3, ea4]
  try simp only [ea0, ea1, ea2, ea3, ea4] at hw
  refine nw_putF (v := .ref (ad2 (110))) (ty := (.array .int)) hx hb hts i_Search t_Search tk_Search n_Search hown hK hw hS (4) ((va_up_ne _ _ (by omega)).trans ((va_up_ne _ _ (by omega)).trans (va_up_self ..))) rfl 4 (by decide) (hts _ kw_165) (fun _ h9 => h9) rfl hin rfl (by decide +kernel) (rfl) (rfl) (Nat.le_of_ble_eq_true rfl) d_Search_init_17 (fun H locs hw hS => ?_)
  have hw := nw_W.as (wn' := va_up (va_up (va_up (wn) (4) (some (.inr (4, [.null, .null, .null, .ref (ad2 (109)), .ref (ad2 (110)), .null, .long (0), .int (nI 0), .int (nI 0), .int (nI 0)])))) (109) (some (.inl (tC 0, 6, .inl (fun _ => 0))))) (110) (some (.inl (tC 0, 6, .inl (fun _ => 0))))) hw (Eq.symm ((va_comm (by omega)).trans (va_cong ((va_comm (by omega)).trans (va_cong (bx_uu _ _ _ _))))))
  refine lv_aload_n hx hb d_Search_init_20 rfl (lv_at hl 0 rfl) ?_
  refine lv_bipush (v := nI 7) hx hb d_Search_init_21 (by decide) ?_
  refine nw_newa (atype := .long) (ty := .long) (a0 := (7, .inr (.inl (fun _ => 0)))) (N' := 7) hx hb (hts _ kw_195) rfl hK hw hS hA (5) ((va_up_ne _ _ (by omega)).trans ((va_up_ne _ _ (by omega)).trans ((va_up_ne _ _ (by omega)).trans (hn_5)))) 1 rfl (fun _ => by first | rfl | exact vp_zero _ _) (nI_pos (by omega)) (nI_clamp (by omega)) (by show 7 * 8 ≤ 536870912; omega) (Nat.le_of_ble_eq_true rfl) (Nat.le_of_ble_eq_true rfl) d_Search_init_23 (fun ad3 H had3 hw hS => ?_)
  have ea0 : ad2 (4) = ad3 (4) := (had3 (4) (by omega)).symm
  have ea1 : ad2 (1) = ad3 (1) := (had3 (1) (by omega)).symm
  have ea2 : ad2 (2) = ad3 (2) := (had3 (2) (by omega)).symm
  have ea3 : ad2 (3) = ad3 (3) := (had3 (3) (by omega)).symm
  have ea4 : ad2 (109) = ad3 (109) := (had3 (109) (by omega)).symm
  have ea5 : ad2 (110) = ad3 (110) := (had3 (110) (by omega)).symm
  simp only [ea0, ea1, ea2, ea3, ea4, ea5] at hl
  simp only [ea0, ea1, ea2, ea3, ea4, ea5]
  try simp only [ea0, ea1, ea2, ea3, ea4, ea5] at hw
  refine nw_putF (v := .ref (ad3 (5))) (ty := (.array .long)) hx hb hts i_Search t_Search tk_Search n_Search hown hK hw hS (4) ((va_up_ne _ _ (by omega)).trans ((va_up_ne _ _ (by omega)).trans ((va_up_ne _ _ (by omega)).trans (va_up_self ..)))) rfl 5 (by decide) (hts _ kw_167) (fun _ h9 => h9) rfl hin rfl (by decide +kernel) (rfl) (rfl) (Nat.le_of_ble_eq_true rfl) d_Search_init_25 (fun H locs hw hS => ?_)
  have hw := nw_W.as (wn' := va_up (va_up (va_up (va_up (wn) (4) (some (.inr (4, [.null, .null, .null, .ref (ad3 (109)), .ref (ad3 (110)), .ref (ad3 (5)), .long (0), .int (nI 0), .int (nI 0), .int (nI 0)])))) (109) (some (.inl (tC 0, 6, .inl (fun _ => 0))))) (110) (some (.inl (tC 0, 6, .inl (fun _ => 0))))) (5) (some (.inl (tC 1, 7, .inr (.inl (fun _ => 0)))))) hw (Eq.symm ((va_comm (by omega)).trans (va_cong ((va_comm (by omega)).trans (va_cong ((va_comm (by omega)).trans (va_cong (bx_uu _ _ _ _))))))))
  refine lv_aload_n hx hb d_Search_init_28 rfl (lv_at hl 0 rfl) ?_
  refine lv_ldc2 (v := (-1)) hx hb hown (hts _ kw_160) d_Search_init_29 ?_
  refine nw_put (v := .long ((-1))) (ty := .long) hx hb hts i_Search t_Search tk_Search n_Search hown hK hw hS (4) ((va_up_ne _ _ (by omega)).trans ((va_up_ne _ _ (by omega)).trans ((va_up_ne _ _ (by omega)).trans (va_up_self ..)))) rfl 6 (by decide) (hts _ kw_168) (fun _ h9 => h9) rfl (by decide +kernel) (rfl) (rfl) (Nat.le_of_ble_eq_true rfl) d_Search_init_32 (fun H locs hw hS => ?_)
  have hw := nw_W.as (wn' := va_up (va_up (va_up (va_up (wn) (4) (some (.inr (4, [.null, .null, .null, .ref (ad3 (109)), .ref (ad3 (110)), .ref (ad3 (5)), .long ((-1)), .int (nI 0), .int (nI 0), .int (nI 0)])))) (109) (some (.inl (tC 0, 6, .inl (fun _ => 0))))) (110) (some (.inl (tC 0, 6, .inl (fun _ => 0))))) (5) (some (.inl (tC 1, 7, .inr (.inl (fun _ => 0)))))) hw (Eq.symm ((va_comm (by omega)).trans (va_cong ((va_comm (by omega)).trans (va_cong ((va_comm (by omega)).trans (va_cong (bx_uu _ _ _ _))))))))
  refine lv_aload_n hx hb d_Search_init_35 rfl (lv_at hl 0 rfl) ?_
  refine lv_aload_n hx hb d_Search_init_36 rfl (lv_at hl 1 rfl) ?_
  refine nw_putF (v := .ref (ad3 (1))) (ty := (.object "HarvestPlans$Farm")) hx hb hts i_Search t_Search tk_Search n_Search hown hK hw hS (4) ((va_up_ne _ _ (by omega)).trans ((va_up_ne _ _ (by omega)).trans ((va_up_ne _ _ (by omega)).trans (va_up_self ..)))) rfl 0 (by decide) (hts _ kw_161) (fun _ h9 => h9) rfl hin rfl (by decide +kernel) (rfl) (rfl) (Nat.le_of_ble_eq_true rfl) d_Search_init_37 (fun H locs hw hS => ?_)
  have hw := nw_W.as (wn' := va_up (va_up (va_up (va_up (wn) (4) (some (.inr (4, [.ref (ad3 (1)), .null, .null, .ref (ad3 (109)), .ref (ad3 (110)), .ref (ad3 (5)), .long ((-1)), .int (nI 0), .int (nI 0), .int (nI 0)])))) (109) (some (.inl (tC 0, 6, .inl (fun _ => 0))))) (110) (some (.inl (tC 0, 6, .inl (fun _ => 0))))) (5) (some (.inl (tC 1, 7, .inr (.inl (fun _ => 0)))))) hw (Eq.symm ((va_comm (by omega)).trans (va_cong ((va_comm (by omega)).trans (va_cong ((va_comm (by omega)).trans (va_cong (bx_uu _ _ _ _))))))))
  refine lv_aload_n hx hb d_Search_init_40 rfl (lv_at hl 0 rfl) ?_
  refine lv_aload_n hx hb d_Search_init_41 rfl (lv_at hl 2 rfl) ?_
  refine nw_putF (v := .ref (ad3 (2))) (ty := (.object "HarvestPlans$Rules")) hx hb hts i_Search t_Search tk_Search n_Search hown hK hw hS (4) ((va_up_ne _ _ (by omega)).trans ((va_up_ne _ _ (by omega)).trans ((va_up_ne _ _ (by omega)).trans (va_up_self ..)))) rfl 1 (by decide) (hts _ kw_162) (fun _ h9 => h9) rfl hin rfl (by decide +kernel) (rfl) (rfl) (Nat.le_of_ble_eq_true rfl) d_Search_init_42 (fun H locs hw hS => ?_)
  have hw := nw_W.as (wn' := va_up (va_up (va_up (va_up (wn) (4) (some (.inr (4, [.ref (ad3 (1)), .ref (ad3 (2)), .null, .ref (ad3 (109)), .ref (ad3 (110)), .ref (ad3 (5)), .long ((-1)), .int (nI 0), .int (nI 0), .int (nI 0)])))) (109) (some (.inl (tC 0, 6, .inl (fun _ => 0))))) (110) (some (.inl (tC 0, 6, .inl (fun _ => 0))))) (5) (some (.inl (tC 1, 7, .inr (.inl (fun _ => 0)))))) hw (Eq.symm ((va_comm (by omega)).trans (va_cong ((va_comm (by omega)).trans (va_cong ((va_comm (by omega)).trans (va_cong (bx_uu _ _ _ _))))))))
  refine lv_aload_n hx hb d_Search_init_45 rfl (lv_at hl 0 rfl) ?_
  refine lv_aload_n hx hb d_Search_init_46 rfl (lv_at hl 3 rfl) ?_
  refine nw_putF (v := .ref (ad3 (3))) (ty := (.object "HarvestPlans$Sales")) hx hb hts i_Search t_Search tk_Search n_Search hown hK hw hS (4) ((va_up_ne _ _ (by omega)).trans ((va_up_ne _ _ (by omega)).trans ((va_up_ne _ _ (by omega)).trans (va_up_self ..)))) rfl 2 (by decide) (hts _ kw_163) (fun _ h9 => h9) rfl hin rfl (by decide +kernel) (rfl) (rfl) (Nat.le_of_ble_eq_true rfl) d_Search_init_47 (fun H locs hw hS => ?_)
  have hw := nw_W.as (wn' := va_up (va_up (va_up (va_up (wn) (4) (some (.inr (4, [.ref (ad3 (1)), .ref (ad3 (2)), .ref (ad3 (3)), .ref (ad3 (109)), .ref (ad3 (110)), .ref (ad3 (5)), .long ((-1)), .int (nI 0), .int (nI 0), .int (nI 0)])))) (109) (some (.inl (tC 0, 6, .inl (fun _ => 0))))) (110) (some (.inl (tC 0, 6, .inl (fun _ => 0))))) (5) (some (.inl (tC 1, 7, .inr (.inl (fun _ => 0)))))) hw (Eq.symm ((va_comm (by omega)).trans (va_cong ((va_comm (by omega)).trans (va_cong ((va_comm (by omega)).trans (va_cong (bx_uu _ _ _ _))))))))
  exact nw_vret hQ hx hb hr hlocks hw hS (⟨rfl, fun k g0 g1 g2 => by rw [had3 k (by omega)]; rw [had2 k (by omega)]; rw [had1 k (by omega)], rfl⟩) (Nat.le_of_ble_eq_true rfl) (Nat.le_of_ble_eq_true rfl) d_Search_init_50
