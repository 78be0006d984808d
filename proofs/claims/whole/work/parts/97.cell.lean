/-! THE LAW'S cell, and what is known at the law's entry -/
def cl_pre (D : va_G) (tys : List (ClassId × FieldType)) (A : Nat → Prop) (wn : nw_N) (ad : Nat → Nat) (b N : Nat) (xs : Nat → Int32) : State → Prop := fun U => nw_pre D hpC tys A wn ad U ∧ va_X b N xs U U.heap ∧ b < U.heap.size ∧ ¬ A b
theorem cl_blind {D : va_G} {tys : List (ClassId × FieldType)} {A : Nat → Prop} {wn : nw_N} {ad : Nat → Nat} {b N : Nat} {xs : Nat → Int32} {av : List Value} : FrameBlind (va_Pc av (cl_pre D tys A wn ad b N xs)) := by
  intro a U g mk h
  obtain ⟨h1, ⟨h2, h3, h4⟩, h5, h6, h7⟩ := h
  exact ⟨h1, ⟨h2, h3, nw_K.warm h4 (State.WarmedH.refl U)⟩, va_X.moved (u := U) (Vm.Alike.refl U.vm) h5, h6, h7⟩
theorem c_L_cell (l : Launch) (D : va_G) (tC : Nat → ClassId) (A : Nat → Prop) (ad : Nat → Nat) (wn : nw_N) (b N : Nat) (xs : Nat → Int32) (hN : N ≤ 3073) : nw_Met l y_L_cell [Cond.code y_L_cell b_L_cell 2 (some .int)] ({ frames := 0, cells := 0, slots := 0, locals := 0 } : Room) D hpC A [.ref b, .int (nI 0)] (cl_pre D (hpT tC) A wn ad b N xs) (nw_ok (some (.int (if 0 < N then xs 0 else 0))) wn ad) 0 0 := by
  refine nw_body (by decide) rfl (Nat.le_of_ble_eq_true rfl) ?_
  intro p e s m below meth c ls args Q hx hb hr hml hown hts hlocks hname hpre hS hl hQ
  obtain ⟨⟨hA, hw, hKs⟩, hX, hbl, hbA⟩ := hpre
  have hl : lv_has ls 2 [(0, .ref b), (1, .int (nI 0))] := hl
  refine lv_iload_n hx hb d_L_cell_0 rfl (lv_at hl 1 rfl) ?_
  refine lv_aload_n hx hb d_L_cell_1 rfl (lv_at hl 0 rfl) ?_
  refine va_slen hx hb hX hbl hbA hS d_L_cell_2 ?_
  refine lv_icmp_ge (tgt := 12) hx hb d_L_cell_3 (by decide) (fun c_3 => ?_) (fun c_3 => ?_)
  · have h0 : N ≤ 0 := (nI_leI (a := N) (b := 0) (by omega) (by omega)).mp c_3
    refine lv_iconst (v := nI 0) hx hb d_L_cell_12 (by decide) ?_
    exact nw_iret hQ hx hb hr hlocks hw hS ⟨by rw [if_neg (by omega)]; rfl, rfl, rfl⟩ (Nat.le_of_ble_eq_true rfl) (Nat.le_of_ble_eq_true rfl) d_L_cell_13
  · have h0 : 0 < N := Nat.not_le.mp (fun q => c_3 (nI_le (a := N) (b := 0) q (by omega)))
    refine lv_aload_n hx hb d_L_cell_6 rfl (lv_at hl 0 rfl) ?_
    refine lv_iload_n hx hb d_L_cell_7 rfl (lv_at hl 1 rfl) ?_
    refine va_sld hx hb hX hbl hbA hS (vp_in_nI h0 (by omega)) d_L_cell_8 ?_
    refine lv_ei (y := xs 0) (by rw [nI_clamp (by omega)]) ?_
    refine lv_goto (tgt := 13) hx hb d_L_cell_9 (by decide) ?_
    exact nw_iret hQ hx hb hr hlocks hw hS ⟨by rw [if_pos h0], rfl, rfl⟩ (Nat.le_of_ble_eq_true rfl) (Nat.le_of_ble_eq_true rfl) d_L_cell_13
section CLG
variable {p : Program} {l : Launch} {e : Env} {R : Room} {s : State} {m : MethodId} {args : Array Value} {below : List Frame} {meth : Method} {c : Code} {H : Heap} {locs : List Loc} {cells slots : Nat}
variable {cc : ByteArray} {pc : Nat} {ls : Array Slot} {rest As : List Value} {D : va_G} {A : Nat → Prop} {tys : List (ClassId × FieldType)} {wn : nw_N} {ad : Nat → Nat} {mc ms nL maxL index n b N : Nat} {xs : Nat → Int32} {Post : nw_P} {own : String} {y : MethodName} {bytes : ByteArray} {ret : Option FieldType} {rm : Room}
theorem cl_goS (S : CallFix p m c cc nL s args nw_T own) (hA : ∀ q, s.heap.size ≤ q → A q) (hKs : nw_K D hpC tys s) (hw : nw_W D hpC A wn ad H) (hS : va_S A s.heap H locs) (hX : va_X b N xs s s.heap) (hbl : b < s.heap.size) (hbA : ¬ A b) (hM : nw_Met l y [Cond.code y bytes maxL ret] rm D hpC A As (cl_pre D tys A wn ad b N xs) Post mc ms)
    (hcode : Cond.code y bytes maxL ret ∈ nw_T) (hlink : Cond.methodLink own index y ∈ nw_T) (hst : Cond.static y ∈ nw_T) (hini : Cond.initialized y.cls ∈ nw_T) (hrc : rm.cells = mc) (hrs : rm.slots = ms) (hd : y.cls ≠ "java/lang/invoke/MethodHandle" ∧ y.cls ≠ "java/lang/invoke/VarHandle" ∧ (parseMethodDescriptor y.desc).map (fun d => d.parameters.length) = some n) (hR : rm.frames + 1 ≤ R.frames ∧ 8 + (maxL + 11) + rm.locals ≤ R.locals)
    (hn : As.length = n) (hsize : ls.size = nL) (hW : (rest.map fun v => v.category).sum ≤ 8) (hdg : decode cc pc = .ok (.invokestatic index, 3)) (hf : cells + mc ≤ R.cells ∧ slots + ms ≤ R.slots) :
    va_Run p l e R s m args below meth c H locs cells slots mc ms (F0 m pc ls (As.reverse ++ rest)) rest (nw_Q D hpC A Post As.toArray) A :=
  va_runS S hM ⟨callB_of n S.2.2.2.2 (nw_T_good (nw_T1 hcode)) rfl hrc hrs (S.2.2.2.2 _ hini) (S.2.2.2.2 _ hlink) hd hR, S.2.2.2.2 _ hst⟩ ⟨cl_blind, fun U hU hW => ⟨rfl, (nw_preNow (av := As) hA hKs hw hS U hU hW).2, by rw [hU]; exact va_X.moved hW.alike (hX.kept (hS.2.1 b hbl hbA)), by rw [hU]; exact Nat.lt_of_lt_of_le hbl hS.1, hbA⟩⟩ rfl hn hsize rfl (lv_room hW) hdg hf
end CLG
theorem ar_prim {s : State} {args : Array Value} {ty : FieldType} (h : (Cond.arrayClass ty).before args s = true) : ∃ cA : ClassId, ArrOfT s cA ty ∧ s.vm.findClass ("[" ++ ty.toString) = some cA := by
  obtain ⟨cA, kA, comp, hfind, hk, hkind⟩ := Cond.arrayClass_spec h
  exact ⟨cA, fun n z => ⟨fun k h => (by cases h), kA, hk, comp, hkind⟩, hfind⟩
theorem ar_obj {s : State} {C : String} (h : va_AO C s) : ∃ cA : ClassId, ArrOfT s cA (.object C) ∧ va_RA s cA (.object C) := by
  obtain ⟨comp, c, k, h1, h2, h3, h4, h5⟩ := Cond.arrayOver_spec h
  exact ⟨c, fun n z => ⟨fun k h => (by cases h), k, h3, comp, h4⟩, k, comp, h3, h4, h1, h5⟩
theorem nest_of {w : Cond} {args : Array Value} {s : State} (hn : nw_nest w = true) (h : w.before args s = true) : va_Nw w s := by
  cases w with
  | fieldLinkNest => exact va_Nw.of rfl h
  | methodLinkNest => exact va_Nw.of rfl h
  | arrayOver ty =>
    cases ty with
    | object C => exact va_AO.of h
    | _ => simp [nw_nest] at hn
  | _ => simp [nw_nest] at hn
theorem hp_known {s : State} {args : Array Value} (hts : ∀ w ∈ lw_tbl, w.before args s = true) : ∃ (D : va_G) (tC : Nat → ClassId), nw_K D hpC (hpT tC) s := by
  have hT : ∀ w ∈ nw_T, w.before args s = true := fun w hw => hts w (List.mem_filter.mp hw).1
  have hT0 : ∀ w ∈ nw_T, w.before #[] s = true := fun w hw => word_at (State.WarmedH.refl s) (good_of_word (List.mem_filter.mp hw).2) (hT w hw)
  have hNe : ∀ w ∈ lw_tbl, nw_nest w = true → va_Nw w s := fun w hw hn => nest_of hn (hts w hw)
  obtain ⟨c0, i0, k0⟩ := u_known (C := "HarvestPlans") (T := F_X) (N := 6) (n := 6) hT i_X (hT _ kw_20)
  obtain ⟨c1, i1, k1⟩ := u_known (C := "HarvestPlans$Farm") (T := F_Farm) (N := 13) (n := 13) hT i_Farm (hT _ kw_28)
  obtain ⟨c2, i2, k2⟩ := u_known (C := "HarvestPlans$Rules") (T := F_Rules) (N := 5) (n := 5) hT i_Rules (hT _ kw_116)
  obtain ⟨c3, i3, k3⟩ := u_known (C := "HarvestPlans$Sales") (T := F_Sales) (N := 3) (n := 3) hT i_Sales (hT _ kw_138)
  obtain ⟨c4, i4, k4⟩ := u_known (C := "HarvestPlans$Search") (T := F_Search) (N := 10) (n := 10) hT i_Search (hT _ kw_155)
  obtain ⟨c5, i5, k5⟩ := u_known (C := "HarvestPlans$Place") (T := F_Place) (N := 2) (n := 2) hT i_Place (hT _ kw_362)
  obtain ⟨c6, i6, k6⟩ := u_known (C := "HarvestPlans$Cage") (T := F_Cage) (N := 3) (n := 3) hT i_Cage (hT _ kw_405)
  obtain ⟨c7, i7, k7⟩ := u_known (C := "HarvestPlans$Boat") (T := F_Boat) (N := 2) (n := 2) hT i_Boat (hT _ kw_447)
  obtain ⟨c8, i8, k8⟩ := u_known (C := "HarvestPlans$Order") (T := F_Order) (N := 5) (n := 5) hT i_Order (hT _ kw_249)
  obtain ⟨c9, i9, k9⟩ := u_known (C := "HarvestPlansModel") (T := F_M) (N := 33) (n := 33) hT i_M (hT _ kw_654)
  obtain ⟨a0, b0, d0⟩ := ar_prim (hT _ kw_114)
  obtain ⟨a1, b1, d1⟩ := ar_prim (hT _ kw_195)
  obtain ⟨a2, b2, d2⟩ := ar_prim (hT _ kw_377)
  obtain ⟨a3, b3, d3⟩ := ar_obj (hNe _ (List.mem_append_right _ kt_40) rfl)
  obtain ⟨a4, b4, d4⟩ := ar_obj (hNe _ (List.mem_append_right _ kt_42) rfl)
  obtain ⟨a5, b5, d5⟩ := ar_obj (hNe _ (List.mem_append_right _ kt_44) rfl)
  obtain ⟨a6, b6, d6⟩ := ar_obj (hNe _ (List.mem_append_right _ kt_46) rfl)
  refine ⟨(fun k => match k with | 0 => c0 | 1 => c1 | 2 => c2 | 3 => c3 | 4 => c4 | 5 => c5 | 6 => c6 | 7 => c7 | 8 => c8 | _ => c9, fun k => match k with | 0 => i0 | 1 => i1 | 2 => i2 | 3 => i3 | 4 => i4 | 5 => i5 | 6 => i6 | 7 => i7 | 8 => i8 | _ => i9), fun k => match k with | 0 => a0 | 1 => a1 | 2 => a2 | 3 => a3 | 4 => a4 | 5 => a5 | _ => a6, ⟨fun k q hq => ?_, fun k q hq => ?_⟩, hT0, hNe⟩
  · match k, hq with
    | 0, hq => cases hq; exact k0
    | 1, hq => cases hq; exact k1
    | 2, hq => cases hq; exact k2
    | 3, hq => cases hq; exact k3
    | 4, hq => cases hq; exact k4
    | 5, hq => cases hq; exact k5
    | 6, hq => cases hq; exact k6
    | 7, hq => cases hq; exact k7
    | 8, hq => cases hq; exact k8
    | 9, hq => cases hq; exact k9
    | k + 10, hq => simp [hpC] at hq
  · match k, hq with
    | 0, hq => cases hq; exact ⟨b0, d0⟩
    | 1, hq => cases hq; exact ⟨b1, d1⟩
    | 2, hq => cases hq; exact ⟨b2, d2⟩
    | 3, hq => cases hq; exact ⟨b3, d3⟩
    | 4, hq => cases hq; exact ⟨b4, d4⟩
    | 5, hq => cases hq; exact ⟨b5, d5⟩
    | 6, hq => cases hq; exact ⟨b6, d6⟩
    | k + 7, hq => simp [hpT] at hq
