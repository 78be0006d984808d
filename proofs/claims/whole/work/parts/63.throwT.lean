/-! THE THROW ITSELF, and the entry of methods that may throw -/
/-- U comes later than s0: its tables are warmer, the cells of s0 are as they were -/
def nx_B (s0 U : State) : Prop := s0.WarmedH U.vm ∧ s0.heap.size ≤ U.heap.size ∧ ∀ q : Nat, q < s0.heap.size → U.heap[q]? = s0.heap[q]?
theorem nx_tab {s0 U : State} (h : s0.WarmedH U.vm) {w : Cond} (h1 : w.onTables = true) (h2 : w.keepsFace = true) {a a' : Array Value} (hw : w.before a s0 = true) : w.before a' U = true := by
  have h3 := Cond.before_shiftedFace (State.Shifted.of_warmed h) w h2 hw
  rw [Cond.onTables_vm (A' := a') (U' := U) U.vm w h1] at h3
  rwa [State.setVm_self] at h3
theorem nx_stat {s0 U : State} (h : nx_B s0 U) {C f d : String} {a a' : Array Value} (hw : (Cond.isRef (.static C f d)).before a s0 = true) : (Cond.isRef (.static C f d)).before a' U = true := by
  have h3 := Cond.before_shiftedFace (State.Shifted.of_warmed h.1) _ (by rfl) hw
  simp only [Cond.before, Cond.holds, Cond.value] at h3 ⊢
  have key : ∀ v, (Term.static C f d).eval a (s0.setVm U.vm) none [] (s0.setVm U.vm) = some v → (Term.static C f d).eval a' U none [] U = some v := by
    intro v hv
    simp only [Term.eval] at hv ⊢
    have e1 : (s0.setVm U.vm).fieldNamed? C f d true = U.fieldNamed? C f d true := rfl
    rw [e1] at hv
    cases hn : U.fieldNamed? C f d true with
    | none => rw [hn] at hv; cases hv
    | some x =>
      obtain ⟨c, k, i⟩ := x
      rw [hn] at hv
      simp only [Option.bind_eq_bind, Option.bind_some] at hv ⊢
      cases hs : k.statics with
      | none => rw [hs] at hv; cases hv
      | some q =>
        rw [hs] at hv
        simp only [Option.bind_some] at hv ⊢
        cases hc : (s0.setVm U.vm).heap[q]? with
        | none => rw [hc] at hv; cases hv
        | some cell =>
          have hq : U.heap[q]? = some cell := by
            rw [h.2.2 q (Array.getElem?_eq_some_iff.mp hc).1]; exact hc
          rw [hc] at hv
          rw [hq]
          exact hv
  cases hv : (Term.static C f d).eval a (s0.setVm U.vm) none [] (s0.setVm U.vm) with
  | none => rw [hv] at h3; simp at h3
  | some v =>
    rw [key v hv]
    rw [hv] at h3
    exact h3
theorem nx_laysS {s0 U : State} (h : nx_B s0 U) {C f d : String} {a a' : Array Value} (hw : (Cond.laysStatic C f d).before a s0 = true) : (Cond.laysStatic C f d).before a' U = true := by
  have h3 := Cond.before_shiftedFace (State.Shifted.of_warmed h.1) _ (by rfl) hw
  simp only [Cond.before, Cond.holds, Cond.value] at h3 ⊢
  have e1 : (s0.setVm U.vm).vm = U.vm := rfl
  have e2 : (s0.setVm U.vm).fieldFound? C f d = U.fieldFound? C f d := rfl
  rw [e1, e2] at h3
  cases h1 : U.vm.findClass C with
  | none => rw [h1] at h3; simp at h3
  | some c =>
    cases h2 : U.fieldFound? C f d with
    | none => rw [h1, h2] at h3; simp at h3
    | some x =>
      obtain ⟨c', k, i, fd⟩ := x
      rw [h1, h2] at h3
      cases hs : k.statics with
      | none => simp [hs] at h3
      | some q =>
        cases hc : s0.heap[q]? with
        | none => simp [hs, hc] at h3
        | some cell =>
          have hq : U.heap[q]? = some cell := by
            rw [h.2.2 q (Array.getElem?_eq_some_iff.mp hc).1]; exact hc
          simp [hs, hc] at h3
          simp [hs, hq]
          exact h3
/-- what the claim gives of its start, as far as throws want it -/
def nx_F (s0 : State) : Prop := (∀ w ∈ tables_1, w.before #[] s0 = true) ∧ (Cond.isRef (.static "java/lang/Throwable" "UNASSIGNED_STACK" "[Ljava/lang/StackTraceElement;")).before #[] s0 = true ∧ (Cond.isRef (.static "java/lang/Throwable" "SUPPRESSED_SENTINEL" "Ljava/util/List;")).before #[] s0 = true ∧ (Cond.not (Cond.castable "java/lang/IllegalStateException" "java/lang/IllegalArgumentException")).before #[] s0 = true
def nx_okw (w : Cond) : Bool := (w.onTables && w.keepsFace && decide (w ∈ tables_1)) || decide (w = Cond.isRef (.static "java/lang/Throwable" "UNASSIGNED_STACK" "[Ljava/lang/StackTraceElement;")) || decide (w = Cond.isRef (.static "java/lang/Throwable" "SUPPRESSED_SENTINEL" "Ljava/util/List;")) || decide (w = Cond.laysStatic "java/lang/Throwable" "UNASSIGNED_STACK" "[Ljava/lang/StackTraceElement;") || decide (w = Cond.laysStatic "java/lang/Throwable" "SUPPRESSED_SENTINEL" "Ljava/util/List;")
theorem nx_word {s0 U : State} (hF : nx_F s0) (h : nx_B s0 U) {w : Cond} (hw : nx_okw w = true) {a : Array Value} : w.before a U = true := by
  simp only [nx_okw, Bool.or_eq_true, Bool.and_eq_true, decide_eq_true_eq] at hw
  rcases hw with (((⟨⟨h1, h2⟩, h3⟩ | rfl) | rfl) | rfl) | rfl
  · exact nx_tab h.1 h1 h2 (hF.1 _ h3)
  · exact nx_stat h hF.2.1
  · exact nx_stat h hF.2.2.1
  · exact nx_laysS h (hF.1 _ kt_298)
  · exact nx_laysS h (hF.1 _ kt_300)
def nx_RE : List String := ["java/lang/RuntimeException", "java/lang/Exception"]
theorem nx_atA : (Jvm.Bundle.ownAtoms "HarvestPlans" 217 "java/lang/IllegalArgumentException" nx_RE).all nx_okw = true := by decide +kernel
theorem nx_atS : (Jvm.Bundle.ownAtoms "HarvestPlans" 210 "java/lang/IllegalStateException" nx_RE).all nx_okw = true := by decide +kernel
