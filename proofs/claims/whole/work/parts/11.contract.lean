/-! CONTRACTS over named worlds: a method returns, and the named world is another one then -/
abbrev nw_P : Type := Option Value → nw_N → (Nat → Nat) → Prop
def nw_Q (D : va_G) (cl : List vw_C) (A : Nat → Prop) (Post : nw_P) : Array Value → State → Outcome → State → Prop := fun _ st o t =>
  (∃ (v : Option Value) (wn : nw_N) (ad : Nat → Nat), o = .returned v ∧ Post v wn ad ∧ nw_W D cl A wn ad t.heap) ∧ va_F A st t
abbrev nw_Met (l : Launch) (y : MethodName) (ws : List Cond) (rm : Room) (D : va_G) (cl : List vw_C) (A : Nat → Prop) (av : List Value) (pre : State → Prop) (Post : nw_P) (mc ms : Nat) : Prop :=
  Met l y ws rm (va_Pc av pre) (nw_Q D cl A Post) mc ms A
/-- it returns v, the world is (wn, ad) then -/
def nw_ok (v : Option Value) (wn : nw_N) (ad : Nat → Nat) : nw_P := fun o wn' ad' => o = v ∧ wn' = wn ∧ ad' = ad
theorem nw_ok_rf {v : Option Value} {wn : nw_N} {ad : Nat → Nat} : nw_ok v wn ad v wn ad := ⟨rfl, rfl, rfl⟩
section NWC
variable {p : Program} {l : Launch} {e : Env} {R : Room} {s : State} {m : MethodId} {args : Array Value} {below : List Frame} {meth : Method} {c : Code} {H : Heap} {locs : List Loc} {cells slots : Nat} {Q : State → Prop}
variable {cc : ByteArray} {pc : Nat} {ls : Array Slot} {rest st0 : List Value} {D : va_G} {cl : List vw_C} {A : Nat → Prop} {H0 : Heap} {wn : nw_N} {ad : Nat → Nat} {mc ms : Nat} {a : Array Value} {Post : nw_P}
theorem nw_keep {st₀ t T' : State} {L : List Loc} (h0 : st₀.heap = H) (e1 : T'.heap = t.heap) (hS : va_S A H0 H locs) (hL : ∀ q ∈ L, A q.base) (hF : va_F A st₀ t) : va_S A H0 T'.heap (locs ++ L) := by
  obtain ⟨hz, hk⟩ := hF
  rw [h0] at hz hk
  refine ⟨Nat.le_trans hS.1 (by rw [e1]; exact hz), fun q h1 h2 => ?_, fun q hq => ?_⟩
  · rw [e1, hk q (Nat.lt_of_lt_of_le h1 hS.1) h2]
    exact hS.2.1 q h1 h2
  · rcases List.mem_append.mp hq with h | h
    · exact hS.2.2 q h
    · exact hL q h
theorem nw_call (hr : va_Run p l e R s m args below meth c H locs cells slots mc ms (F0 m pc ls st0) rest (nw_Q D cl A Post a) A) (hS : va_S A H0 H locs)
    (kk : ∀ (v : Option Value) (wn' : nw_N) (ad' : Nat → Nat) (H1 : Heap) (locs1 : List Loc), Post v wn' ad' → nw_W D cl A wn' ad' H1 → va_S A H0 H1 locs1 → W p l e R s m args below meth c H1 locs1 (cells + mc) (slots + ms) Q (F0 m (pc + 3) ls (v.toList ++ rest))) : W p l e R s m args below meth c H locs cells slots Q (F0 m pc ls st0) := by
  intro T hT X
  obtain ⟨v, st₀, t, T', L, h0, X', hL, e1, e2, ⟨⟨v', wn', ad', hv, hp, hb⟩, hF⟩, st⟩ := hr T hT X
  cases hv
  obtain ⟨t2, a1, b1⟩ := kk v wn' ad' T'.heap (locs ++ L) hp (by rw [e1]; exact hb) (nw_keep h0 e1 hS hL hF) T' rfl X'
  exact ⟨t2, st t2 a1, b1⟩
/-- a call that returns v and leaves the world (wn1, ad1) -/
theorem nw_callD {v : Option Value} {wn1 : nw_N} {ad1 : Nat → Nat} (hr : va_Run p l e R s m args below meth c H locs cells slots mc ms (F0 m pc ls st0) rest (nw_Q D cl A (nw_ok v wn1 ad1) a) A) (hS : va_S A H0 H locs)
    (kk : ∀ (H1 : Heap) (locs1 : List Loc), nw_W D cl A wn1 ad1 H1 → va_S A H0 H1 locs1 → W p l e R s m args below meth c H1 locs1 (cells + mc) (slots + ms) Q (F0 m (pc + 3) ls (v.toList ++ rest))) : W p l e R s m args below meth c H locs cells slots Q (F0 m pc ls st0) :=
  nw_call hr hS (fun v' wn' ad' H1 locs1 hp hw hS1 => by
    obtain ⟨rfl, rfl, rfl⟩ := hp
    exact kk H1 locs1 hw hS1)
theorem nw_iret {v : Int32} (hQ : Q = MQ below (nw_Q D cl A Post) args s mc ms A) (hexec : p.tables.exec = Jvm.exec) (hb : c.code = cc) (hr : meth.sig.returnType = some .int) (hlocks : meth.locks = false) (hw : nw_W D cl A wn ad H) (hS : va_S A s.heap H locs) (hp : Post (some (.int v)) wn ad) (hc : cells ≤ mc) (hs : slots ≤ ms) (hdg : decode cc pc = .ok (.ireturn, 1)) :
    W p l e R s m args below meth c H locs cells slots Q (F0 m pc ls [.int v]) := by
  subst hQ
  exact W.widen hc hs (W.iret hexec hb hr (fun t ht _ => ⟨⟨_, wn, ad, rfl, hp, by rw [ht]; exact hw⟩, hS.F ht⟩) hS.2.2 hdg hlocks)
theorem nw_zret {v : Int32} (hQ : Q = MQ below (nw_Q D cl A Post) args s mc ms A) (hexec : p.tables.exec = Jvm.exec) (hb : c.code = cc) (hr : meth.sig.returnType = some .boolean) (hv : v = 0 ∨ v = 1) (hlocks : meth.locks = false) (hw : nw_W D cl A wn ad H) (hS : va_S A s.heap H locs) (hp : Post (some (.int v)) wn ad) (hc : cells ≤ mc) (hs : slots ≤ ms) (hdg : decode cc pc = .ok (.ireturn, 1)) :
    W p l e R s m args below meth c H locs cells slots Q (F0 m pc ls [.int v]) := by
  subst hQ
  exact W.widen hc hs (W.zret hexec hb hr (by rcases hv with rfl | rfl <;> rfl) (fun t ht _ => ⟨⟨_, wn, ad, rfl, hp, by rw [ht]; exact hw⟩, hS.F ht⟩) hS.2.2 hdg hlocks)
theorem nw_lret {v : Int64} (hQ : Q = MQ below (nw_Q D cl A Post) args s mc ms A) (hexec : p.tables.exec = Jvm.exec) (hb : c.code = cc) (hr : meth.sig.returnType = some .long) (hlocks : meth.locks = false) (hw : nw_W D cl A wn ad H) (hS : va_S A s.heap H locs) (hp : Post (some (.long v)) wn ad) (hc : cells ≤ mc) (hs : slots ≤ ms) (hdg : decode cc pc = .ok (.lreturn, 1)) :
    W p l e R s m args below meth c H locs cells slots Q (F0 m pc ls [.long v]) := by
  subst hQ
  exact W.widen hc hs (W.lret hexec hb hr (fun t ht _ => ⟨⟨_, wn, ad, rfl, hp, by rw [ht]; exact hw⟩, hS.F ht⟩) hS.2.2 hdg hlocks)
theorem nw_vret (hQ : Q = MQ below (nw_Q D cl A Post) args s mc ms A) (hexec : p.tables.exec = Jvm.exec) (hb : c.code = cc) (hr : meth.sig.returnType = none) (hlocks : meth.locks = false) (hw : nw_W D cl A wn ad H) (hS : va_S A s.heap H locs) (hp : Post none wn ad) (hc : cells ≤ mc) (hs : slots ≤ ms) (hdg : decode cc pc = .ok (.return_, 1)) :
    W p l e R s m args below meth c H locs cells slots Q (F0 m pc ls []) := by
  subst hQ
  exact W.widen hc hs (W.vret hexec hb hr (fun t ht _ => ⟨⟨_, wn, ad, rfl, hp, by rw [ht]; exact hw⟩, hS.F ht⟩) hS.2.2 hdg hlocks)
end NWC
/-- a method's body, from its entry -/
theorem nw_body {l : Launch} {y : MethodName} {ws ws' : List Cond} {rm : Room} {D : va_G} {cl : List vw_C} {A : Nat → Prop} {av : List Value} {pre : State → Prop} {Post : nw_P} {mc ms : Nat} {cc : ByteArray} {maxL : Nat} {ret : Option FieldType}
    (hy : plainName y.cls = true) (hw : ws = Cond.code y cc maxL ret :: ws') (hlen : (lg_sl av).length ≤ maxL)
    (body : ∀ (p : Program) (e : Env) (s : State) (m : MethodId) (below : List Frame) (meth : Method) (c : Code) (ls : Array Slot) (args : Array Value) (Q : State → Prop), p.tables.exec = Jvm.exec → c.code = cc → meth.sig.returnType = ret → c.maxLocals = maxL → s.vm.findClass y.cls = some m.cls → (∀ w ∈ ws, w.before args s = true) → meth.locks = false → meth.name = y.name → pre s → va_S A s.heap s.heap [] → lv_has ls maxL (lv_args 0 av) → Q = MQ below (nw_Q D cl A Post) args s mc ms A →
      W p l e rm s m args below meth c s.heap [] 0 0 Q (F0 m 0 ls [])) : nw_Met l y ws rm D cl A av pre Post mc ms := by
  refine Met.ofW (cc := cc) (maxL := maxL) (ret := ret) hy hw ?_
  intro p e s m args below meth c s₁ B hml hv
  obtain ⟨rfl, hpre⟩ := hv
  have hl := lv_entry av (n := maxL) hlen
  rw [lg_entry_eq]
  exact body p e s m below meth c _ _ _ B.exec B.bytes B.returns hml (findClass_of_methodNamed B.named) (atoms_spec (ws := ws) B.pre) B.notSynchronized (name_of_methodNamed B.named B.method).1 hpre va_S.rf hl rfl
