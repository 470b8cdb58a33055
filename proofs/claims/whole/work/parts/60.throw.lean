section
/-! throws: what the tables and the heap must say; a contract of a method that throws; a call of it, going on out, or caught -/
def xIOB : String := "java/lang/IndexOutOfBoundsException"
def xIAE : String := "java/lang/IllegalArgumentException"
def xISE : String := "java/lang/IllegalStateException"
def xCls : List String := [xIOB, xIAE, xISE]
def xNames : List String := ["java/lang/RuntimeException", "java/lang/Exception"]
def xSpec : List Cond := [.declares (Bundle.initS "java/lang/RuntimeException"), .declares (Bundle.initS "java/lang/Exception"), .declares (Bundle.initS Bundle.tN), .castable xIOB xIOB, .castable xIAE xIAE, .castable xISE xISE]
def xNot : List Cond := [.not (.castable xIAE xIOB), .not (.castable xISE xIOB)]
def xStr : List (Nat × String) := [(201, "no such net"), (62, "no place"), (69, "no radius"), (75, "no gap"), (83, "not so many nets"), (117, "no resistances"), (125, "no such end or part"), (134, "no parts"), (148, "no such row"), (162, "no such suspect or what"), (178, "no such point"), (180, "no force"), (190, "no such character")]
def xSta : List (String × String) := [("UNASSIGNED_STACK", Bundle.steD), ("SUPPRESSED_SENTINEL", Bundle.listD)]
/-- a static of Throwable holds a reference or null, at a place outside A -/
def SX (A : Nat → Prop) (U : State) (q : String × String) : Prop := ∃ c k i f a cell, ∃ u : RefV, U.vm.findClass Bundle.tN = some c ∧ U.fieldFound? Bundle.tN q.1 q.2 = some (c, k, i, f) ∧ f.isStatic = true ∧ k.statics = some a ∧ U.heap[a]? = some cell ∧ cell.vm.isStatics = true ∧ cell.cls = c ∧ f.slot < cell.slots.size ∧ k.staticTypes[f.slot]? = some f.type ∧ cell.slots[f.slot]? = some u.v ∧ ¬ A a
theorem SX.moved {A : Nat → Prop} {s U : State} {q : String × String} (hW : s.WarmedH U.vm) (hh : ∀ x, x < s.heap.size → ¬ A x → U.heap[x]? = s.heap[x]?) (h : SX A s q) : SX A U q := by
  obtain ⟨c, k, i, f, a, cell, u, h1, h2, h3, h4, h5, h6, h7, h8, h9, h10, h11⟩ := h
  obtain ⟨k2, hk2, he⟩ := State.fieldFound?_setVm hW.alike h2
  refine ⟨c, k2, i, f, a, cell, u, by rw [hW.alike.findClass]; exact h1, hk2, h3, by rw [he]; exact h4, ?_, h6, h7, h8, by rw [he]; exact h9, h10, h11⟩
  rw [hh a (Array.getElem?_eq_some_iff.mp h5).1 h11]; exact h5
theorem SX.narrow {A B : Nat → Prop} {U : State} {q : String × String} (hB : ∀ x, B x → A x) (h : SX A U q) : SX B U q := by
  obtain ⟨c, k, i, f, a, cell, u, h1, h2, h3, h4, h5, h6, h7, h8, h9, h10, h11⟩ := h
  exact ⟨c, k, i, f, a, cell, u, h1, h2, h3, h4, h5, h6, h7, h8, h9, h10, fun q => h11 (hB _ q)⟩
theorem SX.lays {A : Nat → Prop} {U : State} {q : String × String} {a' : Array Value} (h : SX A U q) : (Cond.laysStatic Bundle.tN q.1 q.2).before a' U = true := by
  obtain ⟨c, k, i, f, a, cell, u, h1, h2, h3, h4, h5, h6, h7, h8, h9, h10, h11⟩ := h
  simp [Cond.before, Cond.holds, Cond.value, h1, h2, h3, h4, h5, h6, h7, h8, h9]
theorem SX.ref {A : Nat → Prop} {U : State} {q : String × String} {a' : Array Value} (h : SX A U q) : (Cond.isRef (.static Bundle.tN q.1 q.2)).before a' U = true := by
  obtain ⟨c, k, i, f, a, cell, u, h1, h2, h3, h4, h5, h6, h7, h8, h9, h10, h11⟩ := h
  have he : (Term.static Bundle.tN q.1 q.2).eval a' U none [] U = some u.v := by
    simp [Term.eval, State.fieldNamed?, h2, h3, h4, h5, h6, h10]
  have hu := u.ok
  simp only [Cond.before, Cond.holds, Cond.value, he]
  cases hv : u.v <;> simp [hv, Value.isRef] at hu ⊢
theorem SX.of {U : State} {q : String × String} {A : Nat → Prop} {a' : Array Value} (h1 : (Cond.laysStatic Bundle.tN q.1 q.2).before a' U = true) (h2 : (Cond.isRef (.static Bundle.tN q.1 q.2)).before a' U = true) (hA : ∀ a, a < U.heap.size → ¬ A a) : SX A U q := by
  obtain ⟨c, k, i, f, a, cell, g1, g2, g3, g4, g5, g6, g7, g8, g9⟩ := Cond.laysStatic_spec h1
  obtain ⟨u, hu⟩ := Cond.staticRefV g2 g3 g4 g5 g6 h2
  exact ⟨c, k, i, f, a, cell, u, g1, g2, g3, g4, g5, g6, g7, g8, g9, hu, hA _ (Array.getElem?_eq_some_iff.mp g5).1⟩
def TX (A : Nat → Prop) (U : State) : Prop := (∀ w ∈ xSpec, w.before #[] U = true) ∧ (∀ w ∈ xNot, w.before #[] U = true) ∧ (∀ q ∈ xSta, SX A U q) ∧ ∀ q ∈ xStr, ∃ a, vk_R "ProbeChoice" q.1 q.2 a U
theorem va_mv {c : Cond} (hc : c.onTables = true) {u U : State} (h : c.before #[] (u.setVm U.vm) = true) : c.before #[] U = true := by
  have e := Cond.onTables_vm (A := #[]) (A' := #[]) (U := u) (U' := U) U.vm c hc
  have hU : U.setVm U.vm = U := rfl
  rw [hU] at e
  rw [← e]
  exact h
theorem TX.moved {A : Nat → Prop} {s U : State} (hW : s.WarmedH U.vm) (hh : ∀ x, x < s.heap.size → ¬ A x → U.heap[x]? = s.heap[x]?) (h : TX A s) : TX A U := by
  obtain ⟨h1, h2, h3, h4⟩ := h
  refine ⟨?_, ?_, fun q hq => (h3 q hq).moved hW hh, fun q hq => ?_⟩
  · simp only [xSpec, List.forall_mem_cons] at h1 ⊢
    obtain ⟨a1, a2, a3, a4, a5, a6, -⟩ := h1
    refine ⟨va_mv rfl (by rw [Cond.declares_setVm hW.alike]; exact a1), va_mv rfl (by rw [Cond.declares_setVm hW.alike]; exact a2), va_mv rfl (by rw [Cond.declares_setVm hW.alike]; exact a3), va_mv rfl (by rw [Cond.castable_setVm hW.alike]; exact a4), va_mv rfl (by rw [Cond.castable_setVm hW.alike]; exact a5), va_mv rfl (by rw [Cond.castable_setVm hW.alike]; exact a6), fun _ h => absurd h List.not_mem_nil⟩
  · have tr : ∀ {a b : String}, (Cond.not (.castable a b)).before #[] s = true → (Cond.not (.castable a b)).before #[] U = true := by
      intro a b h
      have hv := Cond.holds_not_iff.mp h
      refine Cond.holds_not_iff.mpr ?_
      simp only [Cond.value, hW.alike.findClass, hW.alike.assignable] at hv ⊢
      exact hv
    simp only [xNot, List.forall_mem_cons] at h2 ⊢
    exact ⟨tr h2.1, tr h2.2.1, fun _ h => absurd h List.not_mem_nil⟩
  · obtain ⟨a, ha⟩ := h4 q hq
    exact ⟨a, ha.warm hW⟩
theorem TX.narrow {A B : Nat → Prop} {U : State} (hB : ∀ x, B x → A x) (h : TX A U) : TX B U := ⟨h.1, h.2.1, fun q hq => (h.2.2.1 q hq).narrow hB, h.2.2.2⟩
def xExt : List Cond := [.laysStatic Bundle.tN "UNASSIGNED_STACK" Bundle.steD, .laysStatic Bundle.tN "SUPPRESSED_SENTINEL" Bundle.listD, .isRef (.static Bundle.tN "UNASSIGNED_STACK" Bundle.steD), .isRef (.static Bundle.tN "SUPPRESSED_SENTINEL" Bundle.listD)]
def xOwn (ic : Nat) (X : String) : List Cond := (Bundle.ownAtoms "ProbeChoice" ic X xNames)
theorem xOwn_in : ∀ q ∈ [(127, xIOB), (64, xIAE), (136, xISE)], ∀ w ∈ xOwn q.1 q.2, w ∈ lw_gd ∨ w ∈ xSpec ∨ w ∈ xExt := by decide +kernel
theorem TX.own {A : Nat → Prop} {U : State} (hTB : TB U) (h : TX A U) {a' : Array Value} : ∀ q ∈ [(127, xIOB), (64, xIAE), (136, xISE)], ∀ w ∈ Bundle.ownAtoms "ProbeChoice" q.1 q.2 xNames, w.before a' U = true := by
  intro q hq w hw
  rcases xOwn_in q hq w hw with h1 | h1 | h1
  · exact hTB.hts a' w h1
  · have h2 := h.1 w h1
    simp only [xSpec, List.mem_cons, List.not_mem_nil, or_false] at h1
    rcases h1 with rfl | rfl | rfl | rfl | rfl | rfl <;> exact va_tabs rfl rfl h2
  · simp only [xExt, List.mem_cons, List.not_mem_nil, or_false] at h1
    rcases h1 with rfl | rfl | rfl | rfl
    · exact (h.2.2.1 ("UNASSIGNED_STACK", Bundle.steD) (by simp [xSta])).lays
    · exact (h.2.2.1 ("SUPPRESSED_SENTINEL", Bundle.listD) (by simp [xSta])).lays
    · exact (h.2.2.1 ("UNASSIGNED_STACK", Bundle.steD) (by simp [xSta])).ref
    · exact (h.2.2.1 ("SUPPRESSED_SENTINEL", Bundle.listD) (by simp [xSta])).ref
end
section
def RmT (h : Nat) : Room := { frames := h, cells := 1, slots := 6, locals := 64 * h }
/-- the cell x is an object of the class E -/
def IsX (E : String) (x : Nat) (U : State) : Prop := ∃ ce : Cell, U.heap[x]? = some ce ∧ ce.vm = .none ∧ U.vm.findClass E = some ce.cls
def QwT {S0 : Type} (D : va_G) (cl : List vw_C) (wf : S0 → va_W) (A : Nat → Prop) (σ : S0) (E : String) : Array Value → State → Outcome → State → Prop := fun _ st o t => ∃ x, o = .threw x ∧ IsX E x t ∧ va_P D cl (wf σ) t.heap ∧ va_D A (wf σ) ∧ va_F A st t
/-- A is the world's own places -/
def AW {S0 : Type} (wf : S0 → va_W) (A : Nat → Prop) : Prop := ∀ (σ : S0) (q : Nat), A q → ∃ (k : Nat) (e : va_E), (wf σ)[k]? = some (q, e)
def PwT {S0 : Type} (D : va_G) (cl : List vw_C) (tys : List (ClassId × FieldType)) (wf : S0 → va_W) (A : Nat → Prop) (as : List Value) (σ : S0) : Array Value → State → Prop := va_Pc as (fun U => TB U ∧ va_K D cl tys U ∧ va_P D cl (wf σ) U.heap ∧ va_D A (wf σ) ∧ TX A U ∧ AW wf A)
def TQ (below : List Frame) (Qc : Array Value → State → Outcome → State → Prop) (a : Array Value) (s : State) (mc ms : Nat) (free : Addr → Prop) : State → Prop := fun t =>
  ∃ o, t.status = .running ∧ Ended t below o ∧ Qc a s o t ∧ ∃ L, FrameEndT s o t L mc ms ∧ ∀ q ∈ L, free q.base
/-- THE CONTRACT OF A METHOD THAT THROWS: from σ with the arguments as, y throws an E, at the world as it was; one cell is new -/
def Ct {S0 : Type} (l : Launch) (D : va_G) (cl : List vw_C) (tys : List (ClassId × FieldType)) (wf : S0 → va_W) (y : MethodName) (cc : ByteArray) (nL : Nat) (ret : Option FieldType) (h : Nat) (as : List Value) (σ : S0) (σ' : S0) (E : String) : Prop :=
  ∀ A : Nat → Prop, MetFree l y (headSpec [.code y cc nL ret] (RmT h)) (PwT D cl tys wf A as σ) (fun _ _ _ _ _ => True) (fun a st o t => QwT D cl wf A σ' E a st o t ∧ ∃ L, FrameEndT st o t L 1 6 ∧ ∀ q ∈ L, A q.base)
section CT
variable {S0 : Type} {l : Launch} {D : va_G} {cl : List vw_C} {tys : List (ClassId × FieldType)} {wf : S0 → va_W} {y : MethodName} {cc : ByteArray} {nL : Nat} {ret : Option FieldType} {h : Nat} {as : List Value} {σ σ' : S0} {E : String}
theorem Ct.enter (hy : plainName y.cls = true) (hn : (lg_sl as).length ≤ nL)
    (body : ∀ (A : Nat → Prop) (p : Program) (e : Env) (s : State) (m : MethodId) (below : List Frame) (meth : Method) (c : Code), Cx p s m as.toArray c cc nL y.cls meth ret D cl tys → TX A s ∧ AW wf A ∧ c.exceptionTable.isEmpty = true → ∀ ls : Array Slot, lv_has ls nL (lv_args 0 as) → Wd D cl wf A s.heap σ s.heap [] →
      W p l e (RmT h) s m as.toArray below meth c s.heap [] 0 0 (TQ below (QwT D cl wf A σ' E) as.toArray s 1 6 A) (F0 m 0 ls [])) : Ct l D cl tys wf y cc nL ret h as σ σ' E := by
  intro A
  refine MetFree.of_bodyS (code := cc) (maxLocals := nL) (ret := ret) hy ?_ ?_
  · intro args s m h hn
    obtain ⟨meth, c, h1, h2, h3, h4, h5, h6, -, -⟩ := Cond.code_spec hn (atoms_spec (ws := [.code y cc nL ret]) h _ List.mem_cons_self)
    exact ⟨meth, c, h1, h2, h3, h4, h5, h6⟩
  · intro p e s m args below meth c s₁ B hml hv _
    have hh0 : s₁.heap = s.heap := by rw [B.state]; rfl
    obtain ⟨rfl, hTB, hK, hP, hD, hTX, hAW⟩ := hv
    have hl := lv_entry as (n := nL) hn
    have hE := B.noHandlers (atoms_spec (ws := [.code y cc nL ret]) B.pre _ List.mem_cons_self)
    obtain ⟨t, a1, o, b1, b2, b3⟩ := body A p e s m below meth c ⟨B.exec, B.bytes, hml, findClass_of_methodNamed B.named, hTB, hK, B.returns, B.notSynchronized⟩ ⟨hTX, hAW, hE⟩ _ hl ⟨hP, hD, va_S.rf⟩ s₁ hh0 (Stand.of_body B)
    rw [← lg_entry_eq] at a1
    exact ⟨t, o, a1, b1, b2, b3.1, b3.2⟩
end CT
end
section
theorem va_nostat {D : va_G} {cl : List vw_C} {q : Nat × va_E} {H : Heap} {cell : Cell} (h : va_at D cl q H) (hc : H[q.1]? = some cell) : cell.vm.isStatics = false := by
  obtain ⟨a, e⟩ := q
  cases e with
  | inl x =>
    have h1 : H[a]? = some (vp_cell x.1 x.2) := h
    cases Option.some.inj (h1.symm.trans hc)
    unfold vp_cell
    split <;> rfl
  | inr o =>
    obtain ⟨r, h1, h2⟩ := h
    obtain ⟨c1, g1, g2⟩ := h2
    cases Option.some.inj (g1.symm.trans hc)
    rw [g2.2.1]; rfl
/-- the method's first state, with the heap as it is now -/
abbrev rbS (s T : State) : State := { s with heap := T.heap, slotsUsed := T.slotsUsed }
theorem stand_rebase {p : Program} {l : Launch} {e : Env} {R : Room} {s : State} {m : MethodId} {args : Array Value} {below : List Frame} {meth : Method} {c : Code} {T : State} {locs : List Loc} (X : Stand p l e R s m args below meth c T locs 0 0) : Stand p l e R (rbS s T) m args below meth c T [] 0 0 := by
  have hsz : T.heap.size = s.heap.size := Nat.le_antisymm X.same.2.2.1 X.same.2.1
  have hsl : T.slotsUsed = s.slotsUsed := by
    have h1 : T.slotsUsed = s.slotsUsed + ((T.heap.toList.drop s.heap.size).map (·.slots.size)).sum := X.same.2.2.2.1
    have h2 : ((T.heap.toList.drop s.heap.size).map (·.slots.size)).sum ≤ 0 := X.same.2.2.2.2.1
    omega
  have hr := X.room
  refine ⟨X.admits, X.cas, X.clock, X.frames, ?_, X.hears, X.method, X.code, X.here, X.tail, X.warmed, X.limits, X.bytes, ?_⟩
  · have hb : (rbS s T).slotsTrue = true := X.book
    simp only [State.hasRoom, Bool.and_eq_true, decide_eq_true_eq] at hr ⊢
    refine ⟨⟨⟨hr.1.1.1, ?_⟩, ?_⟩, hb⟩
    · show T.heap.size + _ ≤ _
      rw [hsz]; exact hr.1.1.2
    · show T.slotsUsed + _ ≤ _
      rw [hsl]; exact hr.1.2
  · refine ⟨?_, Nat.le_refl _, Nat.le_refl _, ?_, ?_, fun a c h => ⟨c, h, rfl, rfl, fun _ _ => rfl⟩⟩
    · exact X.same.1
    · show T.slotsUsed = T.slotsUsed + ((T.heap.toList.drop T.heap.size).map (·.slots.size)).sum
      rw [List.drop_of_length_le (by simp)]; rfl
    · show ((T.heap.toList.drop T.heap.size).map (·.slots.size)).sum ≤ 0
      rw [List.drop_of_length_le (by simp)]; exact Nat.le_refl _
theorem same_eq {s t : State} {c n : Nat} (h : s.sameButNew t [] c n) : ∀ q, q < s.heap.size → t.heap[q]? = s.heap[q]? := by
  intro q hq
  obtain ⟨c', h1, h2, h3, h4⟩ := h.2.2.2.2.2 q s.heap[q] (Array.getElem?_eq_getElem hq)
  rw [h1, Array.getElem?_eq_getElem hq]
  have h5 : c'.slots = s.heap[q].slots := Array.ext_getElem? (fun i => h4 i List.not_mem_nil)
  rw [h2, h5]
end
section
section CT2
variable {S0 : Type} {p : Program} {l : Launch} {e : Env} {h : Nat} {s : State} {m : MethodId} {args : Array Value} {below : List Frame} {meth : Method} {c : Code} {H : Heap} {locs : List Loc}
variable {cc : ByteArray} {pc nL : Nat} {own : String} {ret : Option FieldType} {ls : Array Slot} {rest : List Value} {D : va_G} {cl : List vw_C} {tys : List (ClassId × FieldType)} {wf : S0 → va_W} {A : Nat → Prop} {σ σ' : S0}
theorem w_throw0 (hfl : l.flags = pinnedFlags ++ [noTraceFlag]) (hc : Cx p s m args c cc nL "ProbeChoice" meth ret D cl tys) (hX : TX A s ∧ AW wf A ∧ c.exceptionTable.isEmpty = true) (hP : va_P D cl (wf σ) s.heap) (hD : va_D A (wf σ)) {E : String} {ik is ic : Nat} {tx : String}
    (hq : (ic, E) ∈ [(127, xIOB), (64, xIAE), (136, xISE)]) (lk : Cond.classLink "ProbeChoice" ik E ∈ lw_gd ∧ Cond.instantiable E 6 ∈ lw_gd ∧ Cond.initialized E ∈ lw_gd) (hs : (is, tx) ∈ xStr) (hls : ls.size = nL) (hrm : (rest.map fun v => v.category).sum ≤ 8) (hh : 6 ≤ h)
    (d0 : decode cc pc = .ok (.new ik, 3)) (d1 : decode cc (pc + 3) = .ok (.dup, 1)) (d2 : decode cc (pc + 4) = .ok (.ldc is, 2)) (d3 : decode cc (pc + 6) = .ok (.invokespecial ic, 3)) (d4 : decode cc (pc + 9) = .ok (.athrow, 1)) :
    W p l e (RmT h) s m args below meth c s.heap [] 0 0 (TQ below (QwT D cl wf A σ E) args s 1 6 A) (F0 m pc ls rest) := by
  obtain ⟨hx, hb, hml, hown, hTB, hK, hr, hlk⟩ := hc
  obtain ⟨hTX, hAW, hE⟩ := hX
  have hat := hTX.own hTB (a' := args) _ hq
  obtain ⟨cX, kX, hfc, hk, -⟩ := Cond.instantiable_spec (hTB.hts args _ lk.2.1)
  obtain ⟨sa, hsa⟩ := hTX.2.2.2 _ hs
  refine W.newcK hx hb hown (hTB.hts args _ lk.1) (hTB.hts args _ lk.2.1) (hTB.hts args _ lk.2.2) rfl d0 (Nat.le_of_ble_eq_true rfl) (Nat.le_of_ble_eq_true rfl) hfc rfl fun H1 kC hkC e1 z1 o1 => ?_
  show W _ _ _ _ _ _ _ _ _ _ _ _ _ _ _ (F0 m (pc + 3) ls (.ref s.heap.size :: rest))
  refine lv_dup hx hb d1 rfl ?_
  refine va_ldcS hx hb hown hsa d2 ?_
  intro T hT X
  obtain ⟨U, st, run, ended, hWU, same, ce, hce, oc⟩ := X.ctorThrowS hx (Launch.traces_off hfl X.admits) (own := "ProbeChoice") (cls := E) (names := xNames) (ic := ic) hown
    (by simp only [List.mem_cons, Prod.mk.injEq, List.not_mem_nil, or_false] at hq; rcases hq with ⟨-, rfl⟩ | ⟨-, rfl⟩ | ⟨-, rfl⟩ <;> decide +kernel) (by decide +kernel) hat
    (fun x hx => absurd hx List.not_mem_nil)
    (a := s.heap.size) hfc hkC (by rw [hT]; exact e1) (Nat.le_refl _) (msg := .ref sa) rfl
    (g := F0 m (pc + 6) ls (.ref sa :: .ref s.heap.size :: .ref s.heap.size :: rest)) rfl (hls.trans hml.symm) rfl rfl (rest := rest) rfl (by rw [hb]; exact d3) (by rw [hb]; exact d4)
    (fun x hx => by
      have h0 : c.exceptionTable = #[] := Array.isEmpty_iff.mp hE
      rw [h0] at hx
      cases hx)
    (by show 5 < h; omega)
    (by
      have h1 : ((F0 m (pc + 6) ls (.ref sa :: .ref s.heap.size :: .ref s.heap.size :: rest)).monitorRoom) = 0 := rfl
      have h2 : xNames.length = 2 := rfl
      simp only [h1, h2, List.map_cons, List.sum_cons, RmT]
      have h3 : (Value.ref s.heap.size).category = 1 := rfl
      rw [h3]
      omega)
  have hold : ∀ q, q < s.heap.size → U.heap[q]? = s.heap[q]? := same_eq (t := { U with vm := s.vm }) same
  refine ⟨U, st, .threw s.heap.size, run, ended, ⟨s.heap.size, rfl, ⟨ce, hce, oc.vm, by rw [hWU.alike.findClass]; exact oc.cls⟩, hP.kept (fun k x hx => hold x.1 ((hP k x hx).lt)), hD, same.2.1, fun q h1 _ => hold q h1⟩, [], ⟨⟨_, rfl⟩, hWU, same⟩, fun q hq => absurd hq List.not_mem_nil⟩
theorem Cx.rebase {T : State} (hc : Cx p s m args c cc nL own meth ret D cl tys) : Cx p (rbS s T) m args c cc nL own meth ret D cl tys :=
  ⟨hc.1, hc.2.1, hc.2.2.1, hc.2.2.2.1, hc.2.2.2.2.1.moved (U := rbS s T) (State.WarmedH.refl s), va_K.moved (U := rbS s T) (Vm.Alike.refl s.vm) hc.2.2.2.2.2.1, hc.2.2.2.2.2.2.1, hc.2.2.2.2.2.2.2⟩
/-- from the state now as the first one -/
theorem w_rebase {Qc Qc' : Array Value → State → Outcome → State → Prop} {g : JFrame} {R : Room} (hS : va_S A s.heap H locs)
    (k : ∀ T : State, T.heap = H → W p l e R (rbS s T) m args below meth c T.heap [] 0 0 (TQ below Qc' args (rbS s T) 1 6 A) g)
    (hQ : ∀ (T : State) o t, T.heap = H → Qc' args (rbS s T) o t → Qc args s o t) :
    W p l e R s m args below meth c H locs 0 0 (TQ below Qc args s 1 6 A) g := by
  intro T hT X
  obtain ⟨t, a1, o, b1, b2, b3, L, ⟨f1, f2, f3⟩, f4⟩ := k T hT T rfl (stand_rebase X)
  refine ⟨t, a1, o, b1, b2, hQ T o t hT b3, locs ++ L, ⟨f1, f2, ?_⟩, fun q hq => (List.mem_append.mp hq).elim (hS.2.2 q) (f4 q)⟩
  have h1 : s.sameButNew (T.setVm s.vm) locs 0 0 := X.same
  have h2 : (T.setVm s.vm).sameButNew ({ t with vm := s.vm } : State) L 1 6 := by
    refine ⟨?_, f3.2⟩
    have e1 : ({ t with vm := s.vm } : State) = { (rbS s T).setFrames t.frames with heap := t.heap, slotsUsed := t.slotsUsed } := f3.1
    have e2 : T.setVm s.vm = { s.setFrames T.frames with heap := T.heap, slotsUsed := T.slotsUsed } := h1.1
    refine e1.trans ?_
    show ({ s.setFrames t.frames with heap := t.heap, slotsUsed := t.slotsUsed } : State) = { (T.setVm s.vm).setFrames t.frames with heap := t.heap, slotsUsed := t.slotsUsed }
    rw [e2]
    show ({ s.setFrames t.frames with heap := t.heap, slotsUsed := t.slotsUsed } : State) = { (s.setFrames T.frames).setFrames t.frames with heap := t.heap, slotsUsed := t.slotsUsed }
    rw [State.setFrames_setFrames]
  have h3 := h1.trans h2
  simpa using h3
theorem w_throw (hfl : l.flags = pinnedFlags ++ [noTraceFlag]) (hc : Cx p s m args c cc nL "ProbeChoice" meth ret D cl tys) (hX : TX A s ∧ AW wf A ∧ c.exceptionTable.isEmpty = true) (hw : Wd D cl wf A s.heap σ H locs) {E : String} {ik is ic : Nat} {tx : String}
    (hq : (ic, E) ∈ [(127, xIOB), (64, xIAE), (136, xISE)]) (lk : Cond.classLink "ProbeChoice" ik E ∈ lw_gd ∧ Cond.instantiable E 6 ∈ lw_gd ∧ Cond.initialized E ∈ lw_gd) (hs : (is, tx) ∈ xStr) (hls : ls.size = nL) (hrm : (rest.map fun v => v.category).sum ≤ 8) (hh : 6 ≤ h)
    (d0 : decode cc pc = .ok (.new ik, 3)) (d1 : decode cc (pc + 3) = .ok (.dup, 1)) (d2 : decode cc (pc + 4) = .ok (.ldc is, 2)) (d3 : decode cc (pc + 6) = .ok (.invokespecial ic, 3)) (d4 : decode cc (pc + 9) = .ok (.athrow, 1)) :
    W p l e (RmT h) s m args below meth c H locs 0 0 (TQ below (QwT D cl wf A σ E) args s 1 6 A) (F0 m pc ls rest) := by
  refine w_rebase hw.2.2 (fun T hT => w_throw0 hfl hc.rebase ⟨hX.1.moved (U := rbS s T) (State.WarmedH.refl s) (fun q h1 h2 => by show T.heap[q]? = _; rw [hT]; exact hw.2.2.2.1 q h1 h2), hX.2⟩ (σ := σ) (by show va_P D cl (wf σ) T.heap; rw [hT]; exact hw.1) hw.2.1 hq lk hs hls hrm hh d0 d1 d2 d3 d4) ?_
  intro T o t hT ⟨x, h1, h2, h3, h4, h5, h6⟩
  have h5 : T.heap.size ≤ t.heap.size := h5
  have h6 : ∀ q : Nat, q < T.heap.size → ¬ A q → t.heap[q]? = T.heap[q]? := h6
  rw [hT] at h5 h6
  exact ⟨x, h1, h2, h3, h4, Nat.le_trans hw.2.2.1 h5, fun q g1 g2 => (h6 q (Nat.lt_of_lt_of_le g1 hw.2.2.1) g2).trans (hw.2.2.2.1 q g1 g2)⟩
end CT2
end
section
theorem pwT_blind {S0 : Type} {D : va_G} {cl : List vw_C} {tys : List (ClassId × FieldType)} {wf : S0 → va_W} {A : Nat → Prop} {as : List Value} {σ : S0} : FrameBlind (PwT D cl tys wf A as σ) := fun a U g mk q => by
  obtain ⟨q0, q1, q2, q3, q4, q5, q6⟩ := q
  exact ⟨q0, TB.moved (s := U) (State.WarmedH.refl U) q1, va_K.moved (u := U) (U := U.calling g mk a) (Vm.Alike.refl U.vm) q2, q3, q4, q5.moved (s := U) (U := U.calling g mk a) (State.WarmedH.refl U) (fun _ _ _ => rfl), q6⟩
def PostT (Qc : Array Value → State → Outcome → State → Prop) (free : Addr → Prop) : Pt → Array Value → Addr → Pt → Prop := fun A a v B =>
  ∃ (g : JFrame) (mk : MethodId) (t : State) (L : List Loc), B.U.heap = t.heap ∧ B.U.vm = t.vm ∧ Qc a (A.U.calling g mk a) (.threw v) t ∧ B.locs = A.locs ++ L ∧ (∀ q ∈ L, free q.base) ∧ B.cells = A.cells + 1 ∧ B.slots = A.slots + 6
section CT3
variable {S0 : Type} {p : Program} {l : Launch} {e : Env} {R : Room} {s : State} {m : MethodId} {args : Array Value} {below : List Frame} {meth : Method} {c : Code} {H : Heap} {locs : List Loc} {cells slots : Nat} {Q : State → Prop}
variable {cc : ByteArray} {pc nL : Nat} {own : String} {ret : Option FieldType} {ls : Array Slot} {rest : List Value} {D : va_G} {cl : List vw_C} {tys tys' : List (ClassId × FieldType)} {wf : S0 → va_W} {A : Nat → Prop} {σ σ' : S0}
theorem ct_back {y : MethodName} {bytes : ByteArray} {maxL n h : Nat} {ret' : Option FieldType} {as : List Value} {E : String} (hC : Ct l D cl tys wf y bytes maxL ret' h as σ σ' E) (hTB : TB s) (yw : Yw y bytes maxL ret' n) (hR : h + 1 ≤ R.frames ∧ 8 + (maxL + 11) + 64 * h ≤ R.locals) :
    BackT l R p e below s args y 3 8 (PreOf R 1 6 (PwT D cl tys wf A as σ)) (PostT (QwT D cl wf A σ' E) A) := by
  obtain ⟨y1, y2, y3, y4, y5⟩ := yw
  refine BackT.of_free (bytes := bytes) (maxL := maxL) (ret := ret') (E := fun a st o t L k n => k = 1 ∧ n = 6 ∧ ∀ q ∈ L, A q.base) (hC A) hR.1 hR.2 ?_ ?_ (fun _ _ _ _ _ _ _ _ _ => trivial) ?_ ?_
  · intro m meth c B a X hp
    exact ⟨atoms_intro fun w hw => by rw [List.mem_singleton.mp hw]; exact hTB.at X.warmed _ _ y1, hTB.at X.warmed _ _ y1, hTB.at X.warmed _ _ y2, hp.1, hp.2.1⟩
  · intro m meth c B a g mk X hp
    exact pwT_blind _ _ _ _ hp.2.2
  · intro a st o t ⟨hq, L, hF, hL⟩
    exact ⟨L, 1, 6, hF, rfl, rfl, hL⟩
  · intro m meth c B a g mk v t L k n X hp hq hF ⟨e1, e2, hL⟩
    subst e1; subst e2
    exact ⟨g, mk, t, L, rfl, rfl, hq.1, rfl, hL, rfl, rfl⟩
theorem callVT {T : State} (X : Stand p l e R s m args below meth c T locs cells slots) (hexec : p.tables.exec = Jvm.exec) {C : String} {index : Nat} {y : MethodName} {bytes : ByteArray} {maxL : Nat} {ret : Option FieldType}
    (hown : s.vm.findClass own = some m.cls) (hlink : (Cond.methodLink own index y).before args s = true) (hinst : (Cond.instanceMethod y).before args s = true) (hsel : (Cond.selects C y y).before args s = true)
    (hcode : (Cond.code y bytes maxL ret).before args s = true) (hy : y.cls ≠ "java/lang/invoke/MethodHandle" ∧ y.cls ≠ "java/lang/invoke/VarHandle")
    {W : Nat} {Pre : Pt → Array Value → Prop} {Post : Pt → Array Value → Addr → Pt → Prop} (hK : BackT l R p e below s args y 3 W Pre Post)
    {b : Addr} {cellB : Cell} (hcell : T.heap[b]? = some cellB) (hobj : cellB.vm.isStatics = false) (hcls : s.vm.findClass C = some cellB.cls)
    {g : JFrame} (hg : g.method = m) (hsize : g.locals.size = c.maxLocals) {argsL rest : List Value} (hlen : ∀ sig, parseMethodDescriptor y.desc = some sig → argsL.length = sig.parameters.length)
    (hstack : g.stack = argsL.reverse ++ .ref b :: rest) (hW : 2 * g.monitorRoom + (rest.map fun v => v.category).sum ≤ W) (hdg : decode c.code g.pc = .ok (.invokevirtual index, 3))
    (hpre : ∀ vm₁, s.WarmedH vm₁ → Pre ⟨T.setVm vm₁, locs, cells, slots⟩ (Value.ref b :: argsL).toArray) :
    ∃ (v : Addr) (vm₁ : Vm) (B : Pt), s.WarmedH vm₁ ∧ Stand p l e R s m args below meth c B.U B.locs B.cells B.slots ∧ Post ⟨T.setVm vm₁, locs, cells, slots⟩ (Value.ref b :: argsL).toArray v B ∧
      Steps p.tables e below (T.setTop g) ((B.U.setTop { g with stack := rest }).pushFrame (.throwing v)) := by
  obtain ⟨mk, methM, hnamed, hmethM, hstM, habM⟩ := Cond.instanceMethod_spec hinst
  obtain ⟨methM', cM, hmethM', -, -, -, -, -, -, hsigM⟩ := Cond.code_spec hnamed hcode
  cases hmethM.symm.trans hmethM'
  obtain ⟨c2, r2, m2, q1, q2, q3, q4, kP, hkP, hkPi⟩ := Cond.selects_spec hsel
  cases hcls.symm.trans q1
  cases (State.methodFound?_of_named hnamed hy).symm.trans q2
  cases hnamed.symm.trans q3
  have hselP : selectMethod e.platform s.vm cellB.cls mk = .method mk := by rw [Launch.admits_selectMethod X.admits]; exact q4
  obtain ⟨vm₁, X₁, hstep₁⟩ := X.invokevirtual hexec hown hlink hnamed hmethM hstM hkP hkPi hy (a := b) (cell := cellB) hcell
    (fun z h => by rw [h] at hobj; cases hobj) hselP hmethM habM hkP hkPi (g := g) hg (argsL := argsL) (rest := rest) (hlen _ hsigM) hstack hdg
  obtain ⟨v, B, X', hpost, hsteps⟩ := hK m meth c ⟨T.setVm vm₁, locs, cells, slots⟩ { g with stack := rest } (.invokevirtual index) mk (Value.ref b :: argsL).toArray X₁ hg hsize hdg hW (X₁.named hnamed) (hpre vm₁ X₁.warmed)
  exact ⟨v, vm₁, B, X₁.warmed, X', hpost, hstep₁ _ fun acts => by rw [doInvoke_state]; exact hsteps⟩
/-- a call that throws: what is there then -/
def ThrowRun (p : Program) (l : Launch) (e : Env) (R : Room) (s : State) (m : MethodId) (args : Array Value) (below : List Frame) (meth : Method) (c : Code) (H : Heap) (locs : List Loc) (cells slots : Nat) (g : JFrame) (rest : List Value) (Qa : State → Outcome → State → Prop) (free : Addr → Prop) : Prop :=
  ∀ T : State, T.heap = H → Stand p l e R s m args below meth c T locs cells slots → ∃ (x : Addr) (st₀ t T' : State) (L : List Loc), st₀.heap = H ∧ Stand p l e R s m args below meth c T' (locs ++ L) (cells + 1) (slots + 6) ∧ (∀ q ∈ L, free q.base) ∧ T'.heap = t.heap ∧ T'.vm = t.vm ∧ Qa st₀ (.threw x) t ∧
    Steps p.tables e below (T.setTop g) ((T'.setTop { g with stack := rest }).pushFrame (.throwing x))
theorem w_runT {A' : Nat → Prop} {y : MethodName} {bytes : ByteArray} {maxL n h index b : Nat} {ret' : Option FieldType} {as st : List Value} {C E : String} (hc : Cx p s m args c cc nL own meth ret D cl tys') (hC : Ct l D cl tys wf y bytes maxL ret' h (.ref b :: as) σ σ' E) (yw : Yw y bytes maxL ret' n) (yi : Cond.instanceMethod y ∈ lw_gd ∧ Cond.selects C y y ∈ lw_gd) (lk : Cond.methodLink own index y ∈ lw_gd) (d : decode cc pc = .ok (.invokevirtual index, 3))
    (hst : st = as.reverse ++ .ref b :: rest) (hrecv : ∃ cellB : Cell, H[b]? = some cellB ∧ cellB.vm.isStatics = false ∧ s.vm.findClass C = some cellB.cls) (hpre : ∀ U : State, U.heap = H → s.WarmedH U.vm → PwT D cl tys wf A' (.ref b :: as) σ (.ref b :: as).toArray U) (hn : as.length = n) (hl : ls.size = nL) (hrm : (rest.map fun v => v.category).sum ≤ 8) (hR : h + 1 ≤ R.frames ∧ 8 + (maxL + 11) + 64 * h ≤ R.locals) (hf : cells + 1 ≤ R.cells ∧ slots + 6 ≤ R.slots) :
    ThrowRun p l e R s m args below meth c H locs cells slots (F0 m pc ls st) rest (QwT D cl wf A' σ' E (.ref b :: as).toArray) A' := by
  obtain ⟨hx, hb, hml, hown, hTB, hK, -, -⟩ := hc
  obtain ⟨cellB, r1, r2, r3⟩ := hrecv
  intro T hT X
  obtain ⟨v, vm₁, ⟨U', l2, c2, s2⟩, hW₁, X', ⟨g', mk, t, L, e1, e2, hq, h1, hL, h2, h3⟩, stp⟩ := callVT X hx (C := C) (bytes := bytes) (maxL := maxL) (ret := ret') hown (hTB.hts args _ lk) (hTB.hts args _ yi.1) (hTB.hts args _ yi.2) (hTB.hts args _ yw.1) ⟨yw.2.2.1, yw.2.2.2.1⟩
    (ct_back (A := A') hC hTB yw hR) (b := b) (cellB := cellB) (by rw [hT]; exact r1) r2 r3 (g := F0 m pc ls st) rfl (hl.trans hml.symm) (argsL := as) (rest := rest) (fun sig hs => by
      have y5 := yw.2.2.2.2
      rw [hs] at y5
      exact hn.trans (Option.some.inj y5).symm) hst (lv_room hrm) (by rw [hb]; exact d) (fun vm₁ hW₁ => ⟨hf.1, hf.2, hpre (T.setVm vm₁) hT hW₁⟩)
  dsimp only [Pt.U, Pt.locs, Pt.cells, Pt.slots] at X' e1 e2 h1 h2 h3 stp
  subst h1; subst h2; subst h3
  exact ⟨v, (T.setVm vm₁).calling g' mk (Value.ref b :: as).toArray, t, U', L, hT, X', hL, e1, e2, hq, stp⟩
/-- a call that throws, in a method with no handler -/
theorem w_cvT {y : MethodName} {bytes : ByteArray} {maxL n h h' index q0 ci N b : Nat} {ret' : Option FieldType} {as st : List Value} {C E : String} {T : u_T} {fs : List Value} (hc : Cx p s m args c cc nL own meth ret D cl tys) (hX : TX A s ∧ AW wf A ∧ c.exceptionTable.isEmpty = true) (hw : Wd D cl wf A s.heap σ H locs) (hC : Ct l D cl tys wf y bytes maxL ret' h (.ref b :: as) σ σ' E) (yw : Yw y bytes maxL ret' n) (yi : Cond.instanceMethod y ∈ lw_gd ∧ Cond.selects C y y ∈ lw_gd) (lk : Cond.methodLink own index y ∈ lw_gd) (d : decode cc pc = .ok (.invokevirtual index, 3))
    (hst : st = as.reverse ++ .ref b :: rest) (hq : (wf σ)[q0]? = some (b, .inr (ci, fs))) (hci : cl[ci]? = some (C, T, N)) (hn : as.length = n) (hl : ls.size = nL) (hrm : (rest.map fun v => v.category).sum ≤ 8) (hR : h + 1 ≤ h' ∧ 8 + (maxL + 11) + 64 * h ≤ 64 * h') :
    W p l e (RmT h') s m args below meth c H locs 0 0 (TQ below (QwT D cl wf A σ' E) args s 1 6 A) (F0 m pc ls st) := by
  have hTB := hc.2.2.2.2.1
  have hK := hc.2.2.2.2.2.1
  obtain ⟨hP, hD, s1, s2, s3⟩ := hw
  have hrun := w_runT (l := l) (e := e) (R := RmT h') (below := below) (H := H) (locs := locs) (cells := 0) (slots := 0) (A' := A) hc hC yw yi lk d hst (va_recv (q := (C, T, N)) hK hP hci hq) (fun U hU hW => ⟨rfl, hTB.moved hW, va_K.moved hW.alike hK, by rw [hU]; exact hP, hD, hX.1.moved hW (fun q h1 h2 => by rw [hU]; exact s2 q h1 h2), hX.2.1⟩) hn hl hrm hR ⟨Nat.le_of_ble_eq_true rfl, Nat.le_of_ble_eq_true rfl⟩
  intro T hT XT
  obtain ⟨x, st₀, t, T', L, h0, X', hL, e1, e2, ⟨x', hx', g1, g2, g3, g4, g5⟩, stp⟩ := hrun T hT XT
  cases hx'
  obtain ⟨w1, w2, w3, w4, w5⟩ := X'.leaveThrown x (g := { (F0 m pc ls st) with stack := rest }) rfl rfl rfl (fun y hy => by
      have h0 : c.exceptionTable = #[] := Array.isEmpty_iff.mp hX.2.2
      rw [h0] at hy
      cases hy) hc.2.2.2.2.2.2.2
  rw [h0] at g4 g5
  refine ⟨_, stp.trans w1, .threw x, w2, w3, ⟨x, rfl, ?_, ?_, g3, ?_, ?_⟩, locs ++ L, ⟨⟨_, rfl⟩, w4, w5⟩, fun q hq => (List.mem_append.mp hq).elim (s3 q) (hL q)⟩
  · obtain ⟨ce, i1, i2, i3⟩ := g1
    exact ⟨ce, by show T'.heap[x]? = _; rw [e1]; exact i1, i2, by show T'.vm.findClass E = _; rw [e2]; exact i3⟩
  · show va_P D cl (wf σ') T'.heap
    rw [e1]; exact g2
  · show s.heap.size ≤ T'.heap.size
    rw [e1]; exact Nat.le_trans s1 g4
  · intro q k1 k2
    show T'.heap[q]? = _
    rw [e1]; exact (g5 q (Nat.lt_of_lt_of_le k1 s1) k2).trans (s2 q k1 k2)
end CT3
end
