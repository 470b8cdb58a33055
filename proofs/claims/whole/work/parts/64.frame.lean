/-! frames: a contract over a part of a world; the law's own world; calls out of the law's helpers -/
def own1 (w : va_W) : Nat → Prop := fun q => ∃ (k : Nat) (e : va_E), w[k]? = some (q, e)
theorem own1_fst {w w' : va_W} (h : w'.map (·.1) = w.map (·.1)) {q : Nat} (hq : own1 w q) : own1 w' q := by
  obtain ⟨k, e, hk⟩ := hq
  have h1 := congrArg (fun z => z[k]?) h
  simp only [List.getElem?_map, hk, Option.map_some] at h1
  cases h2 : w'[k]? with
  | none => rw [h2] at h1; simp at h1
  | some y =>
    rw [h2] at h1
    obtain ⟨y1, y2⟩ := y
    have : y1 = q := by simpa using h1
    subst this
    exact ⟨k, y2, h2⟩
theorem va_D_fst {A : Nat → Prop} {w w' : va_W} (h : w'.map (·.1) = w.map (·.1)) (hD : va_D A w) : va_D A w' := by
  have key : ∀ (k : Nat) (q : Nat × va_E), w'[k]? = some q → ∃ e, w[k]? = some (q.1, e) := by
    intro k q hk
    have h1 := congrArg (fun z => z[k]?) h
    simp only [List.getElem?_map, hk, Option.map_some] at h1
    cases h2 : w[k]? with
    | none => rw [h2] at h1; simp at h1
    | some y =>
      rw [h2] at h1
      obtain ⟨y1, y2⟩ := y
      have : q.1 = y1 := by simpa using h1
      exact ⟨y2, by rw [this]⟩
  refine ⟨fun i j p q hi hj e => ?_, fun k q hk => ?_⟩
  · obtain ⟨e1, h1⟩ := key i p hi
    obtain ⟨e2, h2⟩ := key j q hj
    exact hD.1 i j _ _ h1 h2 e
  · obtain ⟨e1, h1⟩ := key k q hk
    exact hD.2 k (q.1, e1) h1
theorem fr_ix {a w c : va_W} {i : Nat} {q : Nat × va_E} (h : (a ++ (w ++ c))[i]? = some q) : (i < a.length ∧ a[i]? = some q) ∨ (a.length ≤ i ∧ i < a.length + w.length ∧ w[i - a.length]? = some q) ∨ (a.length + w.length ≤ i ∧ c[i - (a.length + w.length)]? = some q) := by
  by_cases h1 : i < a.length
  · rw [List.getElem?_append_left h1] at h; exact Or.inl ⟨h1, h⟩
  · rw [List.getElem?_append_right (by omega)] at h
    by_cases h2 : i - a.length < w.length
    · rw [List.getElem?_append_left h2] at h; exact Or.inr (Or.inl ⟨by omega, by omega, h⟩)
    · rw [List.getElem?_append_right (by omega)] at h
      exact Or.inr (Or.inr ⟨by omega, by rw [show i - (a.length + w.length) = i - a.length - w.length by omega]; exact h⟩)
theorem fr_w {a w c : va_W} {k : Nat} {q : Nat × va_E} (h : w[k]? = some q) : (a ++ (w ++ c))[a.length + k]? = some q := by
  rw [List.getElem?_append_right (by omega), show a.length + k - a.length = k by omega, List.getElem?_append_left (List.getElem?_eq_some_iff.mp h).1]; exact h
theorem fr_in {D : va_G} {cl : List vw_C} {A : Nat → Prop} {a w c : va_W} {H : Heap} (hP : va_P D cl (a ++ (w ++ c)) H) (hD : va_D A (a ++ (w ++ c))) : va_P D cl w H ∧ va_D (own1 w) w ∧ ∀ q, own1 w q → A q := by
  refine ⟨fun k q hk => hP _ q (fr_w hk), ⟨fun i j x y hi hj e => ?_, fun k q hk => ⟨k, q.2, hk⟩⟩, fun q ⟨k, e, hk⟩ => hD.2 _ _ (fr_w hk)⟩
  have := hD.1 _ _ x y (fr_w (a := a) (c := c) hi) (fr_w (a := a) (c := c) hj) e
  omega
theorem fr_out {D : va_G} {cl : List vw_C} {A : Nat → Prop} {a w w' c : va_W} {H H' : Heap} (hP : va_P D cl (a ++ (w ++ c)) H) (hD : va_D A (a ++ (w ++ c))) (hf : w'.map (·.1) = w.map (·.1)) (hP' : va_P D cl w' H') (hk : ∀ q, q < H.size → ¬ own1 w q → H'[q]? = H[q]?) : va_P D cl (a ++ (w' ++ c)) H' ∧ va_D A (a ++ (w' ++ c)) := by
  have hl : w'.length = w.length := by have := congrArg List.length hf; simpa using this
  refine ⟨fun i q hi => ?_, va_D_fst (by simp [hf]) hD⟩
  have apart : ∀ (j : Nat), (a ++ (w ++ c))[j]? = some q → (j < a.length ∨ a.length + w.length ≤ j) → ¬ own1 w q.1 := by
    intro j hj hr ⟨k, e, hke⟩
    have h1 := hD.1 _ _ _ _ (fr_w (a := a) (c := c) hke) hj rfl
    have h2 := (List.getElem?_eq_some_iff.mp hke).1
    omega
  have keep : ∀ (j : Nat), (a ++ (w ++ c))[j]? = some q → (j < a.length ∨ a.length + w.length ≤ j) → va_at D cl q H' := by
    intro j hj hr
    have h0 : va_P D cl [q] H := fun k x hx => by
      have hk0 : k < 1 := (List.getElem?_eq_some_iff.mp hx).1
      rw [show k = 0 by omega] at hx
      cases hx
      exact hP j q hj
    have h1 := h0.kept (H1 := H') (fun k x hx => by
      have hk0 : k < 1 := (List.getElem?_eq_some_iff.mp hx).1
      rw [show k = 0 by omega] at hx
      cases hx
      exact hk q.1 ((hP j q hj).lt) (apart j hj hr))
    exact h1 0 q rfl
  rcases fr_ix hi with ⟨h1, h2⟩ | ⟨h1, h2, h3⟩ | ⟨h1, h2⟩
  · exact keep i (by rw [List.getElem?_append_left h1]; exact h2) (Or.inl h1)
  · exact hP' _ q h3
  · refine keep i ?_ (Or.inr (by omega))
    rw [List.getElem?_append_right (by omega), List.getElem?_append_right (by omega), show i - a.length - w.length = i - (a.length + w'.length) by omega]
    exact h2
theorem va_K.mem {D : va_G} {cl : List vw_C} {tys tys' : List (ClassId × FieldType)} {U : State} (h : va_K D cl tys U) (hs : ∀ q ∈ tys', q ∈ tys) : va_K D cl tys' U := ⟨h.1, fun k q hk => by
  obtain ⟨i, hi⟩ := List.getElem?_of_mem (hs q (List.mem_of_getElem? hk))
  exact h.2 i q hi⟩
/-- a contract over a part of a world -/
theorem Cw.frame {S0 : Type} {l : Launch} {D : va_G} {cl : List vw_C} {tys tysA : List (ClassId × FieldType)} {wf : S0 → va_W} {y : MethodName} {cc : ByteArray} {nL : Nat} {ret : Option FieldType} {h : Nat} {as : List Value} {σ : S0} {Post : Option Value → S0 → Prop} (a c : va_W) (hC : Cw l D cl tys wf y cc nL ret h as σ Post) (hf : ∀ τ, (wf τ).map (·.1) = (wf σ).map (·.1)) (hs : ∀ q ∈ tys, q ∈ tysA) : Cw l D cl tysA (fun τ => a ++ (wf τ ++ c)) y cc nL ret h as σ Post := by
  intro A
  refine MetFree.mono (hC (own1 (wf σ))) ?_ (fun _ _ _ _ _ h => h) ?_
  · rintro v U ⟨h0, h1, h2, h3, h4⟩
    obtain ⟨g1, g2, g3⟩ := fr_in h3 h4
    exact ⟨h0, h1, h2.mem hs, g1, g2⟩
  · rintro v U o t ⟨h0, h1, h2, h3, h4⟩ ⟨⟨r, τ, e, q, k1, k2, k3, k4⟩, L, hF, hL⟩
    obtain ⟨g1, g2, g3⟩ := fr_in h3 h4
    obtain ⟨m1, m2⟩ := fr_out h3 h4 (hf τ) k1 k4
    exact ⟨⟨r, τ, e, q, m1, m2, k3, fun x hx hn => k4 x hx (fun z => hn (g3 x z))⟩, L, hF, fun q hq => g3 _ (hL q hq)⟩
def wO (ao : Nat) (co : ClassId) (ω : St) : va_W := [(ao, .inl (co, 1, .inr (.inl (fun k => zL (ω 0 k)))))]
def wH (ad : Nat → Nat) (ca : Nat → ClassId) (ao : Nat) (co : ClassId) (q : St × St) : va_W := wX ad ca q.1 ++ wO ao co q.2
def tyH (ca : Nat → ClassId) (co : ClassId) : List (ClassId × FieldType) := tyX ca ++ [(co, .long)]
theorem wX_fst (ad : Nat → Nat) (ca : Nat → ClassId) (σ τ : St) : (wX ad ca τ).map (·.1) = (wX ad ca σ).map (·.1) := rfl
theorem wM_fst (ad : Nat → Nat) (ca : Nat → ClassId) (σ τ : St) : (wM ad ca τ).map (·.1) = (wM ad ca σ).map (·.1) := rfl
theorem wH_fst (ad : Nat → Nat) (ca : Nat → ClassId) (ao : Nat) (co : ClassId) (q r : St × St) : (wH ad ca ao co r).map (·.1) = (wH ad ca ao co q).map (·.1) := rfl
/-! helpers of the law: a contract that may make one cell -/
def PwH {S0 : Type} (D : va_G) (tys : List (ClassId × FieldType)) (wf : S0 → va_W) (A : Nat → Prop) (as : List Value) (σ : S0) : Array Value → State → Prop := va_Pc as (fun U => TB U ∧ va_K D cl7 tys U ∧ va_P D cl7 (wf σ) U.heap ∧ va_D A (wf σ) ∧ TX A U)
def Ch {S0 : Type} (l : Launch) (D : va_G) (tys : List (ClassId × FieldType)) (wf : S0 → va_W) (y : MethodName) (cc : ByteArray) (nL : Nat) (hh : List (Nat × Nat × Nat × Nat)) (h : Nat) (as : List Value) (σ : S0) (Post : Option Value → S0 → Prop) : Prop :=
  ∀ A : Nat → Prop, Met l y [.codeWith y cc nL (some .int) hh] (RmT h) (PwH D tys wf A as σ) (Qw D cl7 wf A Post) 1 6 A
theorem Ch.frame {S0 : Type} {l : Launch} {D : va_G} {tys tysA : List (ClassId × FieldType)} {wf : S0 → va_W} {y : MethodName} {cc : ByteArray} {nL : Nat} {hh : List (Nat × Nat × Nat × Nat)} {h : Nat} {as : List Value} {σ : S0} {Post : Option Value → S0 → Prop} (a c : va_W) (hC : Ch l D tys wf y cc nL hh h as σ Post) (hf : ∀ τ, (wf τ).map (·.1) = (wf σ).map (·.1)) (hs : ∀ q ∈ tys, q ∈ tysA) : Ch l D tysA (fun τ => a ++ (wf τ ++ c)) y cc nL hh h as σ Post := by
  intro A
  refine MetFree.mono (hC (own1 (wf σ))) ?_ (fun _ _ _ _ _ h => h) ?_
  · rintro v U ⟨h0, h1, h2, h3, h4, h5⟩
    obtain ⟨g1, g2, g3⟩ := fr_in h3 h4
    exact ⟨h0, h1, h2.mem hs, g1, g2, h5.narrow g3⟩
  · rintro v U o t ⟨h0, h1, h2, h3, h4, h5⟩ ⟨⟨r, τ, e, q, k1, k2, k3, k4⟩, L, hF, hL⟩
    obtain ⟨g1, g2, g3⟩ := fr_in h3 h4
    obtain ⟨m1, m2⟩ := fr_out h3 h4 (hf τ) k1 k4
    exact ⟨⟨r, τ, e, q, m1, m2, k3, fun x hx hn => k4 x hx (fun z => hn (g3 x z))⟩, L, hF, fun q hq => g3 _ (hL q hq)⟩
theorem pwH_blind {S0 : Type} {D : va_G} {tys : List (ClassId × FieldType)} {wf : S0 → va_W} {A : Nat → Prop} {as : List Value} {σ : S0} : FrameBlind (PwH D tys wf A as σ) := fun a U g mk q => by
  obtain ⟨q0, q1, q2, q3, q4, q5⟩ := q
  exact ⟨q0, TB.moved (s := U) (State.WarmedH.refl U) q1, va_K.moved (u := U) (U := U.calling g mk a) (Vm.Alike.refl U.vm) q2, q3, q4, q5.moved (s := U) (U := U.calling g mk a) (State.WarmedH.refl U) (fun _ _ _ => rfl)⟩
/-- the rows of an exception table -/
def tabIs (c : Code) (hh : List (Nat × Nat × Nat × Nat)) : Prop := c.exceptionTable.toList.map (fun h => (h.startPc, h.endPc, h.handlerPc, h.catchType)) = hh
theorem Ch.enter {S0 : Type} {l : Launch} {D : va_G} {tys : List (ClassId × FieldType)} {wf : S0 → va_W} {y : MethodName} {cc : ByteArray} {nL : Nat} {hh : List (Nat × Nat × Nat × Nat)} {h : Nat} {as : List Value} {σ : S0} {Post : Option Value → S0 → Prop} (hy : plainName y.cls = true) (hn : (lg_sl as).length ≤ nL)
    (body : ∀ (A : Nat → Prop) (p : Program) (e : Env) (s : State) (m : MethodId) (below : List Frame) (meth : Method) (c : Code), Cx p s m as.toArray c cc nL y.cls meth (some .int) D cl7 tys → TX A s ∧ tabIs c hh → ∀ ls : Array Slot, lv_has ls nL (lv_args 0 as) → Wd D cl7 wf A s.heap σ s.heap [] →
      W p l e (RmT h) s m as.toArray below meth c s.heap [] 0 0 (MQ below (Qw D cl7 wf A Post) as.toArray s 1 6 A) (F0 m 0 ls [])) : Ch l D tys wf y cc nL hh h as σ Post := by
  intro A
  refine va_MetW (cc := cc) (maxL := nL) (ret := some .int) (hh := hh) hy rfl ?_
  intro p e s m args below meth c s₁ B hml hv
  obtain ⟨rfl, hTB, hK, hP, hD, hTX⟩ := hv
  have hl := lv_entry as (n := nL) hn
  have hT : tabIs c hh := by
    obtain ⟨m9, meth9, c9, h1, h2, h3, -, -, h4, -⟩ := Cond.codeWith_spec (atoms_spec (ws := [.codeWith y cc nL (some .int) hh]) B.pre _ List.mem_cons_self)
    cases B.named.symm.trans h1
    cases B.method.symm.trans h2
    cases (Stand.of_body B).code.symm.trans h3
    exact h4
  rw [lg_entry_eq]
  exact body A p e s m below meth c ⟨B.exec, B.bytes, hml, findClass_of_methodNamed B.named, hTB, hK, B.returns, B.notSynchronized⟩ ⟨hTX, hT⟩ _ hl ⟨hP, hD, va_S.rf⟩
section CH
variable {p : Program} {l : Launch} {e : Env} {R : Room} {s : State} {m : MethodId} {args : Array Value} {below : List Frame} {meth : Method} {c : Code} {H : Heap} {locs : List Loc} {cells slots : Nat} {Q : State → Prop}
variable {cc : ByteArray} {pc nL : Nat} {own : String} {ret : Option FieldType} {ls : Array Slot} {rest : List Value} {D : va_G} {ad : Nat → Nat} {ca : Nat → ClassId} {ao : Nat} {co : ClassId} {A : Nat → Prop} {σ σ' ω : St}
/-- the class's method is called, and returns -/
theorem h_cv {y : MethodName} {bytes : ByteArray} {maxL n h index : Nat} {ret' : Option FieldType} {as st : List Value} {Post : Option Value → St → Prop} (hc : Cx p s m args c cc nL own meth ret D cl7 (tyH ca co)) (hw : Wd D cl7 (wH ad ca ao co) A s.heap (σ, ω) H locs) (hC : Cw l D cl7 (tyX ca) (wX ad ca) y bytes maxL ret' h (.ref (ad 100) :: as) σ Post) (yw : Yw y bytes maxL ret' n) (yi : Cond.instanceMethod y ∈ lw_gd ∧ Cond.selects "ProbeChoice" y y ∈ lw_gd) (lk : Cond.methodLink own index y ∈ lw_gd) (d : decode cc pc = .ok (.invokevirtual index, 3))
    (hst : st = as.reverse ++ .ref (ad 100) :: rest) (hn : as.length = n) (hl : ls.size = nL) (hrm : (rest.map fun v => v.category).sum ≤ 8) (hR : h + 1 ≤ R.frames ∧ 8 + (maxL + 11) + 64 * h ≤ R.locals) (hf : cells ≤ R.cells ∧ slots ≤ R.slots)
    (kk : ∀ (v : Option Value) (τ : St) (H1 : Heap) (locs1 : List Loc), Post v τ → Wd D cl7 (wH ad ca ao co) A s.heap (τ, ω) H1 locs1 → W p l e R s m args below meth c H1 locs1 cells slots Q (F0 m (pc + 3) ls (v.toList ++ rest))) : W p l e R s m args below meth c H locs cells slots Q (F0 m pc ls st) :=
  w_cv (q0 := 0) (ci := 5) (N := 5) (C := "ProbeChoice") (T := T_X) (A := A) (σ := σ) (wf := fun τ => [] ++ (wX ad ca τ ++ wO ao co ω)) hc (show Wd D cl7 (fun τ => [] ++ (wX ad ca τ ++ wO ao co ω)) A s.heap σ H locs from hw) (hC.frame [] (wO ao co ω) (fun τ => wX_fst ad ca σ τ) (fun q hq => List.mem_append_left _ hq)) yw yi lk d hst rfl rfl hn hl hrm hR hf kk
theorem tab_1 {a b h t : Nat} {rs : List (Nat × Nat × Nat × Nat)} (ht : tabIs c ((a, b, h, t) :: rs)) : ∃ x ys, c.exceptionTable.toList = [] ++ x :: ys ∧ x.startPc = a ∧ x.endPc = b ∧ x.handlerPc = h ∧ x.catchType = t := by
  unfold tabIs at ht
  cases hl : c.exceptionTable.toList with
  | nil => rw [hl] at ht; cases ht
  | cons x ys =>
    rw [hl] at ht
    simp only [List.map_cons, List.cons.injEq, Prod.mk.injEq] at ht
    exact ⟨x, ys, rfl, ht.1.1, ht.1.2.1, ht.1.2.2.1, ht.1.2.2.2⟩
theorem tab_2 {a b h t a2 b2 h2 t2 : Nat} {rs : List (Nat × Nat × Nat × Nat)} (ht : tabIs c ((a, b, h, t) :: (a2, b2, h2, t2) :: rs)) : ∃ z x ys, c.exceptionTable.toList = [z] ++ x :: ys ∧ z.catchType = t ∧ x.startPc = a2 ∧ x.endPc = b2 ∧ x.handlerPc = h2 ∧ x.catchType = t2 := by
  unfold tabIs at ht
  cases hl : c.exceptionTable.toList with
  | nil => rw [hl] at ht; cases ht
  | cons z ys =>
    rw [hl] at ht
    cases ys with
    | nil => simp at ht
    | cons x ys =>
      simp only [List.map_cons, List.cons.injEq, Prod.mk.injEq] at ht
      exact ⟨z, x, ys, rfl, ht.1.2.2.2, ht.2.1.1, ht.2.1.2.1, ht.2.1.2.2.1, ht.2.1.2.2.2⟩
/-- the class's method is called, throws, and the throw is caught: the rows before let it pass -/
theorem h_cvT0 {y : MethodName} {bytes : ByteArray} {maxL n h index : Nat} {ret' : Option FieldType} {as st : List Value} {E : String} {pre : List ExceptionTableEntry} {x : ExceptionTableEntry} {ys : List ExceptionTableEntry} (hc : Cx p s m args c cc nL own meth ret D cl7 (tyH ca co)) (hX : TX A s) (hw : Wd D cl7 (wH ad ca ao co) A s.heap (σ, ω) H locs) (hC : Ct l D cl7 (tyX ca) (wX ad ca) y bytes maxL ret' h (.ref (ad 100) :: as) σ σ' E) (yw : Yw y bytes maxL ret' n) (yi : Cond.instanceMethod y ∈ lw_gd ∧ Cond.selects "ProbeChoice" y y ∈ lw_gd) (lk : Cond.methodLink own index y ∈ lw_gd) (d : decode cc pc = .ok (.invokevirtual index, 3))
    (hst : st = as.reverse ++ .ref (ad 100) :: rest) (hn : as.length = n) (hl : ls.size = nL) (hrm : (rest.map fun v => v.category).sum ≤ 8) (hR : h + 1 ≤ R.frames ∧ 8 + (maxL + 11) + 64 * h ≤ R.locals) (hf : cells + 1 ≤ R.cells ∧ slots + 6 ≤ R.slots)
    (hsplit : c.exceptionTable.toList = pre ++ x :: ys) (hpass : ∀ z ∈ pre, ∃ nm, z.catchType ≠ 0 ∧ Cond.classLink own z.catchType nm ∈ lw_gd ∧ (Cond.not (.castable E nm)).before args s = true) (hcov : covers x pc = true) (h0 : x.catchType ≠ 0) (hlk : Cond.classLink own x.catchType E ∈ lw_gd) (hcs : (Cond.castable E E).before args s = true)
    (kk : ∀ (q : Nat) (H1 : Heap) (locs1 : List Loc), Wd D cl7 (wH ad ca ao co) A s.heap (σ', ω) H1 locs1 → W p l e R s m args below meth c H1 locs1 (cells + 1) (slots + 6) Q (F0 m x.handlerPc ls [.ref q])) : W p l e R s m args below meth c H locs cells slots Q (F0 m pc ls st) := by
  have hTB := hc.2.2.2.2.1
  have hK := hc.2.2.2.2.2.1
  obtain ⟨hP, hD, s1, s2, s3⟩ := hw
  have hP' : va_P D cl7 ([] ++ (wX ad ca σ ++ wO ao co ω)) H := hP
  have hD' : va_D A ([] ++ (wX ad ca σ ++ wO ao co ω)) := hD
  obtain ⟨g1, g2, g3⟩ := fr_in hP' hD'
  have hrun := w_runT (l := l) (e := e) (R := R) (below := below) (H := H) (locs := locs) (cells := cells) (slots := slots) (A' := own1 (wX ad ca σ)) (C := "ProbeChoice") hc hC yw yi lk d hst (va_recv (q := ("ProbeChoice", T_X, 5)) (q0 := 0) (ci := 5) hK hP rfl rfl)
    (fun U hU hW => ⟨rfl, hTB.moved hW, va_K.moved hW.alike (hK.mem (fun q hq => List.mem_append_left _ hq)), by rw [hU]; exact g1, g2, (hX.moved hW (fun q h1 h2 => by rw [hU]; exact s2 q h1 h2)).narrow g3, fun τ q hq => own1_fst (wX_fst ad ca σ τ) hq⟩) hn hl hrm hR hf
  intro T hT XT
  obtain ⟨q, st₀, t, T', L, i0, X', hL, e1, e2, ⟨q', hq', k1, k2, k3, k4, k5⟩, stp⟩ := hrun T hT XT
  cases hq'
  obtain ⟨ce, j1, j2, j3⟩ := k1
  have hfE : s.vm.findClass E = some ce.cls := by rw [← X'.warmed.alike.findClass, e2]; exact j3
  obtain ⟨c3, cT, hc3, hcT, hasg⟩ := Cond.castable_spec hcs
  cases hfE.symm.trans hc3
  obtain ⟨hend, hk0⟩ := X'.catches_of_link hc.2.2.2.1 h0 (hTB.hts args _ hlk) hcT hasg
  have hpl : e.platform.magicAccessors = ({} : Platform).magicAccessors := by rw [X'.admits.platform]
  obtain ⟨vm', XV, st2⟩ := X'.thenCaughtThrough q (g := { (F0 m pc ls st) with stack := rest }) rfl stp (by rw [e1]; exact j1) (by rw [j2]; rfl) hk0 pre x ys hsplit (fun z hz => by
    obtain ⟨nm, n1, n2, n3⟩ := hpass z hz
    exact RowPassed.of_words hpl hc.2.2.2.1 n1 (hTB.hts args _ n2) hfE n3) hcov hend
  rw [i0] at k4 k5
  obtain ⟨m1, m2⟩ := fr_out hP' hD' (wX_fst ad ca σ σ') k2 k5
  obtain ⟨t2, a1, b1⟩ := kk q t.heap (locs ++ L) ⟨m1, m2, Nat.le_trans s1 k4, fun x hx hnx => (k5 x (Nat.lt_of_lt_of_le hx s1) (fun z => hnx (g3 x z))).trans (s2 x hx hnx), fun x hx => (List.mem_append.mp hx).elim (s3 x) (fun z => g3 _ (hL x z))⟩ (T'.setVm vm') e1 XV
  exact ⟨t2, st2.trans a1, b1⟩
end CH
