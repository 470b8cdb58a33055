/-! words that hold at every state of the run; contracts over a world that is a function of a state of ours -/
def gd (w : Cond) : Bool := (w.onTables && w.keeps) || (match w with | .arrayClass _ => true | .fieldLinkNest .. => true | .methodLinkNest .. => true | _ => false)
theorem gd_spec {w : Cond} (h : gd w = true) : (w.onTables && w.keeps) = true ∨ (∃ ty, w = .arrayClass ty) ∨ (∃ a i b n d g, w = .fieldLinkNest a i b n d g) ∨ (∃ a i x g, w = .methodLinkNest a i x g) := by
  unfold gd at h
  rw [Bool.or_eq_true] at h
  rcases h with h | h
  · exact Or.inl h
  · split at h
    · exact Or.inr (Or.inl ⟨_, rfl⟩)
    · exact Or.inr (Or.inr (Or.inl ⟨_, _, _, _, _, _, rfl⟩))
    · exact Or.inr (Or.inr (Or.inr ⟨_, _, _, _, rfl⟩))
    · cases h
def lw_gd : List Cond := lw_tbl.filter gd
def TB (U : State) : Prop := ∀ w ∈ lw_gd, w.before #[] U = true
theorem TB.at {s U : State} (hW : s.WarmedH U.vm) (h : TB s) (a : Array Value) : ∀ w ∈ lw_gd, w.before a U = true := fun w hw => by
  have h1 := h w hw
  rcases gd_spec (List.mem_filter.mp hw).2 with h2 | ⟨ty, rfl⟩ | ⟨x1, x2, x3, x4, x5, x6, rfl⟩ | ⟨x1, x2, x3, x4, rfl⟩
  · exact word_at hW (Or.inl h2) h1
  · exact word_at hW (Or.inr ⟨ty, rfl⟩) h1
  · exact va_Nw.use rfl (va_Nw.warmF hW h1)
  · exact va_Nw.use rfl (va_Nw.warmM hW h1)
theorem TB.moved {s U : State} (hW : s.WarmedH U.vm) (h : TB s) : TB U := h.at hW #[]
theorem TB.hts {s : State} (h : TB s) (a : Array Value) : ∀ w ∈ lw_gd, w.before a s = true := h.at (State.WarmedH.refl s) a
/-- what holds all through a method: the machine, its code, the words, the classes -/
def Cx (p : Program) (s : State) (m : MethodId) (args : Array Value) (c : Code) (cc : ByteArray) (nL : Nat) (own : String) (meth : Method) (ret : Option FieldType) (D : va_G) (cl : List vw_C) (tys : List (ClassId × FieldType)) : Prop :=
  p.tables.exec = Jvm.exec ∧ c.code = cc ∧ c.maxLocals = nL ∧ s.vm.findClass own = some m.cls ∧ TB s ∧ va_K D cl tys s ∧ meth.sig.returnType = ret ∧ meth.locks = false
/-- the world at a heap: our state's cells, apart, in A; nothing outside A has changed -/
def Wd {S0 : Type} (D : va_G) (cl : List vw_C) (wf : S0 → va_W) (A : Nat → Prop) (H0 : Heap) (σ : S0) (H : Heap) (locs : List Loc) : Prop := va_P D cl (wf σ) H ∧ va_D A (wf σ) ∧ va_S A H0 H locs
def Rmh (h : Nat) : Room := { frames := h, cells := 0, slots := 0, locals := 64 * h }
def Qw {S0 : Type} (D : va_G) (cl : List vw_C) (wf : S0 → va_W) (A : Nat → Prop) (Post : Option Value → S0 → Prop) : Array Value → State → Outcome → State → Prop := fun _ st o t => ∃ v σ', o = .returned v ∧ Post v σ' ∧ va_P D cl (wf σ') t.heap ∧ va_D A (wf σ') ∧ va_F A st t
def Pw {S0 : Type} (D : va_G) (cl : List vw_C) (tys : List (ClassId × FieldType)) (wf : S0 → va_W) (A : Nat → Prop) (as : List Value) (σ : S0) : Array Value → State → Prop := va_Pc as (fun U => TB U ∧ va_K D cl tys U ∧ va_P D cl (wf σ) U.heap ∧ va_D A (wf σ))
/-- THE CONTRACT: from the state σ with the arguments as, y returns v at a state σ' with Post; it makes nothing, and changes nothing outside A, whatever A holds the world -/
def Cw {S0 : Type} (l : Launch) (D : va_G) (cl : List vw_C) (tys : List (ClassId × FieldType)) (wf : S0 → va_W) (y : MethodName) (cc : ByteArray) (nL : Nat) (ret : Option FieldType) (h : Nat) (as : List Value) (σ : S0) (Post : Option Value → S0 → Prop) : Prop :=
  ∀ A : Nat → Prop, Met l y [.code y cc nL ret] (Rmh h) (Pw D cl tys wf A as σ) (Qw D cl wf A Post) 0 0 A
/-- it answers r, at a state with P -/
def RW {S0 : Type} (r : Value) (P : S0 → Prop) : Option Value → S0 → Prop := fun v τ => v = some r ∧ P τ
/-- it answers nothing, at a state with P -/
def VW {S0 : Type} (P : S0 → Prop) : Option Value → S0 → Prop := fun v τ => v = none ∧ P τ
section CW
variable {S0 : Type} {l : Launch} {D : va_G} {cl : List vw_C} {tys : List (ClassId × FieldType)} {wf : S0 → va_W} {y : MethodName} {cc : ByteArray} {nL : Nat} {ret : Option FieldType} {h : Nat} {as : List Value} {σ : S0} {Post : Option Value → S0 → Prop}
theorem Cw.enter (hy : plainName y.cls = true) (hn : (lg_sl as).length ≤ nL)
    (body : ∀ (A : Nat → Prop) (p : Program) (e : Env) (s : State) (m : MethodId) (below : List Frame) (meth : Method) (c : Code), Cx p s m as.toArray c cc nL y.cls meth ret D cl tys → ∀ ls : Array Slot, lv_has ls nL (lv_args 0 as) → Wd D cl wf A s.heap σ s.heap [] →
      W p l e (Rmh h) s m as.toArray below meth c s.heap [] 0 0 (MQ below (Qw D cl wf A Post) as.toArray s 0 0 A) (F0 m 0 ls [])) : Cw l D cl tys wf y cc nL ret h as σ Post := by
  intro A
  refine Met.ofW (cc := cc) (maxL := nL) (ret := ret) hy rfl ?_
  intro p e s m args below meth c s₁ B hml hv
  obtain ⟨rfl, hTB, hK, hP, hD⟩ := hv
  have hl := lv_entry as (n := nL) hn
  rw [lg_entry_eq]
  exact body A p e s m below meth c ⟨B.exec, B.bytes, hml, findClass_of_methodNamed B.named, hTB, hK, B.returns, B.notSynchronized⟩ _ hl ⟨hP, hD, va_S.rf⟩
theorem Cw.mono {Post' : Option Value → S0 → Prop} (hC : Cw l D cl tys wf y cc nL ret h as σ Post) (hp : ∀ v τ, Post v τ → Post' v τ) : Cw l D cl tys wf y cc nL ret h as σ Post' := fun A =>
  MetFree.mono (hC A) (fun _ _ h => h) (fun _ _ _ _ _ h => h) (fun _ _ _ _ _ ⟨⟨v, τ, e, q, r⟩, z⟩ => ⟨⟨v, τ, e, hp v τ q, r⟩, z⟩)
end CW
section CR
variable {S0 : Type} {p : Program} {l : Launch} {e : Env} {R : Room} {s : State} {m : MethodId} {args : Array Value} {below : List Frame} {meth : Method} {c : Code} {H : Heap} {locs : List Loc} {cells slots : Nat} {Q : State → Prop}
variable {cc : ByteArray} {pc nL : Nat} {own : String} {ret : Option FieldType} {ls : Array Slot} {rest : List Value} {D : va_G} {cl : List vw_C} {tys : List (ClassId × FieldType)} {wf : S0 → va_W} {A : Nat → Prop} {σ : S0} {Post : Option Value → S0 → Prop} {ad : Array Value}
theorem w_iret (hc : Cx p s m args c cc nL own meth (some .int) D cl tys) (hw : Wd D cl wf A s.heap σ H locs) {v : Int32} (hp : Post (some (.int v)) σ) (d : decode cc pc = .ok (.ireturn, 1)) : W p l e R s m args below meth c H locs 0 0 (MQ below (Qw D cl wf A Post) args s 0 0 A) (F0 m pc ls [.int v]) := by
  obtain ⟨hx, hb, -, -, -, -, hr, hlk⟩ := hc
  exact W.iret hx hb hr (fun t ht hW => ⟨_, σ, rfl, hp, by rw [ht]; exact hw.1, hw.2.1, hw.2.2.F ht⟩) hw.2.2.2.2 d
theorem w_zret (hc : Cx p s m args c cc nL own meth (some .boolean) D cl tys) (hw : Wd D cl wf A s.heap σ H locs) {v : Int} (h01 : v = 0 ∨ v = 1) (hp : Post (some (.int (zI v))) σ) (d : decode cc pc = .ok (.ireturn, 1)) : W p l e R s m args below meth c H locs 0 0 (MQ below (Qw D cl wf A Post) args s 0 0 A) (F0 m pc ls [.int (zI v)]) := by
  obtain ⟨hx, hb, -, -, -, -, hr, hlk⟩ := hc
  exact W.zret hx hb hr (by rcases h01 with rfl | rfl <;> decide) (fun t ht hW => ⟨_, σ, rfl, hp, by rw [ht]; exact hw.1, hw.2.1, hw.2.2.F ht⟩) hw.2.2.2.2 d
theorem w_lret (hc : Cx p s m args c cc nL own meth (some .long) D cl tys) (hw : Wd D cl wf A s.heap σ H locs) {v : Int64} (hp : Post (some (.long v)) σ) (d : decode cc pc = .ok (.lreturn, 1)) : W p l e R s m args below meth c H locs 0 0 (MQ below (Qw D cl wf A Post) args s 0 0 A) (F0 m pc ls [.long v]) := by
  obtain ⟨hx, hb, -, -, -, -, hr, hlk⟩ := hc
  exact W.lret hx hb hr (fun t ht hW => ⟨_, σ, rfl, hp, by rw [ht]; exact hw.1, hw.2.1, hw.2.2.F ht⟩) hw.2.2.2.2 d
theorem w_vret (hc : Cx p s m args c cc nL own meth none D cl tys) (hw : Wd D cl wf A s.heap σ H locs) (hp : Post none σ) (d : decode cc pc = .ok (.return_, 1)) : W p l e R s m args below meth c H locs 0 0 (MQ below (Qw D cl wf A Post) args s 0 0 A) (F0 m pc ls []) := by
  obtain ⟨hx, hb, -, -, -, -, hr, hlk⟩ := hc
  exact W.vret hx hb hr (fun t ht hW => ⟨_, σ, rfl, hp, by rw [ht]; exact hw.1, hw.2.1, hw.2.2.F ht⟩) hw.2.2.2.2 d
/-- behind a call over the same world -/
theorem w_go {st : List Value} {σ0 : S0} (hr : CallRun p l e R s m args below meth c H locs cells slots 0 0 (F0 m pc ls st) rest (Qw D cl wf A Post ad) A) (hw : Wd D cl wf A s.heap σ0 H locs) (kk : ∀ (v : Option Value) (τ : S0) (H1 : Heap) (locs1 : List Loc), Post v τ → Wd D cl wf A s.heap τ H1 locs1 → W p l e R s m args below meth c H1 locs1 cells slots Q (F0 m (pc + 3) ls (v.toList ++ rest))) : W p l e R s m args below meth c H locs cells slots Q (F0 m pc ls st) := by
  intro T hT X
  obtain ⟨v, st₀, t, T', L, h0, X', hL, e1, ⟨v', τ, hv, hp, hP, hD, hF⟩, go⟩ := hr T hT X
  cases hv
  obtain ⟨-, -, s1, s2, s3⟩ := hw
  obtain ⟨f1, f2⟩ := hF
  rw [h0] at f1 f2
  obtain ⟨t2, a1, b1⟩ := kk v τ t.heap (locs ++ L) hp ⟨hP, hD, Nat.le_trans s1 f1, fun q g1 g2 => (f2 q (Nat.lt_of_lt_of_le g1 s1) g2).trans (s2 q g1 g2), fun q hq => (List.mem_append.mp hq).elim (s3 q) (hL q)⟩ T' e1 X'
  exact ⟨t2, go t2 a1, b1⟩
theorem pw_blind {as : List Value} : FrameBlind (Pw D cl tys wf A as σ) := fun a U g mk q => by
  obtain ⟨q0, q1, q2, q3, q4⟩ := q
  exact ⟨q0, TB.moved (s := U) (State.WarmedH.refl U) q1, va_K.moved (u := U) (U := U.calling g mk a) (Vm.Alike.refl U.vm) q2, q3, q4⟩
/-- a callee's own words -/
def Yw (y : MethodName) (cc : ByteArray) (nL : Nat) (ret : Option FieldType) (n : Nat) : Prop := Cond.code y cc nL ret ∈ lw_gd ∧ Cond.initialized y.cls ∈ lw_gd ∧ y.cls ≠ "java/lang/invoke/MethodHandle" ∧ y.cls ≠ "java/lang/invoke/VarHandle" ∧ (parseMethodDescriptor y.desc).map (fun d => d.parameters.length) = some n
theorem callB_w {y : MethodName} {bytes : ByteArray} {maxL n h index : Nat} {ret' : Option FieldType} (hTB : TB s) (yw : Yw y bytes maxL ret' n) (lk : Cond.methodLink own index y ∈ lw_gd) (hR : h + 1 ≤ R.frames ∧ 8 + (maxL + 11) + 64 * h ≤ R.locals) : CallB R s args own index y bytes maxL ret' [.code y bytes maxL ret'] (Rmh h) 0 0 n := by
  obtain ⟨y1, y2, y3, y4, y5⟩ := yw
  refine ⟨rfl, rfl, hR.1, hR.2, fun w hw a' U hW => ?_, List.mem_cons_self, hTB.hts args _ y1, hTB.hts args _ y2, ⟨y3, y4⟩, fun sig hs => ?_, hTB.hts args _ lk⟩
  · rw [List.mem_singleton.mp hw]
    exact hTB.at hW a' _ y1
  · rw [hs] at y5
    exact (Option.some.inj y5).symm
theorem va_CN_w {y : MethodName} {bytes : ByteArray} {maxL n h index : Nat} {ret' : Option FieldType} {host : String} (hTB : TB s) (yw : Yw y bytes maxL ret' n) (lk : Cond.methodLinkNest own index y host ∈ lw_gd) (hR : h + 1 ≤ R.frames ∧ 8 + (maxL + 11) + 64 * h ≤ R.locals) : va_CN R s args own index y host bytes maxL ret' [.code y bytes maxL ret'] (Rmh h) 0 0 n := by
  obtain ⟨y1, y2, y3, y4, y5⟩ := yw
  refine ⟨⟨rfl, rfl, hR.1, hR.2, fun w hw a' U hW => ?_, List.mem_cons_self⟩, hTB.hts args _ y1, hTB.hts args _ y2, ⟨y3, y4⟩, fun sig hs => ?_, hTB.hts args _ lk⟩
  · rw [List.mem_singleton.mp hw]
    exact hTB.at hW a' _ y1
  · rw [hs] at y5
    exact (Option.some.inj y5).symm
/-- invokevirtual of an object of the world -/
theorem w_cv {y : MethodName} {bytes : ByteArray} {maxL n h index q0 ci N b : Nat} {ret' : Option FieldType} {as st : List Value} {C : String} {T : u_T} {fs : List Value} (hc : Cx p s m args c cc nL own meth ret D cl tys) (hw : Wd D cl wf A s.heap σ H locs) (hC : Cw l D cl tys wf y bytes maxL ret' h (.ref b :: as) σ Post) (yw : Yw y bytes maxL ret' n) (yi : Cond.instanceMethod y ∈ lw_gd ∧ Cond.selects C y y ∈ lw_gd) (lk : Cond.methodLink own index y ∈ lw_gd) (d : decode cc pc = .ok (.invokevirtual index, 3))
    (hst : st = as.reverse ++ .ref b :: rest) (hq : (wf σ)[q0]? = some (b, .inr (ci, fs))) (hci : cl[ci]? = some (C, T, N)) (hn : as.length = n) (hl : ls.size = nL) (hrm : (rest.map fun v => v.category).sum ≤ 8) (hR : h + 1 ≤ R.frames ∧ 8 + (maxL + 11) + 64 * h ≤ R.locals) (hf : cells ≤ R.cells ∧ slots ≤ R.slots)
    (kk : ∀ (v : Option Value) (τ : S0) (H1 : Heap) (locs1 : List Loc), Post v τ → Wd D cl wf A s.heap τ H1 locs1 → W p l e R s m args below meth c H1 locs1 cells slots Q (F0 m (pc + 3) ls (v.toList ++ rest))) : W p l e R s m args below meth c H locs cells slots Q (F0 m pc ls st) := by
  obtain ⟨hx, hb, hml, hown, hTB, hK, -, -⟩ := hc
  refine w_go (W.runV (C := C) (Ts := lw_gd) ⟨hx, hb, hml, hown, hTB.hts args⟩ (hC A) ⟨callB_w hTB yw lk hR, hTB.hts args _ yi.1, hTB.hts args _ yi.2⟩ ⟨pw_blind, va_recv (q := (C, T, N)) hK hw.1 hci hq, fun U hU hW => ⟨rfl, hTB.moved hW, va_K.moved hW.alike hK, by rw [hU]; exact hw.1, hw.2.1⟩⟩ rfl hn hl hst (lv_room hrm) d hf) hw kk
/-- invokestatic -/
theorem w_cs {y : MethodName} {bytes : ByteArray} {maxL n h index : Nat} {ret' : Option FieldType} {as st : List Value} (hc : Cx p s m args c cc nL own meth ret D cl tys) (hw : Wd D cl wf A s.heap σ H locs) (hC : Cw l D cl tys wf y bytes maxL ret' h as σ Post) (yw : Yw y bytes maxL ret' n) (yi : Cond.static y ∈ lw_gd) (lk : Cond.methodLink own index y ∈ lw_gd) (d : decode cc pc = .ok (.invokestatic index, 3))
    (hst : st = as.reverse ++ rest) (hn : as.length = n) (hl : ls.size = nL) (hrm : (rest.map fun v => v.category).sum ≤ 8) (hR : h + 1 ≤ R.frames ∧ 8 + (maxL + 11) + 64 * h ≤ R.locals) (hf : cells ≤ R.cells ∧ slots ≤ R.slots)
    (kk : ∀ (v : Option Value) (τ : S0) (H1 : Heap) (locs1 : List Loc), Post v τ → Wd D cl wf A s.heap τ H1 locs1 → W p l e R s m args below meth c H1 locs1 cells slots Q (F0 m (pc + 3) ls (v.toList ++ rest))) : W p l e R s m args below meth c H locs cells slots Q (F0 m pc ls st) := by
  obtain ⟨hx, hb, hml, hown, hTB, hK, -, -⟩ := hc
  refine w_go (W.runS (Ts := lw_gd) ⟨hx, hb, hml, hown, hTB.hts args⟩ (hC A) ⟨callB_w hTB yw lk hR, hTB.hts args _ yi⟩ ⟨pw_blind, fun U hU hW => ⟨rfl, hTB.moved hW, va_K.moved hW.alike hK, by rw [hU]; exact hw.1, hw.2.1⟩⟩ rfl hn hl hst (lv_room hrm) d hf) hw kk
/-- invokestatic of a nest mate's -/
theorem w_csN {y : MethodName} {bytes : ByteArray} {maxL n h index : Nat} {ret' : Option FieldType} {as st : List Value} {host : String} (hc : Cx p s m args c cc nL own meth ret D cl tys) (hw : Wd D cl wf A s.heap σ H locs) (hC : Cw l D cl tys wf y bytes maxL ret' h as σ Post) (yw : Yw y bytes maxL ret' n) (yi : Cond.static y ∈ lw_gd) (lk : Cond.methodLinkNest own index y host ∈ lw_gd) (d : decode cc pc = .ok (.invokestatic index, 3))
    (hst : st = as.reverse ++ rest) (hn : as.length = n) (hl : ls.size = nL) (hrm : (rest.map fun v => v.category).sum ≤ 8) (hR : h + 1 ≤ R.frames ∧ 8 + (maxL + 11) + 64 * h ≤ R.locals) (hf : cells ≤ R.cells ∧ slots ≤ R.slots)
    (kk : ∀ (v : Option Value) (τ : S0) (H1 : Heap) (locs1 : List Loc), Post v τ → Wd D cl wf A s.heap τ H1 locs1 → W p l e R s m args below meth c H1 locs1 cells slots Q (F0 m (pc + 3) ls (v.toList ++ rest))) : W p l e R s m args below meth c H locs cells slots Q (F0 m pc ls st) := by
  obtain ⟨hx, hb, hml, hown, hTB, hK, -, -⟩ := hc
  refine w_go (ad := as.toArray) ?_ hw kk
  intro T hT X
  obtain ⟨v, st₀, t, T', L, h0, X', hL, e1, e2, h3, go⟩ := va_runSN (Ts := lw_gd) ⟨hx, hb, hml, hown, hTB.hts args⟩ (hC A) ⟨va_CN_w hTB yw lk hR, hTB.hts args _ yi, trivial⟩ ⟨pw_blind, fun U hU hW => ⟨rfl, hTB.moved hW, va_K.moved hW.alike hK, by rw [hU]; exact hw.1, hw.2.1⟩⟩ rfl hn hl hst (lv_room hrm) d hf T hT X
  exact ⟨v, st₀, t, T', L, h0, X', hL, e1, h3, go⟩
end CR
