/-! constructors: worlds that grow at their end -/
def TN (U : State) : Prop := (Cond.arrayOver (.array .long)).before #[] U = true
theorem TN.moved {u U : State} (hvm : u.vm.Alike U.vm) (h : TN u) : TN U := by
  unfold TN at h
  obtain ⟨comp, c, k, h1, h2, h3, h4, h5⟩ : ∃ (comp c : Nat) (k : Class), u.vm.findClass (FieldType.array .long).toString = some comp ∧ (u.vm.classes.findIdx? fun (x : Class) => match x.kind with | .array component _ => component == comp | _ => false) = some c ∧ u.vm.classes[c]? = some k ∧ (∃ z, k.kind = .array z (.array .long)) ∧ u.vm.findClass ("[" ++ (FieldType.array .long).toString) = some c := by
    unfold Cond.before Cond.holds at h
    simp only [Cond.value] at h
    cases e1 : u.vm.findClass (FieldType.array .long).toString with
    | none => rw [e1] at h; simp at h
    | some comp =>
      rw [e1, Option.bind_some] at h
      cases e2 : (u.vm.classes.findIdx? fun (x : Class) => match x.kind with | .array component _ => component == comp | _ => false) with
      | none =>
        have h' := (congrArg (fun o : Option Nat => (o.bind (fun c => (u.vm.classes[c]?).map fun (k : Class) => match k.kind with | .array _ ty => decide (ty = FieldType.array .long) && decide (u.vm.findClass ("[" ++ (FieldType.array .long).toString) = some c) | _ => false) == some true)) e2).symm.trans h
        simp at h'
      | some c =>
        have h' := (congrArg (fun o : Option Nat => (o.bind (fun c => (u.vm.classes[c]?).map fun (k : Class) => match k.kind with | .array _ ty => decide (ty = FieldType.array .long) && decide (u.vm.findClass ("[" ++ (FieldType.array .long).toString) = some c) | _ => false) == some true)) e2).symm.trans h
        simp only [Option.bind_some] at h'
        cases e3 : u.vm.classes[c]? with
        | none => rw [e3] at h'; simp at h'
        | some k =>
          rw [e3] at h'
          cases e4 : k.kind with
          | array z ty =>
            simp [e4] at h'
            exact ⟨comp, c, k, rfl, e2, e3, ⟨z, by rw [e4, h'.1]⟩, h'.2⟩
          | _ => simp [e4] at h'
  obtain ⟨k', hk', he⟩ := hvm.2.2 _ _ h3
  obtain ⟨z, h4⟩ := h4
  have hi : (U.vm.classes.findIdx? fun (x : Class) => match x.kind with | .array component _ => component == comp | _ => false) = some c := by
    have h3' : (U.vm.bare.classes.findIdx? fun (x : Class) => match x.kind with | .array component _ => component == comp | _ => false) = some c := by
      first
      | (rw [hvm.bare_eq]; exact (va_idx_bare u.vm comp).trans h2)
      | (rw [← hvm.bare_eq]; exact (va_idx_bare u.vm comp).trans h2)
    exact (va_idx_bare U.vm comp).symm.trans h3'
  have hkind : k'.kind = .array z (.array .long) := by rw [he]; exact h4
  have f1 : U.vm.findClass (FieldType.array .long).toString = some comp := by rw [hvm.findClass]; exact h1
  have f2 : U.vm.findClass ("[" ++ (FieldType.array .long).toString) = some c := by rw [hvm.findClass]; exact h5
  unfold TN Cond.before Cond.holds
  simp only [Cond.value]
  rw [f1, Option.bind_some]
  refine (congrArg (fun o : Option Nat => (o.bind (fun c => (U.vm.classes[c]?).map fun (k : Class) => match k.kind with | .array _ ty => decide (ty = FieldType.array .long) && decide (U.vm.findClass ("[" ++ (FieldType.array .long).toString) = some c) | _ => false) == some true)) hi).trans ?_
  simp [hk', hkind, f2]
/-- what holds all through a constructor -/
def C0 (p : Program) (s : State) (m : MethodId) (args : Array Value) (c : Code) (cc : ByteArray) (own : String) (meth : Method) : Prop :=
  p.tables.exec = Jvm.exec ∧ c.code = cc ∧ c.maxLocals = 1 ∧ s.vm.findClass own = some m.cls ∧ TB s ∧ TN s ∧ meth.name = "<init>" ∧ meth.sig.returnType = none ∧ meth.locks = false
def Wl (D : va_G) (A : Nat → Prop) (H0 : Heap) (s : State) (tys : List (ClassId × FieldType)) (ws : va_W) (H : Heap) (locs : List Loc) : Prop :=
  va_K D cl7 tys s ∧ va_P D cl7 ws H ∧ va_D A ws ∧ va_S A H0 H locs ∧ ∀ q, H0.size ≤ q → A q
def Ab (b sz : Nat) : Nat → Prop := fun q => q = b ∨ sz ≤ q
def Rmc (h mc ms : Nat) : Room := { frames := h, cells := mc, slots := ms, locals := 64 * h }
/-- A CONSTRUCTOR'S CONTRACT: of the new object at b it makes a world of the kind Wn -/
def Cn (l : Launch) (D : va_G) (y : MethodName) (cc : ByteArray) (h mc ms b ci : Nat) (fs0 : List Value) (Wn : va_W → List (ClassId × FieldType) → Prop) (sz : Nat) : Prop :=
  Met l y [.code y cc 1 none] (Rmc h mc ms) (va_Pc [.ref b] (fun U => TB U ∧ TN U ∧ U.heap.size = sz ∧ va_K D cl7 [] U ∧ va_P D cl7 [(b, .inr (ci, fs0))] U.heap))
    (fun _ st o t => o = .returned none ∧ ∃ w tys, Wn w tys ∧ va_K D cl7 tys t ∧ va_P D cl7 w t.heap ∧ va_D (Ab b sz) w ∧ va_F (Ab b sz) st t) mc ms (Ab b sz)
theorem Cn.enter {l : Launch} {D : va_G} {y : MethodName} {cc : ByteArray} {h mc ms b ci : Nat} {fs0 : List Value} {Wn : va_W → List (ClassId × FieldType) → Prop} {sz : Nat} (hy : plainName y.cls = true) (hi : y.name = "<init>")
    (body : ∀ (p : Program) (e : Env) (s : State) (m : MethodId) (below : List Frame) (meth : Method) (c : Code), C0 p s m [Value.ref b].toArray c cc y.cls meth → ∀ ls : Array Slot, lv_has ls 1 [(0, .ref b)] → Wl D (Ab b sz) s.heap s [] [(b, .inr (ci, fs0))] s.heap [] →
      W p l e (Rmc h mc ms) s m [Value.ref b].toArray below meth c s.heap [] 0 0 (MQ below (fun _ st o t => o = .returned none ∧ ∃ w tys, Wn w tys ∧ va_K D cl7 tys t ∧ va_P D cl7 w t.heap ∧ va_D (Ab b sz) w ∧ va_F (Ab b sz) st t) [Value.ref b].toArray s mc ms (Ab b sz)) (F0 m 0 ls [])) : Cn l D y cc h mc ms b ci fs0 Wn sz := by
  refine Met.ofW (cc := cc) (maxL := 1) (ret := none) hy rfl ?_
  intro p e s m args below meth c s₁ B hml hv
  obtain ⟨rfl, hTB, hTN, hsz, hK, hP⟩ := hv
  have hl := lv_entry ([.ref b]) (n := 1) (Nat.le_of_ble_eq_true rfl)
  rw [lg_entry_eq]
  refine body p e s m below meth c ⟨B.exec, B.bytes, hml, findClass_of_methodNamed B.named, hTB, hTN, ?_, B.returns, B.notSynchronized⟩ _ hl ⟨hK, hP, ?_, va_S.rf, fun q hq => Or.inr (hsz ▸ hq)⟩
  · rw [(name_of_methodNamed B.named B.method).1]; exact hi
  · refine ⟨fun i j p q hi hj _ => ?_, fun k q hk => ?_⟩
    · have h1 : i < 1 := (List.getElem?_eq_some_iff.mp hi).1
      have h2 : j < 1 := (List.getElem?_eq_some_iff.mp hj).1
      omega
    · have h1 : k < 1 := (List.getElem?_eq_some_iff.mp hk).1
      rw [show k = 0 by omega] at hk
      cases hk
      exact Or.inl rfl
section CNR
variable {p : Program} {l : Launch} {e : Env} {R : Room} {s : State} {m : MethodId} {args : Array Value} {below : List Frame} {meth : Method} {c : Code} {H H0 : Heap} {locs : List Loc} {cells slots : Nat} {Q : State → Prop}
variable {cc : ByteArray} {pc : Nat} {own : String} {ls : Array Slot} {rest : List Value} {D : va_G} {tys : List (ClassId × FieldType)} {ws : va_W} {A : Nat → Prop}
theorem n_newI {nL : Nat} {atype : ArrayType} {ty : FieldType} {N' : Nat} {n : Int} (hx : p.tables.exec = Jvm.exec) (hb : c.code = cc) (hTB : TB s) (hw : Wl D A H0 s tys ws H locs) (hac : Cond.arrayClass (newarray.typeOf atype) ∈ lw_gd) (hty : newarray.typeOf atype = ty) (f : Nat) (hdef : defaultValue ty = .int 0) (hn : ¬ zI n < 0) (hN : (zI n).toNatClampNeg = N') (hby : N' * componentBytes ty ≤ 536870912) (hcs : cells + 1 ≤ R.cells ∧ slots + N' ≤ R.slots) (d : decode cc pc = .ok (.newarray atype, 2))
    (kk : ∀ (q : Nat) (cA : ClassId) (H1 : Heap), Wl D A H0 s (tys ++ [(cA, ty)]) (ws ++ [(q, .inl (cA, N', .inl (fun _ => zI 0)))]) H1 locs → W p l e R s m args below meth c H1 locs (cells + 1) (slots + N') Q (F0 m (pc + 2) ls (.ref q :: rest))) : W p l e R s m args below meth c H locs cells slots Q (F0 m pc ls (.int (zI n) :: rest)) := by
  obtain ⟨hK, hP, hD, hS, hA⟩ := hw
  exact va_newa hx hb (hTB.hts args _ hac) hty hK hP hD hS hA (a0 := (N', .inl (fun _ => zI 0))) (fun cA => by rw [hdef]; rfl) hn hN hby hcs.1 hcs.2 d (fun q cA H1 k1 k2 k3 k4 => kk q cA H1 ⟨k1, k2, k3, k4, hA⟩)
theorem n_newL {nL : Nat} {N' : Nat} {n : Int} (hx : p.tables.exec = Jvm.exec) (hb : c.code = cc) (hTB : TB s) (hw : Wl D A H0 s tys ws H locs) (hac : Cond.arrayClass .long ∈ lw_gd) (hn : ¬ zI n < 0) (hN : (zI n).toNatClampNeg = N') (hby : N' * 8 ≤ 536870912) (hcs : cells + 1 ≤ R.cells ∧ slots + N' ≤ R.slots) (d : decode cc pc = .ok (.newarray .long, 2))
    (kk : ∀ (q : Nat) (cA : ClassId) (H1 : Heap), Wl D A H0 s (tys ++ [(cA, .long)]) (ws ++ [(q, .inl (cA, N', .inr (.inl (fun _ => zL 0))))]) H1 locs → W p l e R s m args below meth c H1 locs (cells + 1) (slots + N') Q (F0 m (pc + 2) ls (.ref q :: rest))) : W p l e R s m args below meth c H locs cells slots Q (F0 m pc ls (.int (zI n) :: rest)) := by
  obtain ⟨hK, hP, hD, hS, hA⟩ := hw
  exact va_newa (atype := .long) hx hb (hTB.hts args _ hac) rfl hK hP hD hS hA (a0 := (N', .inr (.inl (fun _ => zL 0)))) (fun cA => rfl) hn hN hby hcs.1 hcs.2 d (fun q cA H1 k1 k2 k3 k4 => kk q cA H1 ⟨k1, k2, k3, k4, hA⟩)
theorem n_ret (h : C0 p s m args c cc own meth) {Wn : va_W → List (ClassId × FieldType) → Prop} {mc ms : Nat} (hw : Wl D A s.heap s tys ws H locs) (hn : Wn ws tys) (hcs : cells = mc ∧ slots = ms) (d : decode cc pc = .ok (.return_, 1)) :
    W p l e R s m args below meth c H locs cells slots (MQ below (fun _ st o t => o = .returned none ∧ ∃ w tys, Wn w tys ∧ va_K D cl7 tys t ∧ va_P D cl7 w t.heap ∧ va_D A w ∧ va_F A st t) args s mc ms A) (F0 m pc ls []) := by
  obtain ⟨hx, hb, -, -, -, -, -, hr, hlk⟩ := h
  obtain ⟨rfl, rfl⟩ := hcs
  exact W.vret hx hb hr (fun t ht hW => ⟨rfl, ws, tys, hn, va_K.moved hW.alike hw.1, by rw [ht]; exact hw.2.1, hw.2.2.1, hw.2.2.2.1.F ht⟩) hw.2.2.2.1.2.2 d
/-- new long[2][K'] -/
theorem n_mna {index : Nat} {K' : Nat} {k : Int} (hx : p.tables.exec = Jvm.exec) (hb : c.code = cc) (hown : s.vm.findClass own = some m.cls) (hTB : TB s) (hTN : TN s) (hw : Wl D A H0 s tys ws H locs) (hcl : Cond.classLink own index "[[J" ∈ lw_gd) (hac : Cond.arrayClass .long ∈ lw_gd) (hk : ¬ zI k < 0) (hM : (zI k).toNatClampNeg = K') (hby : K' * 8 ≤ 536870912) (hcs : cells + 3 ≤ R.cells ∧ slots + (2 + 2 * K') ≤ R.slots) (d : decode cc pc = .ok (.multianewarray index 2, 4))
    (kk : ∀ (q r0 r1 : Nat) (cA cy : ClassId) (H1 : Heap), Wl D A H0 s (tys ++ [(cA, .array .long), (cy, .long), (cy, .long)]) (ws ++ [(q, .inl (cA, 2, .inr (.inr (.inr (.inr (fun i => if i = 0 then some r0 else if i = 1 then some r1 else none)))))), (r0, .inl (cy, K', .inr (.inl (fun _ => zL 0)))), (r1, .inl (cy, K', .inr (.inl (fun _ => zL 0))))]) H1 locs → W p l e R s m args below meth c H1 locs (cells + 3) (slots + (2 + 2 * K')) Q (F0 m (pc + 4) ls (.ref q :: rest))) : W p l e R s m args below meth c H locs cells slots Q (F0 m pc ls (.int (zI k) :: .int (zI 2) :: rest)) := by
  obtain ⟨hK, hP, hD, hS, hA⟩ := hw
  subst hM
  intro T hT X
  have h2 : (zI 2).toNatClampNeg = 2 := by decide
  obtain ⟨vm₁, cA, cy, -, fA, fC, hO, hI, X', step⟩ := X.multianewarray2F hx hown (ty := .long) (hTB.hts args _ hcl) hTN (hTB.hts args _ hac) (g := F0 m pc ls (.int (zI k) :: .int (zI 2) :: rest)) rfl (by rw [hb]; exact d) rfl (by decide) hk (by decide) hby (by omega) rfl rfl (by rw [h2]; exact hcs.1) (by rw [h2]; exact hcs.2)
  rw [h2] at X' step
  generalize hF : Jvm.Free.Multi.fill (T.setVm vm₁) cA cy 2 (zI k).toNatClampNeg (defaultValue .long) 2 = F at X' step
  have hTh : (T.setVm vm₁).heap = H := hT
  obtain ⟨f1, f2, -, -⟩ := Jvm.Free.Multi.fill_facts (T.setVm vm₁) cA cy 2 (zI k).toNatClampNeg (defaultValue .long) 2
  rw [hF, hTh] at f1 f2
  have hold : ∀ x : Nat, x < H.size → F.heap[x]? = H[x]? := fun x hx => by
    have := Jvm.Free.Multi.fill_old (T.setVm vm₁) cA cy 2 (zI k).toNatClampNeg (defaultValue .long) (a := x) (by rw [hTh]; exact hx) 2
    rw [hF, hTh] at this
    exact this
  have hrow : ∀ j : Nat, j < 2 → F.heap[H.size + 1 + j]? = some (vp_cell cy ((zI k).toNatClampNeg, .inr (.inl (fun _ => zL 0)))) := fun j hj => by
    have := Jvm.Free.Multi.fill_inner (T.setVm vm₁) cA cy 2 (zI k).toNatClampNeg (defaultValue .long) 2 j hj
    rw [hF, hTh] at this
    rw [this]
    show some (({ cls := cy, slots := Array.replicate (zI k).toNatClampNeg (.long 0), vm := .none } : Cell)) = _
    rw [arrV_new]; rfl
  have hout : Jvm.Free.Multi.outerC cA 2 H.size 2 = vp_cell cA (2, .inr (.inr (.inr (.inr (fun i => if i = 0 then some (H.size + 1) else if i = 1 then some (H.size + 2) else none))))) := by
    rw [vp_cell_q]
    show ((({ cls := cA, slots := Array.replicate 2 .null, vm := .none } : Cell).setSlot 0 (.ref (H.size + 1 + 0))).setSlot 1 (.ref (H.size + 1 + 1))) = _
    rw [arrV_new, arrV_store, arrV_store]
    refine congrArg (arrV cA 2) (funext fun j => ?_)
    by_cases e0 : j = 0
    · subst e0; simp [updV, va_rf]
    · by_cases e1 : j = 1
      · subst e1; simp [updV, va_rf]
      · simp [updV, va_rf, e0, e1]
  rw [hout] at f2
  have hnew : va_P D cl7 [(H.size, .inl (cA, 2, .inr (.inr (.inr (.inr (fun i => if i = 0 then some (H.size + 1) else if i = 1 then some (H.size + 2) else none)))))), (H.size + 1, .inl (cy, (zI k).toNatClampNeg, .inr (.inl (fun _ => zL 0)))), (H.size + 2, .inl (cy, (zI k).toNatClampNeg, .inr (.inl (fun _ => zL 0))))] F.heap := by
    intro i q hq
    match i, hq with
    | 0, hq => cases hq; exact f2
    | 1, hq => cases hq; exact hrow 0 (by decide)
    | 2, hq => cases hq; exact hrow 1 (by decide)
  have hlt : ∀ (i : Nat) (q : Nat × va_E), ws[i]? = some q → q.1 < H.size := fun i q hq => (hP i q hq).lt
  have hP1 := (hP.kept (H1 := F.heap) (fun i q hq => hold _ (hlt i q hq))).app hnew
  have hD1 : va_D A (ws ++ [(H.size, .inl (cA, 2, .inr (.inr (.inr (.inr (fun i => if i = 0 then some (H.size + 1) else if i = 1 then some (H.size + 2) else none)))))), (H.size + 1, .inl (cy, (zI k).toNatClampNeg, .inr (.inl (fun _ => zL 0)))), (H.size + 2, .inl (cy, (zI k).toNatClampNeg, .inr (.inl (fun _ => zL 0))))]) := by
    have key : ∀ (i : Nat) (q : Nat × va_E), (ws ++ [(H.size, .inl (cA, 2, .inr (.inr (.inr (.inr (fun i => if i = 0 then some (H.size + 1) else if i = 1 then some (H.size + 2) else none)))))), (H.size + 1, .inl (cy, (zI k).toNatClampNeg, .inr (.inl (fun _ => zL 0)))), (H.size + 2, .inl (cy, (zI k).toNatClampNeg, .inr (.inl (fun _ => zL 0))))])[i]? = some q → (ws[i]? = some q ∧ q.1 < H.size) ∨ (ws.length ≤ i ∧ q.1 = H.size + (i - ws.length)) := by
      intro i q hq
      by_cases hl : i < ws.length
      · rw [List.getElem?_append_left hl] at hq
        exact Or.inl ⟨hq, hlt i q hq⟩
      · rw [List.getElem?_append_right (by omega)] at hq
        refine Or.inr ⟨by omega, ?_⟩
        generalize hj : i - ws.length = j at hq ⊢
        match j, hq with
        | 0, hq => cases hq; rfl
        | 1, hq => cases hq; rfl
        | 2, hq => cases hq; rfl
    refine ⟨fun i j x y hi hj hxy => ?_, fun i x hi => ?_⟩
    · rcases key i x hi with ⟨a1, a2⟩ | ⟨a1, a2⟩ <;> rcases key j y hj with ⟨b1, b2⟩ | ⟨b1, b2⟩
      · exact hD.1 i j x y a1 b1 hxy
      · omega
      · omega
      · omega
    · rcases key i x hi with ⟨a1, a2⟩ | ⟨a1, a2⟩
      · exact hD.2 i x a1
      · exact hA _ (by have := hS.1; omega)
  have hAr : ArrOfT s cA (.array .long) := fun N9 z9 => by
    obtain ⟨-, k9, hk9, cm9, hkk9⟩ := (hO 0 0 0).1
    exact ⟨(fun q hq => by cases hq), k9, hk9, cm9, hkk9⟩
  have hAy : ArrOfT s cy .long := fun N9 z9 => by
    obtain ⟨-, k9, hk9, cm9, hkk9⟩ := (hI 0 .null).1
    exact ⟨(fun q hq => by cases hq), k9, hk9, cm9, hkk9⟩
  have hK2 : va_K D cl7 (tys ++ [(cA, .array .long), (cy, .long), (cy, .long)]) s := hK.app ⟨hK.1, fun i q hq => by
    match i, hq with
    | 0, hq => cases hq; exact ⟨hAr, fA⟩
    | 1, hq => cases hq; exact ⟨hAy, fC⟩
    | 2, hq => cases hq; exact ⟨hAy, fC⟩⟩
  obtain ⟨t, a1, b1⟩ := kk H.size (H.size + 1) (H.size + 2) cA cy F.heap ⟨hK2, hP1, hD1, ⟨by rw [f1]; have := hS.1; omega, fun x h1 h2 => (hold x (Nat.lt_of_lt_of_le h1 hS.1)).trans (hS.2.1 x h1 h2), hS.2.2⟩, hA⟩ F rfl (by
    have e1 : cells + 1 + 2 = cells + 3 := by omega
    have e2 : slots + 2 + 2 * (zI k).toNatClampNeg = slots + (2 + 2 * (zI k).toNatClampNeg) := by omega
    rw [e1, e2] at X'
    exact X')
  refine ⟨t, step t ?_, b1⟩
  have e : T.heap.size = H.size := by rw [hT]
  rw [e]
  exact a1
/-- a nested constructor's call, its object the last of the world -/
theorem n_call {y : MethodName} {bytes : ByteArray} {h mc ms b ci index : Nat} {fs0 : List Value} {Wn : va_W → List (ClassId × FieldType) → Prop} {host : String} (hc : C0 p s m args c cc own meth) (hC : ∀ sz, Cn l D y bytes h mc ms b ci fs0 Wn sz) (hi : y.name = "<init>") (yw : Yw y bytes 1 none 0) (yi : Cond.instanceMethod y ∈ lw_gd) (lk : Cond.methodLinkNest own index y host ∈ lw_gd) (hw : Wl D A H0 s tys (ws ++ [(b, .inr (ci, fs0))]) H locs) (hl : ls.size = 1) (hrm : (rest.map fun v => v.category).sum ≤ 8) (hR : h + 1 ≤ R.frames ∧ 8 + (1 + 11) + 64 * h ≤ R.locals) (hcs : cells + mc ≤ R.cells ∧ slots + ms ≤ R.slots) (d : decode cc pc = .ok (.invokespecial index, 3))
    (kk : ∀ (w : va_W) (tys' : List (ClassId × FieldType)) (H1 : Heap) (locs1 : List Loc), Wn w tys' → Wl D A H0 s (tys ++ tys') (ws ++ w) H1 locs1 → W p l e R s m args below meth c H1 locs1 (cells + mc) (slots + ms) Q (F0 m (pc + 3) ls rest)) : W p l e R s m args below meth c H locs cells slots Q (F0 m pc ls (.ref b :: rest)) := by
  obtain ⟨hx, hb, hml, hown, hTB, hTN, -, -, -⟩ := hc
  obtain ⟨hK, hP, hD, hS, hA⟩ := hw
  obtain ⟨y1, y2, y3, y4, y5⟩ := yw
  have hPb : va_P D cl7 [(b, .inr (ci, fs0))] H := fun i q hq => by
    have h1 : i < 1 := (List.getElem?_eq_some_iff.mp hq).1
    rw [show i = 0 by omega] at hq
    exact hP ws.length q (by rw [List.getElem?_append_right (Nat.le_refl _), Nat.sub_self]; exact hq)
  have hbA : A b := hD.2 ws.length (b, .inr (ci, fs0)) (by rw [List.getElem?_append_right (Nat.le_refl _), Nat.sub_self]; rfl)
  have hne : ∀ (i : Nat) (q : Nat × va_E), ws[i]? = some q → q.1 ≠ b := fun i q hq e => by
    have hl := (List.getElem?_eq_some_iff.mp hq).1
    have := hD.1 i ws.length q (b, .inr (ci, fs0)) (by rw [List.getElem?_append_left hl]; exact hq) (by rw [List.getElem?_append_right (Nat.le_refl _), Nat.sub_self]; rfl) e
    omega
  have hP0 : va_P D cl7 ws H := fun i q hq => hP i q (by rw [List.getElem?_append_left (List.getElem?_eq_some_iff.mp hq).1]; exact hq)
  have hrun := va_runIN (p := p) (e := e) (R := R) (s := s) (m := m) (args := args) (below := below) (meth := meth) (c := c) (H := H) (locs := locs) (cells := cells) (slots := slots) (Ts := lw_gd) (As := []) (rest := rest) (g := F0 m pc ls (.ref b :: rest)) ⟨hx, hb, hml, hown, hTB.hts args⟩ (hC H.size)
    ⟨⟨⟨rfl, rfl, hR.1, hR.2, fun w hw a' U hW => by rw [List.mem_singleton.mp hw]; exact hTB.at hW a' _ y1, List.mem_cons_self⟩, hTB.hts args _ y1, hTB.hts args _ y2, ⟨y3, y4⟩, fun sig hs => by rw [hs] at y5; exact (Option.some.inj y5).symm, hTB.hts args _ lk⟩, hi, hTB.hts args _ yi⟩
    ⟨fun a U g mk q => by
      obtain ⟨q0, q1, q2, q3, q4, q5⟩ := q
      exact ⟨q0, TB.moved (s := U) (State.WarmedH.refl U) q1, TN.moved (u := U) (U := U.calling g mk a) (Vm.Alike.refl U.vm) q2, q3, va_K.moved (u := U) (U := U.calling g mk a) (Vm.Alike.refl U.vm) q4, q5⟩,
     fun U hU hW => ⟨rfl, hTB.moved hW, TN.moved hW.alike hTN, by rw [hU], va_K.moved hW.alike (hK.sub (tys' := []) [] rfl), by rw [hU]; exact hPb⟩⟩ rfl rfl hl rfl (lv_room hrm) d hcs
  intro T hT X
  obtain ⟨v, st₀, t, T', L, h0, X', hL, e1, e2, ⟨hv, w, tys', hn, k1, k2, k3, k4, k5⟩, st⟩ := hrun T hT X
  cases hv
  rw [h0] at k4 k5
  have hsub : ∀ q, Ab b H.size q → A q := fun q hq => by
    rcases hq with rfl | hq
    · exact hbA
    · exact hA q (Nat.le_trans hS.1 hq)
  have hP1 : va_P D cl7 (ws ++ w) t.heap := (hP0.kept (fun i q hq => k5 q.1 ((hP0 i q hq).lt) (fun z => by
      rcases z with z | z
      · exact hne i q hq z
      · have := (hP0 i q hq).lt
        omega))).app k2
  have hD1 : va_D A (ws ++ w) := by
    have key : ∀ (i : Nat) (q : Nat × va_E), (ws ++ w)[i]? = some q → (ws[i]? = some q ∧ ¬ Ab b H.size q.1) ∨ (ws.length ≤ i ∧ w[i - ws.length]? = some q ∧ Ab b H.size q.1) := by
      intro i q hq
      by_cases hl : i < ws.length
      · rw [List.getElem?_append_left hl] at hq
        refine Or.inl ⟨hq, fun z => ?_⟩
        rcases z with z | z
        · exact hne i q hq z
        · have := (hP0 i q hq).lt
          omega
      · rw [List.getElem?_append_right (by omega)] at hq
        exact Or.inr ⟨by omega, hq, k3.2 _ _ hq⟩
    refine ⟨fun i j x y hi hj hxy => ?_, fun i x hi => ?_⟩
    · rcases key i x hi with ⟨a1, a2⟩ | ⟨a1, a2, a3⟩ <;> rcases key j y hj with ⟨b1, b2⟩ | ⟨b1, b2, b3⟩
      · exact hD.1 i j x y (by rw [List.getElem?_append_left (List.getElem?_eq_some_iff.mp a1).1]; exact a1) (by rw [List.getElem?_append_left (List.getElem?_eq_some_iff.mp b1).1]; exact b1) hxy
      · exact absurd (hxy ▸ b3) a2
      · exact absurd (hxy ▸ a3) b2
      · have := k3.1 _ _ x y a2 b2 hxy
        omega
    · rcases key i x hi with ⟨a1, a2⟩ | ⟨a1, a2, a3⟩
      · exact hD.2 i x (by rw [List.getElem?_append_left (List.getElem?_eq_some_iff.mp a1).1]; exact a1)
      · exact hsub _ a3
  have hal : s.vm.Alike t.vm := by rw [← e2]; exact X'.warmed.alike
  obtain ⟨t2, a1, b1⟩ := kk w tys' t.heap (locs ++ L) hn ⟨hK.app (va_K.moved hal.symm k1), hP1, hD1, ⟨Nat.le_trans hS.1 k4, fun q g1 g2 => (k5 q (Nat.lt_of_lt_of_le g1 hS.1) (fun z => g2 (hsub q z))).trans (hS.2.1 q g1 g2), fun q hq => (List.mem_append.mp hq).elim (hS.2.2 q) (fun z => hsub _ (hL q z))⟩, hA⟩ T' e1 X'
  exact ⟨t2, st t2 a1, b1⟩
end CNR
