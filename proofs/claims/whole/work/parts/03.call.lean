/-! calls that answer a value or nothing; constants; bits -/
section CR2
variable {S0 : Type} {p : Program} {l : Launch} {e : Env} {R : Room} {s : State} {m : MethodId} {args : Array Value} {below : List Frame} {meth : Method} {c : Code} {H : Heap} {locs : List Loc} {cells slots : Nat} {Q : State → Prop}
variable {cc : ByteArray} {pc nL : Nat} {own : String} {ret : Option FieldType} {ls : Array Slot} {rest : List Value} {D : va_G} {cl : List vw_C} {tys : List (ClassId × FieldType)} {wf : S0 → va_W} {A : Nat → Prop} {σ : S0} {r : Value} {P : S0 → Prop}
theorem w_cvR {y : MethodName} {bytes : ByteArray} {maxL n h index q0 ci N b : Nat} {ret' : Option FieldType} {as st : List Value} {C : String} {T : u_T} {fs : List Value} (hc : Cx p s m args c cc nL own meth ret D cl tys) (hw : Wd D cl wf A s.heap σ H locs) (hC : Cw l D cl tys wf y bytes maxL ret' h (.ref b :: as) σ (RW r P)) (yw : Yw y bytes maxL ret' n) (yi : Cond.instanceMethod y ∈ lw_gd ∧ Cond.selects C y y ∈ lw_gd) (lk : Cond.methodLink own index y ∈ lw_gd) (d : decode cc pc = .ok (.invokevirtual index, 3))
    (hst : st = as.reverse ++ .ref b :: rest) (hq : (wf σ)[q0]? = some (b, .inr (ci, fs))) (hci : cl[ci]? = some (C, T, N)) (hn : as.length = n) (hl : ls.size = nL) (hrm : (rest.map fun v => v.category).sum ≤ 8) (hR : h + 1 ≤ R.frames ∧ 8 + (maxL + 11) + 64 * h ≤ R.locals) (hf : cells ≤ R.cells ∧ slots ≤ R.slots)
    (kk : ∀ (τ : S0) (H1 : Heap) (locs1 : List Loc), P τ → Wd D cl wf A s.heap τ H1 locs1 → W p l e R s m args below meth c H1 locs1 cells slots Q (F0 m (pc + 3) ls (r :: rest))) : W p l e R s m args below meth c H locs cells slots Q (F0 m pc ls st) :=
  w_cv hc hw hC yw yi lk d hst hq hci hn hl hrm hR hf (fun v τ H1 locs1 hp hw => by obtain ⟨rfl, hp⟩ := hp; exact kk τ H1 locs1 hp hw)
theorem w_cvV {y : MethodName} {bytes : ByteArray} {maxL n h index q0 ci N b : Nat} {ret' : Option FieldType} {as st : List Value} {C : String} {T : u_T} {fs : List Value} (hc : Cx p s m args c cc nL own meth ret D cl tys) (hw : Wd D cl wf A s.heap σ H locs) (hC : Cw l D cl tys wf y bytes maxL ret' h (.ref b :: as) σ (VW P)) (yw : Yw y bytes maxL ret' n) (yi : Cond.instanceMethod y ∈ lw_gd ∧ Cond.selects C y y ∈ lw_gd) (lk : Cond.methodLink own index y ∈ lw_gd) (d : decode cc pc = .ok (.invokevirtual index, 3))
    (hst : st = as.reverse ++ .ref b :: rest) (hq : (wf σ)[q0]? = some (b, .inr (ci, fs))) (hci : cl[ci]? = some (C, T, N)) (hn : as.length = n) (hl : ls.size = nL) (hrm : (rest.map fun v => v.category).sum ≤ 8) (hR : h + 1 ≤ R.frames ∧ 8 + (maxL + 11) + 64 * h ≤ R.locals) (hf : cells ≤ R.cells ∧ slots ≤ R.slots)
    (kk : ∀ (τ : S0) (H1 : Heap) (locs1 : List Loc), P τ → Wd D cl wf A s.heap τ H1 locs1 → W p l e R s m args below meth c H1 locs1 cells slots Q (F0 m (pc + 3) ls rest)) : W p l e R s m args below meth c H locs cells slots Q (F0 m pc ls st) :=
  w_cv hc hw hC yw yi lk d hst hq hci hn hl hrm hR hf (fun v τ H1 locs1 hp hw => by obtain ⟨rfl, hp⟩ := hp; exact kk τ H1 locs1 hp hw)
theorem w_csR {y : MethodName} {bytes : ByteArray} {maxL n h index : Nat} {ret' : Option FieldType} {as st : List Value} (hc : Cx p s m args c cc nL own meth ret D cl tys) (hw : Wd D cl wf A s.heap σ H locs) (hC : Cw l D cl tys wf y bytes maxL ret' h as σ (RW r P)) (yw : Yw y bytes maxL ret' n) (yi : Cond.static y ∈ lw_gd) (lk : Cond.methodLink own index y ∈ lw_gd) (d : decode cc pc = .ok (.invokestatic index, 3))
    (hst : st = as.reverse ++ rest) (hn : as.length = n) (hl : ls.size = nL) (hrm : (rest.map fun v => v.category).sum ≤ 8) (hR : h + 1 ≤ R.frames ∧ 8 + (maxL + 11) + 64 * h ≤ R.locals) (hf : cells ≤ R.cells ∧ slots ≤ R.slots)
    (kk : ∀ (τ : S0) (H1 : Heap) (locs1 : List Loc), P τ → Wd D cl wf A s.heap τ H1 locs1 → W p l e R s m args below meth c H1 locs1 cells slots Q (F0 m (pc + 3) ls (r :: rest))) : W p l e R s m args below meth c H locs cells slots Q (F0 m pc ls st) :=
  w_cs hc hw hC yw yi lk d hst hn hl hrm hR hf (fun v τ H1 locs1 hp hw => by obtain ⟨rfl, hp⟩ := hp; exact kk τ H1 locs1 hp hw)
theorem w_csV {y : MethodName} {bytes : ByteArray} {maxL n h index : Nat} {ret' : Option FieldType} {as st : List Value} (hc : Cx p s m args c cc nL own meth ret D cl tys) (hw : Wd D cl wf A s.heap σ H locs) (hC : Cw l D cl tys wf y bytes maxL ret' h as σ (VW P)) (yw : Yw y bytes maxL ret' n) (yi : Cond.static y ∈ lw_gd) (lk : Cond.methodLink own index y ∈ lw_gd) (d : decode cc pc = .ok (.invokestatic index, 3))
    (hst : st = as.reverse ++ rest) (hn : as.length = n) (hl : ls.size = nL) (hrm : (rest.map fun v => v.category).sum ≤ 8) (hR : h + 1 ≤ R.frames ∧ 8 + (maxL + 11) + 64 * h ≤ R.locals) (hf : cells ≤ R.cells ∧ slots ≤ R.slots)
    (kk : ∀ (τ : S0) (H1 : Heap) (locs1 : List Loc), P τ → Wd D cl wf A s.heap τ H1 locs1 → W p l e R s m args below meth c H1 locs1 cells slots Q (F0 m (pc + 3) ls rest)) : W p l e R s m args below meth c H locs cells slots Q (F0 m pc ls st) :=
  w_cs hc hw hC yw yi lk d hst hn hl hrm hR hf (fun v τ H1 locs1 hp hw => by obtain ⟨rfl, hp⟩ := hp; exact kk τ H1 locs1 hp hw)
theorem w_csNR {y : MethodName} {bytes : ByteArray} {maxL n h index : Nat} {ret' : Option FieldType} {as st : List Value} {host : String} (hc : Cx p s m args c cc nL own meth ret D cl tys) (hw : Wd D cl wf A s.heap σ H locs) (hC : Cw l D cl tys wf y bytes maxL ret' h as σ (RW r P)) (yw : Yw y bytes maxL ret' n) (yi : Cond.static y ∈ lw_gd) (lk : Cond.methodLinkNest own index y host ∈ lw_gd) (d : decode cc pc = .ok (.invokestatic index, 3))
    (hst : st = as.reverse ++ rest) (hn : as.length = n) (hl : ls.size = nL) (hrm : (rest.map fun v => v.category).sum ≤ 8) (hR : h + 1 ≤ R.frames ∧ 8 + (maxL + 11) + 64 * h ≤ R.locals) (hf : cells ≤ R.cells ∧ slots ≤ R.slots)
    (kk : ∀ (τ : S0) (H1 : Heap) (locs1 : List Loc), P τ → Wd D cl wf A s.heap τ H1 locs1 → W p l e R s m args below meth c H1 locs1 cells slots Q (F0 m (pc + 3) ls (r :: rest))) : W p l e R s m args below meth c H locs cells slots Q (F0 m pc ls st) :=
  w_csN hc hw hC yw yi lk d hst hn hl hrm hR hf (fun v τ H1 locs1 hp hw => by obtain ⟨rfl, hp⟩ := hp; exact kk τ H1 locs1 hp hw)
theorem z_ldc2 {index : Nat} {v : Int64} {n : Int} (hc : Cx p s m args c cc nL own meth ret D cl tys) (lk : Cond.constantLong own index v ∈ lw_gd) (d : decode cc pc = .ok (.ldc2_w index, 3)) (hv : v = zL n) (k : W p l e R s m args below meth c H locs cells slots Q (F0 m (pc + 3) ls (.long (zL n) :: rest))) : W p l e R s m args below meth c H locs cells slots Q (F0 m pc ls rest) := by
  subst hv
  exact lv_ldc2 hc.1 hc.2.1 hc.2.2.2.1 (hc.2.2.2.2.1.hts args _ lk) d k
theorem z_ldcw {index : Nat} {v : Int32} {n : Int} (hc : Cx p s m args c cc nL own meth ret D cl tys) (lk : Cond.constant own index v ∈ lw_gd) (d : decode cc pc = .ok (.ldc_w index, 3)) (hv : v = zI n) (k : W p l e R s m args below meth c H locs cells slots Q (F0 m (pc + 3) ls (.int (zI n) :: rest))) : W p l e R s m args below meth c H locs cells slots Q (F0 m pc ls rest) := by
  subst hv
  exact lv_ldcw hc.1 hc.2.1 hc.2.2.2.1 (hc.2.2.2.2.1.hts args _ lk) d k
end CR2
/-! bits: sets as natural numbers in Int -/
theorem nI_and (a b : Nat) : nI a &&& nI b = nI (a &&& b) := by
  apply Int32.toBitVec_inj.mp
  show BitVec.ofNat 32 a &&& BitVec.ofNat 32 b = BitVec.ofNat 32 (a &&& b)
  apply BitVec.eq_of_getLsbD_eq
  intro i hi
  simp [Nat.testBit_and, hi]
theorem nI_or (a b : Nat) : nI a ||| nI b = nI (a ||| b) := by
  apply Int32.toBitVec_inj.mp
  show BitVec.ofNat 32 a ||| BitVec.ofNat 32 b = BitVec.ofNat 32 (a ||| b)
  apply BitVec.eq_of_getLsbD_eq
  intro i hi
  simp [Nat.testBit_or, hi]
theorem nI_sh : ∀ n, n < 32 → ((nI n &&& 31).toBitVec.smod 32).toNat = n := by decide +kernel
def zAnd (a b : Int) : Int := ((a.toNat &&& b.toNat : Nat) : Int)
def zOr (a b : Int) : Int := ((a.toNat ||| b.toNat : Nat) : Int)
/-- the bit i of a set -/
abbrev zB (a i : Int) : Prop := a.toNat.testBit i.toNat = true
section ZB
variable {p : Program} {l : Launch} {e : Env} {R : Room} {s : State} {m : MethodId} {args : Array Value} {below : List Frame} {meth : Method} {c : Code} {H : Heap} {locs : List Loc} {cells slots : Nat} {Q : State → Prop}
variable {cc : ByteArray} {pc : Nat} {ls : Array Slot} {rest : List Value} {a b : Int}
theorem z_iand (hx : p.tables.exec = Jvm.exec) (hb : c.code = cc) (d : decode cc pc = .ok (.iand, 1)) (h : 0 ≤ a ∧ 0 ≤ b) (k : W p l e R s m args below meth c H locs cells slots Q (F0 m (pc + 1) ls (.int (zI (zAnd a b)) :: rest))) : W p l e R s m args below meth c H locs cells slots Q (F0 m pc ls (.int (zI b) :: .int (zI a) :: rest)) := lv_iand hx hb d (by rw [zI_pos h.1, zI_pos h.2, nI_and]; exact k)
theorem z_ior (hx : p.tables.exec = Jvm.exec) (hb : c.code = cc) (d : decode cc pc = .ok (.ior, 1)) (h : 0 ≤ a ∧ 0 ≤ b) (k : W p l e R s m args below meth c H locs cells slots Q (F0 m (pc + 1) ls (.int (zI (zOr a b)) :: rest))) : W p l e R s m args below meth c H locs cells slots Q (F0 m pc ls (.int (zI b) :: .int (zI a) :: rest)) := lv_ior hx hb d (by rw [zI_pos h.1, zI_pos h.2, nI_or]; exact k)
theorem z_shl1 (hx : p.tables.exec = Jvm.exec) (hb : c.code = cc) (d : decode cc pc = .ok (.ishl, 1)) (h : 0 ≤ b ∧ b < 32) (k : W p l e R s m args below meth c H locs cells slots Q (F0 m (pc + 1) ls (.int (zI ((2 ^ b.toNat : Nat) : Int)) :: rest))) : W p l e R s m args below meth c H locs cells slots Q (F0 m pc ls (.int (zI b) :: .int (zI 1) :: rest)) := lv_ishl hx hb d (by
  have e : zI 1 <<< (zI b &&& 31) = zI ((2 ^ b.toNat : Nat) : Int) := by
    rw [zI_pos h.1, show zI 1 = nI 1 from rfl, pk_shlN (nI b.toNat &&& 31) b.toNat (nI_sh _ (by omega)) (by have := Nat.pow_lt_pow_right (a := 2) (by decide) (show b.toNat < 32 by omega); omega), Nat.one_mul]; rfl
  rw [e]; exact k)
theorem z_ishr (hx : p.tables.exec = Jvm.exec) (hb : c.code = cc) (d : decode cc pc = .ok (.ishr, 1)) (h : (0 ≤ a ∧ a < 2147483648) ∧ 0 ≤ b ∧ b < 32) (k : W p l e R s m args below meth c H locs cells slots Q (F0 m (pc + 1) ls (.int (zI ((a.toNat / 2 ^ b.toNat : Nat) : Int)) :: rest))) : W p l e R s m args below meth c H locs cells slots Q (F0 m pc ls (.int (zI b) :: .int (zI a) :: rest)) := lv_ishr hx hb d (by
  have e : zI a >>> (zI b &&& 31) = zI ((a.toNat / 2 ^ b.toNat : Nat) : Int) := by
    rw [zI_pos h.1.1, zI_pos h.2.1, pk_shrN (by omega) (nI b.toNat &&& 31) b.toNat (nI_sh _ (by omega))]; rfl
  rw [e]; exact k)
end ZB
theorem zAnd1 (a b : Int) (h : 0 ≤ a) : zAnd ((a.toNat / 2 ^ b.toNat : Nat) : Int) 1 = bI (zB a b) := by
  unfold zAnd
  show (((a.toNat / 2 ^ b.toNat) &&& 1 : Nat) : Int) = _
  rw [Nat.and_one_is_mod]
  unfold bI zB
  rw [Nat.testBit_eq_decide_div_mod_eq]
  split <;> rename_i q <;> simp at q <;> omega
