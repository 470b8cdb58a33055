/-! the law's own rows: its world, calls out of it, the script -/
def wL (am : Nat → Nat) (cm : Nat → ClassId) (ad : Nat → Nat) (ca : Nat → ClassId) (ao : Nat) (co : ClassId) (μ σ ω : St) : va_W := wM am cm μ ++ (wX ad ca σ ++ wO ao co ω)
def tyL (cm ca : Nat → ClassId) (co : ClassId) : List (ClassId × FieldType) := tyM cm ++ (tyX ca ++ [(co, .long)])
def LW (D : va_G) (A : Nat → Prop) (H0 : Heap) (am : Nat → Nat) (cm : Nat → ClassId) (ad : Nat → Nat) (ca : Nat → ClassId) (ao : Nat) (co : ClassId) (μ σ ω : St) (H : Heap) (locs : List Loc) : Prop := va_P D cl7 (wL am cm ad ca ao co μ σ ω) H ∧ va_D A (wL am cm ad ca ao co μ σ ω) ∧ va_S A H0 H locs
def LX (p : Program) (s : State) (m : MethodId) (args : Array Value) (c : Code) (meth : Method) (D : va_G) (cm ca : Nat → ClassId) (co : ClassId) (A : Nat → Prop) (b L : Nat) (xs : Nat → Int32) : Prop :=
  Cx p s m args c code 8 "ProbeChoiceLaw" meth ret D cl7 (tyL cm ca co) ∧ TX A s ∧ va_X b L xs s s.heap ∧ b < s.heap.size ∧ ¬ A b ∧ L ≤ 4096
theorem r32_of (x : Int32) : r32 x.toInt := ⟨Int32.le_toInt x, Int32.toInt_lt x⟩
theorem r64_of (x : Int64) : r64 x.toInt := ⟨Int64.le_toInt x, Int64.toInt_lt x⟩
/-- a long of the script, out of two ints -/
def lg2 (a b : Int) : Int := (((zI a).toInt64 <<< ((zI 32).toInt64 &&& 63)) ||| ((zI b).toInt64 &&& 4294967295)).toInt
section LR
variable {p : Program} {l : Launch} {e : Env} {R : Room} {s : State} {m : MethodId} {args : Array Value} {below : List Frame} {meth : Method} {c : Code} {H : Heap} {locs : List Loc} {cells slots : Nat} {Q : State → Prop}
variable {pc : Nat} {ls : Array Slot} {rest : List Value} {D : va_G} {am : Nat → Nat} {cm : Nat → ClassId} {ad : Nat → Nat} {ca : Nat → ClassId} {ao : Nat} {co : ClassId} {A : Nat → Prop} {b L : Nat} {xs : Nat → Int32} {μ μ' σ σ' ω ω' : St}
theorem l_cx {y : MethodName} {bytes : ByteArray} {maxL n h index : Nat} {ret' : Option FieldType} {as st : List Value} {v : Value} (hc : LX p s m args c meth D cm ca co A b L xs) (hw : LW D A s.heap am cm ad ca ao co μ σ ω H locs) (hC : Cw l D cl7 (tyX ca) (wX ad ca) y bytes maxL ret' h (.ref (ad 100) :: as) σ (RW v (σ' = ·))) (yw : Yw y bytes maxL ret' n) (yi : Cond.instanceMethod y ∈ lw_gd ∧ Cond.selects "ProbeChoice" y y ∈ lw_gd) (lk : Cond.methodLink "ProbeChoiceLaw" index y ∈ lw_gd) (d : decode code pc = .ok (.invokevirtual index, 3))
    (hst : st = as.reverse ++ .ref (ad 100) :: rest) (hn : as.length = n) (hl : ls.size = 8) (hrm : (rest.map fun v => v.category).sum ≤ 8) (hR : h + 1 ≤ R.frames ∧ 8 + (maxL + 11) + 64 * h ≤ R.locals) (hf : cells ≤ R.cells ∧ slots ≤ R.slots)
    (kk : ∀ (H1 : Heap) (locs1 : List Loc), LW D A s.heap am cm ad ca ao co μ σ' ω H1 locs1 → W p l e R s m args below meth c H1 locs1 cells slots Q (F0 m (pc + 3) ls (v :: rest))) : W p l e R s m args below meth c H locs cells slots Q (F0 m pc ls st) :=
  w_cv (q0 := 17) (ci := 5) (N := 5) (C := "ProbeChoice") (T := T_X) (A := A) (σ := σ) (wf := fun τ => wM am cm μ ++ (wX ad ca τ ++ wO ao co ω)) hc.1 hw (hC.frame (wM am cm μ) (wO ao co ω) (fun τ => wX_fst ad ca σ τ) (fun q hq => List.mem_append_right _ (List.mem_append_left _ hq))) yw yi lk d hst rfl rfl hn hl hrm hR hf (fun v' τ H1 locs1 hp hw => by
    obtain ⟨rfl, rfl⟩ := hp
    exact kk H1 locs1 hw)
theorem l_cm {y : MethodName} {bytes : ByteArray} {maxL n h index : Nat} {ret' : Option FieldType} {as st : List Value} {v : Value} (hc : LX p s m args c meth D cm ca co A b L xs) (hw : LW D A s.heap am cm ad ca ao co μ σ ω H locs) (hC : Cw l D cl7 (tyM cm) (wM am cm) y bytes maxL ret' h (.ref (am 100) :: as) μ (RW v (μ' = ·))) (yw : Yw y bytes maxL ret' n) (yi : Cond.instanceMethod y ∈ lw_gd ∧ Cond.selects "ProbeChoiceModel" y y ∈ lw_gd) (lk : Cond.methodLink "ProbeChoiceLaw" index y ∈ lw_gd) (d : decode code pc = .ok (.invokevirtual index, 3))
    (hst : st = as.reverse ++ .ref (am 100) :: rest) (hn : as.length = n) (hl : ls.size = 8) (hrm : (rest.map fun v => v.category).sum ≤ 8) (hR : h + 1 ≤ R.frames ∧ 8 + (maxL + 11) + 64 * h ≤ R.locals) (hf : cells ≤ R.cells ∧ slots ≤ R.slots)
    (kk : ∀ (H1 : Heap) (locs1 : List Loc), LW D A s.heap am cm ad ca ao co μ' σ ω H1 locs1 → W p l e R s m args below meth c H1 locs1 cells slots Q (F0 m (pc + 3) ls (v :: rest))) : W p l e R s m args below meth c H locs cells slots Q (F0 m pc ls st) :=
  w_cv (q0 := 0) (ci := 6) (N := 26) (C := "ProbeChoiceModel") (T := T_M) (A := A) (σ := μ) (wf := fun τ => [] ++ (wM am cm τ ++ (wX ad ca σ ++ wO ao co ω))) hc.1 (show Wd D cl7 (fun τ => [] ++ (wM am cm τ ++ (wX ad ca σ ++ wO ao co ω))) A s.heap μ H locs from hw) (hC.frame [] (wX ad ca σ ++ wO ao co ω) (fun τ => wM_fst am cm μ τ) (fun q hq => List.mem_append_left _ hq)) yw yi lk d hst rfl rfl hn hl hrm hR hf (fun v' τ H1 locs1 hp hw => by
    obtain ⟨rfl, rfl⟩ := hp
    exact kk H1 locs1 hw)
/-- a helper is called -/
theorem l_ch {y : MethodName} {bytes : ByteArray} {maxL n h index : Nat} {hh : List (Nat × Nat × Nat × Nat)} {as st : List Value} {v : Value} (hc : LX p s m args c meth D cm ca co A b L xs) (hw : LW D A s.heap am cm ad ca ao co μ σ ω H locs) (hC : Ch l D (tyH ca co) (wH ad ca ao co) y bytes maxL hh h as (σ, ω) (RW v ((σ', ω') = ·))) (yh : Cond.codeWith y bytes maxL (some .int) hh ∈ lw_gd ∧ Cond.initialized "ProbeChoiceLaw" ∈ lw_gd ∧ Cond.static y ∈ lw_gd) (hcl : y.cls = "ProbeChoiceLaw") (hd : (parseMethodDescriptor y.desc).map (fun d => d.parameters.length) = some n) (lk : Cond.methodLink "ProbeChoiceLaw" index y ∈ lw_gd) (d : decode code pc = .ok (.invokestatic index, 3))
    (hst : st = as.reverse ++ rest) (hn : as.length = n) (hl : ls.size = 8) (hrm : (rest.map fun v => v.category).sum ≤ 8) (hR : h + 1 ≤ R.frames ∧ 8 + (maxL + 11) + 64 * h ≤ R.locals) (hf : cells + 1 ≤ R.cells ∧ slots + 6 ≤ R.slots)
    (kk : ∀ (H1 : Heap) (locs1 : List Loc), LW D A s.heap am cm ad ca ao co μ σ' ω' H1 locs1 → W p l e R s m args below meth c H1 locs1 (cells + 1) (slots + 6) Q (F0 m (pc + 3) ls (v :: rest))) : W p l e R s m args below meth c H locs cells slots Q (F0 m pc ls st) := by
  obtain ⟨⟨hx, hb, hml, hown, hTB, hK, -, -⟩, hX, -⟩ := hc
  obtain ⟨hP, hD, s1, s2, s3⟩ := hw
  have ew : ∀ q : St × St, wM am cm μ ++ (wH ad ca ao co q ++ []) = wL am cm ad ca ao co μ q.1 q.2 := fun q => by rw [List.append_nil]; rfl
  have hP2 : va_P D cl7 (wM am cm μ ++ (wH ad ca ao co (σ, ω) ++ [])) H := by rw [ew]; exact hP
  have hD2 : va_D A (wM am cm μ ++ (wH ad ca ao co (σ, ω) ++ [])) := by rw [ew]; exact hD
  have hF := (hC.frame (tysA := tyL cm ca co) (wM am cm μ) [] (fun τ => wH_fst ad ca ao co (σ, ω) τ) (fun q hq => List.mem_append_right _ hq)) A
  have hK3 : Back l R p e below s args y 3 8 (PreOf R 1 6 (PwH D (tyL cm ca co) (fun τ => wM am cm μ ++ (wH ad ca ao co τ ++ [])) A as (σ, ω))) (PostOf (Qw D cl7 (fun τ => wM am cm μ ++ (wH ad ca ao co τ ++ [])) A (RW v ((σ', ω') = ·))) 1 6 A) :=
    va_backW (hh := hh) (bytes := bytes) (maxL := maxL) (ret := some .int) hF pwH_blind rfl rfl hR.1 hR.2 (fun w hw a' U hW => by rw [List.mem_singleton.mp hw]; exact hTB.at hW a' _ yh.1) List.mem_cons_self (fun a' U hW => by rw [hcl]; exact hTB.at hW a' _ yh.2.1)
  intro T hT XT
  obtain ⟨r, vm₁, ⟨U', l2, c2, s2'⟩, hW₁, X', ⟨g', mk, t, L2, e1, e2, hq, h1, hL, h2, h3⟩, stp⟩ := Jvm.RoadKit.callSH XT hx (own := "ProbeChoiceLaw") (index := index) (y := y) (bytes := bytes) (maxL := maxL) (ret := some .int) (hs := hh) hown (hTB.hts args _ lk) (hTB.hts args _ yh.2.2) (by rw [hcl]; exact hTB.hts args _ yh.2.1) (hTB.hts args _ yh.1) (by rw [hcl]; exact ⟨by decide, by decide⟩) hK3 (g := F0 m pc ls st) rfl (hl.trans hml.symm) (argsL := as) (rest := rest) (fun sig hs => by
      rw [hs] at hd
      exact hn.trans (Option.some.inj hd).symm) hst (lv_room hrm) (by rw [hb]; exact d) (fun vm₁ hW₁ => ⟨hf.1, hf.2, rfl, hTB.moved hW₁, va_K.moved hW₁.alike hK, by show va_P D cl7 _ T.heap; rw [hT]; exact hP2, hD2, hX.moved hW₁ (fun q h1 h2 => by show T.heap[q]? = _; rw [hT]; exact s2 q h1 h2)⟩)
  dsimp only [Pt.U, Pt.locs, Pt.cells, Pt.slots] at X' e1 e2 h1 h2 h3 stp
  subst h1; subst h2; subst h3
  obtain ⟨r', τ, hr, ⟨hv, rfl⟩, k1, k2, k3, k4⟩ := hq
  cases hr
  cases hv
  have hT2 : ((T.setVm vm₁).calling g' mk as.toArray).heap = H := hT
  rw [hT2] at k3 k4
  have k1 : va_P D cl7 (wM am cm μ ++ (wH ad ca ao co (σ', ω') ++ [])) t.heap := k1
  have k2 : va_D A (wM am cm μ ++ (wH ad ca ao co (σ', ω') ++ [])) := k2
  rw [ew] at k1 k2
  obtain ⟨t2, a1, b1⟩ := kk t.heap (locs ++ L2) ⟨k1, k2, Nat.le_trans s1 k3, fun x hx hnx => (k4 x (Nat.lt_of_lt_of_le hx s1) hnx).trans (s2 x hx hnx), fun x hx => (List.mem_append.mp hx).elim (s3 x) (hL x)⟩ U' e1 X'
  exact ⟨t2, stp t2 a1, b1⟩
theorem l_ld {i : Int} (hc : LX p s m args c meth D cm ca co A b L xs) (hw : LW D A s.heap am cm ad ca ao co μ σ ω H locs) (hi : 0 ≤ i ∧ i < (L : Int)) (d : decode code pc = .ok (.iaload, 1))
    (k : W p l e R s m args below meth c H locs cells slots Q (F0 m (pc + 1) ls (.int (zI (xs i.toNat).toInt) :: rest))) : W p l e R s m args below meth c H locs cells slots Q (F0 m pc ls (.int (zI i) :: .ref b :: rest)) := by
  obtain ⟨hC, hX, hx, hbl, hbA, hL⟩ := hc
  refine va_sld hC.1 hC.2.1 hx hbl hbA hw.2.2 (zI_in hi.1 hi.2 (by omega)) d ?_
  rw [zI_cl hi.1 (by omega), ← zI_of (xs i.toNat)]
  exact k
theorem l_len (hc : LX p s m args c meth D cm ca co A b L xs) (hw : LW D A s.heap am cm ad ca ao co μ σ ω H locs) (d : decode code pc = .ok (.arraylength, 1))
    (k : W p l e R s m args below meth c H locs cells slots Q (F0 m (pc + 1) ls (.int (zI (L : Int)) :: rest))) : W p l e R s m args below meth c H locs cells slots Q (F0 m pc ls (.ref b :: rest)) := by
  obtain ⟨hC, hX, hx, hbl, hbA, hL⟩ := hc
  exact va_slen hC.1 hC.2.1 hx hbl hbA hw.2.2 d k
theorem l_out (hc : LX p s m args c meth D cm ca co A b L xs) (hw : LW D A s.heap am cm ad ca ao co μ σ ω H locs) (d : decode code pc = .ok (.laload, 1))
    (k : W p l e R s m args below meth c H locs cells slots Q (F0 m (pc + 1) ls (.long (zL (ω 0 0)) :: rest))) : W p l e R s m args below meth c H locs cells slots Q (F0 m pc ls (.int (zI 0) :: .ref ao :: rest)) :=
  va_lald (D := D) hc.1.1 hc.1.2.1 hc.1.2.2.2.2.2.1 hw.1 51 44 rfl rfl (zI_in (n := 1) (by decide) (by decide) (by decide)) d k
theorem l_i2l {a : Int} (hx : p.tables.exec = Jvm.exec) (hb : c.code = code) (d : decode code pc = .ok (.i2l, 1)) (k : W p l e R s m args below meth c H locs cells slots Q (F0 m (pc + 1) ls (.long (zI a).toInt64 :: rest))) : W p l e R s m args below meth c H locs cells slots Q (F0 m pc ls (.int (zI a) :: rest)) := lv_i2l hx hb d rfl k
theorem l_lor {a2 b2 : Int} (hx : p.tables.exec = Jvm.exec) (hb : c.code = code) (d : decode code pc = .ok (.lor, 1)) (k : W p l e R s m args below meth c H locs cells slots Q (F0 m (pc + 1) ls (.long (zL (lg2 a2 b2)) :: rest))) : W p l e R s m args below meth c H locs cells slots Q (F0 m pc ls (.long ((zI b2).toInt64 &&& zL 4294967295) :: .long ((zI a2).toInt64 <<< ((zI 32).toInt64 &&& 63)) :: rest)) := by
  refine lv_lor hx hb d ?_
  have e : ((zI a2).toInt64 <<< ((zI 32).toInt64 &&& 63)) ||| ((zI b2).toInt64 &&& zL 4294967295) = zL (lg2 a2 b2) := by
    unfold lg2; rw [zL_of]; rfl
  rw [e]; exact k
end LR
