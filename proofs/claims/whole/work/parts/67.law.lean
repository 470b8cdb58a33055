section CNL
variable {p : Program} {l : Launch} {e : Env} {R : Room} {s : State} {m : MethodId} {args : Array Value} {below : List Frame} {meth : Method} {c : Code} {H H0 : Heap} {locs : List Loc} {cells slots : Nat} {Q : State → Prop}
variable {cc : ByteArray} {pc : Nat} {own : String} {ls : Array Slot} {rest : List Value} {D : va_G} {tys : List (ClassId × FieldType)} {ws : va_W} {A : Nat → Prop}
/-- a constructor's call out of the law, its object the last of the world -/
theorem l_call {y : MethodName} {bytes : ByteArray} {h mc ms b ci index : Nat} {fs0 : List Value} {Wn : va_W → List (ClassId × FieldType) → Prop} {nL : Nat} (hc : p.tables.exec = Jvm.exec ∧ c.code = cc ∧ c.maxLocals = nL ∧ s.vm.findClass own = some m.cls ∧ TB s ∧ TN s) (hC : ∀ sz, Cn l D y bytes h mc ms b ci fs0 Wn sz) (hi : y.name = "<init>") (yw : Yw y bytes 1 none 0) (yi : Cond.instanceMethod y ∈ lw_gd) (lk : Cond.methodLink own index y ∈ lw_gd) (hw : Wl D A H0 s tys (ws ++ [(b, .inr (ci, fs0))]) H locs) (hl : ls.size = nL) (hrm : (rest.map fun v => v.category).sum ≤ 8) (hR : h + 1 ≤ R.frames ∧ 8 + (1 + 11) + 64 * h ≤ R.locals) (hcs : cells + mc ≤ R.cells ∧ slots + ms ≤ R.slots) (d : decode cc pc = .ok (.invokespecial index, 3))
    (kk : ∀ (w : va_W) (tys' : List (ClassId × FieldType)) (H1 : Heap) (locs1 : List Loc), Wn w tys' → Wl D A H0 s (tys ++ tys') (ws ++ w) H1 locs1 → W p l e R s m args below meth c H1 locs1 (cells + mc) (slots + ms) Q (F0 m (pc + 3) ls rest)) : W p l e R s m args below meth c H locs cells slots Q (F0 m pc ls (.ref b :: rest)) := by
  obtain ⟨hx, hb, hml, hown, hTB, hTN⟩ := hc
  obtain ⟨hK, hP, hD, hS, hA⟩ := hw
  obtain ⟨y1, y2, y3, y4, y5⟩ := yw
  have hPb : va_P D cl7 [(b, .inr (ci, fs0))] H := fun i q hq => by
    have h1 : i < 1 := (List.getElem?_eq_some_iff.mp hq).1
    rw [show i = 0 by omega] at hq
    exact hP ws.length q (by rw [List.getElem?_append_right (Nat.le_refl _), Nat.sub_self]; exact hq)
  have hbA : A b := hD.2 ws.length (b, .inr (ci, fs0)) (by rw [List.getElem?_append_right (Nat.le_refl _), Nat.sub_self]; rfl)
  have hne : ∀ (i : Nat) (q : Nat × va_E), ws[i]? = some q → q.1 ≠ b := fun i q hq e => by
    have hl := (List.getElem?_eq_some_iff.mp hq).1
    have := hD.1 i ws.length q (b, .inr (ci, fs0)) (by rw [List.getElem?_append_left hl]; exact hq) (by rw [List.getElem?_append_right (Nat.le_refl _), Nat.sub_self]; rfl) e
    omega
  have hP0 : va_P D cl7 ws H := fun i q hq => hP i q (by rw [List.getElem?_append_left (List.getElem?_eq_some_iff.mp hq).1]; exact hq)
  have hrun := va_runI (p := p) (e := e) (R := R) (s := s) (m := m) (args := args) (below := below) (meth := meth) (c := c) (H := H) (locs := locs) (cells := cells) (slots := slots) (Ts := lw_gd) (As := []) (rest := rest) (g := F0 m pc ls (.ref b :: rest)) ⟨hx, hb, hml, hown, hTB.hts args⟩ (hC H.size)
    ⟨⟨rfl, rfl, hR.1, hR.2, fun w hw a' U hW => by rw [List.mem_singleton.mp hw]; exact hTB.at hW a' _ y1, List.mem_cons_self, hTB.hts args _ y1, hTB.hts args _ y2, ⟨y3, y4⟩, fun sig hs => by rw [hs] at y5; exact (Option.some.inj y5).symm, hTB.hts args _ lk⟩, hi, hTB.hts args _ yi⟩
    ⟨fun a U g mk q => by
      obtain ⟨q0, q1, q2, q3, q4, q5⟩ := q
      exact ⟨q0, TB.moved (s := U) (State.WarmedH.refl U) q1, TN.moved (u := U) (U := U.calling g mk a) (Vm.Alike.refl U.vm) q2, q3, va_K.moved (u := U) (U := U.calling g mk a) (Vm.Alike.refl U.vm) q4, q5⟩,
     fun U hU hW => ⟨rfl, hTB.moved hW, TN.moved hW.alike hTN, by rw [hU], va_K.moved hW.alike (hK.sub (tys' := []) [] rfl), by rw [hU]; exact hPb⟩⟩ rfl rfl hl rfl (lv_room hrm) d hcs
  intro T hT X
  obtain ⟨v, st₀, t, T', L, h0, X', hL, e1, e2, ⟨hv, w, tys', hn, k1, k2, k3, k4, k5⟩, st⟩ := hrun T hT X
  cases hv
  rw [h0] at k4 k5
  have hsub : ∀ q, Ab b H.size q → A q := fun q hq => by
    rcases hq with rfl | hq
    · exact hbA
    · exact hA q (Nat.le_trans hS.1 hq)
  have hP1 : va_P D cl7 (ws ++ w) t.heap := (hP0.kept (fun i q hq => k5 q.1 ((hP0 i q hq).lt) (fun z => by
      rcases z with z | z
      · exact hne i q hq z
      · have := (hP0 i q hq).lt
        omega))).app k2
  have hD1 : va_D A (ws ++ w) := by
    have key : ∀ (i : Nat) (q : Nat × va_E), (ws ++ w)[i]? = some q → (ws[i]? = some q ∧ ¬ Ab b H.size q.1) ∨ (ws.length ≤ i ∧ w[i - ws.length]? = some q ∧ Ab b H.size q.1) := by
      intro i q hq
      by_cases hl : i < ws.length
      · rw [List.getElem?_append_left hl] at hq
        refine Or.inl ⟨hq, fun z => ?_⟩
        rcases z with z | z
        · exact hne i q hq z
        · have := (hP0 i q hq).lt
          omega
      · rw [List.getElem?_append_right (by omega)] at hq
        exact Or.inr ⟨by omega, hq, k3.2 _ _ hq⟩
    refine ⟨fun i j x y hi hj hxy => ?_, fun i x hi => ?_⟩
    · rcases key i x hi with ⟨a1, a2⟩ | ⟨a1, a2, a3⟩ <;> rcases key j y hj with ⟨b1, b2⟩ | ⟨b1, b2, b3⟩
      · exact hD.1 i j x y (by rw [List.getElem?_append_left (List.getElem?_eq_some_iff.mp a1).1]; exact a1) (by rw [List.getElem?_append_left (List.getElem?_eq_some_iff.mp b1).1]; exact b1) hxy
      · exact absurd (hxy ▸ b3) a2
      · exact absurd (hxy ▸ a3) b2
      · have := k3.1 _ _ x y a2 b2 hxy
        omega
    · rcases key i x hi with ⟨a1, a2⟩ | ⟨a1, a2, a3⟩
      · exact hD.2 i x (by rw [List.getElem?_append_left (List.getElem?_eq_some_iff.mp a1).1]; exact a1)
      · exact hsub _ a3
  have hal : s.vm.Alike t.vm := by rw [← e2]; exact X'.warmed.alike
  obtain ⟨t2, a1, b1⟩ := kk w tys' t.heap (locs ++ L) hn ⟨hK.app (va_K.moved hal.symm k1), hP1, hD1, ⟨Nat.le_trans hS.1 k4, fun q g1 g2 => (k5 q (Nat.lt_of_lt_of_le g1 hS.1) (fun z => g2 (hsub q z))).trans (hS.2.1 q g1 g2), fun q hq => (List.mem_append.mp hq).elim (hS.2.2 q) (fun z => hsub _ (hL q z))⟩, hA⟩ T' e1 X'
  exact ⟨t2, st t2 a1, b1⟩
end CNL
/-- both answer the same int, and stay alike -/
def SAI (Inv : St → St → Prop) (l : Launch) (D : va_G) (am : Nat → Nat) (cm : Nat → ClassId) (ad : Nat → Nat) (ca : Nat → ClassId) (yX : MethodName) (cX : ByteArray) (nX : Nat) (rX : Option FieldType) (yM : MethodName) (cM : ByteArray) (nM : Nat) (rM : Option FieldType) (as : List Value) (σ μ : St) : Prop :=
  ∃ (r : Int) (σ' μ' : St) (h1 h2 : Nat), (h1 ≤ 17 ∧ h2 ≤ 17) ∧ r32 r ∧ Cw l D cl7 (tyX ca) (wX ad ca) yX cX nX rX h1 (.ref (ad 100) :: as) σ (RW (.int (zI r)) (σ' = ·)) ∧ Cw l D cl7 (tyM cm) (wM am cm) yM cM nM rM h2 (.ref (am 100) :: as) μ (RW (.int (zI r)) (μ' = ·)) ∧ Inv σ' μ'
/-- both answer the same long, and stay alike -/
def SAL (Inv : St → St → Prop) (l : Launch) (D : va_G) (am : Nat → Nat) (cm : Nat → ClassId) (ad : Nat → Nat) (ca : Nat → ClassId) (yX : MethodName) (cX : ByteArray) (nX : Nat) (rX : Option FieldType) (yM : MethodName) (cM : ByteArray) (nM : Nat) (rM : Option FieldType) (as : List Value) (σ μ : St) : Prop :=
  ∃ (r : Int) (σ' μ' : St) (h1 h2 : Nat), (h1 ≤ 17 ∧ h2 ≤ 17) ∧ r64 r ∧ Cw l D cl7 (tyX ca) (wX ad ca) yX cX nX rX h1 (.ref (ad 100) :: as) σ (RW (.long (zL r)) (σ' = ·)) ∧ Cw l D cl7 (tyM cm) (wM am cm) yM cM nM rM h2 (.ref (am 100) :: as) μ (RW (.long (zL r)) (μ' = ·)) ∧ Inv σ' μ'
/-- a helper and the reference's method: the same throw, or none and the same answer -/
def SHI (Inv : St → St → Prop) (l : Launch) (D : va_G) (am : Nat → Nat) (cm : Nat → ClassId) (ad : Nat → Nat) (ca : Nat → ClassId) (ao : Nat) (co : ClassId) (yH : MethodName) (cH : ByteArray) (nH : Nat) (hh : List (Nat × Nat × Nat × Nat)) (yM : MethodName) (cM : ByteArray) (nM : Nat) (rM : Option FieldType) (as : List Value) (rr : Int → Prop) (σ ω μ : St) : Prop :=
  ∃ (k r : Int) (σ' ω' μ' : St) (h2 : Nat), h2 ≤ 17 ∧ (0 ≤ k ∧ k ≤ 2) ∧ rr r ∧ Ch l D (tyH ca co) (wH ad ca ao co) yH cH nH hh 17 (.ref (ad 100) :: (as ++ [.ref ao])) (σ, ω) (RW (.int (zI k)) ((σ', ω') = ·)) ∧ Cw l D cl7 (tyM cm) (wM am cm) yM cM nM rM h2 (.ref (am 100) :: as) μ (RW (.int (zI r)) (μ' = ·)) ∧ μ' 0 0 = k ∧ (k = 0 → ω' 0 0 = r) ∧ Inv σ' μ'
def SHL (Inv : St → St → Prop) (l : Launch) (D : va_G) (am : Nat → Nat) (cm : Nat → ClassId) (ad : Nat → Nat) (ca : Nat → ClassId) (ao : Nat) (co : ClassId) (yH : MethodName) (cH : ByteArray) (nH : Nat) (hh : List (Nat × Nat × Nat × Nat)) (yM : MethodName) (cM : ByteArray) (nM : Nat) (rM : Option FieldType) (as : List Value) (σ ω μ : St) : Prop :=
  ∃ (k r : Int) (σ' ω' μ' : St) (h2 : Nat), h2 ≤ 17 ∧ (0 ≤ k ∧ k ≤ 2) ∧ r64 r ∧ Ch l D (tyH ca co) (wH ad ca ao co) yH cH nH hh 17 (.ref (ad 100) :: (as ++ [.ref ao])) (σ, ω) (RW (.int (zI k)) ((σ', ω') = ·)) ∧ Cw l D cl7 (tyM cm) (wM am cm) yM cM nM rM h2 (.ref (am 100) :: as) μ (RW (.long (zL r)) (μ' = ·)) ∧ μ' 0 0 = k ∧ (k = 0 → ω' 0 0 = r) ∧ Inv σ' μ'
abbrev b01 (r : Int) : Prop := r = 0 ∨ r = 1
abbrev Lv (b : Nat) (ad am : Nat → Nat) (ao : Nat) (i : Int) : List (Nat × Value) := [(0, .ref b), (1, .ref (ad 100)), (2, .ref (am 100)), (3, .ref ao), (4, .int (zI i))]
section LC
variable {Inv : St → St → Prop} {p : Program} {l : Launch} {e : Env} {s : State} {m : MethodId} {args : Array Value} {below : List Frame} {meth : Method} {c : Code} {H : Heap} {locs : List Loc} {cells slots : Nat} {Q : State → Prop}
variable {ls : Array Slot} {D : va_G} {am : Nat → Nat} {cm : Nat → ClassId} {ad : Nat → Nat} {ca : Nat → ClassId} {ao : Nat} {co : ClassId} {A : Nat → Prop} {b L : Nat} {xs : Nat → Int32} {μ σ ω : St} {i : Int}
theorem lc_net (hc : LX p s m args c meth D cm ca co A b L xs) (hw : LW D A s.heap am cm ad ca ao co μ σ ω H locs) (hl : lv_has ls 8 (Lv b ad am ao i)) (hi : 0 ≤ i ∧ i + 8 ≤ (L : Int)) (hf : cells + 1 ≤ 601024 ∧ slots + 6 ≤ 7293034) (hs : ∀ r0 : Int, b01 r0 → SAI Inv l D am cm ad ca y_X_net c_X_net 2 (some .int) y_M_net c_M_net 2 (some .int) [.int (zI r0)] σ μ)
    (kk : ∀ (μ' σ' ω' : St) (H1 : Heap) (locs1 : List Loc) (ls' : Array Slot), Inv σ' μ' → LW D A s.heap am cm ad ca ao co μ' σ' ω' H1 locs1 → lv_has ls' 8 (Lv b ad am ao i) → W p l e room_1 s m args below meth c H1 locs1 (cells + 1) (slots + 6) Q (F0 m 1392 ls' [])) : W p l e room_1 s m args below meth c H locs cells slots Q (F0 m 136 ls []) := by
  have hx := hc.1.1
  have hb := hc.1.2.1
  have hL := hc.2.2.2.2.2
  refine lv_aload_n hx hb d_L_136 rfl (lv_at hl 1 rfl) ?_
  refine lv_aload_n hx hb d_L_137 rfl (lv_at hl 0 rfl) ?_
  refine lv_iload hx hb d_L_138 (lv_at hl 4 rfl) ?_
  refine z_ic hx hb d_L_140 ?_
  refine z_iadd hx hb d_L_141 ?_
  refine l_ld hc hw (by omega) d_L_142 ?_
  refine z_if_eq hx hb 150 d_L_143 (r32_of _) (by decide) (fun c0 => ?_) (fun c0 => ?_)
  · have hr0 : b01 0 := Or.inl rfl
    refine z_ic hx hb d_L_150 ?_
    obtain ⟨r, σ', μ', h1, h2, hh, hr, hX, hM, hI⟩ := (hs _ hr0)
    refine l_cx hc hw hX yw_X_net yi_X_net lk_L_62 d_L_151 rfl rfl hl.1 (Nat.le_of_ble_eq_true rfl) ⟨by show _ ≤ 2048; omega, by show _ ≤ 84000; omega⟩ ⟨by show _ ≤ 601024; omega, by show _ ≤ 7293034; omega⟩ (fun H locs hw => ?_)
    refine lv_aload_n hx hb d_L_154 rfl (lv_at hl 2 rfl) ?_
    refine lv_aload_n hx hb d_L_155 rfl (lv_at hl 0 rfl) ?_
    refine lv_iload hx hb d_L_156 (lv_at hl 4 rfl) ?_
    refine z_ic hx hb d_L_158 ?_
    refine z_iadd hx hb d_L_159 ?_
    refine l_ld hc hw (by omega) d_L_160 ?_
    refine z_if_eq hx hb 168 d_L_161 (r32_of _) (by decide) (fun _ => ?_) (fun c1 => absurd c0 c1)
    refine z_ic hx hb d_L_168 ?_
    refine l_cm hc hw hM yw_M_net yi_M_net lk_L_66 d_L_169 rfl rfl hl.1 (Nat.le_of_ble_eq_true rfl) ⟨by show _ ≤ 2048; omega, by show _ ≤ 84000; omega⟩ ⟨by show _ ≤ 601024; omega, by show _ ≤ 7293034; omega⟩ (fun H locs hw => ?_)
    refine z_icmp_eq hx hb 1392 d_L_172 hr hr (by decide) (fun _ => ?_) (fun c0 => absurd rfl c0)
    exact W.widen (k := cells + 1) (n := slots + 6) (by omega) (by omega) (kk _ _ _ _ _ _ hI hw hl)
  · have hr0 : b01 1 := Or.inr rfl
    refine z_ic hx hb d_L_146 ?_
    refine lv_goto (tgt := 151) hx hb d_L_147 (by decide) ?_
    obtain ⟨r, σ', μ', h1, h2, hh, hr, hX, hM, hI⟩ := (hs _ hr0)
    refine l_cx hc hw hX yw_X_net yi_X_net lk_L_62 d_L_151 rfl rfl hl.1 (Nat.le_of_ble_eq_true rfl) ⟨by show _ ≤ 2048; omega, by show _ ≤ 84000; omega⟩ ⟨by show _ ≤ 601024; omega, by show _ ≤ 7293034; omega⟩ (fun H locs hw => ?_)
    refine lv_aload_n hx hb d_L_154 rfl (lv_at hl 2 rfl) ?_
    refine lv_aload_n hx hb d_L_155 rfl (lv_at hl 0 rfl) ?_
    refine lv_iload hx hb d_L_156 (lv_at hl 4 rfl) ?_
    refine z_ic hx hb d_L_158 ?_
    refine z_iadd hx hb d_L_159 ?_
    refine l_ld hc hw (by omega) d_L_160 ?_
    refine z_if_eq hx hb 168 d_L_161 (r32_of _) (by decide) (fun c1 => absurd c1 c0) (fun _ => ?_)
    refine z_ic hx hb d_L_164 ?_
    refine lv_goto (tgt := 169) hx hb d_L_165 (by decide) ?_
    refine l_cm hc hw hM yw_M_net yi_M_net lk_L_66 d_L_169 rfl rfl hl.1 (Nat.le_of_ble_eq_true rfl) ⟨by show _ ≤ 2048; omega, by show _ ≤ 84000; omega⟩ ⟨by show _ ≤ 601024; omega, by show _ ≤ 7293034; omega⟩ (fun H locs hw => ?_)
    refine z_icmp_eq hx hb 1392 d_L_172 hr hr (by decide) (fun _ => ?_) (fun c0 => absurd rfl c0)
    exact W.widen (k := cells + 1) (n := slots + 6) (by omega) (by omega) (kk _ _ _ _ _ _ hI hw hl)
theorem lc_point (hc : LX p s m args c meth D cm ca co A b L xs) (hw : LW D A s.heap am cm ad ca ao co μ σ ω H locs) (hl : lv_has ls 8 (Lv b ad am ao i)) (hi : 0 ≤ i ∧ i + 8 ≤ (L : Int)) (hf : cells + 1 ≤ 601024 ∧ slots + 6 ≤ 7293034) (hs : SHI Inv l D am cm ad ca ao co y_L_point c_L_point 10 [(0, 15, 18, 13), (0, 15, 22, 15)] y_M_point c_M_point 9 (some .int) [.int (zI (xs (i + 1).toNat).toInt), .long (zL (lg2 (xs (i + 2).toNat).toInt (xs (i + 3).toNat).toInt)), .long (zL (lg2 (xs (i + 4).toNat).toInt (xs (i + 5).toNat).toInt)), .long (zL (lg2 (xs (i + 6).toNat).toInt (xs (i + 7).toNat).toInt))] r32 σ ω μ)
    (kk : ∀ (μ' σ' ω' : St) (H1 : Heap) (locs1 : List Loc) (ls' : Array Slot), Inv σ' μ' → LW D A s.heap am cm ad ca ao co μ' σ' ω' H1 locs1 → lv_has ls' 8 (Lv b ad am ao i) → W p l e room_1 s m args below meth c H1 locs1 (cells + 1) (slots + 6) Q (F0 m 1392 ls' [])) : W p l e room_1 s m args below meth c H locs cells slots Q (F0 m 177 ls []) := by
  have hx := hc.1.1
  have hb := hc.1.2.1
  have hL := hc.2.2.2.2.2
  refine lv_aload_n hx hb d_L_177 rfl (lv_at hl 1 rfl) ?_
  refine lv_aload_n hx hb d_L_178 rfl (lv_at hl 0 rfl) ?_
  refine lv_iload hx hb d_L_179 (lv_at hl 4 rfl) ?_
  refine z_ic hx hb d_L_181 ?_
  refine z_iadd hx hb d_L_182 ?_
  refine l_ld hc hw (by omega) d_L_183 ?_
  refine lv_aload_n hx hb d_L_184 rfl (lv_at hl 0 rfl) ?_
  refine lv_iload hx hb d_L_185 (lv_at hl 4 rfl) ?_
  refine z_ic hx hb d_L_187 ?_
  refine z_iadd hx hb d_L_188 ?_
  refine l_ld hc hw (by omega) d_L_189 ?_
  refine l_i2l hx hb d_L_190 ?_
  refine z_bi hx hb d_L_191 (by decide) ?_
  refine lv_lshl hx hb d_L_193 rfl ?_
  refine lv_aload_n hx hb d_L_194 rfl (lv_at hl 0 rfl) ?_
  refine lv_iload hx hb d_L_195 (lv_at hl 4 rfl) ?_
  refine z_ic hx hb d_L_197 ?_
  refine z_iadd hx hb d_L_198 ?_
  refine l_ld hc hw (by omega) d_L_199 ?_
  refine l_i2l hx hb d_L_200 ?_
  refine z_ldc2 (n := 4294967295) hc.1 lk_L_67 d_L_201 (by decide) ?_
  refine lv_land hx hb d_L_204 ?_
  refine l_lor hx hb d_L_205 ?_
  refine lv_aload_n hx hb d_L_206 rfl (lv_at hl 0 rfl) ?_
  refine lv_iload hx hb d_L_207 (lv_at hl 4 rfl) ?_
  refine z_ic hx hb d_L_209 ?_
  refine z_iadd hx hb d_L_210 ?_
  refine l_ld hc hw (by omega) d_L_211 ?_
  refine l_i2l hx hb d_L_212 ?_
  refine z_bi hx hb d_L_213 (by decide) ?_
  refine lv_lshl hx hb d_L_215 rfl ?_
  refine lv_aload_n hx hb d_L_216 rfl (lv_at hl 0 rfl) ?_
  refine lv_iload hx hb d_L_217 (lv_at hl 4 rfl) ?_
  refine z_ic hx hb d_L_219 ?_
  refine z_iadd hx hb d_L_220 ?_
  refine l_ld hc hw (by omega) d_L_221 ?_
  refine l_i2l hx hb d_L_222 ?_
  refine z_ldc2 (n := 4294967295) hc.1 lk_L_67 d_L_223 (by decide) ?_
  refine lv_land hx hb d_L_226 ?_
  refine l_lor hx hb d_L_227 ?_
  refine lv_aload_n hx hb d_L_228 rfl (lv_at hl 0 rfl) ?_
  refine lv_iload hx hb d_L_229 (lv_at hl 4 rfl) ?_
  refine z_bi hx hb d_L_231 (by decide) ?_
  refine z_iadd hx hb d_L_233 ?_
  refine l_ld hc hw (by omega) d_L_234 ?_
  refine l_i2l hx hb d_L_235 ?_
  refine z_bi hx hb d_L_236 (by decide) ?_
  refine lv_lshl hx hb d_L_238 rfl ?_
  refine lv_aload_n hx hb d_L_239 rfl (lv_at hl 0 rfl) ?_
  refine lv_iload hx hb d_L_240 (lv_at hl 4 rfl) ?_
  refine z_bi hx hb d_L_242 (by decide) ?_
  refine z_iadd hx hb d_L_244 ?_
  refine l_ld hc hw (by omega) d_L_245 ?_
  refine l_i2l hx hb d_L_246 ?_
  refine z_ldc2 (n := 4294967295) hc.1 lk_L_67 d_L_247 (by decide) ?_
  refine lv_land hx hb d_L_250 ?_
  refine l_lor hx hb d_L_251 ?_
  refine lv_aload_n hx hb d_L_252 rfl (lv_at hl 3 rfl) ?_
  obtain ⟨k, r, σ', ω', μ', h2, hh, hk02, hr, hC, hM, hk, hk0, hI⟩ := hs
  refine l_ch (n := 6) hc hw hC yh_L_point rfl (by decide +kernel) lk_L_69 d_L_253 rfl rfl hl.1 (Nat.le_of_ble_eq_true rfl) ⟨by show _ ≤ 2048; omega, by show _ ≤ 84000; omega⟩ ⟨by show _ ≤ 601024; omega, by show _ ≤ 7293034; omega⟩ (fun H locs hw => ?_)
  refine z_ist hx hb d_L_256 hl (by decide) (fun x5 e5 ls (hl : lv_has ls 8 ((5, .int (zI x5)) :: Lv b ad am ao i)) => ?_)
  rw [e5] at hl
  refine lv_aload_n hx hb d_L_258 rfl (lv_at hl 3 rfl) ?_
  refine lv_aload_n hx hb d_L_259 rfl (lv_at hl 1 rfl) ?_
  refine lv_iload hx hb d_L_260 (lv_at hl 5 rfl) ?_
  refine z_ic hx hb d_L_262 ?_
  refine z_iadd hx hb d_L_263 ?_
  refine l_ld hc hw (by omega) d_L_264 ?_
  refine lv_aload_n hx hb d_L_265 rfl (lv_at hl 1 rfl) ?_
  refine lv_iload hx hb d_L_266 (lv_at hl 5 rfl) ?_
  refine z_ic hx hb d_L_268 ?_
  refine z_iadd hx hb d_L_269 ?_
  refine l_ld hc hw (by omega) d_L_270 ?_
  refine l_i2l hx hb d_L_271 ?_
  refine z_bi hx hb d_L_272 (by decide) ?_
  refine lv_lshl hx hb d_L_274 rfl ?_
  refine lv_aload_n hx hb d_L_275 rfl (lv_at hl 1 rfl) ?_
  refine lv_iload hx hb d_L_276 (lv_at hl 5 rfl) ?_
  refine z_ic hx hb d_L_278 ?_
  refine z_iadd hx hb d_L_279 ?_
  refine l_ld hc hw (by omega) d_L_280 ?_
  refine l_i2l hx hb d_L_281 ?_
  refine z_ldc2 (n := 4294967295) hc.1 lk_L_67 d_L_282 (by decide) ?_
  refine lv_land hx hb d_L_285 ?_
  refine l_lor hx hb d_L_286 ?_
  refine lv_aload_n hx hb d_L_287 rfl (lv_at hl 1 rfl) ?_
  refine lv_iload hx hb d_L_288 (lv_at hl 5 rfl) ?_
  refine z_ic hx hb d_L_290 ?_
  refine z_iadd hx hb d_L_291 ?_
  refine l_ld hc hw (by omega) d_L_292 ?_
  refine l_i2l hx hb d_L_293 ?_
  refine z_bi hx hb d_L_294 (by decide) ?_
  refine lv_lshl hx hb d_L_296 rfl ?_
  refine lv_aload_n hx hb d_L_297 rfl (lv_at hl 1 rfl) ?_
  refine lv_iload hx hb d_L_298 (lv_at hl 5 rfl) ?_
  refine z_ic hx hb d_L_300 ?_
  refine z_iadd hx hb d_L_301 ?_
  refine l_ld hc hw (by omega) d_L_302 ?_
  refine l_i2l hx hb d_L_303 ?_
  refine z_ldc2 (n := 4294967295) hc.1 lk_L_67 d_L_304 (by decide) ?_
  refine lv_land hx hb d_L_307 ?_
  refine l_lor hx hb d_L_308 ?_
  refine lv_aload_n hx hb d_L_309 rfl (lv_at hl 1 rfl) ?_
  refine lv_iload hx hb d_L_310 (lv_at hl 5 rfl) ?_
  refine z_bi hx hb d_L_312 (by decide) ?_
  refine z_iadd hx hb d_L_314 ?_
  refine l_ld hc hw (by omega) d_L_315 ?_
  refine l_i2l hx hb d_L_316 ?_
  refine z_bi hx hb d_L_317 (by decide) ?_
  refine lv_lshl hx hb d_L_319 rfl ?_
  refine lv_aload_n hx hb d_L_320 rfl (lv_at hl 1 rfl) ?_
  refine lv_iload hx hb d_L_321 (lv_at hl 5 rfl) ?_
  refine z_bi hx hb d_L_323 (by decide) ?_
  refine z_iadd hx hb d_L_325 ?_
  refine l_ld hc hw (by omega) d_L_326 ?_
  refine l_i2l hx hb d_L_327 ?_
  refine z_ldc2 (n := 4294967295) hc.1 lk_L_67 d_L_328 (by decide) ?_
  refine lv_land hx hb d_L_331 ?_
  refine l_lor hx hb d_L_332 ?_
  refine l_cm hc hw hM yw_M_point yi_M_point lk_L_74 d_L_333 rfl rfl hl.1 (Nat.le_of_ble_eq_true rfl) ⟨by show _ ≤ 2048; omega, by show _ ≤ 84000; omega⟩ ⟨by show _ ≤ 601024; omega, by show _ ≤ 7293034; omega⟩ (fun H locs hw => ?_)
  refine z_ist hx hb d_L_336 hl (by decide) (fun x6 e6 ls (hl : lv_has ls 8 ((6, .int (zI x6)) :: (5, .int (zI k)) :: Lv b ad am ao i)) => ?_)
  rw [e6] at hl
  refine lv_aload_n hx hb d_L_338 rfl (lv_at hl 4 rfl) ?_
  refine l_cm hc hw (k_M_thrown μ') yw_M_thrown yi_M_thrown lk_L_75 d_L_339 rfl rfl hl.1 (Nat.le_of_ble_eq_true rfl) ⟨by show _ ≤ 2048; omega, by show _ ≤ 84000; omega⟩ ⟨by show _ ≤ 601024; omega, by show _ ≤ 7293034; omega⟩ (fun H locs hw => ?_)
  rw [hk]
  refine lv_iload hx hb d_L_342 (lv_at hl 1 rfl) ?_
  refine z_icmp_eq hx hb 349 d_L_344 (by omega) (by omega) (by decide) (fun _ => ?_) (fun c0 => absurd rfl c0)
  refine lv_iload hx hb d_L_349 (lv_at hl 1 rfl) ?_
  refine z_if_ne hx hb 366 d_L_351 (by omega) (by decide) (fun _ => ?_) (fun e0 => ?_)
  · refine lv_goto (tgt := 1392) hx hb d_L_366 (by decide) ?_
    exact kk _ _ _ _ _ _ hI hw (lv_sub hl [2, 3, 4, 5, 6] rfl)
  · refine lv_aload_n hx hb d_L_354 rfl (lv_at hl 5 rfl) ?_
    refine z_ic hx hb d_L_355 ?_
    refine l_out hc hw d_L_356 ?_
    rw [hk0 e0]
    refine lv_iload hx hb d_L_357 (lv_at hl 0 rfl) ?_
    refine z_i2l hx hb d_L_359 hr ?_
    refine z_lcmp_eq hx hb 366 d_L_360 d_L_361 (by omega) (by omega) (by decide) (fun _ => ?_) (fun c0 => absurd rfl c0)
    refine lv_goto (tgt := 1392) hx hb d_L_366 (by decide) ?_
    exact kk _ _ _ _ _ _ hI hw (lv_sub hl [2, 3, 4, 5, 6] rfl)
theorem lc_gap (hc : LX p s m args c meth D cm ca co A b L xs) (hw : LW D A s.heap am cm ad ca ao co μ σ ω H locs) (hl : lv_has ls 8 (Lv b ad am ao i)) (hi : 0 ≤ i ∧ i + 8 ≤ (L : Int)) (hf : cells + 1 ≤ 601024 ∧ slots + 6 ≤ 7293034) (hs : SHI Inv l D am cm ad ca ao co y_L_gap c_L_gap 5 [(0, 16, 19, 15)] y_M_gap c_M_gap 3 (some .boolean) [.long (zL (lg2 (xs (i + 1).toNat).toInt (xs (i + 2).toNat).toInt))] b01 σ ω μ)
    (kk : ∀ (μ' σ' ω' : St) (H1 : Heap) (locs1 : List Loc) (ls' : Array Slot), Inv σ' μ' → LW D A s.heap am cm ad ca ao co μ' σ' ω' H1 locs1 → lv_has ls' 8 (Lv b ad am ao i) → W p l e room_1 s m args below meth c H1 locs1 (cells + 1) (slots + 6) Q (F0 m 1392 ls' [])) : W p l e room_1 s m args below meth c H locs cells slots Q (F0 m 369 ls []) := by
  have hx := hc.1.1
  have hb := hc.1.2.1
  have hL := hc.2.2.2.2.2
  refine lv_aload_n hx hb d_L_369 rfl (lv_at hl 1 rfl) ?_
  refine lv_aload_n hx hb d_L_370 rfl (lv_at hl 0 rfl) ?_
  refine lv_iload hx hb d_L_371 (lv_at hl 4 rfl) ?_
  refine z_ic hx hb d_L_373 ?_
  refine z_iadd hx hb d_L_374 ?_
  refine l_ld hc hw (by omega) d_L_375 ?_
  refine l_i2l hx hb d_L_376 ?_
  refine z_bi hx hb d_L_377 (by decide) ?_
  refine lv_lshl hx hb d_L_379 rfl ?_
  refine lv_aload_n hx hb d_L_380 rfl (lv_at hl 0 rfl) ?_
  refine lv_iload hx hb d_L_381 (lv_at hl 4 rfl) ?_
  refine z_ic hx hb d_L_383 ?_
  refine z_iadd hx hb d_L_384 ?_
  refine l_ld hc hw (by omega) d_L_385 ?_
  refine l_i2l hx hb d_L_386 ?_
  refine z_ldc2 (n := 4294967295) hc.1 lk_L_67 d_L_387 (by decide) ?_
  refine lv_land hx hb d_L_390 ?_
  refine l_lor hx hb d_L_391 ?_
  refine lv_aload_n hx hb d_L_392 rfl (lv_at hl 3 rfl) ?_
  obtain ⟨k, r, σ', ω', μ', h2, hh, hk02, hr, hC, hM, hk, hk0, hI⟩ := hs
  refine l_ch (n := 3) hc hw hC yh_L_gap rfl (by decide +kernel) lk_L_79 d_L_393 rfl rfl hl.1 (Nat.le_of_ble_eq_true rfl) ⟨by show _ ≤ 2048; omega, by show _ ≤ 84000; omega⟩ ⟨by show _ ≤ 601024; omega, by show _ ≤ 7293034; omega⟩ (fun H locs hw => ?_)
  refine z_ist hx hb d_L_396 hl (by decide) (fun x5 e5 ls (hl : lv_has ls 8 ((5, .int (zI x5)) :: Lv b ad am ao i)) => ?_)
  rw [e5] at hl
  refine lv_aload_n hx hb d_L_398 rfl (lv_at hl 3 rfl) ?_
  refine lv_aload_n hx hb d_L_399 rfl (lv_at hl 1 rfl) ?_
  refine lv_iload hx hb d_L_400 (lv_at hl 5 rfl) ?_
  refine z_ic hx hb d_L_402 ?_
  refine z_iadd hx hb d_L_403 ?_
  refine l_ld hc hw (by omega) d_L_404 ?_
  refine l_i2l hx hb d_L_405 ?_
  refine z_bi hx hb d_L_406 (by decide) ?_
  refine lv_lshl hx hb d_L_408 rfl ?_
  refine lv_aload_n hx hb d_L_409 rfl (lv_at hl 1 rfl) ?_
  refine lv_iload hx hb d_L_410 (lv_at hl 5 rfl) ?_
  refine z_ic hx hb d_L_412 ?_
  refine z_iadd hx hb d_L_413 ?_
  refine l_ld hc hw (by omega) d_L_414 ?_
  refine l_i2l hx hb d_L_415 ?_
  refine z_ldc2 (n := 4294967295) hc.1 lk_L_67 d_L_416 (by decide) ?_
  refine lv_land hx hb d_L_419 ?_
  refine l_lor hx hb d_L_420 ?_
  refine l_cm hc hw hM yw_M_gap yi_M_gap lk_L_82 d_L_421 rfl rfl hl.1 (Nat.le_of_ble_eq_true rfl) ⟨by show _ ≤ 2048; omega, by show _ ≤ 84000; omega⟩ ⟨by show _ ≤ 601024; omega, by show _ ≤ 7293034; omega⟩ (fun H locs hw => ?_)
  refine z_ist hx hb d_L_424 hl (by decide) (fun x6 e6 ls (hl : lv_has ls 8 ((6, .int (zI x6)) :: (5, .int (zI k)) :: Lv b ad am ao i)) => ?_)
  rw [e6] at hl
  refine lv_aload_n hx hb d_L_426 rfl (lv_at hl 4 rfl) ?_
  refine l_cm hc hw (k_M_thrown μ') yw_M_thrown yi_M_thrown lk_L_75 d_L_427 rfl rfl hl.1 (Nat.le_of_ble_eq_true rfl) ⟨by show _ ≤ 2048; omega, by show _ ≤ 84000; omega⟩ ⟨by show _ ≤ 601024; omega, by show _ ≤ 7293034; omega⟩ (fun H locs hw => ?_)
  rw [hk]
  refine lv_iload hx hb d_L_430 (lv_at hl 1 rfl) ?_
  refine z_icmp_eq hx hb 437 d_L_432 (by omega) (by omega) (by decide) (fun _ => ?_) (fun c0 => absurd rfl c0)
  refine lv_iload hx hb d_L_437 (lv_at hl 1 rfl) ?_
  refine z_if_ne hx hb 461 d_L_439 (by omega) (by decide) (fun _ => ?_) (fun e0 => ?_)
  · refine lv_goto (tgt := 1392) hx hb d_L_461 (by decide) ?_
    exact kk _ _ _ _ _ _ hI hw (lv_sub hl [2, 3, 4, 5, 6] rfl)
  · refine lv_aload_n hx hb d_L_442 rfl (lv_at hl 5 rfl) ?_
    refine z_ic hx hb d_L_443 ?_
    refine l_out hc hw d_L_444 ?_
    rw [hk0 e0]
    refine lv_iload hx hb d_L_445 (lv_at hl 0 rfl) ?_
    refine z_if_eq hx hb 454 d_L_447 (by rcases hr with rfl | rfl <;> decide) (by decide) (fun c0 => ?_) (fun c0 => ?_)
    · subst c0
      refine z_lc0 hx hb d_L_454 ?_
      refine z_lcmp_eq hx hb 461 d_L_455 d_L_456 (by omega) (by omega) (by decide) (fun _ => ?_) (fun c0 => absurd rfl c0)
      refine lv_goto (tgt := 1392) hx hb d_L_461 (by decide) ?_
      exact kk _ _ _ _ _ _ hI hw (lv_sub hl [2, 3, 4, 5, 6] rfl)
    · have e1 : r = 1 := by rcases hr with h | h <;> omega
      subst e1
      refine z_lc1 hx hb d_L_450 ?_
      refine lv_goto (tgt := 455) hx hb d_L_451 (by decide) ?_
      refine z_lcmp_eq hx hb 461 d_L_455 d_L_456 (by omega) (by omega) (by decide) (fun _ => ?_) (fun c0 => absurd rfl c0)
      refine lv_goto (tgt := 1392) hx hb d_L_461 (by decide) ?_
      exact kk _ _ _ _ _ _ hI hw (lv_sub hl [2, 3, 4, 5, 6] rfl)
theorem lc_run (hc : LX p s m args c meth D cm ca co A b L xs) (hw : LW D A s.heap am cm ad ca ao co μ σ ω H locs) (hl : lv_has ls 8 (Lv b ad am ao i)) (hi : 0 ≤ i ∧ i + 8 ≤ (L : Int)) (hf : cells + 1 ≤ 601024 ∧ slots + 6 ≤ 7293034) (hs : SHI Inv l D am cm ad ca ao co y_L_run c_L_run 5 [(0, 9, 12, 15)] y_M_run c_M_run 5 (some .int) [.long (zL (lg2 (xs (i + 1).toNat).toInt (xs (i + 2).toNat).toInt))] r32 σ ω μ)
    (kk : ∀ (μ' σ' ω' : St) (H1 : Heap) (locs1 : List Loc) (ls' : Array Slot), Inv σ' μ' → LW D A s.heap am cm ad ca ao co μ' σ' ω' H1 locs1 → lv_has ls' 8 (Lv b ad am ao i) → W p l e room_1 s m args below meth c H1 locs1 (cells + 1) (slots + 6) Q (F0 m 1392 ls' [])) : W p l e room_1 s m args below meth c H locs cells slots Q (F0 m 464 ls []) := by
  have hx := hc.1.1
  have hb := hc.1.2.1
  have hL := hc.2.2.2.2.2
  refine lv_aload_n hx hb d_L_464 rfl (lv_at hl 1 rfl) ?_
  refine lv_aload_n hx hb d_L_465 rfl (lv_at hl 0 rfl) ?_
  refine lv_iload hx hb d_L_466 (lv_at hl 4 rfl) ?_
  refine z_ic hx hb d_L_468 ?_
  refine z_iadd hx hb d_L_469 ?_
  refine l_ld hc hw (by omega) d_L_470 ?_
  refine l_i2l hx hb d_L_471 ?_
  refine z_bi hx hb d_L_472 (by decide) ?_
  refine lv_lshl hx hb d_L_474 rfl ?_
  refine lv_aload_n hx hb d_L_475 rfl (lv_at hl 0 rfl) ?_
  refine lv_iload hx hb d_L_476 (lv_at hl 4 rfl) ?_
  refine z_ic hx hb d_L_478 ?_
  refine z_iadd hx hb d_L_479 ?_
  refine l_ld hc hw (by omega) d_L_480 ?_
  refine l_i2l hx hb d_L_481 ?_
  refine z_ldc2 (n := 4294967295) hc.1 lk_L_67 d_L_482 (by decide) ?_
  refine lv_land hx hb d_L_485 ?_
  refine l_lor hx hb d_L_486 ?_
  refine lv_aload_n hx hb d_L_487 rfl (lv_at hl 3 rfl) ?_
  obtain ⟨k, r, σ', ω', μ', h2, hh, hk02, hr, hC, hM, hk, hk0, hI⟩ := hs
  refine l_ch (n := 3) hc hw hC yh_L_run rfl (by decide +kernel) lk_L_83 d_L_488 rfl rfl hl.1 (Nat.le_of_ble_eq_true rfl) ⟨by show _ ≤ 2048; omega, by show _ ≤ 84000; omega⟩ ⟨by show _ ≤ 601024; omega, by show _ ≤ 7293034; omega⟩ (fun H locs hw => ?_)
  refine z_ist hx hb d_L_491 hl (by decide) (fun x5 e5 ls (hl : lv_has ls 8 ((5, .int (zI x5)) :: Lv b ad am ao i)) => ?_)
  rw [e5] at hl
  refine lv_aload_n hx hb d_L_493 rfl (lv_at hl 3 rfl) ?_
  refine lv_aload_n hx hb d_L_494 rfl (lv_at hl 1 rfl) ?_
  refine lv_iload hx hb d_L_495 (lv_at hl 5 rfl) ?_
  refine z_ic hx hb d_L_497 ?_
  refine z_iadd hx hb d_L_498 ?_
  refine l_ld hc hw (by omega) d_L_499 ?_
  refine l_i2l hx hb d_L_500 ?_
  refine z_bi hx hb d_L_501 (by decide) ?_
  refine lv_lshl hx hb d_L_503 rfl ?_
  refine lv_aload_n hx hb d_L_504 rfl (lv_at hl 1 rfl) ?_
  refine lv_iload hx hb d_L_505 (lv_at hl 5 rfl) ?_
  refine z_ic hx hb d_L_507 ?_
  refine z_iadd hx hb d_L_508 ?_
  refine l_ld hc hw (by omega) d_L_509 ?_
  refine l_i2l hx hb d_L_510 ?_
  refine z_ldc2 (n := 4294967295) hc.1 lk_L_67 d_L_511 (by decide) ?_
  refine lv_land hx hb d_L_514 ?_
  refine l_lor hx hb d_L_515 ?_
  refine l_cm hc hw hM yw_M_run yi_M_run lk_L_85 d_L_516 rfl rfl hl.1 (Nat.le_of_ble_eq_true rfl) ⟨by show _ ≤ 2048; omega, by show _ ≤ 84000; omega⟩ ⟨by show _ ≤ 601024; omega, by show _ ≤ 7293034; omega⟩ (fun H locs hw => ?_)
  refine z_ist hx hb d_L_519 hl (by decide) (fun x6 e6 ls (hl : lv_has ls 8 ((6, .int (zI x6)) :: (5, .int (zI k)) :: Lv b ad am ao i)) => ?_)
  rw [e6] at hl
  refine lv_aload_n hx hb d_L_521 rfl (lv_at hl 4 rfl) ?_
  refine l_cm hc hw (k_M_thrown μ') yw_M_thrown yi_M_thrown lk_L_75 d_L_522 rfl rfl hl.1 (Nat.le_of_ble_eq_true rfl) ⟨by show _ ≤ 2048; omega, by show _ ≤ 84000; omega⟩ ⟨by show _ ≤ 601024; omega, by show _ ≤ 7293034; omega⟩ (fun H locs hw => ?_)
  rw [hk]
  refine lv_iload hx hb d_L_525 (lv_at hl 1 rfl) ?_
  refine z_icmp_eq hx hb 532 d_L_527 (by omega) (by omega) (by decide) (fun _ => ?_) (fun c0 => absurd rfl c0)
  refine lv_iload hx hb d_L_532 (lv_at hl 1 rfl) ?_
  refine z_if_ne hx hb 549 d_L_534 (by omega) (by decide) (fun _ => ?_) (fun e0 => ?_)
  · refine lv_goto (tgt := 1392) hx hb d_L_549 (by decide) ?_
    exact kk _ _ _ _ _ _ hI hw (lv_sub hl [2, 3, 4, 5, 6] rfl)
  · refine lv_aload_n hx hb d_L_537 rfl (lv_at hl 5 rfl) ?_
    refine z_ic hx hb d_L_538 ?_
    refine l_out hc hw d_L_539 ?_
    rw [hk0 e0]
    refine lv_iload hx hb d_L_540 (lv_at hl 0 rfl) ?_
    refine z_i2l hx hb d_L_542 hr ?_
    refine z_lcmp_eq hx hb 549 d_L_543 d_L_544 (by omega) (by omega) (by decide) (fun _ => ?_) (fun c0 => absurd rfl c0)
    refine lv_goto (tgt := 1392) hx hb d_L_549 (by decide) ?_
    exact kk _ _ _ _ _ _ hI hw (lv_sub hl [2, 3, 4, 5, 6] rfl)
theorem lc_probe (hc : LX p s m args c meth D cm ca co A b L xs) (hw : LW D A s.heap am cm ad ca ao co μ σ ω H locs) (hl : lv_has ls 8 (Lv b ad am ao i)) (hi : 0 ≤ i ∧ i + 8 ≤ (L : Int)) (hf : cells + 1 ≤ 601024 ∧ slots + 6 ≤ 7293034) (hs : SAI Inv l D am cm ad ca y_X_probe c_X_probe 2 (some .int) y_M_probe c_M_probe 2 (some .int) [.int (zI (xs (i + 1).toNat).toInt)] σ μ)
    (kk : ∀ (μ' σ' ω' : St) (H1 : Heap) (locs1 : List Loc) (ls' : Array Slot), Inv σ' μ' → LW D A s.heap am cm ad ca ao co μ' σ' ω' H1 locs1 → lv_has ls' 8 (Lv b ad am ao i) → W p l e room_1 s m args below meth c H1 locs1 (cells + 1) (slots + 6) Q (F0 m 1392 ls' [])) : W p l e room_1 s m args below meth c H locs cells slots Q (F0 m 552 ls []) := by
  have hx := hc.1.1
  have hb := hc.1.2.1
  have hL := hc.2.2.2.2.2
  refine lv_aload_n hx hb d_L_552 rfl (lv_at hl 1 rfl) ?_
  refine lv_aload_n hx hb d_L_553 rfl (lv_at hl 0 rfl) ?_
  refine lv_iload hx hb d_L_554 (lv_at hl 4 rfl) ?_
  refine z_ic hx hb d_L_556 ?_
  refine z_iadd hx hb d_L_557 ?_
  refine l_ld hc hw (by omega) d_L_558 ?_
  obtain ⟨r, σ', μ', h1, h2, hh, hr, hX, hM, hI⟩ := hs
  refine l_cx hc hw hX yw_X_probe yi_X_probe lk_L_86 d_L_559 rfl rfl hl.1 (Nat.le_of_ble_eq_true rfl) ⟨by show _ ≤ 2048; omega, by show _ ≤ 84000; omega⟩ ⟨by show _ ≤ 601024; omega, by show _ ≤ 7293034; omega⟩ (fun H locs hw => ?_)
  refine lv_aload_n hx hb d_L_562 rfl (lv_at hl 2 rfl) ?_
  refine lv_aload_n hx hb d_L_563 rfl (lv_at hl 0 rfl) ?_
  refine lv_iload hx hb d_L_564 (lv_at hl 4 rfl) ?_
  refine z_ic hx hb d_L_566 ?_
  refine z_iadd hx hb d_L_567 ?_
  refine l_ld hc hw (by omega) d_L_568 ?_
  refine l_cm hc hw hM yw_M_probe yi_M_probe lk_L_89 d_L_569 rfl rfl hl.1 (Nat.le_of_ble_eq_true rfl) ⟨by show _ ≤ 2048; omega, by show _ ≤ 84000; omega⟩ ⟨by show _ ≤ 601024; omega, by show _ ≤ 7293034; omega⟩ (fun H locs hw => ?_)
  refine z_icmp_eq hx hb 1392 d_L_572 hr hr (by decide) (fun _ => ?_) (fun c0 => absurd rfl c0)
  exact W.widen (k := cells + 1) (n := slots + 6) (by omega) (by omega) (kk _ _ _ _ _ _ hI hw hl)
theorem lc_proved (hc : LX p s m args c meth D cm ca co A b L xs) (hw : LW D A s.heap am cm ad ca ao co μ σ ω H locs) (hl : lv_has ls 8 (Lv b ad am ao i)) (hi : 0 ≤ i ∧ i + 8 ≤ (L : Int)) (hf : cells + 1 ≤ 601024 ∧ slots + 6 ≤ 7293034) (hs : SAI Inv l D am cm ad ca y_X_proved c_X_proved 1 (some .boolean) y_M_proved c_M_proved 1 (some .boolean) [] σ μ)
    (kk : ∀ (μ' σ' ω' : St) (H1 : Heap) (locs1 : List Loc) (ls' : Array Slot), Inv σ' μ' → LW D A s.heap am cm ad ca ao co μ' σ' ω' H1 locs1 → lv_has ls' 8 (Lv b ad am ao i) → W p l e room_1 s m args below meth c H1 locs1 (cells + 1) (slots + 6) Q (F0 m 1392 ls' [])) : W p l e room_1 s m args below meth c H locs cells slots Q (F0 m 577 ls []) := by
  have hx := hc.1.1
  have hb := hc.1.2.1
  have hL := hc.2.2.2.2.2
  refine lv_aload_n hx hb d_L_577 rfl (lv_at hl 1 rfl) ?_
  obtain ⟨r, σ', μ', h1, h2, hh, hr, hX, hM, hI⟩ := hs
  refine l_cx hc hw hX yw_X_proved yi_X_proved lk_L_90 d_L_578 rfl rfl hl.1 (Nat.le_of_ble_eq_true rfl) ⟨by show _ ≤ 2048; omega, by show _ ≤ 84000; omega⟩ ⟨by show _ ≤ 601024; omega, by show _ ≤ 7293034; omega⟩ (fun H locs hw => ?_)
  refine lv_aload_n hx hb d_L_581 rfl (lv_at hl 2 rfl) ?_
  refine l_cm hc hw hM yw_M_proved yi_M_proved lk_L_94 d_L_582 rfl rfl hl.1 (Nat.le_of_ble_eq_true rfl) ⟨by show _ ≤ 2048; omega, by show _ ≤ 84000; omega⟩ ⟨by show _ ≤ 601024; omega, by show _ ≤ 7293034; omega⟩ (fun H locs hw => ?_)
  refine z_icmp_eq hx hb 1392 d_L_585 hr hr (by decide) (fun _ => ?_) (fun c0 => absurd rfl c0)
  exact W.widen (k := cells + 1) (n := slots + 6) (by omega) (by omega) (kk _ _ _ _ _ _ hI hw hl)
theorem lc_out (hc : LX p s m args c meth D cm ca co A b L xs) (hw : LW D A s.heap am cm ad ca ao co μ σ ω H locs) (hl : lv_has ls 8 (Lv b ad am ao i)) (hi : 0 ≤ i ∧ i + 8 ≤ (L : Int)) (hf : cells + 1 ≤ 601024 ∧ slots + 6 ≤ 7293034) (hs : SAI Inv l D am cm ad ca y_X_out c_X_out 2 (some .int) y_M_out c_M_out 4 (some .int) [.int (zI (xs (i + 1).toNat).toInt)] σ μ)
    (kk : ∀ (μ' σ' ω' : St) (H1 : Heap) (locs1 : List Loc) (ls' : Array Slot), Inv σ' μ' → LW D A s.heap am cm ad ca ao co μ' σ' ω' H1 locs1 → lv_has ls' 8 (Lv b ad am ao i) → W p l e room_1 s m args below meth c H1 locs1 (cells + 1) (slots + 6) Q (F0 m 1392 ls' [])) : W p l e room_1 s m args below meth c H locs cells slots Q (F0 m 590 ls []) := by
  have hx := hc.1.1
  have hb := hc.1.2.1
  have hL := hc.2.2.2.2.2
  refine lv_aload_n hx hb d_L_590 rfl (lv_at hl 1 rfl) ?_
  refine lv_aload_n hx hb d_L_591 rfl (lv_at hl 0 rfl) ?_
  refine lv_iload hx hb d_L_592 (lv_at hl 4 rfl) ?_
  refine z_ic hx hb d_L_594 ?_
  refine z_iadd hx hb d_L_595 ?_
  refine l_ld hc hw (by omega) d_L_596 ?_
  obtain ⟨r, σ', μ', h1, h2, hh, hr, hX, hM, hI⟩ := hs
  refine l_cx hc hw hX yw_X_out yi_X_out lk_L_95 d_L_597 rfl rfl hl.1 (Nat.le_of_ble_eq_true rfl) ⟨by show _ ≤ 2048; omega, by show _ ≤ 84000; omega⟩ ⟨by show _ ≤ 601024; omega, by show _ ≤ 7293034; omega⟩ (fun H locs hw => ?_)
  refine lv_aload_n hx hb d_L_600 rfl (lv_at hl 2 rfl) ?_
  refine lv_aload_n hx hb d_L_601 rfl (lv_at hl 0 rfl) ?_
  refine lv_iload hx hb d_L_602 (lv_at hl 4 rfl) ?_
  refine z_ic hx hb d_L_604 ?_
  refine z_iadd hx hb d_L_605 ?_
  refine l_ld hc hw (by omega) d_L_606 ?_
  refine l_cm hc hw hM yw_M_out yi_M_out lk_L_98 d_L_607 rfl rfl hl.1 (Nat.le_of_ble_eq_true rfl) ⟨by show _ ≤ 2048; omega, by show _ ≤ 84000; omega⟩ ⟨by show _ ≤ 601024; omega, by show _ ≤ 7293034; omega⟩ (fun H locs hw => ?_)
  refine z_icmp_eq hx hb 1392 d_L_610 hr hr (by decide) (fun _ => ?_) (fun c0 => absurd rfl c0)
  exact W.widen (k := cells + 1) (n := slots + 6) (by omega) (by omega) (kk _ _ _ _ _ _ hI hw hl)
theorem lc_part (hc : LX p s m args c meth D cm ca co A b L xs) (hw : LW D A s.heap am cm ad ca ao co μ σ ω H locs) (hl : lv_has ls 8 (Lv b ad am ao i)) (hi : 0 ≤ i ∧ i + 8 ≤ (L : Int)) (hf : cells + 1 ≤ 601024 ∧ slots + 6 ≤ 7293034) (hs : SHI Inv l D am cm ad ca ao co y_L_part c_L_part 9 [(0, 21, 24, 13), (0, 21, 28, 15)] y_M_part c_M_part 9 (some .boolean) [.int (zI (xs (i + 1).toNat).toInt), .int (zI (xs (i + 2).toNat).toInt), .long (zL (lg2 (xs (i + 3).toNat).toInt (xs (i + 4).toNat).toInt)), .long (zL (lg2 (xs (i + 5).toNat).toInt (xs (i + 6).toNat).toInt))] b01 σ ω μ)
    (kk : ∀ (μ' σ' ω' : St) (H1 : Heap) (locs1 : List Loc) (ls' : Array Slot), Inv σ' μ' → LW D A s.heap am cm ad ca ao co μ' σ' ω' H1 locs1 → lv_has ls' 8 (Lv b ad am ao i) → W p l e room_1 s m args below meth c H1 locs1 (cells + 1) (slots + 6) Q (F0 m 1392 ls' [])) : W p l e room_1 s m args below meth c H locs cells slots Q (F0 m 615 ls []) := by
  have hx := hc.1.1
  have hb := hc.1.2.1
  have hL := hc.2.2.2.2.2
  refine lv_aload_n hx hb d_L_615 rfl (lv_at hl 1 rfl) ?_
  refine lv_aload_n hx hb d_L_616 rfl (lv_at hl 0 rfl) ?_
  refine lv_iload hx hb d_L_617 (lv_at hl 4 rfl) ?_
  refine z_ic hx hb d_L_619 ?_
  refine z_iadd hx hb d_L_620 ?_
  refine l_ld hc hw (by omega) d_L_621 ?_
  refine lv_aload_n hx hb d_L_622 rfl (lv_at hl 0 rfl) ?_
  refine lv_iload hx hb d_L_623 (lv_at hl 4 rfl) ?_
  refine z_ic hx hb d_L_625 ?_
  refine z_iadd hx hb d_L_626 ?_
  refine l_ld hc hw (by omega) d_L_627 ?_
  refine lv_aload_n hx hb d_L_628 rfl (lv_at hl 0 rfl) ?_
  refine lv_iload hx hb d_L_629 (lv_at hl 4 rfl) ?_
  refine z_ic hx hb d_L_631 ?_
  refine z_iadd hx hb d_L_632 ?_
  refine l_ld hc hw (by omega) d_L_633 ?_
  refine l_i2l hx hb d_L_634 ?_
  refine z_bi hx hb d_L_635 (by decide) ?_
  refine lv_lshl hx hb d_L_637 rfl ?_
  refine lv_aload_n hx hb d_L_638 rfl (lv_at hl 0 rfl) ?_
  refine lv_iload hx hb d_L_639 (lv_at hl 4 rfl) ?_
  refine z_ic hx hb d_L_641 ?_
  refine z_iadd hx hb d_L_642 ?_
  refine l_ld hc hw (by omega) d_L_643 ?_
  refine l_i2l hx hb d_L_644 ?_
  refine z_ldc2 (n := 4294967295) hc.1 lk_L_67 d_L_645 (by decide) ?_
  refine lv_land hx hb d_L_648 ?_
  refine l_lor hx hb d_L_649 ?_
  refine lv_aload_n hx hb d_L_650 rfl (lv_at hl 0 rfl) ?_
  refine lv_iload hx hb d_L_651 (lv_at hl 4 rfl) ?_
  refine z_ic hx hb d_L_653 ?_
  refine z_iadd hx hb d_L_654 ?_
  refine l_ld hc hw (by omega) d_L_655 ?_
  refine l_i2l hx hb d_L_656 ?_
  refine z_bi hx hb d_L_657 (by decide) ?_
  refine lv_lshl hx hb d_L_659 rfl ?_
  refine lv_aload_n hx hb d_L_660 rfl (lv_at hl 0 rfl) ?_
  refine lv_iload hx hb d_L_661 (lv_at hl 4 rfl) ?_
  refine z_bi hx hb d_L_663 (by decide) ?_
  refine z_iadd hx hb d_L_665 ?_
  refine l_ld hc hw (by omega) d_L_666 ?_
  refine l_i2l hx hb d_L_667 ?_
  refine z_ldc2 (n := 4294967295) hc.1 lk_L_67 d_L_668 (by decide) ?_
  refine lv_land hx hb d_L_671 ?_
  refine l_lor hx hb d_L_672 ?_
  refine lv_aload_n hx hb d_L_673 rfl (lv_at hl 3 rfl) ?_
  obtain ⟨k, r, σ', ω', μ', h2, hh, hk02, hr, hC, hM, hk, hk0, hI⟩ := hs
  refine l_ch (n := 6) hc hw hC yh_L_part rfl (by decide +kernel) lk_L_99 d_L_674 rfl rfl hl.1 (Nat.le_of_ble_eq_true rfl) ⟨by show _ ≤ 2048; omega, by show _ ≤ 84000; omega⟩ ⟨by show _ ≤ 601024; omega, by show _ ≤ 7293034; omega⟩ (fun H locs hw => ?_)
  refine z_ist hx hb d_L_677 hl (by decide) (fun x5 e5 ls (hl : lv_has ls 8 ((5, .int (zI x5)) :: Lv b ad am ao i)) => ?_)
  rw [e5] at hl
  refine lv_aload_n hx hb d_L_679 rfl (lv_at hl 3 rfl) ?_
  refine lv_aload_n hx hb d_L_680 rfl (lv_at hl 1 rfl) ?_
  refine lv_iload hx hb d_L_681 (lv_at hl 5 rfl) ?_
  refine z_ic hx hb d_L_683 ?_
  refine z_iadd hx hb d_L_684 ?_
  refine l_ld hc hw (by omega) d_L_685 ?_
  refine lv_aload_n hx hb d_L_686 rfl (lv_at hl 1 rfl) ?_
  refine lv_iload hx hb d_L_687 (lv_at hl 5 rfl) ?_
  refine z_ic hx hb d_L_689 ?_
  refine z_iadd hx hb d_L_690 ?_
  refine l_ld hc hw (by omega) d_L_691 ?_
  refine lv_aload_n hx hb d_L_692 rfl (lv_at hl 1 rfl) ?_
  refine lv_iload hx hb d_L_693 (lv_at hl 5 rfl) ?_
  refine z_ic hx hb d_L_695 ?_
  refine z_iadd hx hb d_L_696 ?_
  refine l_ld hc hw (by omega) d_L_697 ?_
  refine l_i2l hx hb d_L_698 ?_
  refine z_bi hx hb d_L_699 (by decide) ?_
  refine lv_lshl hx hb d_L_701 rfl ?_
  refine lv_aload_n hx hb d_L_702 rfl (lv_at hl 1 rfl) ?_
  refine lv_iload hx hb d_L_703 (lv_at hl 5 rfl) ?_
  refine z_ic hx hb d_L_705 ?_
  refine z_iadd hx hb d_L_706 ?_
  refine l_ld hc hw (by omega) d_L_707 ?_
  refine l_i2l hx hb d_L_708 ?_
  refine z_ldc2 (n := 4294967295) hc.1 lk_L_67 d_L_709 (by decide) ?_
  refine lv_land hx hb d_L_712 ?_
  refine l_lor hx hb d_L_713 ?_
  refine lv_aload_n hx hb d_L_714 rfl (lv_at hl 1 rfl) ?_
  refine lv_iload hx hb d_L_715 (lv_at hl 5 rfl) ?_
  refine z_ic hx hb d_L_717 ?_
  refine z_iadd hx hb d_L_718 ?_
  refine l_ld hc hw (by omega) d_L_719 ?_
  refine l_i2l hx hb d_L_720 ?_
  refine z_bi hx hb d_L_721 (by decide) ?_
  refine lv_lshl hx hb d_L_723 rfl ?_
  refine lv_aload_n hx hb d_L_724 rfl (lv_at hl 1 rfl) ?_
  refine lv_iload hx hb d_L_725 (lv_at hl 5 rfl) ?_
  refine z_bi hx hb d_L_727 (by decide) ?_
  refine z_iadd hx hb d_L_729 ?_
  refine l_ld hc hw (by omega) d_L_730 ?_
  refine l_i2l hx hb d_L_731 ?_
  refine z_ldc2 (n := 4294967295) hc.1 lk_L_67 d_L_732 (by decide) ?_
  refine lv_land hx hb d_L_735 ?_
  refine l_lor hx hb d_L_736 ?_
  refine l_cm hc hw hM yw_M_part yi_M_part lk_L_102 d_L_737 rfl rfl hl.1 (Nat.le_of_ble_eq_true rfl) ⟨by show _ ≤ 2048; omega, by show _ ≤ 84000; omega⟩ ⟨by show _ ≤ 601024; omega, by show _ ≤ 7293034; omega⟩ (fun H locs hw => ?_)
  refine z_ist hx hb d_L_740 hl (by decide) (fun x6 e6 ls (hl : lv_has ls 8 ((6, .int (zI x6)) :: (5, .int (zI k)) :: Lv b ad am ao i)) => ?_)
  rw [e6] at hl
  refine lv_aload_n hx hb d_L_742 rfl (lv_at hl 4 rfl) ?_
  refine l_cm hc hw (k_M_thrown μ') yw_M_thrown yi_M_thrown lk_L_75 d_L_743 rfl rfl hl.1 (Nat.le_of_ble_eq_true rfl) ⟨by show _ ≤ 2048; omega, by show _ ≤ 84000; omega⟩ ⟨by show _ ≤ 601024; omega, by show _ ≤ 7293034; omega⟩ (fun H locs hw => ?_)
  rw [hk]
  refine lv_iload hx hb d_L_746 (lv_at hl 1 rfl) ?_
  refine z_icmp_eq hx hb 753 d_L_748 (by omega) (by omega) (by decide) (fun _ => ?_) (fun c0 => absurd rfl c0)
  refine lv_iload hx hb d_L_753 (lv_at hl 1 rfl) ?_
  refine z_if_ne hx hb 777 d_L_755 (by omega) (by decide) (fun _ => ?_) (fun e0 => ?_)
  · refine lv_goto (tgt := 1392) hx hb d_L_777 (by decide) ?_
    exact kk _ _ _ _ _ _ hI hw (lv_sub hl [2, 3, 4, 5, 6] rfl)
  · refine lv_aload_n hx hb d_L_758 rfl (lv_at hl 5 rfl) ?_
    refine z_ic hx hb d_L_759 ?_
    refine l_out hc hw d_L_760 ?_
    rw [hk0 e0]
    refine lv_iload hx hb d_L_761 (lv_at hl 0 rfl) ?_
    refine z_if_eq hx hb 770 d_L_763 (by rcases hr with rfl | rfl <;> decide) (by decide) (fun c0 => ?_) (fun c0 => ?_)
    · subst c0
      refine z_lc0 hx hb d_L_770 ?_
      refine z_lcmp_eq hx hb 777 d_L_771 d_L_772 (by omega) (by omega) (by decide) (fun _ => ?_) (fun c0 => absurd rfl c0)
      refine lv_goto (tgt := 1392) hx hb d_L_777 (by decide) ?_
      exact kk _ _ _ _ _ _ hI hw (lv_sub hl [2, 3, 4, 5, 6] rfl)
    · have e1 : r = 1 := by rcases hr with h | h <;> omega
      subst e1
      refine z_lc1 hx hb d_L_766 ?_
      refine lv_goto (tgt := 771) hx hb d_L_767 (by decide) ?_
      refine z_lcmp_eq hx hb 777 d_L_771 d_L_772 (by omega) (by omega) (by decide) (fun _ => ?_) (fun c0 => absurd rfl c0)
      refine lv_goto (tgt := 1392) hx hb d_L_777 (by decide) ?_
      exact kk _ _ _ _ _ _ hI hw (lv_sub hl [2, 3, 4, 5, 6] rfl)
theorem lc_span (hc : LX p s m args c meth D cm ca co A b L xs) (hw : LW D A s.heap am cm ad ca ao co μ σ ω H locs) (hl : lv_has ls 8 (Lv b ad am ao i)) (hi : 0 ≤ i ∧ i + 8 ≤ (L : Int)) (hf : cells + 1 ≤ 601024 ∧ slots + 6 ≤ 7293034) (hs : SHL Inv l D am cm ad ca ao co y_L_span c_L_span 7 [(0, 13, 16, 13), (0, 13, 20, 33)] y_M_span c_M_span 17 (some .long) [.int (zI (xs (i + 1).toNat).toInt), .int (zI (xs (i + 2).toNat).toInt), .int (zI (xs (i + 3).toNat).toInt), .int (zI (xs (i + 4).toNat).toInt)] σ ω μ)
    (kk : ∀ (μ' σ' ω' : St) (H1 : Heap) (locs1 : List Loc) (ls' : Array Slot), Inv σ' μ' → LW D A s.heap am cm ad ca ao co μ' σ' ω' H1 locs1 → lv_has ls' 8 (Lv b ad am ao i) → W p l e room_1 s m args below meth c H1 locs1 (cells + 1) (slots + 6) Q (F0 m 1392 ls' [])) : W p l e room_1 s m args below meth c H locs cells slots Q (F0 m 780 ls []) := by
  have hx := hc.1.1
  have hb := hc.1.2.1
  have hL := hc.2.2.2.2.2
  refine lv_aload_n hx hb d_L_780 rfl (lv_at hl 1 rfl) ?_
  refine lv_aload_n hx hb d_L_781 rfl (lv_at hl 0 rfl) ?_
  refine lv_iload hx hb d_L_782 (lv_at hl 4 rfl) ?_
  refine z_ic hx hb d_L_784 ?_
  refine z_iadd hx hb d_L_785 ?_
  refine l_ld hc hw (by omega) d_L_786 ?_
  refine lv_aload_n hx hb d_L_787 rfl (lv_at hl 0 rfl) ?_
  refine lv_iload hx hb d_L_788 (lv_at hl 4 rfl) ?_
  refine z_ic hx hb d_L_790 ?_
  refine z_iadd hx hb d_L_791 ?_
  refine l_ld hc hw (by omega) d_L_792 ?_
  refine lv_aload_n hx hb d_L_793 rfl (lv_at hl 0 rfl) ?_
  refine lv_iload hx hb d_L_794 (lv_at hl 4 rfl) ?_
  refine z_ic hx hb d_L_796 ?_
  refine z_iadd hx hb d_L_797 ?_
  refine l_ld hc hw (by omega) d_L_798 ?_
  refine lv_aload_n hx hb d_L_799 rfl (lv_at hl 0 rfl) ?_
  refine lv_iload hx hb d_L_800 (lv_at hl 4 rfl) ?_
  refine z_ic hx hb d_L_802 ?_
  refine z_iadd hx hb d_L_803 ?_
  refine l_ld hc hw (by omega) d_L_804 ?_
  refine lv_aload_n hx hb d_L_805 rfl (lv_at hl 3 rfl) ?_
  obtain ⟨k, r, σ', ω', μ', h2, hh, hk02, hr, hC, hM, hk, hk0, hI⟩ := hs
  refine l_ch (n := 6) hc hw hC yh_L_span rfl (by decide +kernel) lk_L_103 d_L_806 rfl rfl hl.1 (Nat.le_of_ble_eq_true rfl) ⟨by show _ ≤ 2048; omega, by show _ ≤ 84000; omega⟩ ⟨by show _ ≤ 601024; omega, by show _ ≤ 7293034; omega⟩ (fun H locs hw => ?_)
  refine z_ist hx hb d_L_809 hl (by decide) (fun x5 e5 ls (hl : lv_has ls 8 ((5, .int (zI x5)) :: Lv b ad am ao i)) => ?_)
  rw [e5] at hl
  refine lv_aload_n hx hb d_L_811 rfl (lv_at hl 3 rfl) ?_
  refine lv_aload_n hx hb d_L_812 rfl (lv_at hl 1 rfl) ?_
  refine lv_iload hx hb d_L_813 (lv_at hl 5 rfl) ?_
  refine z_ic hx hb d_L_815 ?_
  refine z_iadd hx hb d_L_816 ?_
  refine l_ld hc hw (by omega) d_L_817 ?_
  refine lv_aload_n hx hb d_L_818 rfl (lv_at hl 1 rfl) ?_
  refine lv_iload hx hb d_L_819 (lv_at hl 5 rfl) ?_
  refine z_ic hx hb d_L_821 ?_
  refine z_iadd hx hb d_L_822 ?_
  refine l_ld hc hw (by omega) d_L_823 ?_
  refine lv_aload_n hx hb d_L_824 rfl (lv_at hl 1 rfl) ?_
  refine lv_iload hx hb d_L_825 (lv_at hl 5 rfl) ?_
  refine z_ic hx hb d_L_827 ?_
  refine z_iadd hx hb d_L_828 ?_
  refine l_ld hc hw (by omega) d_L_829 ?_
  refine lv_aload_n hx hb d_L_830 rfl (lv_at hl 1 rfl) ?_
  refine lv_iload hx hb d_L_831 (lv_at hl 5 rfl) ?_
  refine z_ic hx hb d_L_833 ?_
  refine z_iadd hx hb d_L_834 ?_
  refine l_ld hc hw (by omega) d_L_835 ?_
  refine l_cm hc hw hM yw_M_span yi_M_span lk_L_106 d_L_836 rfl rfl hl.1 (Nat.le_of_ble_eq_true rfl) ⟨by show _ ≤ 2048; omega, by show _ ≤ 84000; omega⟩ ⟨by show _ ≤ 601024; omega, by show _ ≤ 7293034; omega⟩ (fun H locs hw => ?_)
  refine z_lst hx hb d_L_839 hl (by decide) (fun x6 e6 ls (hl : lv_has ls 8 ((6, .long (zL x6)) :: (5, .int (zI k)) :: Lv b ad am ao i)) => ?_)
  rw [e6] at hl
  refine lv_aload_n hx hb d_L_841 rfl (lv_at hl 4 rfl) ?_
  refine l_cm hc hw (k_M_thrown μ') yw_M_thrown yi_M_thrown lk_L_75 d_L_842 rfl rfl hl.1 (Nat.le_of_ble_eq_true rfl) ⟨by show _ ≤ 2048; omega, by show _ ≤ 84000; omega⟩ ⟨by show _ ≤ 601024; omega, by show _ ≤ 7293034; omega⟩ (fun H locs hw => ?_)
  rw [hk]
  refine lv_iload hx hb d_L_845 (lv_at hl 1 rfl) ?_
  refine z_icmp_eq hx hb 852 d_L_847 (by omega) (by omega) (by decide) (fun _ => ?_) (fun c0 => absurd rfl c0)
  refine lv_iload hx hb d_L_852 (lv_at hl 1 rfl) ?_
  refine z_if_ne hx hb 868 d_L_854 (by omega) (by decide) (fun _ => ?_) (fun e0 => ?_)
  · refine lv_goto (tgt := 1392) hx hb d_L_868 (by decide) ?_
    exact kk _ _ _ _ _ _ hI hw (lv_sub hl [2, 3, 4, 5, 6] rfl)
  · refine lv_aload_n hx hb d_L_857 rfl (lv_at hl 5 rfl) ?_
    refine z_ic hx hb d_L_858 ?_
    refine l_out hc hw d_L_859 ?_
    rw [hk0 e0]
    refine lv_lload hx hb d_L_860 (lv_at hl 0 rfl) ?_
    refine z_lcmp_eq hx hb 868 d_L_862 d_L_863 hr hr (by decide) (fun _ => ?_) (fun c0 => absurd rfl c0)
    refine lv_goto (tgt := 1392) hx hb d_L_868 (by decide) ?_
    exact kk _ _ _ _ _ _ hI hw (lv_sub hl [2, 3, 4, 5, 6] rfl)
theorem lc_guard (hc : LX p s m args c meth D cm ca co A b L xs) (hw : LW D A s.heap am cm ad ca ao co μ σ ω H locs) (hl : lv_has ls 8 (Lv b ad am ao i)) (hi : 0 ≤ i ∧ i + 8 ≤ (L : Int)) (hf : cells + 1 ≤ 601024 ∧ slots + 6 ≤ 7293034) (hs : SHI Inv l D am cm ad ca ao co y_L_guard c_L_guard 6 [(0, 12, 15, 13)] y_M_guard c_M_guard 6 (some .int) [.int (zI (xs (i + 1).toNat).toInt), .int (zI (xs (i + 2).toNat).toInt), .int (zI (xs (i + 3).toNat).toInt)] r32 σ ω μ)
    (kk : ∀ (μ' σ' ω' : St) (H1 : Heap) (locs1 : List Loc) (ls' : Array Slot), Inv σ' μ' → LW D A s.heap am cm ad ca ao co μ' σ' ω' H1 locs1 → lv_has ls' 8 (Lv b ad am ao i) → W p l e room_1 s m args below meth c H1 locs1 (cells + 1) (slots + 6) Q (F0 m 1392 ls' [])) : W p l e room_1 s m args below meth c H locs cells slots Q (F0 m 871 ls []) := by
  have hx := hc.1.1
  have hb := hc.1.2.1
  have hL := hc.2.2.2.2.2
  refine lv_aload_n hx hb d_L_871 rfl (lv_at hl 1 rfl) ?_
  refine lv_aload_n hx hb d_L_872 rfl (lv_at hl 0 rfl) ?_
  refine lv_iload hx hb d_L_873 (lv_at hl 4 rfl) ?_
  refine z_ic hx hb d_L_875 ?_
  refine z_iadd hx hb d_L_876 ?_
  refine l_ld hc hw (by omega) d_L_877 ?_
  refine lv_aload_n hx hb d_L_878 rfl (lv_at hl 0 rfl) ?_
  refine lv_iload hx hb d_L_879 (lv_at hl 4 rfl) ?_
  refine z_ic hx hb d_L_881 ?_
  refine z_iadd hx hb d_L_882 ?_
  refine l_ld hc hw (by omega) d_L_883 ?_
  refine lv_aload_n hx hb d_L_884 rfl (lv_at hl 0 rfl) ?_
  refine lv_iload hx hb d_L_885 (lv_at hl 4 rfl) ?_
  refine z_ic hx hb d_L_887 ?_
  refine z_iadd hx hb d_L_888 ?_
  refine l_ld hc hw (by omega) d_L_889 ?_
  refine lv_aload_n hx hb d_L_890 rfl (lv_at hl 3 rfl) ?_
  obtain ⟨k, r, σ', ω', μ', h2, hh, hk02, hr, hC, hM, hk, hk0, hI⟩ := hs
  refine l_ch (n := 5) hc hw hC yh_L_guard rfl (by decide +kernel) lk_L_107 d_L_891 rfl rfl hl.1 (Nat.le_of_ble_eq_true rfl) ⟨by show _ ≤ 2048; omega, by show _ ≤ 84000; omega⟩ ⟨by show _ ≤ 601024; omega, by show _ ≤ 7293034; omega⟩ (fun H locs hw => ?_)
  refine z_ist hx hb d_L_894 hl (by decide) (fun x5 e5 ls (hl : lv_has ls 8 ((5, .int (zI x5)) :: Lv b ad am ao i)) => ?_)
  rw [e5] at hl
  refine lv_aload_n hx hb d_L_896 rfl (lv_at hl 3 rfl) ?_
  refine lv_aload_n hx hb d_L_897 rfl (lv_at hl 1 rfl) ?_
  refine lv_iload hx hb d_L_898 (lv_at hl 5 rfl) ?_
  refine z_ic hx hb d_L_900 ?_
  refine z_iadd hx hb d_L_901 ?_
  refine l_ld hc hw (by omega) d_L_902 ?_
  refine lv_aload_n hx hb d_L_903 rfl (lv_at hl 1 rfl) ?_
  refine lv_iload hx hb d_L_904 (lv_at hl 5 rfl) ?_
  refine z_ic hx hb d_L_906 ?_
  refine z_iadd hx hb d_L_907 ?_
  refine l_ld hc hw (by omega) d_L_908 ?_
  refine lv_aload_n hx hb d_L_909 rfl (lv_at hl 1 rfl) ?_
  refine lv_iload hx hb d_L_910 (lv_at hl 5 rfl) ?_
  refine z_ic hx hb d_L_912 ?_
  refine z_iadd hx hb d_L_913 ?_
  refine l_ld hc hw (by omega) d_L_914 ?_
  refine l_cm hc hw hM yw_M_guard yi_M_guard lk_L_110 d_L_915 rfl rfl hl.1 (Nat.le_of_ble_eq_true rfl) ⟨by show _ ≤ 2048; omega, by show _ ≤ 84000; omega⟩ ⟨by show _ ≤ 601024; omega, by show _ ≤ 7293034; omega⟩ (fun H locs hw => ?_)
  refine z_ist hx hb d_L_918 hl (by decide) (fun x6 e6 ls (hl : lv_has ls 8 ((6, .int (zI x6)) :: (5, .int (zI k)) :: Lv b ad am ao i)) => ?_)
  rw [e6] at hl
  refine lv_aload_n hx hb d_L_920 rfl (lv_at hl 4 rfl) ?_
  refine l_cm hc hw (k_M_thrown μ') yw_M_thrown yi_M_thrown lk_L_75 d_L_921 rfl rfl hl.1 (Nat.le_of_ble_eq_true rfl) ⟨by show _ ≤ 2048; omega, by show _ ≤ 84000; omega⟩ ⟨by show _ ≤ 601024; omega, by show _ ≤ 7293034; omega⟩ (fun H locs hw => ?_)
  rw [hk]
  refine lv_iload hx hb d_L_924 (lv_at hl 1 rfl) ?_
  refine z_icmp_eq hx hb 931 d_L_926 (by omega) (by omega) (by decide) (fun _ => ?_) (fun c0 => absurd rfl c0)
  refine lv_iload hx hb d_L_931 (lv_at hl 1 rfl) ?_
  refine z_if_ne hx hb 948 d_L_933 (by omega) (by decide) (fun _ => ?_) (fun e0 => ?_)
  · refine lv_goto (tgt := 1392) hx hb d_L_948 (by decide) ?_
    exact kk _ _ _ _ _ _ hI hw (lv_sub hl [2, 3, 4, 5, 6] rfl)
  · refine lv_aload_n hx hb d_L_936 rfl (lv_at hl 5 rfl) ?_
    refine z_ic hx hb d_L_937 ?_
    refine l_out hc hw d_L_938 ?_
    rw [hk0 e0]
    refine lv_iload hx hb d_L_939 (lv_at hl 0 rfl) ?_
    refine z_i2l hx hb d_L_941 hr ?_
    refine z_lcmp_eq hx hb 948 d_L_942 d_L_943 (by omega) (by omega) (by decide) (fun _ => ?_) (fun c0 => absurd rfl c0)
    refine lv_goto (tgt := 1392) hx hb d_L_948 (by decide) ?_
    exact kk _ _ _ _ _ _ hI hw (lv_sub hl [2, 3, 4, 5, 6] rfl)
theorem lc_fail (hc : LX p s m args c meth D cm ca co A b L xs) (hw : LW D A s.heap am cm ad ca ao co μ σ ω H locs) (hl : lv_has ls 8 (Lv b ad am ao i)) (hi : 0 ≤ i ∧ i + 8 ≤ (L : Int)) (hf : cells + 1 ≤ 601024 ∧ slots + 6 ≤ 7293034) (hs : SHI Inv l D am cm ad ca ao co y_L_fail c_L_fail 4 [(0, 16, 19, 13)] y_M_fail c_M_fail 4 (some .boolean) [.int (zI (xs (i + 1).toNat).toInt)] b01 σ ω μ)
    (kk : ∀ (μ' σ' ω' : St) (H1 : Heap) (locs1 : List Loc) (ls' : Array Slot), Inv σ' μ' → LW D A s.heap am cm ad ca ao co μ' σ' ω' H1 locs1 → lv_has ls' 8 (Lv b ad am ao i) → W p l e room_1 s m args below meth c H1 locs1 (cells + 1) (slots + 6) Q (F0 m 1392 ls' [])) : W p l e room_1 s m args below meth c H locs cells slots Q (F0 m 951 ls []) := by
  have hx := hc.1.1
  have hb := hc.1.2.1
  have hL := hc.2.2.2.2.2
  refine lv_aload_n hx hb d_L_951 rfl (lv_at hl 1 rfl) ?_
  refine lv_aload_n hx hb d_L_952 rfl (lv_at hl 0 rfl) ?_
  refine lv_iload hx hb d_L_953 (lv_at hl 4 rfl) ?_
  refine z_ic hx hb d_L_955 ?_
  refine z_iadd hx hb d_L_956 ?_
  refine l_ld hc hw (by omega) d_L_957 ?_
  refine lv_aload_n hx hb d_L_958 rfl (lv_at hl 3 rfl) ?_
  obtain ⟨k, r, σ', ω', μ', h2, hh, hk02, hr, hC, hM, hk, hk0, hI⟩ := hs
  refine l_ch (n := 3) hc hw hC yh_L_fail rfl (by decide +kernel) lk_L_111 d_L_959 rfl rfl hl.1 (Nat.le_of_ble_eq_true rfl) ⟨by show _ ≤ 2048; omega, by show _ ≤ 84000; omega⟩ ⟨by show _ ≤ 601024; omega, by show _ ≤ 7293034; omega⟩ (fun H locs hw => ?_)
  refine z_ist hx hb d_L_962 hl (by decide) (fun x5 e5 ls (hl : lv_has ls 8 ((5, .int (zI x5)) :: Lv b ad am ao i)) => ?_)
  rw [e5] at hl
  refine lv_aload_n hx hb d_L_964 rfl (lv_at hl 3 rfl) ?_
  refine lv_aload_n hx hb d_L_965 rfl (lv_at hl 1 rfl) ?_
  refine lv_iload hx hb d_L_966 (lv_at hl 5 rfl) ?_
  refine z_ic hx hb d_L_968 ?_
  refine z_iadd hx hb d_L_969 ?_
  refine l_ld hc hw (by omega) d_L_970 ?_
  refine l_cm hc hw hM yw_M_fail yi_M_fail lk_L_114 d_L_971 rfl rfl hl.1 (Nat.le_of_ble_eq_true rfl) ⟨by show _ ≤ 2048; omega, by show _ ≤ 84000; omega⟩ ⟨by show _ ≤ 601024; omega, by show _ ≤ 7293034; omega⟩ (fun H locs hw => ?_)
  refine z_ist hx hb d_L_974 hl (by decide) (fun x6 e6 ls (hl : lv_has ls 8 ((6, .int (zI x6)) :: (5, .int (zI k)) :: Lv b ad am ao i)) => ?_)
  rw [e6] at hl
  refine lv_aload_n hx hb d_L_976 rfl (lv_at hl 4 rfl) ?_
  refine l_cm hc hw (k_M_thrown μ') yw_M_thrown yi_M_thrown lk_L_75 d_L_977 rfl rfl hl.1 (Nat.le_of_ble_eq_true rfl) ⟨by show _ ≤ 2048; omega, by show _ ≤ 84000; omega⟩ ⟨by show _ ≤ 601024; omega, by show _ ≤ 7293034; omega⟩ (fun H locs hw => ?_)
  rw [hk]
  refine lv_iload hx hb d_L_980 (lv_at hl 1 rfl) ?_
  refine z_icmp_eq hx hb 987 d_L_982 (by omega) (by omega) (by decide) (fun _ => ?_) (fun c0 => absurd rfl c0)
  refine lv_iload hx hb d_L_987 (lv_at hl 1 rfl) ?_
  refine z_if_ne hx hb 1011 d_L_989 (by omega) (by decide) (fun _ => ?_) (fun e0 => ?_)
  · refine lv_goto (tgt := 1392) hx hb d_L_1011 (by decide) ?_
    exact kk _ _ _ _ _ _ hI hw (lv_sub hl [2, 3, 4, 5, 6] rfl)
  · refine lv_aload_n hx hb d_L_992 rfl (lv_at hl 5 rfl) ?_
    refine z_ic hx hb d_L_993 ?_
    refine l_out hc hw d_L_994 ?_
    rw [hk0 e0]
    refine lv_iload hx hb d_L_995 (lv_at hl 0 rfl) ?_
    refine z_if_eq hx hb 1004 d_L_997 (by rcases hr with rfl | rfl <;> decide) (by decide) (fun c0 => ?_) (fun c0 => ?_)
    · subst c0
      refine z_lc0 hx hb d_L_1004 ?_
      refine z_lcmp_eq hx hb 1011 d_L_1005 d_L_1006 (by omega) (by omega) (by decide) (fun _ => ?_) (fun c0 => absurd rfl c0)
      refine lv_goto (tgt := 1392) hx hb d_L_1011 (by decide) ?_
      exact kk _ _ _ _ _ _ hI hw (lv_sub hl [2, 3, 4, 5, 6] rfl)
    · have e1 : r = 1 := by rcases hr with h | h <;> omega
      subst e1
      refine z_lc1 hx hb d_L_1000 ?_
      refine lv_goto (tgt := 1005) hx hb d_L_1001 (by decide) ?_
      refine z_lcmp_eq hx hb 1011 d_L_1005 d_L_1006 (by omega) (by omega) (by decide) (fun _ => ?_) (fun c0 => absurd rfl c0)
      refine lv_goto (tgt := 1392) hx hb d_L_1011 (by decide) ?_
      exact kk _ _ _ _ _ _ hI hw (lv_sub hl [2, 3, 4, 5, 6] rfl)
theorem lc_suspects (hc : LX p s m args c meth D cm ca co A b L xs) (hw : LW D A s.heap am cm ad ca ao co μ σ ω H locs) (hl : lv_has ls 8 (Lv b ad am ao i)) (hi : 0 ≤ i ∧ i + 8 ≤ (L : Int)) (hf : cells + 1 ≤ 601024 ∧ slots + 6 ≤ 7293034) (hs : SAI Inv l D am cm ad ca y_X_suspects c_X_suspects 1 (some .int) y_M_suspects c_M_suspects 1 (some .int) [] σ μ)
    (kk : ∀ (μ' σ' ω' : St) (H1 : Heap) (locs1 : List Loc) (ls' : Array Slot), Inv σ' μ' → LW D A s.heap am cm ad ca ao co μ' σ' ω' H1 locs1 → lv_has ls' 8 (Lv b ad am ao i) → W p l e room_1 s m args below meth c H1 locs1 (cells + 1) (slots + 6) Q (F0 m 1392 ls' [])) : W p l e room_1 s m args below meth c H locs cells slots Q (F0 m 1014 ls []) := by
  have hx := hc.1.1
  have hb := hc.1.2.1
  have hL := hc.2.2.2.2.2
  refine lv_aload_n hx hb d_L_1014 rfl (lv_at hl 1 rfl) ?_
  obtain ⟨r, σ', μ', h1, h2, hh, hr, hX, hM, hI⟩ := hs
  refine l_cx hc hw hX yw_X_suspects yi_X_suspects lk_L_115 d_L_1015 rfl rfl hl.1 (Nat.le_of_ble_eq_true rfl) ⟨by show _ ≤ 2048; omega, by show _ ≤ 84000; omega⟩ ⟨by show _ ≤ 601024; omega, by show _ ≤ 7293034; omega⟩ (fun H locs hw => ?_)
  refine lv_aload_n hx hb d_L_1018 rfl (lv_at hl 2 rfl) ?_
  refine l_cm hc hw hM yw_M_suspects yi_M_suspects lk_L_118 d_L_1019 rfl rfl hl.1 (Nat.le_of_ble_eq_true rfl) ⟨by show _ ≤ 2048; omega, by show _ ≤ 84000; omega⟩ ⟨by show _ ≤ 601024; omega, by show _ ≤ 7293034; omega⟩ (fun H locs hw => ?_)
  refine z_icmp_eq hx hb 1392 d_L_1022 hr hr (by decide) (fun _ => ?_) (fun c0 => absurd rfl c0)
  exact W.widen (k := cells + 1) (n := slots + 6) (by omega) (by omega) (kk _ _ _ _ _ _ hI hw hl)
theorem lc_suspect (hc : LX p s m args c meth D cm ca co A b L xs) (hw : LW D A s.heap am cm ad ca ao co μ σ ω H locs) (hl : lv_has ls 8 (Lv b ad am ao i)) (hi : 0 ≤ i ∧ i + 8 ≤ (L : Int)) (hf : cells + 1 ≤ 601024 ∧ slots + 6 ≤ 7293034) (hs : SHI Inv l D am cm ad ca ao co y_L_suspect c_L_suspect 5 [(0, 10, 13, 13)] y_M_suspect c_M_suspect 6 (some .int) [.int (zI (xs (i + 1).toNat).toInt), .int (zI (xs (i + 2).toNat).toInt)] r32 σ ω μ)
    (kk : ∀ (μ' σ' ω' : St) (H1 : Heap) (locs1 : List Loc) (ls' : Array Slot), Inv σ' μ' → LW D A s.heap am cm ad ca ao co μ' σ' ω' H1 locs1 → lv_has ls' 8 (Lv b ad am ao i) → W p l e room_1 s m args below meth c H1 locs1 (cells + 1) (slots + 6) Q (F0 m 1392 ls' [])) : W p l e room_1 s m args below meth c H locs cells slots Q (F0 m 1027 ls []) := by
  have hx := hc.1.1
  have hb := hc.1.2.1
  have hL := hc.2.2.2.2.2
  refine lv_aload_n hx hb d_L_1027 rfl (lv_at hl 1 rfl) ?_
  refine lv_aload_n hx hb d_L_1028 rfl (lv_at hl 0 rfl) ?_
  refine lv_iload hx hb d_L_1029 (lv_at hl 4 rfl) ?_
  refine z_ic hx hb d_L_1031 ?_
  refine z_iadd hx hb d_L_1032 ?_
  refine l_ld hc hw (by omega) d_L_1033 ?_
  refine lv_aload_n hx hb d_L_1034 rfl (lv_at hl 0 rfl) ?_
  refine lv_iload hx hb d_L_1035 (lv_at hl 4 rfl) ?_
  refine z_ic hx hb d_L_1037 ?_
  refine z_iadd hx hb d_L_1038 ?_
  refine l_ld hc hw (by omega) d_L_1039 ?_
  refine lv_aload_n hx hb d_L_1040 rfl (lv_at hl 3 rfl) ?_
  obtain ⟨k, r, σ', ω', μ', h2, hh, hk02, hr, hC, hM, hk, hk0, hI⟩ := hs
  refine l_ch (n := 4) hc hw hC yh_L_suspect rfl (by decide +kernel) lk_L_119 d_L_1041 rfl rfl hl.1 (Nat.le_of_ble_eq_true rfl) ⟨by show _ ≤ 2048; omega, by show _ ≤ 84000; omega⟩ ⟨by show _ ≤ 601024; omega, by show _ ≤ 7293034; omega⟩ (fun H locs hw => ?_)
  refine z_ist hx hb d_L_1044 hl (by decide) (fun x5 e5 ls (hl : lv_has ls 8 ((5, .int (zI x5)) :: Lv b ad am ao i)) => ?_)
  rw [e5] at hl
  refine lv_aload_n hx hb d_L_1046 rfl (lv_at hl 3 rfl) ?_
  refine lv_aload_n hx hb d_L_1047 rfl (lv_at hl 1 rfl) ?_
  refine lv_iload hx hb d_L_1048 (lv_at hl 5 rfl) ?_
  refine z_ic hx hb d_L_1050 ?_
  refine z_iadd hx hb d_L_1051 ?_
  refine l_ld hc hw (by omega) d_L_1052 ?_
  refine lv_aload_n hx hb d_L_1053 rfl (lv_at hl 1 rfl) ?_
  refine lv_iload hx hb d_L_1054 (lv_at hl 5 rfl) ?_
  refine z_ic hx hb d_L_1056 ?_
  refine z_iadd hx hb d_L_1057 ?_
  refine l_ld hc hw (by omega) d_L_1058 ?_
  refine l_cm hc hw hM yw_M_suspect yi_M_suspect lk_L_122 d_L_1059 rfl rfl hl.1 (Nat.le_of_ble_eq_true rfl) ⟨by show _ ≤ 2048; omega, by show _ ≤ 84000; omega⟩ ⟨by show _ ≤ 601024; omega, by show _ ≤ 7293034; omega⟩ (fun H locs hw => ?_)
  refine z_ist hx hb d_L_1062 hl (by decide) (fun x6 e6 ls (hl : lv_has ls 8 ((6, .int (zI x6)) :: (5, .int (zI k)) :: Lv b ad am ao i)) => ?_)
  rw [e6] at hl
  refine lv_aload_n hx hb d_L_1064 rfl (lv_at hl 4 rfl) ?_
  refine l_cm hc hw (k_M_thrown μ') yw_M_thrown yi_M_thrown lk_L_75 d_L_1065 rfl rfl hl.1 (Nat.le_of_ble_eq_true rfl) ⟨by show _ ≤ 2048; omega, by show _ ≤ 84000; omega⟩ ⟨by show _ ≤ 601024; omega, by show _ ≤ 7293034; omega⟩ (fun H locs hw => ?_)
  rw [hk]
  refine lv_iload hx hb d_L_1068 (lv_at hl 1 rfl) ?_
  refine z_icmp_eq hx hb 1075 d_L_1070 (by omega) (by omega) (by decide) (fun _ => ?_) (fun c0 => absurd rfl c0)
  refine lv_iload hx hb d_L_1075 (lv_at hl 1 rfl) ?_
  refine z_if_ne hx hb 1092 d_L_1077 (by omega) (by decide) (fun _ => ?_) (fun e0 => ?_)
  · refine lv_goto (tgt := 1392) hx hb d_L_1092 (by decide) ?_
    exact kk _ _ _ _ _ _ hI hw (lv_sub hl [2, 3, 4, 5, 6] rfl)
  · refine lv_aload_n hx hb d_L_1080 rfl (lv_at hl 5 rfl) ?_
    refine z_ic hx hb d_L_1081 ?_
    refine l_out hc hw d_L_1082 ?_
    rw [hk0 e0]
    refine lv_iload hx hb d_L_1083 (lv_at hl 0 rfl) ?_
    refine z_i2l hx hb d_L_1085 hr ?_
    refine z_lcmp_eq hx hb 1092 d_L_1086 d_L_1087 (by omega) (by omega) (by decide) (fun _ => ?_) (fun c0 => absurd rfl c0)
    refine lv_goto (tgt := 1392) hx hb d_L_1092 (by decide) ?_
    exact kk _ _ _ _ _ _ hI hw (lv_sub hl [2, 3, 4, 5, 6] rfl)
theorem lc_faults (hc : LX p s m args c meth D cm ca co A b L xs) (hw : LW D A s.heap am cm ad ca ao co μ σ ω H locs) (hl : lv_has ls 8 (Lv b ad am ao i)) (hi : 0 ≤ i ∧ i + 8 ≤ (L : Int)) (hf : cells + 1 ≤ 601024 ∧ slots + 6 ≤ 7293034) (hs : SHI Inv l D am cm ad ca ao co y_L_faults c_L_faults 4 [(0, 9, 12, 13)] y_M_faults c_M_faults 2 (some .int) [.int (zI (xs (i + 1).toNat).toInt)] r32 σ ω μ)
    (kk : ∀ (μ' σ' ω' : St) (H1 : Heap) (locs1 : List Loc) (ls' : Array Slot), Inv σ' μ' → LW D A s.heap am cm ad ca ao co μ' σ' ω' H1 locs1 → lv_has ls' 8 (Lv b ad am ao i) → W p l e room_1 s m args below meth c H1 locs1 (cells + 1) (slots + 6) Q (F0 m 1392 ls' [])) : W p l e room_1 s m args below meth c H locs cells slots Q (F0 m 1095 ls []) := by
  have hx := hc.1.1
  have hb := hc.1.2.1
  have hL := hc.2.2.2.2.2
  refine lv_aload_n hx hb d_L_1095 rfl (lv_at hl 1 rfl) ?_
  refine lv_aload_n hx hb d_L_1096 rfl (lv_at hl 0 rfl) ?_
  refine lv_iload hx hb d_L_1097 (lv_at hl 4 rfl) ?_
  refine z_ic hx hb d_L_1099 ?_
  refine z_iadd hx hb d_L_1100 ?_
  refine l_ld hc hw (by omega) d_L_1101 ?_
  refine lv_aload_n hx hb d_L_1102 rfl (lv_at hl 3 rfl) ?_
  obtain ⟨k, r, σ', ω', μ', h2, hh, hk02, hr, hC, hM, hk, hk0, hI⟩ := hs
  refine l_ch (n := 3) hc hw hC yh_L_faults rfl (by decide +kernel) lk_L_123 d_L_1103 rfl rfl hl.1 (Nat.le_of_ble_eq_true rfl) ⟨by show _ ≤ 2048; omega, by show _ ≤ 84000; omega⟩ ⟨by show _ ≤ 601024; omega, by show _ ≤ 7293034; omega⟩ (fun H locs hw => ?_)
  refine z_ist hx hb d_L_1106 hl (by decide) (fun x5 e5 ls (hl : lv_has ls 8 ((5, .int (zI x5)) :: Lv b ad am ao i)) => ?_)
  rw [e5] at hl
  refine lv_aload_n hx hb d_L_1108 rfl (lv_at hl 3 rfl) ?_
  refine lv_aload_n hx hb d_L_1109 rfl (lv_at hl 1 rfl) ?_
  refine lv_iload hx hb d_L_1110 (lv_at hl 5 rfl) ?_
  refine z_ic hx hb d_L_1112 ?_
  refine z_iadd hx hb d_L_1113 ?_
  refine l_ld hc hw (by omega) d_L_1114 ?_
  refine l_cm hc hw hM yw_M_faults yi_M_faults lk_L_125 d_L_1115 rfl rfl hl.1 (Nat.le_of_ble_eq_true rfl) ⟨by show _ ≤ 2048; omega, by show _ ≤ 84000; omega⟩ ⟨by show _ ≤ 601024; omega, by show _ ≤ 7293034; omega⟩ (fun H locs hw => ?_)
  refine z_ist hx hb d_L_1118 hl (by decide) (fun x6 e6 ls (hl : lv_has ls 8 ((6, .int (zI x6)) :: (5, .int (zI k)) :: Lv b ad am ao i)) => ?_)
  rw [e6] at hl
  refine lv_aload_n hx hb d_L_1120 rfl (lv_at hl 4 rfl) ?_
  refine l_cm hc hw (k_M_thrown μ') yw_M_thrown yi_M_thrown lk_L_75 d_L_1121 rfl rfl hl.1 (Nat.le_of_ble_eq_true rfl) ⟨by show _ ≤ 2048; omega, by show _ ≤ 84000; omega⟩ ⟨by show _ ≤ 601024; omega, by show _ ≤ 7293034; omega⟩ (fun H locs hw => ?_)
  rw [hk]
  refine lv_iload hx hb d_L_1124 (lv_at hl 1 rfl) ?_
  refine z_icmp_eq hx hb 1131 d_L_1126 (by omega) (by omega) (by decide) (fun _ => ?_) (fun c0 => absurd rfl c0)
  refine lv_iload hx hb d_L_1131 (lv_at hl 1 rfl) ?_
  refine z_if_ne hx hb 1148 d_L_1133 (by omega) (by decide) (fun _ => ?_) (fun e0 => ?_)
  · refine lv_goto (tgt := 1392) hx hb d_L_1148 (by decide) ?_
    exact kk _ _ _ _ _ _ hI hw (lv_sub hl [2, 3, 4, 5, 6] rfl)
  · refine lv_aload_n hx hb d_L_1136 rfl (lv_at hl 5 rfl) ?_
    refine z_ic hx hb d_L_1137 ?_
    refine l_out hc hw d_L_1138 ?_
    rw [hk0 e0]
    refine lv_iload hx hb d_L_1139 (lv_at hl 0 rfl) ?_
    refine z_i2l hx hb d_L_1141 hr ?_
    refine z_lcmp_eq hx hb 1148 d_L_1142 d_L_1143 (by omega) (by omega) (by decide) (fun _ => ?_) (fun c0 => absurd rfl c0)
    refine lv_goto (tgt := 1392) hx hb d_L_1148 (by decide) ?_
    exact kk _ _ _ _ _ _ hI hw (lv_sub hl [2, 3, 4, 5, 6] rfl)
theorem lc_fly (hc : LX p s m args c meth D cm ca co A b L xs) (hw : LW D A s.heap am cm ad ca ao co μ σ ω H locs) (hl : lv_has ls 8 (Lv b ad am ao i)) (hi : 0 ≤ i ∧ i + 8 ≤ (L : Int)) (hf : cells + 1 ≤ 601024 ∧ slots + 6 ≤ 7293034) (hs : SAI Inv l D am cm ad ca y_X_fly c_X_fly 2 (some .int) y_M_fly c_M_fly 2 (some .int) [.int (zI (xs (i + 1).toNat).toInt)] σ μ)
    (kk : ∀ (μ' σ' ω' : St) (H1 : Heap) (locs1 : List Loc) (ls' : Array Slot), Inv σ' μ' → LW D A s.heap am cm ad ca ao co μ' σ' ω' H1 locs1 → lv_has ls' 8 (Lv b ad am ao i) → W p l e room_1 s m args below meth c H1 locs1 (cells + 1) (slots + 6) Q (F0 m 1392 ls' [])) : W p l e room_1 s m args below meth c H locs cells slots Q (F0 m 1151 ls []) := by
  have hx := hc.1.1
  have hb := hc.1.2.1
  have hL := hc.2.2.2.2.2
  refine lv_aload_n hx hb d_L_1151 rfl (lv_at hl 1 rfl) ?_
  refine lv_aload_n hx hb d_L_1152 rfl (lv_at hl 0 rfl) ?_
  refine lv_iload hx hb d_L_1153 (lv_at hl 4 rfl) ?_
  refine z_ic hx hb d_L_1155 ?_
  refine z_iadd hx hb d_L_1156 ?_
  refine l_ld hc hw (by omega) d_L_1157 ?_
  obtain ⟨r, σ', μ', h1, h2, hh, hr, hX, hM, hI⟩ := hs
  refine l_cx hc hw hX yw_X_fly yi_X_fly lk_L_126 d_L_1158 rfl rfl hl.1 (Nat.le_of_ble_eq_true rfl) ⟨by show _ ≤ 2048; omega, by show _ ≤ 84000; omega⟩ ⟨by show _ ≤ 601024; omega, by show _ ≤ 7293034; omega⟩ (fun H locs hw => ?_)
  refine lv_aload_n hx hb d_L_1161 rfl (lv_at hl 2 rfl) ?_
  refine lv_aload_n hx hb d_L_1162 rfl (lv_at hl 0 rfl) ?_
  refine lv_iload hx hb d_L_1163 (lv_at hl 4 rfl) ?_
  refine z_ic hx hb d_L_1165 ?_
  refine z_iadd hx hb d_L_1166 ?_
  refine l_ld hc hw (by omega) d_L_1167 ?_
  refine l_cm hc hw hM yw_M_fly yi_M_fly lk_L_129 d_L_1168 rfl rfl hl.1 (Nat.le_of_ble_eq_true rfl) ⟨by show _ ≤ 2048; omega, by show _ ≤ 84000; omega⟩ ⟨by show _ ≤ 601024; omega, by show _ ≤ 7293034; omega⟩ (fun H locs hw => ?_)
  refine z_icmp_eq hx hb 1392 d_L_1171 hr hr (by decide) (fun _ => ?_) (fun c0 => absurd rfl c0)
  exact W.widen (k := cells + 1) (n := slots + 6) (by omega) (by omega) (kk _ _ _ _ _ _ hI hw hl)
theorem lc_seconds (hc : LX p s m args c meth D cm ca co A b L xs) (hw : LW D A s.heap am cm ad ca ao co μ σ ω H locs) (hl : lv_has ls 8 (Lv b ad am ao i)) (hi : 0 ≤ i ∧ i + 8 ≤ (L : Int)) (hf : cells + 1 ≤ 601024 ∧ slots + 6 ≤ 7293034) (hs : SAL Inv l D am cm ad ca y_X_seconds c_X_seconds 1 (some .long) y_M_seconds c_M_seconds 1 (some .long) [] σ μ)
    (kk : ∀ (μ' σ' ω' : St) (H1 : Heap) (locs1 : List Loc) (ls' : Array Slot), Inv σ' μ' → LW D A s.heap am cm ad ca ao co μ' σ' ω' H1 locs1 → lv_has ls' 8 (Lv b ad am ao i) → W p l e room_1 s m args below meth c H1 locs1 (cells + 1) (slots + 6) Q (F0 m 1392 ls' [])) : W p l e room_1 s m args below meth c H locs cells slots Q (F0 m 1176 ls []) := by
  have hx := hc.1.1
  have hb := hc.1.2.1
  have hL := hc.2.2.2.2.2
  refine lv_aload_n hx hb d_L_1176 rfl (lv_at hl 1 rfl) ?_
  obtain ⟨r, σ', μ', h1, h2, hh, hr, hX, hM, hI⟩ := hs
  refine l_cx hc hw hX yw_X_seconds yi_X_seconds lk_L_130 d_L_1177 rfl rfl hl.1 (Nat.le_of_ble_eq_true rfl) ⟨by show _ ≤ 2048; omega, by show _ ≤ 84000; omega⟩ ⟨by show _ ≤ 601024; omega, by show _ ≤ 7293034; omega⟩ (fun H locs hw => ?_)
  refine lv_aload_n hx hb d_L_1180 rfl (lv_at hl 2 rfl) ?_
  refine l_cm hc hw hM yw_M_seconds yi_M_seconds lk_L_134 d_L_1181 rfl rfl hl.1 (Nat.le_of_ble_eq_true rfl) ⟨by show _ ≤ 2048; omega, by show _ ≤ 84000; omega⟩ ⟨by show _ ≤ 601024; omega, by show _ ≤ 7293034; omega⟩ (fun H locs hw => ?_)
  refine z_lcmp_eq hx hb 1392 d_L_1184 d_L_1185 hr hr (by decide) (fun _ => ?_) (fun c0 => absurd rfl c0)
  exact W.widen (k := cells + 1) (n := slots + 6) (by omega) (by omega) (kk _ _ _ _ _ _ hI hw hl)
theorem lc_force (hc : LX p s m args c meth D cm ca co A b L xs) (hw : LW D A s.heap am cm ad ca ao co μ σ ω H locs) (hl : lv_has ls 8 (Lv b ad am ao i)) (hi : 0 ≤ i ∧ i + 8 ≤ (L : Int)) (hf : cells + 1 ≤ 601024 ∧ slots + 6 ≤ 7293034) (hs : SHI Inv l D am cm ad ca ao co y_L_force c_L_force 6 [(0, 18, 21, 13), (0, 18, 25, 15)] y_M_force c_M_force 4 (some .boolean) [.int (zI (xs (i + 1).toNat).toInt), .long (zL (lg2 (xs (i + 2).toNat).toInt (xs (i + 3).toNat).toInt))] b01 σ ω μ)
    (kk : ∀ (μ' σ' ω' : St) (H1 : Heap) (locs1 : List Loc) (ls' : Array Slot), Inv σ' μ' → LW D A s.heap am cm ad ca ao co μ' σ' ω' H1 locs1 → lv_has ls' 8 (Lv b ad am ao i) → W p l e room_1 s m args below meth c H1 locs1 (cells + 1) (slots + 6) Q (F0 m 1392 ls' [])) : W p l e room_1 s m args below meth c H locs cells slots Q (F0 m 1190 ls []) := by
  have hx := hc.1.1
  have hb := hc.1.2.1
  have hL := hc.2.2.2.2.2
  refine lv_aload_n hx hb d_L_1190 rfl (lv_at hl 1 rfl) ?_
  refine lv_aload_n hx hb d_L_1191 rfl (lv_at hl 0 rfl) ?_
  refine lv_iload hx hb d_L_1192 (lv_at hl 4 rfl) ?_
  refine z_ic hx hb d_L_1194 ?_
  refine z_iadd hx hb d_L_1195 ?_
  refine l_ld hc hw (by omega) d_L_1196 ?_
  refine lv_aload_n hx hb d_L_1197 rfl (lv_at hl 0 rfl) ?_
  refine lv_iload hx hb d_L_1198 (lv_at hl 4 rfl) ?_
  refine z_ic hx hb d_L_1200 ?_
  refine z_iadd hx hb d_L_1201 ?_
  refine l_ld hc hw (by omega) d_L_1202 ?_
  refine l_i2l hx hb d_L_1203 ?_
  refine z_bi hx hb d_L_1204 (by decide) ?_
  refine lv_lshl hx hb d_L_1206 rfl ?_
  refine lv_aload_n hx hb d_L_1207 rfl (lv_at hl 0 rfl) ?_
  refine lv_iload hx hb d_L_1208 (lv_at hl 4 rfl) ?_
  refine z_ic hx hb d_L_1210 ?_
  refine z_iadd hx hb d_L_1211 ?_
  refine l_ld hc hw (by omega) d_L_1212 ?_
  refine l_i2l hx hb d_L_1213 ?_
  refine z_ldc2 (n := 4294967295) hc.1 lk_L_67 d_L_1214 (by decide) ?_
  refine lv_land hx hb d_L_1217 ?_
  refine l_lor hx hb d_L_1218 ?_
  refine lv_aload_n hx hb d_L_1219 rfl (lv_at hl 3 rfl) ?_
  obtain ⟨k, r, σ', ω', μ', h2, hh, hk02, hr, hC, hM, hk, hk0, hI⟩ := hs
  refine l_ch (n := 4) hc hw hC yh_L_force rfl (by decide +kernel) lk_L_135 d_L_1220 rfl rfl hl.1 (Nat.le_of_ble_eq_true rfl) ⟨by show _ ≤ 2048; omega, by show _ ≤ 84000; omega⟩ ⟨by show _ ≤ 601024; omega, by show _ ≤ 7293034; omega⟩ (fun H locs hw => ?_)
  refine z_ist hx hb d_L_1223 hl (by decide) (fun x5 e5 ls (hl : lv_has ls 8 ((5, .int (zI x5)) :: Lv b ad am ao i)) => ?_)
  rw [e5] at hl
  refine lv_aload_n hx hb d_L_1225 rfl (lv_at hl 3 rfl) ?_
  refine lv_aload_n hx hb d_L_1226 rfl (lv_at hl 1 rfl) ?_
  refine lv_iload hx hb d_L_1227 (lv_at hl 5 rfl) ?_
  refine z_ic hx hb d_L_1229 ?_
  refine z_iadd hx hb d_L_1230 ?_
  refine l_ld hc hw (by omega) d_L_1231 ?_
  refine lv_aload_n hx hb d_L_1232 rfl (lv_at hl 1 rfl) ?_
  refine lv_iload hx hb d_L_1233 (lv_at hl 5 rfl) ?_
  refine z_ic hx hb d_L_1235 ?_
  refine z_iadd hx hb d_L_1236 ?_
  refine l_ld hc hw (by omega) d_L_1237 ?_
  refine l_i2l hx hb d_L_1238 ?_
  refine z_bi hx hb d_L_1239 (by decide) ?_
  refine lv_lshl hx hb d_L_1241 rfl ?_
  refine lv_aload_n hx hb d_L_1242 rfl (lv_at hl 1 rfl) ?_
  refine lv_iload hx hb d_L_1243 (lv_at hl 5 rfl) ?_
  refine z_ic hx hb d_L_1245 ?_
  refine z_iadd hx hb d_L_1246 ?_
  refine l_ld hc hw (by omega) d_L_1247 ?_
  refine l_i2l hx hb d_L_1248 ?_
  refine z_ldc2 (n := 4294967295) hc.1 lk_L_67 d_L_1249 (by decide) ?_
  refine lv_land hx hb d_L_1252 ?_
  refine l_lor hx hb d_L_1253 ?_
  refine l_cm hc hw hM yw_M_force yi_M_force lk_L_138 d_L_1254 rfl rfl hl.1 (Nat.le_of_ble_eq_true rfl) ⟨by show _ ≤ 2048; omega, by show _ ≤ 84000; omega⟩ ⟨by show _ ≤ 601024; omega, by show _ ≤ 7293034; omega⟩ (fun H locs hw => ?_)
  refine z_ist hx hb d_L_1257 hl (by decide) (fun x6 e6 ls (hl : lv_has ls 8 ((6, .int (zI x6)) :: (5, .int (zI k)) :: Lv b ad am ao i)) => ?_)
  rw [e6] at hl
  refine lv_aload_n hx hb d_L_1259 rfl (lv_at hl 4 rfl) ?_
  refine l_cm hc hw (k_M_thrown μ') yw_M_thrown yi_M_thrown lk_L_75 d_L_1260 rfl rfl hl.1 (Nat.le_of_ble_eq_true rfl) ⟨by show _ ≤ 2048; omega, by show _ ≤ 84000; omega⟩ ⟨by show _ ≤ 601024; omega, by show _ ≤ 7293034; omega⟩ (fun H locs hw => ?_)
  rw [hk]
  refine lv_iload hx hb d_L_1263 (lv_at hl 1 rfl) ?_
  refine z_icmp_eq hx hb 1270 d_L_1265 (by omega) (by omega) (by decide) (fun _ => ?_) (fun c0 => absurd rfl c0)
  refine lv_iload hx hb d_L_1270 (lv_at hl 1 rfl) ?_
  refine z_if_ne hx hb 1294 d_L_1272 (by omega) (by decide) (fun _ => ?_) (fun e0 => ?_)
  · refine lv_goto (tgt := 1392) hx hb d_L_1294 (by decide) ?_
    exact kk _ _ _ _ _ _ hI hw (lv_sub hl [2, 3, 4, 5, 6] rfl)
  · refine lv_aload_n hx hb d_L_1275 rfl (lv_at hl 5 rfl) ?_
    refine z_ic hx hb d_L_1276 ?_
    refine l_out hc hw d_L_1277 ?_
    rw [hk0 e0]
    refine lv_iload hx hb d_L_1278 (lv_at hl 0 rfl) ?_
    refine z_if_eq hx hb 1287 d_L_1280 (by rcases hr with rfl | rfl <;> decide) (by decide) (fun c0 => ?_) (fun c0 => ?_)
    · subst c0
      refine z_lc0 hx hb d_L_1287 ?_
      refine z_lcmp_eq hx hb 1294 d_L_1288 d_L_1289 (by omega) (by omega) (by decide) (fun _ => ?_) (fun c0 => absurd rfl c0)
      refine lv_goto (tgt := 1392) hx hb d_L_1294 (by decide) ?_
      exact kk _ _ _ _ _ _ hI hw (lv_sub hl [2, 3, 4, 5, 6] rfl)
    · have e1 : r = 1 := by rcases hr with h | h <;> omega
      subst e1
      refine z_lc1 hx hb d_L_1283 ?_
      refine lv_goto (tgt := 1288) hx hb d_L_1284 (by decide) ?_
      refine z_lcmp_eq hx hb 1294 d_L_1288 d_L_1289 (by omega) (by omega) (by decide) (fun _ => ?_) (fun c0 => absurd rfl c0)
      refine lv_goto (tgt := 1392) hx hb d_L_1294 (by decide) ?_
      exact kk _ _ _ _ _ _ hI hw (lv_sub hl [2, 3, 4, 5, 6] rfl)
theorem lc_forces (hc : LX p s m args c meth D cm ca co A b L xs) (hw : LW D A s.heap am cm ad ca ao co μ σ ω H locs) (hl : lv_has ls 8 (Lv b ad am ao i)) (hi : 0 ≤ i ∧ i + 8 ≤ (L : Int)) (hf : cells + 1 ≤ 601024 ∧ slots + 6 ≤ 7293034) (hs : SAL Inv l D am cm ad ca y_X_forces c_X_forces 1 (some .long) y_M_forces c_M_forces 4 (some .long) [] σ μ)
    (kk : ∀ (μ' σ' ω' : St) (H1 : Heap) (locs1 : List Loc) (ls' : Array Slot), Inv σ' μ' → LW D A s.heap am cm ad ca ao co μ' σ' ω' H1 locs1 → lv_has ls' 8 (Lv b ad am ao i) → W p l e room_1 s m args below meth c H1 locs1 (cells + 1) (slots + 6) Q (F0 m 1392 ls' [])) : W p l e room_1 s m args below meth c H locs cells slots Q (F0 m 1297 ls []) := by
  have hx := hc.1.1
  have hb := hc.1.2.1
  have hL := hc.2.2.2.2.2
  refine lv_aload_n hx hb d_L_1297 rfl (lv_at hl 1 rfl) ?_
  obtain ⟨r, σ', μ', h1, h2, hh, hr, hX, hM, hI⟩ := hs
  refine l_cx hc hw hX yw_X_forces yi_X_forces lk_L_139 d_L_1298 rfl rfl hl.1 (Nat.le_of_ble_eq_true rfl) ⟨by show _ ≤ 2048; omega, by show _ ≤ 84000; omega⟩ ⟨by show _ ≤ 601024; omega, by show _ ≤ 7293034; omega⟩ (fun H locs hw => ?_)
  refine lv_aload_n hx hb d_L_1301 rfl (lv_at hl 2 rfl) ?_
  refine l_cm hc hw hM yw_M_forces yi_M_forces lk_L_142 d_L_1302 rfl rfl hl.1 (Nat.le_of_ble_eq_true rfl) ⟨by show _ ≤ 2048; omega, by show _ ≤ 84000; omega⟩ ⟨by show _ ≤ 601024; omega, by show _ ≤ 7293034; omega⟩ (fun H locs hw => ?_)
  refine z_lcmp_eq hx hb 1392 d_L_1305 d_L_1306 hr hr (by decide) (fun _ => ?_) (fun c0 => absurd rfl c0)
  exact W.widen (k := cells + 1) (n := slots + 6) (by omega) (by omega) (kk _ _ _ _ _ _ hI hw hl)
theorem lc_text (hc : LX p s m args c meth D cm ca co A b L xs) (hw : LW D A s.heap am cm ad ca ao co μ σ ω H locs) (hl : lv_has ls 8 (Lv b ad am ao i)) (hi : 0 ≤ i ∧ i + 8 ≤ (L : Int)) (hf : cells + 1 ≤ 601024 ∧ slots + 6 ≤ 7293034) (hs : SHI Inv l D am cm ad ca ao co y_L_text c_L_text 4 [(0, 9, 12, 13)] y_M_text c_M_text 4 (some .int) [.int (zI (xs (i + 1).toNat).toInt)] r32 σ ω μ)
    (kk : ∀ (μ' σ' ω' : St) (H1 : Heap) (locs1 : List Loc) (ls' : Array Slot), Inv σ' μ' → LW D A s.heap am cm ad ca ao co μ' σ' ω' H1 locs1 → lv_has ls' 8 (Lv b ad am ao i) → W p l e room_1 s m args below meth c H1 locs1 (cells + 1) (slots + 6) Q (F0 m 1392 ls' [])) : W p l e room_1 s m args below meth c H locs cells slots Q (F0 m 1311 ls []) := by
  have hx := hc.1.1
  have hb := hc.1.2.1
  have hL := hc.2.2.2.2.2
  refine lv_aload_n hx hb d_L_1311 rfl (lv_at hl 1 rfl) ?_
  refine lv_aload_n hx hb d_L_1312 rfl (lv_at hl 0 rfl) ?_
  refine lv_iload hx hb d_L_1313 (lv_at hl 4 rfl) ?_
  refine z_ic hx hb d_L_1315 ?_
  refine z_iadd hx hb d_L_1316 ?_
  refine l_ld hc hw (by omega) d_L_1317 ?_
  refine lv_aload_n hx hb d_L_1318 rfl (lv_at hl 3 rfl) ?_
  obtain ⟨k, r, σ', ω', μ', h2, hh, hk02, hr, hC, hM, hk, hk0, hI⟩ := hs
  refine l_ch (n := 3) hc hw hC yh_L_text rfl (by decide +kernel) lk_L_143 d_L_1319 rfl rfl hl.1 (Nat.le_of_ble_eq_true rfl) ⟨by show _ ≤ 2048; omega, by show _ ≤ 84000; omega⟩ ⟨by show _ ≤ 601024; omega, by show _ ≤ 7293034; omega⟩ (fun H locs hw => ?_)
  refine z_ist hx hb d_L_1322 hl (by decide) (fun x5 e5 ls (hl : lv_has ls 8 ((5, .int (zI x5)) :: Lv b ad am ao i)) => ?_)
  rw [e5] at hl
  refine lv_aload_n hx hb d_L_1324 rfl (lv_at hl 3 rfl) ?_
  refine lv_aload_n hx hb d_L_1325 rfl (lv_at hl 1 rfl) ?_
  refine lv_iload hx hb d_L_1326 (lv_at hl 5 rfl) ?_
  refine z_ic hx hb d_L_1328 ?_
  refine z_iadd hx hb d_L_1329 ?_
  refine l_ld hc hw (by omega) d_L_1330 ?_
  refine l_cm hc hw hM yw_M_text yi_M_text lk_L_145 d_L_1331 rfl rfl hl.1 (Nat.le_of_ble_eq_true rfl) ⟨by show _ ≤ 2048; omega, by show _ ≤ 84000; omega⟩ ⟨by show _ ≤ 601024; omega, by show _ ≤ 7293034; omega⟩ (fun H locs hw => ?_)
  refine z_ist hx hb d_L_1334 hl (by decide) (fun x6 e6 ls (hl : lv_has ls 8 ((6, .int (zI x6)) :: (5, .int (zI k)) :: Lv b ad am ao i)) => ?_)
  rw [e6] at hl
  refine lv_aload_n hx hb d_L_1336 rfl (lv_at hl 4 rfl) ?_
  refine l_cm hc hw (k_M_thrown μ') yw_M_thrown yi_M_thrown lk_L_75 d_L_1337 rfl rfl hl.1 (Nat.le_of_ble_eq_true rfl) ⟨by show _ ≤ 2048; omega, by show _ ≤ 84000; omega⟩ ⟨by show _ ≤ 601024; omega, by show _ ≤ 7293034; omega⟩ (fun H locs hw => ?_)
  rw [hk]
  refine lv_iload hx hb d_L_1340 (lv_at hl 1 rfl) ?_
  refine z_icmp_eq hx hb 1347 d_L_1342 (by omega) (by omega) (by decide) (fun _ => ?_) (fun c0 => absurd rfl c0)
  refine lv_iload hx hb d_L_1347 (lv_at hl 1 rfl) ?_
  refine z_if_ne hx hb 1364 d_L_1349 (by omega) (by decide) (fun _ => ?_) (fun e0 => ?_)
  · refine lv_goto (tgt := 1392) hx hb d_L_1364 (by decide) ?_
    exact kk _ _ _ _ _ _ hI hw (lv_sub hl [2, 3, 4, 5, 6] rfl)
  · refine lv_aload_n hx hb d_L_1352 rfl (lv_at hl 5 rfl) ?_
    refine z_ic hx hb d_L_1353 ?_
    refine l_out hc hw d_L_1354 ?_
    rw [hk0 e0]
    refine lv_iload hx hb d_L_1355 (lv_at hl 0 rfl) ?_
    refine z_i2l hx hb d_L_1357 hr ?_
    refine z_lcmp_eq hx hb 1364 d_L_1358 d_L_1359 (by omega) (by omega) (by decide) (fun _ => ?_) (fun c0 => absurd rfl c0)
    refine lv_goto (tgt := 1392) hx hb d_L_1364 (by decide) ?_
    exact kk _ _ _ _ _ _ hI hw (lv_sub hl [2, 3, 4, 5, 6] rfl)
theorem lc_order (hc : LX p s m args c meth D cm ca co A b L xs) (hw : LW D A s.heap am cm ad ca ao co μ σ ω H locs) (hl : lv_has ls 8 (Lv b ad am ao i)) (hi : 0 ≤ i ∧ i + 8 ≤ (L : Int)) (hf : cells + 1 ≤ 601024 ∧ slots + 6 ≤ 7293034) (hs : SAI Inv l D am cm ad ca y_X_order c_X_order 2 (some .int) y_M_order c_M_order 2 (some .int) [.int (zI (xs (i + 1).toNat).toInt)] σ μ)
    (kk : ∀ (μ' σ' ω' : St) (H1 : Heap) (locs1 : List Loc) (ls' : Array Slot), Inv σ' μ' → LW D A s.heap am cm ad ca ao co μ' σ' ω' H1 locs1 → lv_has ls' 8 (Lv b ad am ao i) → W p l e room_1 s m args below meth c H1 locs1 (cells + 1) (slots + 6) Q (F0 m 1392 ls' [])) : W p l e room_1 s m args below meth c H locs cells slots Q (F0 m 1367 ls []) := by
  have hx := hc.1.1
  have hb := hc.1.2.1
  have hL := hc.2.2.2.2.2
  refine lv_aload_n hx hb d_L_1367 rfl (lv_at hl 1 rfl) ?_
  refine lv_aload_n hx hb d_L_1368 rfl (lv_at hl 0 rfl) ?_
  refine lv_iload hx hb d_L_1369 (lv_at hl 4 rfl) ?_
  refine z_ic hx hb d_L_1371 ?_
  refine z_iadd hx hb d_L_1372 ?_
  refine l_ld hc hw (by omega) d_L_1373 ?_
  obtain ⟨r, σ', μ', h1, h2, hh, hr, hX, hM, hI⟩ := hs
  refine l_cx hc hw hX yw_X_order yi_X_order lk_L_146 d_L_1374 rfl rfl hl.1 (Nat.le_of_ble_eq_true rfl) ⟨by show _ ≤ 2048; omega, by show _ ≤ 84000; omega⟩ ⟨by show _ ≤ 601024; omega, by show _ ≤ 7293034; omega⟩ (fun H locs hw => ?_)
  refine lv_aload_n hx hb d_L_1377 rfl (lv_at hl 2 rfl) ?_
  refine lv_aload_n hx hb d_L_1378 rfl (lv_at hl 0 rfl) ?_
  refine lv_iload hx hb d_L_1379 (lv_at hl 4 rfl) ?_
  refine z_ic hx hb d_L_1381 ?_
  refine z_iadd hx hb d_L_1382 ?_
  refine l_ld hc hw (by omega) d_L_1383 ?_
  refine l_cm hc hw hM yw_M_order yi_M_order lk_L_149 d_L_1384 rfl rfl hl.1 (Nat.le_of_ble_eq_true rfl) ⟨by show _ ≤ 2048; omega, by show _ ≤ 84000; omega⟩ ⟨by show _ ≤ 601024; omega, by show _ ≤ 7293034; omega⟩ (fun H locs hw => ?_)
  refine z_icmp_eq hx hb 1392 d_L_1387 hr hr (by decide) (fun _ => ?_) (fun c0 => absurd rfl c0)
  exact W.widen (k := cells + 1) (n := slots + 6) (by omega) (by omega) (kk _ _ _ _ _ _ hI hw hl)
end LC
