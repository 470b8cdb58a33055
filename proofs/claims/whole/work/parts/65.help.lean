/-! the law's helpers. Written by wip/whole/gen/m_help.py -/
theorem notc {a b : String} {s : State} {v w : Array Value} (h : (Cond.not (.castable a b)).before v s = true) : (Cond.not (.castable a b)).before w s = true := by
  have hv := Cond.holds_not_iff.mp h
  refine Cond.holds_not_iff.mpr ?_
  simp only [Cond.value] at hv ⊢
  exact hv
section HR
variable {p : Program} {l : Launch} {e : Env} {R : Room} {s : State} {m : MethodId} {args : Array Value} {below : List Frame} {meth : Method} {c : Code} {H : Heap} {locs : List Loc} {cells slots : Nat} {Q : State → Prop}
variable {cc : ByteArray} {pc nL : Nat} {own : String} {ret : Option FieldType} {ls : Array Slot} {rest : List Value} {D : va_G} {ad : Nat → Nat} {ca : Nat → ClassId} {ao : Nat} {co : ClassId} {A : Nat → Prop} {σ ω : St}
theorem stH (hc : Cx p s m args c cc nL own meth ret D cl7 (tyH ca co)) (hw : Wd D cl7 (wH ad ca ao co) A s.heap (σ, ω) H locs) {v : Int} (d : decode cc pc = .ok (.lastore, 1)) (k : ∀ (H1 : Heap) (locs1 : List Loc), Wd D cl7 (wH ad ca ao co) A s.heap (σ, up ω 0 0 v) H1 locs1 → W p l e R s m args below meth c H1 locs1 cells slots Q (F0 m (pc + 1) ls rest)) : W p l e R s m args below meth c H locs cells slots Q (F0 m pc ls (.long (zL v) :: .int (zI 0) :: .ref ao :: rest)) := by
  refine va_last (D := D) hc.1 hc.2.1 hc.2.2.2.2.2.1 hw.1 hw.2.1 hw.2.2 34 28 rfl rfl (zI_in (n := 1) (by decide) (by decide) (by decide)) d (fun H1 locs1 hP hD hS => ?_)
  rw [updL_z (n := 1) (by decide) (by decide) (by decide)] at hP hD
  exact k H1 locs1 ⟨hP, hD, hS⟩
theorem h_iret {S0 : Type} {wf : S0 → va_W} {tys : List (ClassId × FieldType)} {τ : S0} {Post : Option Value → S0 → Prop} (hc : Cx p s m args c cc nL own meth (some .int) D cl7 tys) (hw : Wd D cl7 wf A s.heap τ H locs) {v : Int32} (hp : Post (some (.int v)) τ) (d : decode cc pc = .ok (.ireturn, 1)) : W p l e R s m args below meth c H locs 1 6 (MQ below (Qw D cl7 wf A Post) args s 1 6 A) (F0 m pc ls [.int v]) := by
  obtain ⟨hx, hb, -, -, -, -, hr, hlk⟩ := hc
  exact W.iret hx hb hr (fun t ht hW => ⟨_, τ, rfl, hp, by rw [ht]; exact hw.1, hw.2.1, hw.2.2.F ht⟩) hw.2.2.2.2 d
end HR
theorem hk_13 : Cond.classLink "ProbeChoiceLaw" 13 xIOB ∈ lw_gd := gd_at 280 (by decide +kernel) (by decide +kernel)
theorem hk_15 : Cond.classLink "ProbeChoiceLaw" 15 xIAE ∈ lw_gd := gd_at 281 (by decide +kernel) (by decide +kernel)
theorem hk_33 : Cond.classLink "ProbeChoiceLaw" 33 xISE ∈ lw_gd := gd_at 544 (by decide +kernel) (by decide +kernel)
abbrev c_L_point : ByteArray := method_3_code
abbrev y_L_point : MethodName := ⟨"ProbeChoiceLaw", "point", "(LProbeChoice;IJJJ[J)I"⟩
theorem yh_L_point : Cond.codeWith y_L_point c_L_point 10 (some .int) [(0, 15, 18, 13), (0, 15, 22, 15)] ∈ lw_gd ∧ Cond.initialized "ProbeChoiceLaw" ∈ lw_gd ∧ Cond.static y_L_point ∈ lw_gd := ⟨gd_at 279 (by decide +kernel) (by decide +kernel), gd_at 0 (by decide +kernel) (by decide +kernel), gd_at 278 (by decide +kernel) (by decide +kernel)⟩
theorem d_L_point_0 : decode method_3_code 0 = .ok (.aload 8, 2) := by decide +kernel
theorem d_L_point_2 : decode method_3_code 2 = .ok (.iconst 0, 1) := by decide +kernel
theorem d_L_point_3 : decode method_3_code 3 = .ok (.aload_n 0, 1) := by decide +kernel
theorem d_L_point_4 : decode method_3_code 4 = .ok (.iload_n 1, 1) := by decide +kernel
theorem d_L_point_5 : decode method_3_code 5 = .ok (.lload_n 2, 1) := by decide +kernel
theorem d_L_point_6 : decode method_3_code 6 = .ok (.lload 4, 2) := by decide +kernel
theorem d_L_point_8 : decode method_3_code 8 = .ok (.lload 6, 2) := by decide +kernel
theorem d_L_point_10 : decode method_3_code 10 = .ok (.invokevirtual 7, 3) := by decide +kernel
theorem d_L_point_13 : decode method_3_code 13 = .ok (.i2l, 1) := by decide +kernel
theorem d_L_point_14 : decode method_3_code 14 = .ok (.lastore, 1) := by decide +kernel
theorem d_L_point_15 : decode method_3_code 15 = .ok (.goto 11, 3) := by decide +kernel
theorem d_L_point_18 : decode method_3_code 18 = .ok (.astore 9, 2) := by decide +kernel
theorem d_L_point_20 : decode method_3_code 20 = .ok (.iconst 1, 1) := by decide +kernel
theorem d_L_point_21 : decode method_3_code 21 = .ok (.ireturn, 1) := by decide +kernel
theorem d_L_point_22 : decode method_3_code 22 = .ok (.astore 9, 2) := by decide +kernel
theorem d_L_point_24 : decode method_3_code 24 = .ok (.iconst 2, 1) := by decide +kernel
theorem d_L_point_25 : decode method_3_code 25 = .ok (.ireturn, 1) := by decide +kernel
theorem d_L_point_26 : decode method_3_code 26 = .ok (.iconst 0, 1) := by decide +kernel
theorem d_L_point_27 : decode method_3_code 27 = .ok (.ireturn, 1) := by decide +kernel
theorem hp_point_ok {l : Launch} {D : va_G} {ad : Nat → Nat} {ca : Nat → ClassId} {ao : Nat} {co : ClassId} {σ σ' : St} {v0 v1 v2 v3 : Int} (ω : St) {h : Nat} (hh : h ≤ 16) {r : Int} (hr : r32 r) (hC : Cw l D cl7 (tyX ca) (wX ad ca) y_X_point c_X_point 8 (some .int) h (.ref (ad 100) :: [.int (zI v0), .long (zL v1), .long (zL v2), .long (zL v3)]) σ (RW (.int (zI r)) (σ' = ·))) : Ch l D (tyH ca co) (wH ad ca ao co) y_L_point c_L_point 10 [(0, 15, 18, 13), (0, 15, 22, 15)] 17 [.ref (ad 100), .int (zI v0), .long (zL v1), .long (zL v2), .long (zL v3), .ref ao] (σ, ω) (RW (.int (zI 0)) ((σ', up ω 0 0 r) = ·)) := by
  refine Ch.enter rfl (Nat.le_of_ble_eq_true rfl) ?_
  intro A p e s m below meth c hc hX ls hl hw
  have hx := hc.1
  have hb := hc.2.1
  refine lv_aload hx hb d_L_point_0 (lv_at hl 5 rfl) ?_
  refine z_ic hx hb d_L_point_2 ?_
  refine lv_aload_n hx hb d_L_point_3 rfl (lv_at hl 0 rfl) ?_
  refine lv_iload_n hx hb d_L_point_4 rfl (lv_at hl 1 rfl) ?_
  refine lv_lload_n hx hb d_L_point_5 rfl (lv_at hl 2 rfl) ?_
  refine lv_lload hx hb d_L_point_6 (lv_at hl 3 rfl) ?_
  refine lv_lload hx hb d_L_point_8 (lv_at hl 4 rfl) ?_
  refine h_cv hc hw hC yw_X_point yi_X_point lk_L_7 d_L_point_10 rfl rfl hl.1 (Nat.le_of_ble_eq_true rfl) ⟨by show _ ≤ 17; omega, by show _ ≤ 64 * 17; omega⟩ ⟨Nat.zero_le _, Nat.zero_le _⟩ (fun v τ H locs hp hw => ?_)
  obtain ⟨rfl, rfl⟩ := hp
  refine z_i2l hx hb d_L_point_13 hr ?_
  refine stH hc hw d_L_point_14 (fun H locs hw => ?_)
  refine lv_goto (tgt := 26) hx hb d_L_point_15 (by decide) ?_
  refine z_ic hx hb d_L_point_26 ?_
  exact W.widen (k := 1) (n := 6) (Nat.zero_le _) (Nat.zero_le _) (h_iret hc hw ⟨rfl, rfl⟩ d_L_point_27)
theorem hp_point_x1 {l : Launch} {D : va_G} {ad : Nat → Nat} {ca : Nat → ClassId} {ao : Nat} {co : ClassId} {σ σ' : St} {v0 v1 v2 v3 : Int} (ω : St) {h : Nat} (hh : h ≤ 16) (hC : Ct l D cl7 (tyX ca) (wX ad ca) y_X_point c_X_point 8 (some .int) h (.ref (ad 100) :: [.int (zI v0), .long (zL v1), .long (zL v2), .long (zL v3)]) σ σ' xIOB) : Ch l D (tyH ca co) (wH ad ca ao co) y_L_point c_L_point 10 [(0, 15, 18, 13), (0, 15, 22, 15)] 17 [.ref (ad 100), .int (zI v0), .long (zL v1), .long (zL v2), .long (zL v3), .ref ao] (σ, ω) (RW (.int (zI 1)) ((σ', ω) = ·)) := by
  refine Ch.enter rfl (Nat.le_of_ble_eq_true rfl) ?_
  intro A p e s m below meth c hc hX ls hl hw
  have hx := hc.1
  have hb := hc.2.1
  refine lv_aload hx hb d_L_point_0 (lv_at hl 5 rfl) ?_
  refine z_ic hx hb d_L_point_2 ?_
  refine lv_aload_n hx hb d_L_point_3 rfl (lv_at hl 0 rfl) ?_
  refine lv_iload_n hx hb d_L_point_4 rfl (lv_at hl 1 rfl) ?_
  refine lv_lload_n hx hb d_L_point_5 rfl (lv_at hl 2 rfl) ?_
  refine lv_lload hx hb d_L_point_6 (lv_at hl 3 rfl) ?_
  refine lv_lload hx hb d_L_point_8 (lv_at hl 4 rfl) ?_
  obtain ⟨x, ys, t0, t1, t2, t3, t4⟩ := tab_1 hX.2
  refine h_cvT0 hc hX.1 hw hC yw_X_point yi_X_point lk_L_7 d_L_point_10 rfl rfl hl.1 (Nat.le_of_ble_eq_true rfl) ⟨by show _ ≤ 17; omega, by show _ ≤ 64 * 17; omega⟩ ⟨(Nat.le_of_ble_eq_true rfl), (Nat.le_of_ble_eq_true rfl)⟩ t0 (fun z hz => absurd hz List.not_mem_nil) (by simp [covers, t1, t2]) (by rw [t4]; decide) (by rw [t4]; exact hk_13) (va_tabs rfl rfl (hX.1.1 _ (by simp [xSpec]))) (fun q H locs hw => ?_)
  rw [t3]
  refine lv_astore hx hb d_L_point_18 hl (by decide) rfl (fun ls hl => ?_)
  refine z_ic hx hb d_L_point_20 ?_
  exact h_iret hc hw ⟨rfl, rfl⟩ d_L_point_21
theorem hp_point_x2 {l : Launch} {D : va_G} {ad : Nat → Nat} {ca : Nat → ClassId} {ao : Nat} {co : ClassId} {σ σ' : St} {v0 v1 v2 v3 : Int} (ω : St) {h : Nat} (hh : h ≤ 16) (hC : Ct l D cl7 (tyX ca) (wX ad ca) y_X_point c_X_point 8 (some .int) h (.ref (ad 100) :: [.int (zI v0), .long (zL v1), .long (zL v2), .long (zL v3)]) σ σ' xIAE) : Ch l D (tyH ca co) (wH ad ca ao co) y_L_point c_L_point 10 [(0, 15, 18, 13), (0, 15, 22, 15)] 17 [.ref (ad 100), .int (zI v0), .long (zL v1), .long (zL v2), .long (zL v3), .ref ao] (σ, ω) (RW (.int (zI 2)) ((σ', ω) = ·)) := by
  refine Ch.enter rfl (Nat.le_of_ble_eq_true rfl) ?_
  intro A p e s m below meth c hc hX ls hl hw
  have hx := hc.1
  have hb := hc.2.1
  refine lv_aload hx hb d_L_point_0 (lv_at hl 5 rfl) ?_
  refine z_ic hx hb d_L_point_2 ?_
  refine lv_aload_n hx hb d_L_point_3 rfl (lv_at hl 0 rfl) ?_
  refine lv_iload_n hx hb d_L_point_4 rfl (lv_at hl 1 rfl) ?_
  refine lv_lload_n hx hb d_L_point_5 rfl (lv_at hl 2 rfl) ?_
  refine lv_lload hx hb d_L_point_6 (lv_at hl 3 rfl) ?_
  refine lv_lload hx hb d_L_point_8 (lv_at hl 4 rfl) ?_
  obtain ⟨z0, x, ys, t0, tz, t1, t2, t3, t4⟩ := tab_2 hX.2
  refine h_cvT0 hc hX.1 hw hC yw_X_point yi_X_point lk_L_7 d_L_point_10 rfl rfl hl.1 (Nat.le_of_ble_eq_true rfl) ⟨by show _ ≤ 17; omega, by show _ ≤ 64 * 17; omega⟩ ⟨(Nat.le_of_ble_eq_true rfl), (Nat.le_of_ble_eq_true rfl)⟩ t0 (fun z hz => by rw [List.mem_singleton.mp hz]; exact ⟨xIOB, by rw [tz]; decide, by rw [tz]; exact hk_13, notc (hX.1.2.1 _ (by simp [xNot]))⟩) (by simp [covers, t1, t2]) (by rw [t4]; decide) (by rw [t4]; exact hk_15) (va_tabs rfl rfl (hX.1.1 _ (by simp [xSpec]))) (fun q H locs hw => ?_)
  rw [t3]
  refine lv_astore hx hb d_L_point_22 hl (by decide) rfl (fun ls hl => ?_)
  refine z_ic hx hb d_L_point_24 ?_
  exact h_iret hc hw ⟨rfl, rfl⟩ d_L_point_25
abbrev c_L_gap : ByteArray := method_4_code
abbrev y_L_gap : MethodName := ⟨"ProbeChoiceLaw", "gap", "(LProbeChoice;J[J)I"⟩
theorem yh_L_gap : Cond.codeWith y_L_gap c_L_gap 5 (some .int) [(0, 16, 19, 15)] ∈ lw_gd ∧ Cond.initialized "ProbeChoiceLaw" ∈ lw_gd ∧ Cond.static y_L_gap ∈ lw_gd := ⟨gd_at 391 (by decide +kernel) (by decide +kernel), gd_at 0 (by decide +kernel) (by decide +kernel), gd_at 390 (by decide +kernel) (by decide +kernel)⟩
theorem d_L_gap_0 : decode method_4_code 0 = .ok (.aload_n 3, 1) := by decide +kernel
theorem d_L_gap_1 : decode method_4_code 1 = .ok (.iconst 0, 1) := by decide +kernel
theorem d_L_gap_2 : decode method_4_code 2 = .ok (.aload_n 0, 1) := by decide +kernel
theorem d_L_gap_3 : decode method_4_code 3 = .ok (.lload_n 1, 1) := by decide +kernel
theorem d_L_gap_4 : decode method_4_code 4 = .ok (.invokevirtual 17, 3) := by decide +kernel
theorem d_L_gap_7 : decode method_4_code 7 = .ok (.ifCond .eq 7, 3) := by decide +kernel
theorem d_L_gap_10 : decode method_4_code 10 = .ok (.lconst 1, 1) := by decide +kernel
theorem d_L_gap_11 : decode method_4_code 11 = .ok (.goto 4, 3) := by decide +kernel
theorem d_L_gap_14 : decode method_4_code 14 = .ok (.lconst 0, 1) := by decide +kernel
theorem d_L_gap_15 : decode method_4_code 15 = .ok (.lastore, 1) := by decide +kernel
theorem d_L_gap_16 : decode method_4_code 16 = .ok (.goto 7, 3) := by decide +kernel
theorem d_L_gap_19 : decode method_4_code 19 = .ok (.astore 4, 2) := by decide +kernel
theorem d_L_gap_21 : decode method_4_code 21 = .ok (.iconst 1, 1) := by decide +kernel
theorem d_L_gap_22 : decode method_4_code 22 = .ok (.ireturn, 1) := by decide +kernel
theorem d_L_gap_23 : decode method_4_code 23 = .ok (.iconst 0, 1) := by decide +kernel
theorem d_L_gap_24 : decode method_4_code 24 = .ok (.ireturn, 1) := by decide +kernel
theorem hp_gap_ok {l : Launch} {D : va_G} {ad : Nat → Nat} {ca : Nat → ClassId} {ao : Nat} {co : ClassId} {σ σ' : St} {v0 : Int} (ω : St) {h : Nat} (hh : h ≤ 16) {r : Int} (hr : r = 0 ∨ r = 1) (hC : Cw l D cl7 (tyX ca) (wX ad ca) y_X_gap c_X_gap 3 (some .boolean) h (.ref (ad 100) :: [.long (zL v0)]) σ (RW (.int (zI r)) (σ' = ·))) : Ch l D (tyH ca co) (wH ad ca ao co) y_L_gap c_L_gap 5 [(0, 16, 19, 15)] 17 [.ref (ad 100), .long (zL v0), .ref ao] (σ, ω) (RW (.int (zI 0)) ((σ', up ω 0 0 r) = ·)) := by
  refine Ch.enter rfl (Nat.le_of_ble_eq_true rfl) ?_
  intro A p e s m below meth c hc hX ls hl hw
  have hx := hc.1
  have hb := hc.2.1
  refine lv_aload_n hx hb d_L_gap_0 rfl (lv_at hl 2 rfl) ?_
  refine z_ic hx hb d_L_gap_1 ?_
  refine lv_aload_n hx hb d_L_gap_2 rfl (lv_at hl 0 rfl) ?_
  refine lv_lload_n hx hb d_L_gap_3 rfl (lv_at hl 1 rfl) ?_
  refine h_cv hc hw hC yw_X_gap yi_X_gap lk_L_17 d_L_gap_4 rfl rfl hl.1 (Nat.le_of_ble_eq_true rfl) ⟨by show _ ≤ 17; omega, by show _ ≤ 64 * 17; omega⟩ ⟨Nat.zero_le _, Nat.zero_le _⟩ (fun v τ H locs hp hw => ?_)
  obtain ⟨rfl, rfl⟩ := hp
  refine z_if_eq hx hb 14 d_L_gap_7 (by rcases hr with rfl | rfl <;> decide) (by decide) (fun c0 => ?_) (fun c0 => ?_)
  · subst c0
    refine z_lc0 hx hb d_L_gap_14 ?_
    refine stH hc hw d_L_gap_15 (fun H locs hw => ?_)
    refine lv_goto (tgt := 23) hx hb d_L_gap_16 (by decide) ?_
    refine z_ic hx hb d_L_gap_23 ?_
    exact W.widen (k := 1) (n := 6) (Nat.zero_le _) (Nat.zero_le _) (h_iret hc hw ⟨rfl, rfl⟩ d_L_gap_24)
  · have e1 : r = 1 := by omega
    subst e1
    refine z_lc1 hx hb d_L_gap_10 ?_
    refine lv_goto (tgt := 15) hx hb d_L_gap_11 (by decide) ?_
    refine stH hc hw d_L_gap_15 (fun H locs hw => ?_)
    refine lv_goto (tgt := 23) hx hb d_L_gap_16 (by decide) ?_
    refine z_ic hx hb d_L_gap_23 ?_
    exact W.widen (k := 1) (n := 6) (Nat.zero_le _) (Nat.zero_le _) (h_iret hc hw ⟨rfl, rfl⟩ d_L_gap_24)
theorem hp_gap_x1 {l : Launch} {D : va_G} {ad : Nat → Nat} {ca : Nat → ClassId} {ao : Nat} {co : ClassId} {σ σ' : St} {v0 : Int} (ω : St) {h : Nat} (hh : h ≤ 16) (hC : Ct l D cl7 (tyX ca) (wX ad ca) y_X_gap c_X_gap 3 (some .boolean) h (.ref (ad 100) :: [.long (zL v0)]) σ σ' xIAE) : Ch l D (tyH ca co) (wH ad ca ao co) y_L_gap c_L_gap 5 [(0, 16, 19, 15)] 17 [.ref (ad 100), .long (zL v0), .ref ao] (σ, ω) (RW (.int (zI 1)) ((σ', ω) = ·)) := by
  refine Ch.enter rfl (Nat.le_of_ble_eq_true rfl) ?_
  intro A p e s m below meth c hc hX ls hl hw
  have hx := hc.1
  have hb := hc.2.1
  refine lv_aload_n hx hb d_L_gap_0 rfl (lv_at hl 2 rfl) ?_
  refine z_ic hx hb d_L_gap_1 ?_
  refine lv_aload_n hx hb d_L_gap_2 rfl (lv_at hl 0 rfl) ?_
  refine lv_lload_n hx hb d_L_gap_3 rfl (lv_at hl 1 rfl) ?_
  obtain ⟨x, ys, t0, t1, t2, t3, t4⟩ := tab_1 hX.2
  refine h_cvT0 hc hX.1 hw hC yw_X_gap yi_X_gap lk_L_17 d_L_gap_4 rfl rfl hl.1 (Nat.le_of_ble_eq_true rfl) ⟨by show _ ≤ 17; omega, by show _ ≤ 64 * 17; omega⟩ ⟨(Nat.le_of_ble_eq_true rfl), (Nat.le_of_ble_eq_true rfl)⟩ t0 (fun z hz => absurd hz List.not_mem_nil) (by simp [covers, t1, t2]) (by rw [t4]; decide) (by rw [t4]; exact hk_15) (va_tabs rfl rfl (hX.1.1 _ (by simp [xSpec]))) (fun q H locs hw => ?_)
  rw [t3]
  refine lv_astore hx hb d_L_gap_19 hl (by decide) rfl (fun ls hl => ?_)
  refine z_ic hx hb d_L_gap_21 ?_
  exact h_iret hc hw ⟨rfl, rfl⟩ d_L_gap_22
abbrev c_L_run : ByteArray := method_5_code
abbrev y_L_run : MethodName := ⟨"ProbeChoiceLaw", "run", "(LProbeChoice;J[J)I"⟩
theorem yh_L_run : Cond.codeWith y_L_run c_L_run 5 (some .int) [(0, 9, 12, 15)] ∈ lw_gd ∧ Cond.initialized "ProbeChoiceLaw" ∈ lw_gd ∧ Cond.static y_L_run ∈ lw_gd := ⟨gd_at 403 (by decide +kernel) (by decide +kernel), gd_at 0 (by decide +kernel) (by decide +kernel), gd_at 402 (by decide +kernel) (by decide +kernel)⟩
theorem d_L_run_0 : decode method_5_code 0 = .ok (.aload_n 3, 1) := by decide +kernel
theorem d_L_run_1 : decode method_5_code 1 = .ok (.iconst 0, 1) := by decide +kernel
theorem d_L_run_2 : decode method_5_code 2 = .ok (.aload_n 0, 1) := by decide +kernel
theorem d_L_run_3 : decode method_5_code 3 = .ok (.lload_n 1, 1) := by decide +kernel
theorem d_L_run_4 : decode method_5_code 4 = .ok (.invokevirtual 21, 3) := by decide +kernel
theorem d_L_run_7 : decode method_5_code 7 = .ok (.i2l, 1) := by decide +kernel
theorem d_L_run_8 : decode method_5_code 8 = .ok (.lastore, 1) := by decide +kernel
theorem d_L_run_9 : decode method_5_code 9 = .ok (.goto 7, 3) := by decide +kernel
theorem d_L_run_12 : decode method_5_code 12 = .ok (.astore 4, 2) := by decide +kernel
theorem d_L_run_14 : decode method_5_code 14 = .ok (.iconst 1, 1) := by decide +kernel
theorem d_L_run_15 : decode method_5_code 15 = .ok (.ireturn, 1) := by decide +kernel
theorem d_L_run_16 : decode method_5_code 16 = .ok (.iconst 0, 1) := by decide +kernel
theorem d_L_run_17 : decode method_5_code 17 = .ok (.ireturn, 1) := by decide +kernel
theorem hp_run_ok {l : Launch} {D : va_G} {ad : Nat → Nat} {ca : Nat → ClassId} {ao : Nat} {co : ClassId} {σ σ' : St} {v0 : Int} (ω : St) {h : Nat} (hh : h ≤ 16) {r : Int} (hr : r32 r) (hC : Cw l D cl7 (tyX ca) (wX ad ca) y_X_run c_X_run 3 (some .int) h (.ref (ad 100) :: [.long (zL v0)]) σ (RW (.int (zI r)) (σ' = ·))) : Ch l D (tyH ca co) (wH ad ca ao co) y_L_run c_L_run 5 [(0, 9, 12, 15)] 17 [.ref (ad 100), .long (zL v0), .ref ao] (σ, ω) (RW (.int (zI 0)) ((σ', up ω 0 0 r) = ·)) := by
  refine Ch.enter rfl (Nat.le_of_ble_eq_true rfl) ?_
  intro A p e s m below meth c hc hX ls hl hw
  have hx := hc.1
  have hb := hc.2.1
  refine lv_aload_n hx hb d_L_run_0 rfl (lv_at hl 2 rfl) ?_
  refine z_ic hx hb d_L_run_1 ?_
  refine lv_aload_n hx hb d_L_run_2 rfl (lv_at hl 0 rfl) ?_
  refine lv_lload_n hx hb d_L_run_3 rfl (lv_at hl 1 rfl) ?_
  refine h_cv hc hw hC yw_X_run yi_X_run lk_L_21 d_L_run_4 rfl rfl hl.1 (Nat.le_of_ble_eq_true rfl) ⟨by show _ ≤ 17; omega, by show _ ≤ 64 * 17; omega⟩ ⟨Nat.zero_le _, Nat.zero_le _⟩ (fun v τ H locs hp hw => ?_)
  obtain ⟨rfl, rfl⟩ := hp
  refine z_i2l hx hb d_L_run_7 hr ?_
  refine stH hc hw d_L_run_8 (fun H locs hw => ?_)
  refine lv_goto (tgt := 16) hx hb d_L_run_9 (by decide) ?_
  refine z_ic hx hb d_L_run_16 ?_
  exact W.widen (k := 1) (n := 6) (Nat.zero_le _) (Nat.zero_le _) (h_iret hc hw ⟨rfl, rfl⟩ d_L_run_17)
theorem hp_run_x1 {l : Launch} {D : va_G} {ad : Nat → Nat} {ca : Nat → ClassId} {ao : Nat} {co : ClassId} {σ σ' : St} {v0 : Int} (ω : St) {h : Nat} (hh : h ≤ 16) (hC : Ct l D cl7 (tyX ca) (wX ad ca) y_X_run c_X_run 3 (some .int) h (.ref (ad 100) :: [.long (zL v0)]) σ σ' xIAE) : Ch l D (tyH ca co) (wH ad ca ao co) y_L_run c_L_run 5 [(0, 9, 12, 15)] 17 [.ref (ad 100), .long (zL v0), .ref ao] (σ, ω) (RW (.int (zI 1)) ((σ', ω) = ·)) := by
  refine Ch.enter rfl (Nat.le_of_ble_eq_true rfl) ?_
  intro A p e s m below meth c hc hX ls hl hw
  have hx := hc.1
  have hb := hc.2.1
  refine lv_aload_n hx hb d_L_run_0 rfl (lv_at hl 2 rfl) ?_
  refine z_ic hx hb d_L_run_1 ?_
  refine lv_aload_n hx hb d_L_run_2 rfl (lv_at hl 0 rfl) ?_
  refine lv_lload_n hx hb d_L_run_3 rfl (lv_at hl 1 rfl) ?_
  obtain ⟨x, ys, t0, t1, t2, t3, t4⟩ := tab_1 hX.2
  refine h_cvT0 hc hX.1 hw hC yw_X_run yi_X_run lk_L_21 d_L_run_4 rfl rfl hl.1 (Nat.le_of_ble_eq_true rfl) ⟨by show _ ≤ 17; omega, by show _ ≤ 64 * 17; omega⟩ ⟨(Nat.le_of_ble_eq_true rfl), (Nat.le_of_ble_eq_true rfl)⟩ t0 (fun z hz => absurd hz List.not_mem_nil) (by simp [covers, t1, t2]) (by rw [t4]; decide) (by rw [t4]; exact hk_15) (va_tabs rfl rfl (hX.1.1 _ (by simp [xSpec]))) (fun q H locs hw => ?_)
  rw [t3]
  refine lv_astore hx hb d_L_run_12 hl (by decide) rfl (fun ls hl => ?_)
  refine z_ic hx hb d_L_run_14 ?_
  exact h_iret hc hw ⟨rfl, rfl⟩ d_L_run_15
abbrev c_L_part : ByteArray := method_6_code
abbrev y_L_part : MethodName := ⟨"ProbeChoiceLaw", "part", "(LProbeChoice;IIJJ[J)I"⟩
theorem yh_L_part : Cond.codeWith y_L_part c_L_part 9 (some .int) [(0, 21, 24, 13), (0, 21, 28, 15)] ∈ lw_gd ∧ Cond.initialized "ProbeChoiceLaw" ∈ lw_gd ∧ Cond.static y_L_part ∈ lw_gd := ⟨gd_at 517 (by decide +kernel) (by decide +kernel), gd_at 0 (by decide +kernel) (by decide +kernel), gd_at 516 (by decide +kernel) (by decide +kernel)⟩
theorem d_L_part_0 : decode method_6_code 0 = .ok (.aload 7, 2) := by decide +kernel
theorem d_L_part_2 : decode method_6_code 2 = .ok (.iconst 0, 1) := by decide +kernel
theorem d_L_part_3 : decode method_6_code 3 = .ok (.aload_n 0, 1) := by decide +kernel
theorem d_L_part_4 : decode method_6_code 4 = .ok (.iload_n 1, 1) := by decide +kernel
theorem d_L_part_5 : decode method_6_code 5 = .ok (.iload_n 2, 1) := by decide +kernel
theorem d_L_part_6 : decode method_6_code 6 = .ok (.lload_n 3, 1) := by decide +kernel
theorem d_L_part_7 : decode method_6_code 7 = .ok (.lload 5, 2) := by decide +kernel
theorem d_L_part_9 : decode method_6_code 9 = .ok (.invokevirtual 25, 3) := by decide +kernel
theorem d_L_part_12 : decode method_6_code 12 = .ok (.ifCond .eq 7, 3) := by decide +kernel
theorem d_L_part_15 : decode method_6_code 15 = .ok (.lconst 1, 1) := by decide +kernel
theorem d_L_part_16 : decode method_6_code 16 = .ok (.goto 4, 3) := by decide +kernel
theorem d_L_part_19 : decode method_6_code 19 = .ok (.lconst 0, 1) := by decide +kernel
theorem d_L_part_20 : decode method_6_code 20 = .ok (.lastore, 1) := by decide +kernel
theorem d_L_part_21 : decode method_6_code 21 = .ok (.goto 11, 3) := by decide +kernel
theorem d_L_part_24 : decode method_6_code 24 = .ok (.astore 8, 2) := by decide +kernel
theorem d_L_part_26 : decode method_6_code 26 = .ok (.iconst 1, 1) := by decide +kernel
theorem d_L_part_27 : decode method_6_code 27 = .ok (.ireturn, 1) := by decide +kernel
theorem d_L_part_28 : decode method_6_code 28 = .ok (.astore 8, 2) := by decide +kernel
theorem d_L_part_30 : decode method_6_code 30 = .ok (.iconst 2, 1) := by decide +kernel
theorem d_L_part_31 : decode method_6_code 31 = .ok (.ireturn, 1) := by decide +kernel
theorem d_L_part_32 : decode method_6_code 32 = .ok (.iconst 0, 1) := by decide +kernel
theorem d_L_part_33 : decode method_6_code 33 = .ok (.ireturn, 1) := by decide +kernel
theorem hp_part_ok {l : Launch} {D : va_G} {ad : Nat → Nat} {ca : Nat → ClassId} {ao : Nat} {co : ClassId} {σ σ' : St} {v0 v1 v2 v3 : Int} (ω : St) {h : Nat} (hh : h ≤ 16) {r : Int} (hr : r = 0 ∨ r = 1) (hC : Cw l D cl7 (tyX ca) (wX ad ca) y_X_part c_X_part 7 (some .boolean) h (.ref (ad 100) :: [.int (zI v0), .int (zI v1), .long (zL v2), .long (zL v3)]) σ (RW (.int (zI r)) (σ' = ·))) : Ch l D (tyH ca co) (wH ad ca ao co) y_L_part c_L_part 9 [(0, 21, 24, 13), (0, 21, 28, 15)] 17 [.ref (ad 100), .int (zI v0), .int (zI v1), .long (zL v2), .long (zL v3), .ref ao] (σ, ω) (RW (.int (zI 0)) ((σ', up ω 0 0 r) = ·)) := by
  refine Ch.enter rfl (Nat.le_of_ble_eq_true rfl) ?_
  intro A p e s m below meth c hc hX ls hl hw
  have hx := hc.1
  have hb := hc.2.1
  refine lv_aload hx hb d_L_part_0 (lv_at hl 5 rfl) ?_
  refine z_ic hx hb d_L_part_2 ?_
  refine lv_aload_n hx hb d_L_part_3 rfl (lv_at hl 0 rfl) ?_
  refine lv_iload_n hx hb d_L_part_4 rfl (lv_at hl 1 rfl) ?_
  refine lv_iload_n hx hb d_L_part_5 rfl (lv_at hl 2 rfl) ?_
  refine lv_lload_n hx hb d_L_part_6 rfl (lv_at hl 3 rfl) ?_
  refine lv_lload hx hb d_L_part_7 (lv_at hl 4 rfl) ?_
  refine h_cv hc hw hC yw_X_part yi_X_part lk_L_25 d_L_part_9 rfl rfl hl.1 (Nat.le_of_ble_eq_true rfl) ⟨by show _ ≤ 17; omega, by show _ ≤ 64 * 17; omega⟩ ⟨Nat.zero_le _, Nat.zero_le _⟩ (fun v τ H locs hp hw => ?_)
  obtain ⟨rfl, rfl⟩ := hp
  refine z_if_eq hx hb 19 d_L_part_12 (by rcases hr with rfl | rfl <;> decide) (by decide) (fun c0 => ?_) (fun c0 => ?_)
  · subst c0
    refine z_lc0 hx hb d_L_part_19 ?_
    refine stH hc hw d_L_part_20 (fun H locs hw => ?_)
    refine lv_goto (tgt := 32) hx hb d_L_part_21 (by decide) ?_
    refine z_ic hx hb d_L_part_32 ?_
    exact W.widen (k := 1) (n := 6) (Nat.zero_le _) (Nat.zero_le _) (h_iret hc hw ⟨rfl, rfl⟩ d_L_part_33)
  · have e1 : r = 1 := by omega
    subst e1
    refine z_lc1 hx hb d_L_part_15 ?_
    refine lv_goto (tgt := 20) hx hb d_L_part_16 (by decide) ?_
    refine stH hc hw d_L_part_20 (fun H locs hw => ?_)
    refine lv_goto (tgt := 32) hx hb d_L_part_21 (by decide) ?_
    refine z_ic hx hb d_L_part_32 ?_
    exact W.widen (k := 1) (n := 6) (Nat.zero_le _) (Nat.zero_le _) (h_iret hc hw ⟨rfl, rfl⟩ d_L_part_33)
theorem hp_part_x1 {l : Launch} {D : va_G} {ad : Nat → Nat} {ca : Nat → ClassId} {ao : Nat} {co : ClassId} {σ σ' : St} {v0 v1 v2 v3 : Int} (ω : St) {h : Nat} (hh : h ≤ 16) (hC : Ct l D cl7 (tyX ca) (wX ad ca) y_X_part c_X_part 7 (some .boolean) h (.ref (ad 100) :: [.int (zI v0), .int (zI v1), .long (zL v2), .long (zL v3)]) σ σ' xIOB) : Ch l D (tyH ca co) (wH ad ca ao co) y_L_part c_L_part 9 [(0, 21, 24, 13), (0, 21, 28, 15)] 17 [.ref (ad 100), .int (zI v0), .int (zI v1), .long (zL v2), .long (zL v3), .ref ao] (σ, ω) (RW (.int (zI 1)) ((σ', ω) = ·)) := by
  refine Ch.enter rfl (Nat.le_of_ble_eq_true rfl) ?_
  intro A p e s m below meth c hc hX ls hl hw
  have hx := hc.1
  have hb := hc.2.1
  refine lv_aload hx hb d_L_part_0 (lv_at hl 5 rfl) ?_
  refine z_ic hx hb d_L_part_2 ?_
  refine lv_aload_n hx hb d_L_part_3 rfl (lv_at hl 0 rfl) ?_
  refine lv_iload_n hx hb d_L_part_4 rfl (lv_at hl 1 rfl) ?_
  refine lv_iload_n hx hb d_L_part_5 rfl (lv_at hl 2 rfl) ?_
  refine lv_lload_n hx hb d_L_part_6 rfl (lv_at hl 3 rfl) ?_
  refine lv_lload hx hb d_L_part_7 (lv_at hl 4 rfl) ?_
  obtain ⟨x, ys, t0, t1, t2, t3, t4⟩ := tab_1 hX.2
  refine h_cvT0 hc hX.1 hw hC yw_X_part yi_X_part lk_L_25 d_L_part_9 rfl rfl hl.1 (Nat.le_of_ble_eq_true rfl) ⟨by show _ ≤ 17; omega, by show _ ≤ 64 * 17; omega⟩ ⟨(Nat.le_of_ble_eq_true rfl), (Nat.le_of_ble_eq_true rfl)⟩ t0 (fun z hz => absurd hz List.not_mem_nil) (by simp [covers, t1, t2]) (by rw [t4]; decide) (by rw [t4]; exact hk_13) (va_tabs rfl rfl (hX.1.1 _ (by simp [xSpec]))) (fun q H locs hw => ?_)
  rw [t3]
  refine lv_astore hx hb d_L_part_24 hl (by decide) rfl (fun ls hl => ?_)
  refine z_ic hx hb d_L_part_26 ?_
  exact h_iret hc hw ⟨rfl, rfl⟩ d_L_part_27
theorem hp_part_x2 {l : Launch} {D : va_G} {ad : Nat → Nat} {ca : Nat → ClassId} {ao : Nat} {co : ClassId} {σ σ' : St} {v0 v1 v2 v3 : Int} (ω : St) {h : Nat} (hh : h ≤ 16) (hC : Ct l D cl7 (tyX ca) (wX ad ca) y_X_part c_X_part 7 (some .boolean) h (.ref (ad 100) :: [.int (zI v0), .int (zI v1), .long (zL v2), .long (zL v3)]) σ σ' xIAE) : Ch l D (tyH ca co) (wH ad ca ao co) y_L_part c_L_part 9 [(0, 21, 24, 13), (0, 21, 28, 15)] 17 [.ref (ad 100), .int (zI v0), .int (zI v1), .long (zL v2), .long (zL v3), .ref ao] (σ, ω) (RW (.int (zI 2)) ((σ', ω) = ·)) := by
  refine Ch.enter rfl (Nat.le_of_ble_eq_true rfl) ?_
  intro A p e s m below meth c hc hX ls hl hw
  have hx := hc.1
  have hb := hc.2.1
  refine lv_aload hx hb d_L_part_0 (lv_at hl 5 rfl) ?_
  refine z_ic hx hb d_L_part_2 ?_
  refine lv_aload_n hx hb d_L_part_3 rfl (lv_at hl 0 rfl) ?_
  refine lv_iload_n hx hb d_L_part_4 rfl (lv_at hl 1 rfl) ?_
  refine lv_iload_n hx hb d_L_part_5 rfl (lv_at hl 2 rfl) ?_
  refine lv_lload_n hx hb d_L_part_6 rfl (lv_at hl 3 rfl) ?_
  refine lv_lload hx hb d_L_part_7 (lv_at hl 4 rfl) ?_
  obtain ⟨z0, x, ys, t0, tz, t1, t2, t3, t4⟩ := tab_2 hX.2
  refine h_cvT0 hc hX.1 hw hC yw_X_part yi_X_part lk_L_25 d_L_part_9 rfl rfl hl.1 (Nat.le_of_ble_eq_true rfl) ⟨by show _ ≤ 17; omega, by show _ ≤ 64 * 17; omega⟩ ⟨(Nat.le_of_ble_eq_true rfl), (Nat.le_of_ble_eq_true rfl)⟩ t0 (fun z hz => by rw [List.mem_singleton.mp hz]; exact ⟨xIOB, by rw [tz]; decide, by rw [tz]; exact hk_13, notc (hX.1.2.1 _ (by simp [xNot]))⟩) (by simp [covers, t1, t2]) (by rw [t4]; decide) (by rw [t4]; exact hk_15) (va_tabs rfl rfl (hX.1.1 _ (by simp [xSpec]))) (fun q H locs hw => ?_)
  rw [t3]
  refine lv_astore hx hb d_L_part_28 hl (by decide) rfl (fun ls hl => ?_)
  refine z_ic hx hb d_L_part_30 ?_
  exact h_iret hc hw ⟨rfl, rfl⟩ d_L_part_31
abbrev c_L_span : ByteArray := method_7_code
abbrev y_L_span : MethodName := ⟨"ProbeChoiceLaw", "span", "(LProbeChoice;IIII[J)I"⟩
theorem yh_L_span : Cond.codeWith y_L_span c_L_span 7 (some .int) [(0, 13, 16, 13), (0, 13, 20, 33)] ∈ lw_gd ∧ Cond.initialized "ProbeChoiceLaw" ∈ lw_gd ∧ Cond.static y_L_span ∈ lw_gd := ⟨gd_at 543 (by decide +kernel) (by decide +kernel), gd_at 0 (by decide +kernel) (by decide +kernel), gd_at 542 (by decide +kernel) (by decide +kernel)⟩
theorem d_L_span_0 : decode method_7_code 0 = .ok (.aload 5, 2) := by decide +kernel
theorem d_L_span_2 : decode method_7_code 2 = .ok (.iconst 0, 1) := by decide +kernel
theorem d_L_span_3 : decode method_7_code 3 = .ok (.aload_n 0, 1) := by decide +kernel
theorem d_L_span_4 : decode method_7_code 4 = .ok (.iload_n 1, 1) := by decide +kernel
theorem d_L_span_5 : decode method_7_code 5 = .ok (.iload_n 2, 1) := by decide +kernel
theorem d_L_span_6 : decode method_7_code 6 = .ok (.iload_n 3, 1) := by decide +kernel
theorem d_L_span_7 : decode method_7_code 7 = .ok (.iload 4, 2) := by decide +kernel
theorem d_L_span_9 : decode method_7_code 9 = .ok (.invokevirtual 29, 3) := by decide +kernel
theorem d_L_span_12 : decode method_7_code 12 = .ok (.lastore, 1) := by decide +kernel
theorem d_L_span_13 : decode method_7_code 13 = .ok (.goto 11, 3) := by decide +kernel
theorem d_L_span_16 : decode method_7_code 16 = .ok (.astore 6, 2) := by decide +kernel
theorem d_L_span_18 : decode method_7_code 18 = .ok (.iconst 1, 1) := by decide +kernel
theorem d_L_span_19 : decode method_7_code 19 = .ok (.ireturn, 1) := by decide +kernel
theorem d_L_span_20 : decode method_7_code 20 = .ok (.astore 6, 2) := by decide +kernel
theorem d_L_span_22 : decode method_7_code 22 = .ok (.iconst 2, 1) := by decide +kernel
theorem d_L_span_23 : decode method_7_code 23 = .ok (.ireturn, 1) := by decide +kernel
theorem d_L_span_24 : decode method_7_code 24 = .ok (.iconst 0, 1) := by decide +kernel
theorem d_L_span_25 : decode method_7_code 25 = .ok (.ireturn, 1) := by decide +kernel
theorem hp_span_ok {l : Launch} {D : va_G} {ad : Nat → Nat} {ca : Nat → ClassId} {ao : Nat} {co : ClassId} {σ σ' : St} {v0 v1 v2 v3 : Int} (ω : St) {h : Nat} (hh : h ≤ 16) {r : Int} (hC : Cw l D cl7 (tyX ca) (wX ad ca) y_X_span c_X_span 5 (some .long) h (.ref (ad 100) :: [.int (zI v0), .int (zI v1), .int (zI v2), .int (zI v3)]) σ (RW (.long (zL r)) (σ' = ·))) : Ch l D (tyH ca co) (wH ad ca ao co) y_L_span c_L_span 7 [(0, 13, 16, 13), (0, 13, 20, 33)] 17 [.ref (ad 100), .int (zI v0), .int (zI v1), .int (zI v2), .int (zI v3), .ref ao] (σ, ω) (RW (.int (zI 0)) ((σ', up ω 0 0 r) = ·)) := by
  refine Ch.enter rfl (Nat.le_of_ble_eq_true rfl) ?_
  intro A p e s m below meth c hc hX ls hl hw
  have hx := hc.1
  have hb := hc.2.1
  refine lv_aload hx hb d_L_span_0 (lv_at hl 5 rfl) ?_
  refine z_ic hx hb d_L_span_2 ?_
  refine lv_aload_n hx hb d_L_span_3 rfl (lv_at hl 0 rfl) ?_
  refine lv_iload_n hx hb d_L_span_4 rfl (lv_at hl 1 rfl) ?_
  refine lv_iload_n hx hb d_L_span_5 rfl (lv_at hl 2 rfl) ?_
  refine lv_iload_n hx hb d_L_span_6 rfl (lv_at hl 3 rfl) ?_
  refine lv_iload hx hb d_L_span_7 (lv_at hl 4 rfl) ?_
  refine h_cv hc hw hC yw_X_span yi_X_span lk_L_29 d_L_span_9 rfl rfl hl.1 (Nat.le_of_ble_eq_true rfl) ⟨by show _ ≤ 17; omega, by show _ ≤ 64 * 17; omega⟩ ⟨Nat.zero_le _, Nat.zero_le _⟩ (fun v τ H locs hp hw => ?_)
  obtain ⟨rfl, rfl⟩ := hp
  refine stH hc hw d_L_span_12 (fun H locs hw => ?_)
  refine lv_goto (tgt := 24) hx hb d_L_span_13 (by decide) ?_
  refine z_ic hx hb d_L_span_24 ?_
  exact W.widen (k := 1) (n := 6) (Nat.zero_le _) (Nat.zero_le _) (h_iret hc hw ⟨rfl, rfl⟩ d_L_span_25)
theorem hp_span_x1 {l : Launch} {D : va_G} {ad : Nat → Nat} {ca : Nat → ClassId} {ao : Nat} {co : ClassId} {σ σ' : St} {v0 v1 v2 v3 : Int} (ω : St) {h : Nat} (hh : h ≤ 16) (hC : Ct l D cl7 (tyX ca) (wX ad ca) y_X_span c_X_span 5 (some .long) h (.ref (ad 100) :: [.int (zI v0), .int (zI v1), .int (zI v2), .int (zI v3)]) σ σ' xIOB) : Ch l D (tyH ca co) (wH ad ca ao co) y_L_span c_L_span 7 [(0, 13, 16, 13), (0, 13, 20, 33)] 17 [.ref (ad 100), .int (zI v0), .int (zI v1), .int (zI v2), .int (zI v3), .ref ao] (σ, ω) (RW (.int (zI 1)) ((σ', ω) = ·)) := by
  refine Ch.enter rfl (Nat.le_of_ble_eq_true rfl) ?_
  intro A p e s m below meth c hc hX ls hl hw
  have hx := hc.1
  have hb := hc.2.1
  refine lv_aload hx hb d_L_span_0 (lv_at hl 5 rfl) ?_
  refine z_ic hx hb d_L_span_2 ?_
  refine lv_aload_n hx hb d_L_span_3 rfl (lv_at hl 0 rfl) ?_
  refine lv_iload_n hx hb d_L_span_4 rfl (lv_at hl 1 rfl) ?_
  refine lv_iload_n hx hb d_L_span_5 rfl (lv_at hl 2 rfl) ?_
  refine lv_iload_n hx hb d_L_span_6 rfl (lv_at hl 3 rfl) ?_
  refine lv_iload hx hb d_L_span_7 (lv_at hl 4 rfl) ?_
  obtain ⟨x, ys, t0, t1, t2, t3, t4⟩ := tab_1 hX.2
  refine h_cvT0 hc hX.1 hw hC yw_X_span yi_X_span lk_L_29 d_L_span_9 rfl rfl hl.1 (Nat.le_of_ble_eq_true rfl) ⟨by show _ ≤ 17; omega, by show _ ≤ 64 * 17; omega⟩ ⟨(Nat.le_of_ble_eq_true rfl), (Nat.le_of_ble_eq_true rfl)⟩ t0 (fun z hz => absurd hz List.not_mem_nil) (by simp [covers, t1, t2]) (by rw [t4]; decide) (by rw [t4]; exact hk_13) (va_tabs rfl rfl (hX.1.1 _ (by simp [xSpec]))) (fun q H locs hw => ?_)
  rw [t3]
  refine lv_astore hx hb d_L_span_16 hl (by decide) rfl (fun ls hl => ?_)
  refine z_ic hx hb d_L_span_18 ?_
  exact h_iret hc hw ⟨rfl, rfl⟩ d_L_span_19
theorem hp_span_x2 {l : Launch} {D : va_G} {ad : Nat → Nat} {ca : Nat → ClassId} {ao : Nat} {co : ClassId} {σ σ' : St} {v0 v1 v2 v3 : Int} (ω : St) {h : Nat} (hh : h ≤ 16) (hC : Ct l D cl7 (tyX ca) (wX ad ca) y_X_span c_X_span 5 (some .long) h (.ref (ad 100) :: [.int (zI v0), .int (zI v1), .int (zI v2), .int (zI v3)]) σ σ' xISE) : Ch l D (tyH ca co) (wH ad ca ao co) y_L_span c_L_span 7 [(0, 13, 16, 13), (0, 13, 20, 33)] 17 [.ref (ad 100), .int (zI v0), .int (zI v1), .int (zI v2), .int (zI v3), .ref ao] (σ, ω) (RW (.int (zI 2)) ((σ', ω) = ·)) := by
  refine Ch.enter rfl (Nat.le_of_ble_eq_true rfl) ?_
  intro A p e s m below meth c hc hX ls hl hw
  have hx := hc.1
  have hb := hc.2.1
  refine lv_aload hx hb d_L_span_0 (lv_at hl 5 rfl) ?_
  refine z_ic hx hb d_L_span_2 ?_
  refine lv_aload_n hx hb d_L_span_3 rfl (lv_at hl 0 rfl) ?_
  refine lv_iload_n hx hb d_L_span_4 rfl (lv_at hl 1 rfl) ?_
  refine lv_iload_n hx hb d_L_span_5 rfl (lv_at hl 2 rfl) ?_
  refine lv_iload_n hx hb d_L_span_6 rfl (lv_at hl 3 rfl) ?_
  refine lv_iload hx hb d_L_span_7 (lv_at hl 4 rfl) ?_
  obtain ⟨z0, x, ys, t0, tz, t1, t2, t3, t4⟩ := tab_2 hX.2
  refine h_cvT0 hc hX.1 hw hC yw_X_span yi_X_span lk_L_29 d_L_span_9 rfl rfl hl.1 (Nat.le_of_ble_eq_true rfl) ⟨by show _ ≤ 17; omega, by show _ ≤ 64 * 17; omega⟩ ⟨(Nat.le_of_ble_eq_true rfl), (Nat.le_of_ble_eq_true rfl)⟩ t0 (fun z hz => by rw [List.mem_singleton.mp hz]; exact ⟨xIOB, by rw [tz]; decide, by rw [tz]; exact hk_13, notc (hX.1.2.1 _ (by simp [xNot]))⟩) (by simp [covers, t1, t2]) (by rw [t4]; decide) (by rw [t4]; exact hk_33) (va_tabs rfl rfl (hX.1.1 _ (by simp [xSpec]))) (fun q H locs hw => ?_)
  rw [t3]
  refine lv_astore hx hb d_L_span_20 hl (by decide) rfl (fun ls hl => ?_)
  refine z_ic hx hb d_L_span_22 ?_
  exact h_iret hc hw ⟨rfl, rfl⟩ d_L_span_23
abbrev c_L_guard : ByteArray := method_8_code
abbrev y_L_guard : MethodName := ⟨"ProbeChoiceLaw", "guard", "(LProbeChoice;III[J)I"⟩
theorem yh_L_guard : Cond.codeWith y_L_guard c_L_guard 6 (some .int) [(0, 12, 15, 13)] ∈ lw_gd ∧ Cond.initialized "ProbeChoiceLaw" ∈ lw_gd ∧ Cond.static y_L_guard ∈ lw_gd := ⟨gd_at 581 (by decide +kernel) (by decide +kernel), gd_at 0 (by decide +kernel) (by decide +kernel), gd_at 580 (by decide +kernel) (by decide +kernel)⟩
theorem d_L_guard_0 : decode method_8_code 0 = .ok (.aload 4, 2) := by decide +kernel
theorem d_L_guard_2 : decode method_8_code 2 = .ok (.iconst 0, 1) := by decide +kernel
theorem d_L_guard_3 : decode method_8_code 3 = .ok (.aload_n 0, 1) := by decide +kernel
theorem d_L_guard_4 : decode method_8_code 4 = .ok (.iload_n 1, 1) := by decide +kernel
theorem d_L_guard_5 : decode method_8_code 5 = .ok (.iload_n 2, 1) := by decide +kernel
theorem d_L_guard_6 : decode method_8_code 6 = .ok (.iload_n 3, 1) := by decide +kernel
theorem d_L_guard_7 : decode method_8_code 7 = .ok (.invokevirtual 35, 3) := by decide +kernel
theorem d_L_guard_10 : decode method_8_code 10 = .ok (.i2l, 1) := by decide +kernel
theorem d_L_guard_11 : decode method_8_code 11 = .ok (.lastore, 1) := by decide +kernel
theorem d_L_guard_12 : decode method_8_code 12 = .ok (.goto 7, 3) := by decide +kernel
theorem d_L_guard_15 : decode method_8_code 15 = .ok (.astore 5, 2) := by decide +kernel
theorem d_L_guard_17 : decode method_8_code 17 = .ok (.iconst 1, 1) := by decide +kernel
theorem d_L_guard_18 : decode method_8_code 18 = .ok (.ireturn, 1) := by decide +kernel
theorem d_L_guard_19 : decode method_8_code 19 = .ok (.iconst 0, 1) := by decide +kernel
theorem d_L_guard_20 : decode method_8_code 20 = .ok (.ireturn, 1) := by decide +kernel
theorem hp_guard_ok {l : Launch} {D : va_G} {ad : Nat → Nat} {ca : Nat → ClassId} {ao : Nat} {co : ClassId} {σ σ' : St} {v0 v1 v2 : Int} (ω : St) {h : Nat} (hh : h ≤ 16) {r : Int} (hr : r32 r) (hC : Cw l D cl7 (tyX ca) (wX ad ca) y_X_guard c_X_guard 4 (some .int) h (.ref (ad 100) :: [.int (zI v0), .int (zI v1), .int (zI v2)]) σ (RW (.int (zI r)) (σ' = ·))) : Ch l D (tyH ca co) (wH ad ca ao co) y_L_guard c_L_guard 6 [(0, 12, 15, 13)] 17 [.ref (ad 100), .int (zI v0), .int (zI v1), .int (zI v2), .ref ao] (σ, ω) (RW (.int (zI 0)) ((σ', up ω 0 0 r) = ·)) := by
  refine Ch.enter rfl (Nat.le_of_ble_eq_true rfl) ?_
  intro A p e s m below meth c hc hX ls hl hw
  have hx := hc.1
  have hb := hc.2.1
  refine lv_aload hx hb d_L_guard_0 (lv_at hl 4 rfl) ?_
  refine z_ic hx hb d_L_guard_2 ?_
  refine lv_aload_n hx hb d_L_guard_3 rfl (lv_at hl 0 rfl) ?_
  refine lv_iload_n hx hb d_L_guard_4 rfl (lv_at hl 1 rfl) ?_
  refine lv_iload_n hx hb d_L_guard_5 rfl (lv_at hl 2 rfl) ?_
  refine lv_iload_n hx hb d_L_guard_6 rfl (lv_at hl 3 rfl) ?_
  refine h_cv hc hw hC yw_X_guard yi_X_guard lk_L_35 d_L_guard_7 rfl rfl hl.1 (Nat.le_of_ble_eq_true rfl) ⟨by show _ ≤ 17; omega, by show _ ≤ 64 * 17; omega⟩ ⟨Nat.zero_le _, Nat.zero_le _⟩ (fun v τ H locs hp hw => ?_)
  obtain ⟨rfl, rfl⟩ := hp
  refine z_i2l hx hb d_L_guard_10 hr ?_
  refine stH hc hw d_L_guard_11 (fun H locs hw => ?_)
  refine lv_goto (tgt := 19) hx hb d_L_guard_12 (by decide) ?_
  refine z_ic hx hb d_L_guard_19 ?_
  exact W.widen (k := 1) (n := 6) (Nat.zero_le _) (Nat.zero_le _) (h_iret hc hw ⟨rfl, rfl⟩ d_L_guard_20)
theorem hp_guard_x1 {l : Launch} {D : va_G} {ad : Nat → Nat} {ca : Nat → ClassId} {ao : Nat} {co : ClassId} {σ σ' : St} {v0 v1 v2 : Int} (ω : St) {h : Nat} (hh : h ≤ 16) (hC : Ct l D cl7 (tyX ca) (wX ad ca) y_X_guard c_X_guard 4 (some .int) h (.ref (ad 100) :: [.int (zI v0), .int (zI v1), .int (zI v2)]) σ σ' xIOB) : Ch l D (tyH ca co) (wH ad ca ao co) y_L_guard c_L_guard 6 [(0, 12, 15, 13)] 17 [.ref (ad 100), .int (zI v0), .int (zI v1), .int (zI v2), .ref ao] (σ, ω) (RW (.int (zI 1)) ((σ', ω) = ·)) := by
  refine Ch.enter rfl (Nat.le_of_ble_eq_true rfl) ?_
  intro A p e s m below meth c hc hX ls hl hw
  have hx := hc.1
  have hb := hc.2.1
  refine lv_aload hx hb d_L_guard_0 (lv_at hl 4 rfl) ?_
  refine z_ic hx hb d_L_guard_2 ?_
  refine lv_aload_n hx hb d_L_guard_3 rfl (lv_at hl 0 rfl) ?_
  refine lv_iload_n hx hb d_L_guard_4 rfl (lv_at hl 1 rfl) ?_
  refine lv_iload_n hx hb d_L_guard_5 rfl (lv_at hl 2 rfl) ?_
  refine lv_iload_n hx hb d_L_guard_6 rfl (lv_at hl 3 rfl) ?_
  obtain ⟨x, ys, t0, t1, t2, t3, t4⟩ := tab_1 hX.2
  refine h_cvT0 hc hX.1 hw hC yw_X_guard yi_X_guard lk_L_35 d_L_guard_7 rfl rfl hl.1 (Nat.le_of_ble_eq_true rfl) ⟨by show _ ≤ 17; omega, by show _ ≤ 64 * 17; omega⟩ ⟨(Nat.le_of_ble_eq_true rfl), (Nat.le_of_ble_eq_true rfl)⟩ t0 (fun z hz => absurd hz List.not_mem_nil) (by simp [covers, t1, t2]) (by rw [t4]; decide) (by rw [t4]; exact hk_13) (va_tabs rfl rfl (hX.1.1 _ (by simp [xSpec]))) (fun q H locs hw => ?_)
  rw [t3]
  refine lv_astore hx hb d_L_guard_15 hl (by decide) rfl (fun ls hl => ?_)
  refine z_ic hx hb d_L_guard_17 ?_
  exact h_iret hc hw ⟨rfl, rfl⟩ d_L_guard_18
abbrev c_L_fail : ByteArray := method_9_code
abbrev y_L_fail : MethodName := ⟨"ProbeChoiceLaw", "fail", "(LProbeChoice;I[J)I"⟩
theorem yh_L_fail : Cond.codeWith y_L_fail c_L_fail 4 (some .int) [(0, 16, 19, 13)] ∈ lw_gd ∧ Cond.initialized "ProbeChoiceLaw" ∈ lw_gd ∧ Cond.static y_L_fail ∈ lw_gd := ⟨gd_at 596 (by decide +kernel) (by decide +kernel), gd_at 0 (by decide +kernel) (by decide +kernel), gd_at 595 (by decide +kernel) (by decide +kernel)⟩
theorem d_L_fail_0 : decode method_9_code 0 = .ok (.aload_n 2, 1) := by decide +kernel
theorem d_L_fail_1 : decode method_9_code 1 = .ok (.iconst 0, 1) := by decide +kernel
theorem d_L_fail_2 : decode method_9_code 2 = .ok (.aload_n 0, 1) := by decide +kernel
theorem d_L_fail_3 : decode method_9_code 3 = .ok (.iload_n 1, 1) := by decide +kernel
theorem d_L_fail_4 : decode method_9_code 4 = .ok (.invokevirtual 39, 3) := by decide +kernel
theorem d_L_fail_7 : decode method_9_code 7 = .ok (.ifCond .eq 7, 3) := by decide +kernel
theorem d_L_fail_10 : decode method_9_code 10 = .ok (.lconst 1, 1) := by decide +kernel
theorem d_L_fail_11 : decode method_9_code 11 = .ok (.goto 4, 3) := by decide +kernel
theorem d_L_fail_14 : decode method_9_code 14 = .ok (.lconst 0, 1) := by decide +kernel
theorem d_L_fail_15 : decode method_9_code 15 = .ok (.lastore, 1) := by decide +kernel
theorem d_L_fail_16 : decode method_9_code 16 = .ok (.goto 6, 3) := by decide +kernel
theorem d_L_fail_19 : decode method_9_code 19 = .ok (.astore_n 3, 1) := by decide +kernel
theorem d_L_fail_20 : decode method_9_code 20 = .ok (.iconst 1, 1) := by decide +kernel
theorem d_L_fail_21 : decode method_9_code 21 = .ok (.ireturn, 1) := by decide +kernel
theorem d_L_fail_22 : decode method_9_code 22 = .ok (.iconst 0, 1) := by decide +kernel
theorem d_L_fail_23 : decode method_9_code 23 = .ok (.ireturn, 1) := by decide +kernel
theorem hp_fail_ok {l : Launch} {D : va_G} {ad : Nat → Nat} {ca : Nat → ClassId} {ao : Nat} {co : ClassId} {σ σ' : St} {v0 : Int} (ω : St) {h : Nat} (hh : h ≤ 16) {r : Int} (hr : r = 0 ∨ r = 1) (hC : Cw l D cl7 (tyX ca) (wX ad ca) y_X_fail c_X_fail 4 (some .boolean) h (.ref (ad 100) :: [.int (zI v0)]) σ (RW (.int (zI r)) (σ' = ·))) : Ch l D (tyH ca co) (wH ad ca ao co) y_L_fail c_L_fail 4 [(0, 16, 19, 13)] 17 [.ref (ad 100), .int (zI v0), .ref ao] (σ, ω) (RW (.int (zI 0)) ((σ', up ω 0 0 r) = ·)) := by
  refine Ch.enter rfl (Nat.le_of_ble_eq_true rfl) ?_
  intro A p e s m below meth c hc hX ls hl hw
  have hx := hc.1
  have hb := hc.2.1
  refine lv_aload_n hx hb d_L_fail_0 rfl (lv_at hl 2 rfl) ?_
  refine z_ic hx hb d_L_fail_1 ?_
  refine lv_aload_n hx hb d_L_fail_2 rfl (lv_at hl 0 rfl) ?_
  refine lv_iload_n hx hb d_L_fail_3 rfl (lv_at hl 1 rfl) ?_
  refine h_cv hc hw hC yw_X_fail yi_X_fail lk_L_39 d_L_fail_4 rfl rfl hl.1 (Nat.le_of_ble_eq_true rfl) ⟨by show _ ≤ 17; omega, by show _ ≤ 64 * 17; omega⟩ ⟨Nat.zero_le _, Nat.zero_le _⟩ (fun v τ H locs hp hw => ?_)
  obtain ⟨rfl, rfl⟩ := hp
  refine z_if_eq hx hb 14 d_L_fail_7 (by rcases hr with rfl | rfl <;> decide) (by decide) (fun c0 => ?_) (fun c0 => ?_)
  · subst c0
    refine z_lc0 hx hb d_L_fail_14 ?_
    refine stH hc hw d_L_fail_15 (fun H locs hw => ?_)
    refine lv_goto (tgt := 22) hx hb d_L_fail_16 (by decide) ?_
    refine z_ic hx hb d_L_fail_22 ?_
    exact W.widen (k := 1) (n := 6) (Nat.zero_le _) (Nat.zero_le _) (h_iret hc hw ⟨rfl, rfl⟩ d_L_fail_23)
  · have e1 : r = 1 := by omega
    subst e1
    refine z_lc1 hx hb d_L_fail_10 ?_
    refine lv_goto (tgt := 15) hx hb d_L_fail_11 (by decide) ?_
    refine stH hc hw d_L_fail_15 (fun H locs hw => ?_)
    refine lv_goto (tgt := 22) hx hb d_L_fail_16 (by decide) ?_
    refine z_ic hx hb d_L_fail_22 ?_
    exact W.widen (k := 1) (n := 6) (Nat.zero_le _) (Nat.zero_le _) (h_iret hc hw ⟨rfl, rfl⟩ d_L_fail_23)
theorem hp_fail_x1 {l : Launch} {D : va_G} {ad : Nat → Nat} {ca : Nat → ClassId} {ao : Nat} {co : ClassId} {σ σ' : St} {v0 : Int} (ω : St) {h : Nat} (hh : h ≤ 16) (hC : Ct l D cl7 (tyX ca) (wX ad ca) y_X_fail c_X_fail 4 (some .boolean) h (.ref (ad 100) :: [.int (zI v0)]) σ σ' xIOB) : Ch l D (tyH ca co) (wH ad ca ao co) y_L_fail c_L_fail 4 [(0, 16, 19, 13)] 17 [.ref (ad 100), .int (zI v0), .ref ao] (σ, ω) (RW (.int (zI 1)) ((σ', ω) = ·)) := by
  refine Ch.enter rfl (Nat.le_of_ble_eq_true rfl) ?_
  intro A p e s m below meth c hc hX ls hl hw
  have hx := hc.1
  have hb := hc.2.1
  refine lv_aload_n hx hb d_L_fail_0 rfl (lv_at hl 2 rfl) ?_
  refine z_ic hx hb d_L_fail_1 ?_
  refine lv_aload_n hx hb d_L_fail_2 rfl (lv_at hl 0 rfl) ?_
  refine lv_iload_n hx hb d_L_fail_3 rfl (lv_at hl 1 rfl) ?_
  obtain ⟨x, ys, t0, t1, t2, t3, t4⟩ := tab_1 hX.2
  refine h_cvT0 hc hX.1 hw hC yw_X_fail yi_X_fail lk_L_39 d_L_fail_4 rfl rfl hl.1 (Nat.le_of_ble_eq_true rfl) ⟨by show _ ≤ 17; omega, by show _ ≤ 64 * 17; omega⟩ ⟨(Nat.le_of_ble_eq_true rfl), (Nat.le_of_ble_eq_true rfl)⟩ t0 (fun z hz => absurd hz List.not_mem_nil) (by simp [covers, t1, t2]) (by rw [t4]; decide) (by rw [t4]; exact hk_13) (va_tabs rfl rfl (hX.1.1 _ (by simp [xSpec]))) (fun q H locs hw => ?_)
  rw [t3]
  refine lv_astore_n hx hb d_L_fail_19 rfl hl (by decide) rfl (fun ls hl => ?_)
  refine z_ic hx hb d_L_fail_20 ?_
  exact h_iret hc hw ⟨rfl, rfl⟩ d_L_fail_21
abbrev c_L_suspect : ByteArray := method_10_code
abbrev y_L_suspect : MethodName := ⟨"ProbeChoiceLaw", "suspect", "(LProbeChoice;II[J)I"⟩
theorem yh_L_suspect : Cond.codeWith y_L_suspect c_L_suspect 5 (some .int) [(0, 10, 13, 13)] ∈ lw_gd ∧ Cond.initialized "ProbeChoiceLaw" ∈ lw_gd ∧ Cond.static y_L_suspect ∈ lw_gd := ⟨gd_at 608 (by decide +kernel) (by decide +kernel), gd_at 0 (by decide +kernel) (by decide +kernel), gd_at 607 (by decide +kernel) (by decide +kernel)⟩
theorem d_L_suspect_0 : decode method_10_code 0 = .ok (.aload_n 3, 1) := by decide +kernel
theorem d_L_suspect_1 : decode method_10_code 1 = .ok (.iconst 0, 1) := by decide +kernel
theorem d_L_suspect_2 : decode method_10_code 2 = .ok (.aload_n 0, 1) := by decide +kernel
theorem d_L_suspect_3 : decode method_10_code 3 = .ok (.iload_n 1, 1) := by decide +kernel
theorem d_L_suspect_4 : decode method_10_code 4 = .ok (.iload_n 2, 1) := by decide +kernel
theorem d_L_suspect_5 : decode method_10_code 5 = .ok (.invokevirtual 43, 3) := by decide +kernel
theorem d_L_suspect_8 : decode method_10_code 8 = .ok (.i2l, 1) := by decide +kernel
theorem d_L_suspect_9 : decode method_10_code 9 = .ok (.lastore, 1) := by decide +kernel
theorem d_L_suspect_10 : decode method_10_code 10 = .ok (.goto 7, 3) := by decide +kernel
theorem d_L_suspect_13 : decode method_10_code 13 = .ok (.astore 4, 2) := by decide +kernel
theorem d_L_suspect_15 : decode method_10_code 15 = .ok (.iconst 1, 1) := by decide +kernel
theorem d_L_suspect_16 : decode method_10_code 16 = .ok (.ireturn, 1) := by decide +kernel
theorem d_L_suspect_17 : decode method_10_code 17 = .ok (.iconst 0, 1) := by decide +kernel
theorem d_L_suspect_18 : decode method_10_code 18 = .ok (.ireturn, 1) := by decide +kernel
theorem hp_suspect_ok {l : Launch} {D : va_G} {ad : Nat → Nat} {ca : Nat → ClassId} {ao : Nat} {co : ClassId} {σ σ' : St} {v0 v1 : Int} (ω : St) {h : Nat} (hh : h ≤ 16) {r : Int} (hr : r32 r) (hC : Cw l D cl7 (tyX ca) (wX ad ca) y_X_suspect c_X_suspect 4 (some .int) h (.ref (ad 100) :: [.int (zI v0), .int (zI v1)]) σ (RW (.int (zI r)) (σ' = ·))) : Ch l D (tyH ca co) (wH ad ca ao co) y_L_suspect c_L_suspect 5 [(0, 10, 13, 13)] 17 [.ref (ad 100), .int (zI v0), .int (zI v1), .ref ao] (σ, ω) (RW (.int (zI 0)) ((σ', up ω 0 0 r) = ·)) := by
  refine Ch.enter rfl (Nat.le_of_ble_eq_true rfl) ?_
  intro A p e s m below meth c hc hX ls hl hw
  have hx := hc.1
  have hb := hc.2.1
  refine lv_aload_n hx hb d_L_suspect_0 rfl (lv_at hl 3 rfl) ?_
  refine z_ic hx hb d_L_suspect_1 ?_
  refine lv_aload_n hx hb d_L_suspect_2 rfl (lv_at hl 0 rfl) ?_
  refine lv_iload_n hx hb d_L_suspect_3 rfl (lv_at hl 1 rfl) ?_
  refine lv_iload_n hx hb d_L_suspect_4 rfl (lv_at hl 2 rfl) ?_
  refine h_cv hc hw hC yw_X_suspect yi_X_suspect lk_L_43 d_L_suspect_5 rfl rfl hl.1 (Nat.le_of_ble_eq_true rfl) ⟨by show _ ≤ 17; omega, by show _ ≤ 64 * 17; omega⟩ ⟨Nat.zero_le _, Nat.zero_le _⟩ (fun v τ H locs hp hw => ?_)
  obtain ⟨rfl, rfl⟩ := hp
  refine z_i2l hx hb d_L_suspect_8 hr ?_
  refine stH hc hw d_L_suspect_9 (fun H locs hw => ?_)
  refine lv_goto (tgt := 17) hx hb d_L_suspect_10 (by decide) ?_
  refine z_ic hx hb d_L_suspect_17 ?_
  exact W.widen (k := 1) (n := 6) (Nat.zero_le _) (Nat.zero_le _) (h_iret hc hw ⟨rfl, rfl⟩ d_L_suspect_18)
theorem hp_suspect_x1 {l : Launch} {D : va_G} {ad : Nat → Nat} {ca : Nat → ClassId} {ao : Nat} {co : ClassId} {σ σ' : St} {v0 v1 : Int} (ω : St) {h : Nat} (hh : h ≤ 16) (hC : Ct l D cl7 (tyX ca) (wX ad ca) y_X_suspect c_X_suspect 4 (some .int) h (.ref (ad 100) :: [.int (zI v0), .int (zI v1)]) σ σ' xIOB) : Ch l D (tyH ca co) (wH ad ca ao co) y_L_suspect c_L_suspect 5 [(0, 10, 13, 13)] 17 [.ref (ad 100), .int (zI v0), .int (zI v1), .ref ao] (σ, ω) (RW (.int (zI 1)) ((σ', ω) = ·)) := by
  refine Ch.enter rfl (Nat.le_of_ble_eq_true rfl) ?_
  intro A p e s m below meth c hc hX ls hl hw
  have hx := hc.1
  have hb := hc.2.1
  refine lv_aload_n hx hb d_L_suspect_0 rfl (lv_at hl 3 rfl) ?_
  refine z_ic hx hb d_L_suspect_1 ?_
  refine lv_aload_n hx hb d_L_suspect_2 rfl (lv_at hl 0 rfl) ?_
  refine lv_iload_n hx hb d_L_suspect_3 rfl (lv_at hl 1 rfl) ?_
  refine lv_iload_n hx hb d_L_suspect_4 rfl (lv_at hl 2 rfl) ?_
  obtain ⟨x, ys, t0, t1, t2, t3, t4⟩ := tab_1 hX.2
  refine h_cvT0 hc hX.1 hw hC yw_X_suspect yi_X_suspect lk_L_43 d_L_suspect_5 rfl rfl hl.1 (Nat.le_of_ble_eq_true rfl) ⟨by show _ ≤ 17; omega, by show _ ≤ 64 * 17; omega⟩ ⟨(Nat.le_of_ble_eq_true rfl), (Nat.le_of_ble_eq_true rfl)⟩ t0 (fun z hz => absurd hz List.not_mem_nil) (by simp [covers, t1, t2]) (by rw [t4]; decide) (by rw [t4]; exact hk_13) (va_tabs rfl rfl (hX.1.1 _ (by simp [xSpec]))) (fun q H locs hw => ?_)
  rw [t3]
  refine lv_astore hx hb d_L_suspect_13 hl (by decide) rfl (fun ls hl => ?_)
  refine z_ic hx hb d_L_suspect_15 ?_
  exact h_iret hc hw ⟨rfl, rfl⟩ d_L_suspect_16
abbrev c_L_faults : ByteArray := method_11_code
abbrev y_L_faults : MethodName := ⟨"ProbeChoiceLaw", "faults", "(LProbeChoice;I[J)I"⟩
theorem yh_L_faults : Cond.codeWith y_L_faults c_L_faults 4 (some .int) [(0, 9, 12, 13)] ∈ lw_gd ∧ Cond.initialized "ProbeChoiceLaw" ∈ lw_gd ∧ Cond.static y_L_faults ∈ lw_gd := ⟨gd_at 620 (by decide +kernel) (by decide +kernel), gd_at 0 (by decide +kernel) (by decide +kernel), gd_at 619 (by decide +kernel) (by decide +kernel)⟩
theorem d_L_faults_0 : decode method_11_code 0 = .ok (.aload_n 2, 1) := by decide +kernel
theorem d_L_faults_1 : decode method_11_code 1 = .ok (.iconst 0, 1) := by decide +kernel
theorem d_L_faults_2 : decode method_11_code 2 = .ok (.aload_n 0, 1) := by decide +kernel
theorem d_L_faults_3 : decode method_11_code 3 = .ok (.iload_n 1, 1) := by decide +kernel
theorem d_L_faults_4 : decode method_11_code 4 = .ok (.invokevirtual 47, 3) := by decide +kernel
theorem d_L_faults_7 : decode method_11_code 7 = .ok (.i2l, 1) := by decide +kernel
theorem d_L_faults_8 : decode method_11_code 8 = .ok (.lastore, 1) := by decide +kernel
theorem d_L_faults_9 : decode method_11_code 9 = .ok (.goto 6, 3) := by decide +kernel
theorem d_L_faults_12 : decode method_11_code 12 = .ok (.astore_n 3, 1) := by decide +kernel
theorem d_L_faults_13 : decode method_11_code 13 = .ok (.iconst 1, 1) := by decide +kernel
theorem d_L_faults_14 : decode method_11_code 14 = .ok (.ireturn, 1) := by decide +kernel
theorem d_L_faults_15 : decode method_11_code 15 = .ok (.iconst 0, 1) := by decide +kernel
theorem d_L_faults_16 : decode method_11_code 16 = .ok (.ireturn, 1) := by decide +kernel
theorem hp_faults_ok {l : Launch} {D : va_G} {ad : Nat → Nat} {ca : Nat → ClassId} {ao : Nat} {co : ClassId} {σ σ' : St} {v0 : Int} (ω : St) {h : Nat} (hh : h ≤ 16) {r : Int} (hr : r32 r) (hC : Cw l D cl7 (tyX ca) (wX ad ca) y_X_faults c_X_faults 2 (some .int) h (.ref (ad 100) :: [.int (zI v0)]) σ (RW (.int (zI r)) (σ' = ·))) : Ch l D (tyH ca co) (wH ad ca ao co) y_L_faults c_L_faults 4 [(0, 9, 12, 13)] 17 [.ref (ad 100), .int (zI v0), .ref ao] (σ, ω) (RW (.int (zI 0)) ((σ', up ω 0 0 r) = ·)) := by
  refine Ch.enter rfl (Nat.le_of_ble_eq_true rfl) ?_
  intro A p e s m below meth c hc hX ls hl hw
  have hx := hc.1
  have hb := hc.2.1
  refine lv_aload_n hx hb d_L_faults_0 rfl (lv_at hl 2 rfl) ?_
  refine z_ic hx hb d_L_faults_1 ?_
  refine lv_aload_n hx hb d_L_faults_2 rfl (lv_at hl 0 rfl) ?_
  refine lv_iload_n hx hb d_L_faults_3 rfl (lv_at hl 1 rfl) ?_
  refine h_cv hc hw hC yw_X_faults yi_X_faults lk_L_47 d_L_faults_4 rfl rfl hl.1 (Nat.le_of_ble_eq_true rfl) ⟨by show _ ≤ 17; omega, by show _ ≤ 64 * 17; omega⟩ ⟨Nat.zero_le _, Nat.zero_le _⟩ (fun v τ H locs hp hw => ?_)
  obtain ⟨rfl, rfl⟩ := hp
  refine z_i2l hx hb d_L_faults_7 hr ?_
  refine stH hc hw d_L_faults_8 (fun H locs hw => ?_)
  refine lv_goto (tgt := 15) hx hb d_L_faults_9 (by decide) ?_
  refine z_ic hx hb d_L_faults_15 ?_
  exact W.widen (k := 1) (n := 6) (Nat.zero_le _) (Nat.zero_le _) (h_iret hc hw ⟨rfl, rfl⟩ d_L_faults_16)
theorem hp_faults_x1 {l : Launch} {D : va_G} {ad : Nat → Nat} {ca : Nat → ClassId} {ao : Nat} {co : ClassId} {σ σ' : St} {v0 : Int} (ω : St) {h : Nat} (hh : h ≤ 16) (hC : Ct l D cl7 (tyX ca) (wX ad ca) y_X_faults c_X_faults 2 (some .int) h (.ref (ad 100) :: [.int (zI v0)]) σ σ' xIOB) : Ch l D (tyH ca co) (wH ad ca ao co) y_L_faults c_L_faults 4 [(0, 9, 12, 13)] 17 [.ref (ad 100), .int (zI v0), .ref ao] (σ, ω) (RW (.int (zI 1)) ((σ', ω) = ·)) := by
  refine Ch.enter rfl (Nat.le_of_ble_eq_true rfl) ?_
  intro A p e s m below meth c hc hX ls hl hw
  have hx := hc.1
  have hb := hc.2.1
  refine lv_aload_n hx hb d_L_faults_0 rfl (lv_at hl 2 rfl) ?_
  refine z_ic hx hb d_L_faults_1 ?_
  refine lv_aload_n hx hb d_L_faults_2 rfl (lv_at hl 0 rfl) ?_
  refine lv_iload_n hx hb d_L_faults_3 rfl (lv_at hl 1 rfl) ?_
  obtain ⟨x, ys, t0, t1, t2, t3, t4⟩ := tab_1 hX.2
  refine h_cvT0 hc hX.1 hw hC yw_X_faults yi_X_faults lk_L_47 d_L_faults_4 rfl rfl hl.1 (Nat.le_of_ble_eq_true rfl) ⟨by show _ ≤ 17; omega, by show _ ≤ 64 * 17; omega⟩ ⟨(Nat.le_of_ble_eq_true rfl), (Nat.le_of_ble_eq_true rfl)⟩ t0 (fun z hz => absurd hz List.not_mem_nil) (by simp [covers, t1, t2]) (by rw [t4]; decide) (by rw [t4]; exact hk_13) (va_tabs rfl rfl (hX.1.1 _ (by simp [xSpec]))) (fun q H locs hw => ?_)
  rw [t3]
  refine lv_astore_n hx hb d_L_faults_12 rfl hl (by decide) rfl (fun ls hl => ?_)
  refine z_ic hx hb d_L_faults_13 ?_
  exact h_iret hc hw ⟨rfl, rfl⟩ d_L_faults_14
abbrev c_L_force : ByteArray := method_12_code
abbrev y_L_force : MethodName := ⟨"ProbeChoiceLaw", "force", "(LProbeChoice;IJ[J)I"⟩
theorem yh_L_force : Cond.codeWith y_L_force c_L_force 6 (some .int) [(0, 18, 21, 13), (0, 18, 25, 15)] ∈ lw_gd ∧ Cond.initialized "ProbeChoiceLaw" ∈ lw_gd ∧ Cond.static y_L_force ∈ lw_gd := ⟨gd_at 627 (by decide +kernel) (by decide +kernel), gd_at 0 (by decide +kernel) (by decide +kernel), gd_at 626 (by decide +kernel) (by decide +kernel)⟩
theorem d_L_force_0 : decode method_12_code 0 = .ok (.aload 4, 2) := by decide +kernel
theorem d_L_force_2 : decode method_12_code 2 = .ok (.iconst 0, 1) := by decide +kernel
theorem d_L_force_3 : decode method_12_code 3 = .ok (.aload_n 0, 1) := by decide +kernel
theorem d_L_force_4 : decode method_12_code 4 = .ok (.iload_n 1, 1) := by decide +kernel
theorem d_L_force_5 : decode method_12_code 5 = .ok (.lload_n 2, 1) := by decide +kernel
theorem d_L_force_6 : decode method_12_code 6 = .ok (.invokevirtual 51, 3) := by decide +kernel
theorem d_L_force_9 : decode method_12_code 9 = .ok (.ifCond .eq 7, 3) := by decide +kernel
theorem d_L_force_12 : decode method_12_code 12 = .ok (.lconst 1, 1) := by decide +kernel
theorem d_L_force_13 : decode method_12_code 13 = .ok (.goto 4, 3) := by decide +kernel
theorem d_L_force_16 : decode method_12_code 16 = .ok (.lconst 0, 1) := by decide +kernel
theorem d_L_force_17 : decode method_12_code 17 = .ok (.lastore, 1) := by decide +kernel
theorem d_L_force_18 : decode method_12_code 18 = .ok (.goto 11, 3) := by decide +kernel
theorem d_L_force_21 : decode method_12_code 21 = .ok (.astore 5, 2) := by decide +kernel
theorem d_L_force_23 : decode method_12_code 23 = .ok (.iconst 1, 1) := by decide +kernel
theorem d_L_force_24 : decode method_12_code 24 = .ok (.ireturn, 1) := by decide +kernel
theorem d_L_force_25 : decode method_12_code 25 = .ok (.astore 5, 2) := by decide +kernel
theorem d_L_force_27 : decode method_12_code 27 = .ok (.iconst 2, 1) := by decide +kernel
theorem d_L_force_28 : decode method_12_code 28 = .ok (.ireturn, 1) := by decide +kernel
theorem d_L_force_29 : decode method_12_code 29 = .ok (.iconst 0, 1) := by decide +kernel
theorem d_L_force_30 : decode method_12_code 30 = .ok (.ireturn, 1) := by decide +kernel
theorem hp_force_ok {l : Launch} {D : va_G} {ad : Nat → Nat} {ca : Nat → ClassId} {ao : Nat} {co : ClassId} {σ σ' : St} {v0 v1 : Int} (ω : St) {h : Nat} (hh : h ≤ 16) {r : Int} (hr : r = 0 ∨ r = 1) (hC : Cw l D cl7 (tyX ca) (wX ad ca) y_X_force c_X_force 4 (some .boolean) h (.ref (ad 100) :: [.int (zI v0), .long (zL v1)]) σ (RW (.int (zI r)) (σ' = ·))) : Ch l D (tyH ca co) (wH ad ca ao co) y_L_force c_L_force 6 [(0, 18, 21, 13), (0, 18, 25, 15)] 17 [.ref (ad 100), .int (zI v0), .long (zL v1), .ref ao] (σ, ω) (RW (.int (zI 0)) ((σ', up ω 0 0 r) = ·)) := by
  refine Ch.enter rfl (Nat.le_of_ble_eq_true rfl) ?_
  intro A p e s m below meth c hc hX ls hl hw
  have hx := hc.1
  have hb := hc.2.1
  refine lv_aload hx hb d_L_force_0 (lv_at hl 3 rfl) ?_
  refine z_ic hx hb d_L_force_2 ?_
  refine lv_aload_n hx hb d_L_force_3 rfl (lv_at hl 0 rfl) ?_
  refine lv_iload_n hx hb d_L_force_4 rfl (lv_at hl 1 rfl) ?_
  refine lv_lload_n hx hb d_L_force_5 rfl (lv_at hl 2 rfl) ?_
  refine h_cv hc hw hC yw_X_force yi_X_force lk_L_51 d_L_force_6 rfl rfl hl.1 (Nat.le_of_ble_eq_true rfl) ⟨by show _ ≤ 17; omega, by show _ ≤ 64 * 17; omega⟩ ⟨Nat.zero_le _, Nat.zero_le _⟩ (fun v τ H locs hp hw => ?_)
  obtain ⟨rfl, rfl⟩ := hp
  refine z_if_eq hx hb 16 d_L_force_9 (by rcases hr with rfl | rfl <;> decide) (by decide) (fun c0 => ?_) (fun c0 => ?_)
  · subst c0
    refine z_lc0 hx hb d_L_force_16 ?_
    refine stH hc hw d_L_force_17 (fun H locs hw => ?_)
    refine lv_goto (tgt := 29) hx hb d_L_force_18 (by decide) ?_
    refine z_ic hx hb d_L_force_29 ?_
    exact W.widen (k := 1) (n := 6) (Nat.zero_le _) (Nat.zero_le _) (h_iret hc hw ⟨rfl, rfl⟩ d_L_force_30)
  · have e1 : r = 1 := by omega
    subst e1
    refine z_lc1 hx hb d_L_force_12 ?_
    refine lv_goto (tgt := 17) hx hb d_L_force_13 (by decide) ?_
    refine stH hc hw d_L_force_17 (fun H locs hw => ?_)
    refine lv_goto (tgt := 29) hx hb d_L_force_18 (by decide) ?_
    refine z_ic hx hb d_L_force_29 ?_
    exact W.widen (k := 1) (n := 6) (Nat.zero_le _) (Nat.zero_le _) (h_iret hc hw ⟨rfl, rfl⟩ d_L_force_30)
theorem hp_force_x1 {l : Launch} {D : va_G} {ad : Nat → Nat} {ca : Nat → ClassId} {ao : Nat} {co : ClassId} {σ σ' : St} {v0 v1 : Int} (ω : St) {h : Nat} (hh : h ≤ 16) (hC : Ct l D cl7 (tyX ca) (wX ad ca) y_X_force c_X_force 4 (some .boolean) h (.ref (ad 100) :: [.int (zI v0), .long (zL v1)]) σ σ' xIOB) : Ch l D (tyH ca co) (wH ad ca ao co) y_L_force c_L_force 6 [(0, 18, 21, 13), (0, 18, 25, 15)] 17 [.ref (ad 100), .int (zI v0), .long (zL v1), .ref ao] (σ, ω) (RW (.int (zI 1)) ((σ', ω) = ·)) := by
  refine Ch.enter rfl (Nat.le_of_ble_eq_true rfl) ?_
  intro A p e s m below meth c hc hX ls hl hw
  have hx := hc.1
  have hb := hc.2.1
  refine lv_aload hx hb d_L_force_0 (lv_at hl 3 rfl) ?_
  refine z_ic hx hb d_L_force_2 ?_
  refine lv_aload_n hx hb d_L_force_3 rfl (lv_at hl 0 rfl) ?_
  refine lv_iload_n hx hb d_L_force_4 rfl (lv_at hl 1 rfl) ?_
  refine lv_lload_n hx hb d_L_force_5 rfl (lv_at hl 2 rfl) ?_
  obtain ⟨x, ys, t0, t1, t2, t3, t4⟩ := tab_1 hX.2
  refine h_cvT0 hc hX.1 hw hC yw_X_force yi_X_force lk_L_51 d_L_force_6 rfl rfl hl.1 (Nat.le_of_ble_eq_true rfl) ⟨by show _ ≤ 17; omega, by show _ ≤ 64 * 17; omega⟩ ⟨(Nat.le_of_ble_eq_true rfl), (Nat.le_of_ble_eq_true rfl)⟩ t0 (fun z hz => absurd hz List.not_mem_nil) (by simp [covers, t1, t2]) (by rw [t4]; decide) (by rw [t4]; exact hk_13) (va_tabs rfl rfl (hX.1.1 _ (by simp [xSpec]))) (fun q H locs hw => ?_)
  rw [t3]
  refine lv_astore hx hb d_L_force_21 hl (by decide) rfl (fun ls hl => ?_)
  refine z_ic hx hb d_L_force_23 ?_
  exact h_iret hc hw ⟨rfl, rfl⟩ d_L_force_24
theorem hp_force_x2 {l : Launch} {D : va_G} {ad : Nat → Nat} {ca : Nat → ClassId} {ao : Nat} {co : ClassId} {σ σ' : St} {v0 v1 : Int} (ω : St) {h : Nat} (hh : h ≤ 16) (hC : Ct l D cl7 (tyX ca) (wX ad ca) y_X_force c_X_force 4 (some .boolean) h (.ref (ad 100) :: [.int (zI v0), .long (zL v1)]) σ σ' xIAE) : Ch l D (tyH ca co) (wH ad ca ao co) y_L_force c_L_force 6 [(0, 18, 21, 13), (0, 18, 25, 15)] 17 [.ref (ad 100), .int (zI v0), .long (zL v1), .ref ao] (σ, ω) (RW (.int (zI 2)) ((σ', ω) = ·)) := by
  refine Ch.enter rfl (Nat.le_of_ble_eq_true rfl) ?_
  intro A p e s m below meth c hc hX ls hl hw
  have hx := hc.1
  have hb := hc.2.1
  refine lv_aload hx hb d_L_force_0 (lv_at hl 3 rfl) ?_
  refine z_ic hx hb d_L_force_2 ?_
  refine lv_aload_n hx hb d_L_force_3 rfl (lv_at hl 0 rfl) ?_
  refine lv_iload_n hx hb d_L_force_4 rfl (lv_at hl 1 rfl) ?_
  refine lv_lload_n hx hb d_L_force_5 rfl (lv_at hl 2 rfl) ?_
  obtain ⟨z0, x, ys, t0, tz, t1, t2, t3, t4⟩ := tab_2 hX.2
  refine h_cvT0 hc hX.1 hw hC yw_X_force yi_X_force lk_L_51 d_L_force_6 rfl rfl hl.1 (Nat.le_of_ble_eq_true rfl) ⟨by show _ ≤ 17; omega, by show _ ≤ 64 * 17; omega⟩ ⟨(Nat.le_of_ble_eq_true rfl), (Nat.le_of_ble_eq_true rfl)⟩ t0 (fun z hz => by rw [List.mem_singleton.mp hz]; exact ⟨xIOB, by rw [tz]; decide, by rw [tz]; exact hk_13, notc (hX.1.2.1 _ (by simp [xNot]))⟩) (by simp [covers, t1, t2]) (by rw [t4]; decide) (by rw [t4]; exact hk_15) (va_tabs rfl rfl (hX.1.1 _ (by simp [xSpec]))) (fun q H locs hw => ?_)
  rw [t3]
  refine lv_astore hx hb d_L_force_25 hl (by decide) rfl (fun ls hl => ?_)
  refine z_ic hx hb d_L_force_27 ?_
  exact h_iret hc hw ⟨rfl, rfl⟩ d_L_force_28
abbrev c_L_text : ByteArray := method_13_code
abbrev y_L_text : MethodName := ⟨"ProbeChoiceLaw", "text", "(LProbeChoice;I[J)I"⟩
theorem yh_L_text : Cond.codeWith y_L_text c_L_text 4 (some .int) [(0, 9, 12, 13)] ∈ lw_gd ∧ Cond.initialized "ProbeChoiceLaw" ∈ lw_gd ∧ Cond.static y_L_text ∈ lw_gd := ⟨gd_at 644 (by decide +kernel) (by decide +kernel), gd_at 0 (by decide +kernel) (by decide +kernel), gd_at 643 (by decide +kernel) (by decide +kernel)⟩
theorem d_L_text_0 : decode method_13_code 0 = .ok (.aload_n 2, 1) := by decide +kernel
theorem d_L_text_1 : decode method_13_code 1 = .ok (.iconst 0, 1) := by decide +kernel
theorem d_L_text_2 : decode method_13_code 2 = .ok (.aload_n 0, 1) := by decide +kernel
theorem d_L_text_3 : decode method_13_code 3 = .ok (.iload_n 1, 1) := by decide +kernel
theorem d_L_text_4 : decode method_13_code 4 = .ok (.invokevirtual 55, 3) := by decide +kernel
theorem d_L_text_7 : decode method_13_code 7 = .ok (.i2l, 1) := by decide +kernel
theorem d_L_text_8 : decode method_13_code 8 = .ok (.lastore, 1) := by decide +kernel
theorem d_L_text_9 : decode method_13_code 9 = .ok (.goto 6, 3) := by decide +kernel
theorem d_L_text_12 : decode method_13_code 12 = .ok (.astore_n 3, 1) := by decide +kernel
theorem d_L_text_13 : decode method_13_code 13 = .ok (.iconst 1, 1) := by decide +kernel
theorem d_L_text_14 : decode method_13_code 14 = .ok (.ireturn, 1) := by decide +kernel
theorem d_L_text_15 : decode method_13_code 15 = .ok (.iconst 0, 1) := by decide +kernel
theorem d_L_text_16 : decode method_13_code 16 = .ok (.ireturn, 1) := by decide +kernel
theorem hp_text_ok {l : Launch} {D : va_G} {ad : Nat → Nat} {ca : Nat → ClassId} {ao : Nat} {co : ClassId} {σ σ' : St} {v0 : Int} (ω : St) {h : Nat} (hh : h ≤ 16) {r : Int} (hr : r32 r) (hC : Cw l D cl7 (tyX ca) (wX ad ca) y_X_text c_X_text 2 (some .int) h (.ref (ad 100) :: [.int (zI v0)]) σ (RW (.int (zI r)) (σ' = ·))) : Ch l D (tyH ca co) (wH ad ca ao co) y_L_text c_L_text 4 [(0, 9, 12, 13)] 17 [.ref (ad 100), .int (zI v0), .ref ao] (σ, ω) (RW (.int (zI 0)) ((σ', up ω 0 0 r) = ·)) := by
  refine Ch.enter rfl (Nat.le_of_ble_eq_true rfl) ?_
  intro A p e s m below meth c hc hX ls hl hw
  have hx := hc.1
  have hb := hc.2.1
  refine lv_aload_n hx hb d_L_text_0 rfl (lv_at hl 2 rfl) ?_
  refine z_ic hx hb d_L_text_1 ?_
  refine lv_aload_n hx hb d_L_text_2 rfl (lv_at hl 0 rfl) ?_
  refine lv_iload_n hx hb d_L_text_3 rfl (lv_at hl 1 rfl) ?_
  refine h_cv hc hw hC yw_X_text yi_X_text lk_L_55 d_L_text_4 rfl rfl hl.1 (Nat.le_of_ble_eq_true rfl) ⟨by show _ ≤ 17; omega, by show _ ≤ 64 * 17; omega⟩ ⟨Nat.zero_le _, Nat.zero_le _⟩ (fun v τ H locs hp hw => ?_)
  obtain ⟨rfl, rfl⟩ := hp
  refine z_i2l hx hb d_L_text_7 hr ?_
  refine stH hc hw d_L_text_8 (fun H locs hw => ?_)
  refine lv_goto (tgt := 15) hx hb d_L_text_9 (by decide) ?_
  refine z_ic hx hb d_L_text_15 ?_
  exact W.widen (k := 1) (n := 6) (Nat.zero_le _) (Nat.zero_le _) (h_iret hc hw ⟨rfl, rfl⟩ d_L_text_16)
theorem hp_text_x1 {l : Launch} {D : va_G} {ad : Nat → Nat} {ca : Nat → ClassId} {ao : Nat} {co : ClassId} {σ σ' : St} {v0 : Int} (ω : St) {h : Nat} (hh : h ≤ 16) (hC : Ct l D cl7 (tyX ca) (wX ad ca) y_X_text c_X_text 2 (some .int) h (.ref (ad 100) :: [.int (zI v0)]) σ σ' xIOB) : Ch l D (tyH ca co) (wH ad ca ao co) y_L_text c_L_text 4 [(0, 9, 12, 13)] 17 [.ref (ad 100), .int (zI v0), .ref ao] (σ, ω) (RW (.int (zI 1)) ((σ', ω) = ·)) := by
  refine Ch.enter rfl (Nat.le_of_ble_eq_true rfl) ?_
  intro A p e s m below meth c hc hX ls hl hw
  have hx := hc.1
  have hb := hc.2.1
  refine lv_aload_n hx hb d_L_text_0 rfl (lv_at hl 2 rfl) ?_
  refine z_ic hx hb d_L_text_1 ?_
  refine lv_aload_n hx hb d_L_text_2 rfl (lv_at hl 0 rfl) ?_
  refine lv_iload_n hx hb d_L_text_3 rfl (lv_at hl 1 rfl) ?_
  obtain ⟨x, ys, t0, t1, t2, t3, t4⟩ := tab_1 hX.2
  refine h_cvT0 hc hX.1 hw hC yw_X_text yi_X_text lk_L_55 d_L_text_4 rfl rfl hl.1 (Nat.le_of_ble_eq_true rfl) ⟨by show _ ≤ 17; omega, by show _ ≤ 64 * 17; omega⟩ ⟨(Nat.le_of_ble_eq_true rfl), (Nat.le_of_ble_eq_true rfl)⟩ t0 (fun z hz => absurd hz List.not_mem_nil) (by simp [covers, t1, t2]) (by rw [t4]; decide) (by rw [t4]; exact hk_13) (va_tabs rfl rfl (hX.1.1 _ (by simp [xSpec]))) (fun q H locs hw => ?_)
  rw [t3]
  refine lv_astore_n hx hb d_L_text_12 rfl hl (by decide) rfl (fun ls hl => ?_)
  refine z_ic hx hb d_L_text_13 ?_
  exact h_iret hc hw ⟨rfl, rfl⟩ d_L_text_14
