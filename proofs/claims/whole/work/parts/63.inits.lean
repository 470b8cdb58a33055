/-! constructors of the class, its parts and the reference. Written by wip/whole/gen/m_init.py -/
def z0 : St := fun _ _ => 0
theorem ac_boolean : Cond.arrayClass .boolean ∈ lw_gd := gd_at 71 (by decide +kernel) (by decide +kernel)
theorem ac_int : Cond.arrayClass .int ∈ lw_gd := gd_at 72 (by decide +kernel) (by decide +kernel)
theorem ac_long : Cond.arrayClass .long ∈ lw_gd := gd_at 73 (by decide +kernel) (by decide +kernel)
theorem ac_char : Cond.arrayClass .char ∈ lw_gd := gd_at 156 (by decide +kernel) (by decide +kernel)
theorem oi_inst : Cond.instanceMethod objectInit ∈ lw_gd := gd_at 24 (by decide +kernel) (by decide +kernel)
theorem oi_code : Cond.code objectInit ⟨#[0xb1]⟩ 1 none ∈ lw_gd := gd_at 25 (by decide +kernel) (by decide +kernel)
theorem oi_B : Cond.methodLink "ProbeChoice$Board" 3 objectInit ∈ lw_gd := gd_at 31 (by decide +kernel) (by decide +kernel)
theorem oi_F : Cond.methodLink "ProbeChoice$Fixture" 3 objectInit ∈ lw_gd := gd_at 116 (by decide +kernel) (by decide +kernel)
theorem oi_P : Cond.methodLink "ProbeChoice$Parts" 3 objectInit ∈ lw_gd := gd_at 162 (by decide +kernel) (by decide +kernel)
theorem oi_R : Cond.methodLink "ProbeChoice$Rows" 3 objectInit ∈ lw_gd := gd_at 183 (by decide +kernel) (by decide +kernel)
theorem oi_S : Cond.methodLink "ProbeChoice$Search" 3 objectInit ∈ lw_gd := gd_at 79 (by decide +kernel) (by decide +kernel)
theorem oi_X : Cond.methodLink "ProbeChoice" 3 objectInit ∈ lw_gd := gd_at 23 (by decide +kernel) (by decide +kernel)
theorem oi_M : Cond.methodLink "ProbeChoiceModel" 1 objectInit ∈ lw_gd := gd_at 659 (by decide +kernel) (by decide +kernel)
theorem ii_B : Cond.instanceMethod y_B_init ∈ lw_gd := gd_at 29 (by decide +kernel) (by decide +kernel)
theorem ii_F : Cond.instanceMethod y_F_init ∈ lw_gd := gd_at 114 (by decide +kernel) (by decide +kernel)
theorem ii_P : Cond.instanceMethod y_P_init ∈ lw_gd := gd_at 160 (by decide +kernel) (by decide +kernel)
theorem ii_R : Cond.instanceMethod y_R_init ∈ lw_gd := gd_at 181 (by decide +kernel) (by decide +kernel)
theorem ii_S : Cond.instanceMethod y_S_init ∈ lw_gd := gd_at 77 (by decide +kernel) (by decide +kernel)
theorem ii_X : Cond.instanceMethod y_X_init ∈ lw_gd := gd_at 21 (by decide +kernel) (by decide +kernel)
theorem ii_M : Cond.instanceMethod y_M_init ∈ lw_gd := gd_at 657 (by decide +kernel) (by decide +kernel)
theorem cl_P_18 : Cond.classLink "ProbeChoice$Parts" 18 "[[J" ∈ lw_gd := gd_at 163 (by decide +kernel) (by decide +kernel)
abbrev fs0_B : List Value := [.null, .null, .null, .null, .null, .null, .null, .int (zI 0), .int (zI 0), .long (zL 0)]
theorem fs0_B_ok : ∀ j, j < 10 → defaultValue (t_B j) = vp_V fs0_B j := by
  intro j hj
  match j, hj with
  | 0, _ => rfl
  | 1, _ => rfl
  | 2, _ => rfl
  | 3, _ => rfl
  | 4, _ => rfl
  | 5, _ => rfl
  | 6, _ => rfl
  | 7, _ => rfl
  | 8, _ => rfl
  | 9, _ => rfl
abbrev fs0_F : List Value := [.null, .null, .null, .null, .null, .int (zI 0), .int (zI 0), .int (zI 0), .long (zL 0), .int (zI 0)]
theorem fs0_F_ok : ∀ j, j < 10 → defaultValue (t_F j) = vp_V fs0_F j := by
  intro j hj
  match j, hj with
  | 0, _ => rfl
  | 1, _ => rfl
  | 2, _ => rfl
  | 3, _ => rfl
  | 4, _ => rfl
  | 5, _ => rfl
  | 6, _ => rfl
  | 7, _ => rfl
  | 8, _ => rfl
  | 9, _ => rfl
abbrev fs0_P : List Value := [.null, .null, .null, .null]
theorem fs0_P_ok : ∀ j, j < 4 → defaultValue (t_P j) = vp_V fs0_P j := by
  intro j hj
  match j, hj with
  | 0, _ => rfl
  | 1, _ => rfl
  | 2, _ => rfl
  | 3, _ => rfl
abbrev fs0_R : List Value := [.null, .int (zI 0), .int (zI 0), .int (zI 0)]
theorem fs0_R_ok : ∀ j, j < 4 → defaultValue (t_R j) = vp_V fs0_R j := by
  intro j hj
  match j, hj with
  | 0, _ => rfl
  | 1, _ => rfl
  | 2, _ => rfl
  | 3, _ => rfl
abbrev fs0_S : List Value := [.null, .null, .null, .null, .null, .null, .null, .int (zI 0), .long (zL 0)]
theorem fs0_S_ok : ∀ j, j < 9 → defaultValue (t_S j) = vp_V fs0_S j := by
  intro j hj
  match j, hj with
  | 0, _ => rfl
  | 1, _ => rfl
  | 2, _ => rfl
  | 3, _ => rfl
  | 4, _ => rfl
  | 5, _ => rfl
  | 6, _ => rfl
  | 7, _ => rfl
  | 8, _ => rfl
abbrev fs0_X : List Value := [.null, .null, .null, .null, .null]
theorem fs0_X_ok : ∀ j, j < 5 → defaultValue (t_X j) = vp_V fs0_X j := by
  intro j hj
  match j, hj with
  | 0, _ => rfl
  | 1, _ => rfl
  | 2, _ => rfl
  | 3, _ => rfl
  | 4, _ => rfl
abbrev fs0_M : List Value := [.int (zI 0), .int (zI 0), .null, .null, .null, .int (zI 0), .null, .null, .null, .null, .long (zL 0), .int (zI 0), .int (zI 0), .null, .null, .null, .int (zI 0), .int (zI 0), .null, .null, .null, .null, .null, .null, .int (zI 0), .long (zL 0)]
theorem fs0_M_ok : ∀ j, j < 26 → defaultValue (t_M j) = vp_V fs0_M j := by
  intro j hj
  match j, hj with
  | 0, _ => rfl
  | 1, _ => rfl
  | 2, _ => rfl
  | 3, _ => rfl
  | 4, _ => rfl
  | 5, _ => rfl
  | 6, _ => rfl
  | 7, _ => rfl
  | 8, _ => rfl
  | 9, _ => rfl
  | 10, _ => rfl
  | 11, _ => rfl
  | 12, _ => rfl
  | 13, _ => rfl
  | 14, _ => rfl
  | 15, _ => rfl
  | 16, _ => rfl
  | 17, _ => rfl
  | 18, _ => rfl
  | 19, _ => rfl
  | 20, _ => rfl
  | 21, _ => rfl
  | 22, _ => rfl
  | 23, _ => rfl
  | 24, _ => rfl
  | 25, _ => rfl
  | n + 26, h => exact absurd h (by omega)
def Wn_B (b : Nat) (w : va_W) (tys : List (ClassId × FieldType)) : Prop := ∃ (q0 q1 q2 q3 q4 q5 q6 : Nat) (a0 a1 a2 a3 a4 a5 a6 : ClassId), w = [(b, .inr (0, [.ref q0, .ref q1, .ref q2, .ref q3, .ref q4, .ref q5, .ref q6, .int (zI 0), .int (zI 0), .long (zL 0)])), (q0, .inl (a0, 12, .inl (fun _ => zI 0))), (q1, .inl (a1, 12, .inl (fun _ => zI 0))), (q2, .inl (a2, 36, .inl (fun _ => zI 0))), (q3, .inl (a3, 36, .inr (.inl (fun _ => zL 0)))), (q4, .inl (a4, 36, .inr (.inl (fun _ => zL 0)))), (q5, .inl (a5, 36, .inr (.inl (fun _ => zL 0)))), (q6, .inl (a6, 36, .inr (.inl (fun _ => zL 0))))] ∧ tys = [(a0, .boolean), (a1, .int), (a2, .int), (a3, .long), (a4, .long), (a5, .long), (a6, .long)]
theorem n_B_init {l : Launch} {D : va_G} (b sz : Nat) : Cn l D y_B_init c_B_init 2 7 204 b 0 fs0_B (Wn_B b) sz := by
  refine Cn.enter rfl rfl ?_
  intro p e s m below meth c hc ls hl hw
  obtain ⟨hx, hb, hml, hown, hTB, hTN, hin, hr, hlk⟩ := id hc
  refine lv_aload_n hx hb d_B_init_0 rfl (lv_at hl 0 rfl) ?_
  refine W.objInit hx hb hown (hTB.hts _ _ oi_B) (hTB.hts _ _ oi_inst) (hTB.hts _ _ oi_code) rfl (by rw [hml]; exact hl.1) rfl d_B_init_1 (Nat.le_of_ble_eq_true rfl) (Nat.le_of_ble_eq_true rfl) ?_
  refine W.eq (g2 := F0 m 4 ls []) rfl ?_
  refine lv_aload_n hx hb d_B_init_4 rfl (lv_at hl 0 rfl) ?_
  refine z_bi hx hb d_B_init_5 (by decide) ?_
  refine n_newI (nL := 0) (atype := .boolean) (ty := .boolean) (N' := 12) hx hb hTB hw ac_boolean rfl 0 rfl (by decide) (by decide +kernel) (by decide) ⟨(Nat.le_of_ble_eq_true rfl), (Nat.le_of_ble_eq_true rfl)⟩ d_B_init_7 (fun q0 a0 H hw => ?_)
  refine va_putF (D := D) (ci := 0) (C := R_B) (T := T_B) (N := 10) (ty := .array .boolean) hx hb (hTB.hts _) in_B t_B t_B_ok n_B hown hw.1 hw.2.1 hw.2.2.1 hw.2.2.2.1 0 rfl rfl 0 (by decide) (hTB.hts _ _ lk_B_9) (fun _ h => h) rfl hin rfl (by decide +kernel) rfl rfl (Nat.le_of_ble_eq_true rfl) d_B_init_9 (fun H locs hP hD hS => ?_)
  replace hw : Wl D (Ab b sz) s.heap s [(a0, .boolean)] [(b, .inr (0, [.ref q0, .null, .null, .null, .null, .null, .null, .int (zI 0), .int (zI 0), .long (zL 0)])), (q0, .inl (a0, 12, .inl (fun _ => zI 0)))] H locs := ⟨hw.1, hP, hD, hS, hw.2.2.2.2⟩
  refine lv_aload_n hx hb d_B_init_12 rfl (lv_at hl 0 rfl) ?_
  refine z_bi hx hb d_B_init_13 (by decide) ?_
  refine n_newI (nL := 0) (atype := .int) (ty := .int) (N' := 12) hx hb hTB hw ac_int rfl 0 rfl (by decide) (by decide +kernel) (by decide) ⟨(Nat.le_of_ble_eq_true rfl), (Nat.le_of_ble_eq_true rfl)⟩ d_B_init_15 (fun q1 a1 H hw => ?_)
  refine va_putF (D := D) (ci := 0) (C := R_B) (T := T_B) (N := 10) (ty := .array .int) hx hb (hTB.hts _) in_B t_B t_B_ok n_B hown hw.1 hw.2.1 hw.2.2.1 hw.2.2.2.1 0 rfl rfl 1 (by decide) (hTB.hts _ _ lk_B_15) (fun _ h => h) rfl hin rfl (by decide +kernel) rfl rfl (Nat.le_of_ble_eq_true rfl) d_B_init_17 (fun H locs hP hD hS => ?_)
  replace hw : Wl D (Ab b sz) s.heap s [(a0, .boolean), (a1, .int)] [(b, .inr (0, [.ref q0, .ref q1, .null, .null, .null, .null, .null, .int (zI 0), .int (zI 0), .long (zL 0)])), (q0, .inl (a0, 12, .inl (fun _ => zI 0))), (q1, .inl (a1, 12, .inl (fun _ => zI 0)))] H locs := ⟨hw.1, hP, hD, hS, hw.2.2.2.2⟩
  refine lv_aload_n hx hb d_B_init_20 rfl (lv_at hl 0 rfl) ?_
  refine z_bi hx hb d_B_init_21 (by decide) ?_
  refine n_newI (nL := 0) (atype := .int) (ty := .int) (N' := 36) hx hb hTB hw ac_int rfl 0 rfl (by decide) (by decide +kernel) (by decide) ⟨(Nat.le_of_ble_eq_true rfl), (Nat.le_of_ble_eq_true rfl)⟩ d_B_init_23 (fun q2 a2 H hw => ?_)
  refine va_putF (D := D) (ci := 0) (C := R_B) (T := T_B) (N := 10) (ty := .array .int) hx hb (hTB.hts _) in_B t_B t_B_ok n_B hown hw.1 hw.2.1 hw.2.2.1 hw.2.2.2.1 0 rfl rfl 2 (by decide) (hTB.hts _ _ lk_B_19) (fun _ h => h) rfl hin rfl (by decide +kernel) rfl rfl (Nat.le_of_ble_eq_true rfl) d_B_init_25 (fun H locs hP hD hS => ?_)
  replace hw : Wl D (Ab b sz) s.heap s [(a0, .boolean), (a1, .int), (a2, .int)] [(b, .inr (0, [.ref q0, .ref q1, .ref q2, .null, .null, .null, .null, .int (zI 0), .int (zI 0), .long (zL 0)])), (q0, .inl (a0, 12, .inl (fun _ => zI 0))), (q1, .inl (a1, 12, .inl (fun _ => zI 0))), (q2, .inl (a2, 36, .inl (fun _ => zI 0)))] H locs := ⟨hw.1, hP, hD, hS, hw.2.2.2.2⟩
  refine lv_aload_n hx hb d_B_init_28 rfl (lv_at hl 0 rfl) ?_
  refine z_bi hx hb d_B_init_29 (by decide) ?_
  refine n_newL (nL := 0) (N' := 36) hx hb hTB hw ac_long (by decide) (by decide +kernel) (by decide) ⟨(Nat.le_of_ble_eq_true rfl), (Nat.le_of_ble_eq_true rfl)⟩ d_B_init_31 (fun q3 a3 H hw => ?_)
  refine va_putF (D := D) (ci := 0) (C := R_B) (T := T_B) (N := 10) (ty := .array .long) hx hb (hTB.hts _) in_B t_B t_B_ok n_B hown hw.1 hw.2.1 hw.2.2.1 hw.2.2.2.1 0 rfl rfl 3 (by decide) (hTB.hts _ _ lk_B_22) (fun _ h => h) rfl hin rfl (by decide +kernel) rfl rfl (Nat.le_of_ble_eq_true rfl) d_B_init_33 (fun H locs hP hD hS => ?_)
  replace hw : Wl D (Ab b sz) s.heap s [(a0, .boolean), (a1, .int), (a2, .int), (a3, .long)] [(b, .inr (0, [.ref q0, .ref q1, .ref q2, .ref q3, .null, .null, .null, .int (zI 0), .int (zI 0), .long (zL 0)])), (q0, .inl (a0, 12, .inl (fun _ => zI 0))), (q1, .inl (a1, 12, .inl (fun _ => zI 0))), (q2, .inl (a2, 36, .inl (fun _ => zI 0))), (q3, .inl (a3, 36, .inr (.inl (fun _ => zL 0))))] H locs := ⟨hw.1, hP, hD, hS, hw.2.2.2.2⟩
  refine lv_aload_n hx hb d_B_init_36 rfl (lv_at hl 0 rfl) ?_
  refine z_bi hx hb d_B_init_37 (by decide) ?_
  refine n_newL (nL := 0) (N' := 36) hx hb hTB hw ac_long (by decide) (by decide +kernel) (by decide) ⟨(Nat.le_of_ble_eq_true rfl), (Nat.le_of_ble_eq_true rfl)⟩ d_B_init_39 (fun q4 a4 H hw => ?_)
  refine va_putF (D := D) (ci := 0) (C := R_B) (T := T_B) (N := 10) (ty := .array .long) hx hb (hTB.hts _) in_B t_B t_B_ok n_B hown hw.1 hw.2.1 hw.2.2.1 hw.2.2.2.1 0 rfl rfl 4 (by decide) (hTB.hts _ _ lk_B_26) (fun _ h => h) rfl hin rfl (by decide +kernel) rfl rfl (Nat.le_of_ble_eq_true rfl) d_B_init_41 (fun H locs hP hD hS => ?_)
  replace hw : Wl D (Ab b sz) s.heap s [(a0, .boolean), (a1, .int), (a2, .int), (a3, .long), (a4, .long)] [(b, .inr (0, [.ref q0, .ref q1, .ref q2, .ref q3, .ref q4, .null, .null, .int (zI 0), .int (zI 0), .long (zL 0)])), (q0, .inl (a0, 12, .inl (fun _ => zI 0))), (q1, .inl (a1, 12, .inl (fun _ => zI 0))), (q2, .inl (a2, 36, .inl (fun _ => zI 0))), (q3, .inl (a3, 36, .inr (.inl (fun _ => zL 0)))), (q4, .inl (a4, 36, .inr (.inl (fun _ => zL 0))))] H locs := ⟨hw.1, hP, hD, hS, hw.2.2.2.2⟩
  refine lv_aload_n hx hb d_B_init_44 rfl (lv_at hl 0 rfl) ?_
  refine z_bi hx hb d_B_init_45 (by decide) ?_
  refine n_newL (nL := 0) (N' := 36) hx hb hTB hw ac_long (by decide) (by decide +kernel) (by decide) ⟨(Nat.le_of_ble_eq_true rfl), (Nat.le_of_ble_eq_true rfl)⟩ d_B_init_47 (fun q5 a5 H hw => ?_)
  refine va_putF (D := D) (ci := 0) (C := R_B) (T := T_B) (N := 10) (ty := .array .long) hx hb (hTB.hts _) in_B t_B t_B_ok n_B hown hw.1 hw.2.1 hw.2.2.1 hw.2.2.2.1 0 rfl rfl 5 (by decide) (hTB.hts _ _ lk_B_29) (fun _ h => h) rfl hin rfl (by decide +kernel) rfl rfl (Nat.le_of_ble_eq_true rfl) d_B_init_49 (fun H locs hP hD hS => ?_)
  replace hw : Wl D (Ab b sz) s.heap s [(a0, .boolean), (a1, .int), (a2, .int), (a3, .long), (a4, .long), (a5, .long)] [(b, .inr (0, [.ref q0, .ref q1, .ref q2, .ref q3, .ref q4, .ref q5, .null, .int (zI 0), .int (zI 0), .long (zL 0)])), (q0, .inl (a0, 12, .inl (fun _ => zI 0))), (q1, .inl (a1, 12, .inl (fun _ => zI 0))), (q2, .inl (a2, 36, .inl (fun _ => zI 0))), (q3, .inl (a3, 36, .inr (.inl (fun _ => zL 0)))), (q4, .inl (a4, 36, .inr (.inl (fun _ => zL 0)))), (q5, .inl (a5, 36, .inr (.inl (fun _ => zL 0))))] H locs := ⟨hw.1, hP, hD, hS, hw.2.2.2.2⟩
  refine lv_aload_n hx hb d_B_init_52 rfl (lv_at hl 0 rfl) ?_
  refine z_bi hx hb d_B_init_53 (by decide) ?_
  refine n_newL (nL := 0) (N' := 36) hx hb hTB hw ac_long (by decide) (by decide +kernel) (by decide) ⟨(Nat.le_of_ble_eq_true rfl), (Nat.le_of_ble_eq_true rfl)⟩ d_B_init_55 (fun q6 a6 H hw => ?_)
  refine va_putF (D := D) (ci := 0) (C := R_B) (T := T_B) (N := 10) (ty := .array .long) hx hb (hTB.hts _) in_B t_B t_B_ok n_B hown hw.1 hw.2.1 hw.2.2.1 hw.2.2.2.1 0 rfl rfl 6 (by decide) (hTB.hts _ _ lk_B_32) (fun _ h => h) rfl hin rfl (by decide +kernel) rfl rfl (Nat.le_of_ble_eq_true rfl) d_B_init_57 (fun H locs hP hD hS => ?_)
  replace hw : Wl D (Ab b sz) s.heap s [(a0, .boolean), (a1, .int), (a2, .int), (a3, .long), (a4, .long), (a5, .long), (a6, .long)] [(b, .inr (0, [.ref q0, .ref q1, .ref q2, .ref q3, .ref q4, .ref q5, .ref q6, .int (zI 0), .int (zI 0), .long (zL 0)])), (q0, .inl (a0, 12, .inl (fun _ => zI 0))), (q1, .inl (a1, 12, .inl (fun _ => zI 0))), (q2, .inl (a2, 36, .inl (fun _ => zI 0))), (q3, .inl (a3, 36, .inr (.inl (fun _ => zL 0)))), (q4, .inl (a4, 36, .inr (.inl (fun _ => zL 0)))), (q5, .inl (a5, 36, .inr (.inl (fun _ => zL 0)))), (q6, .inl (a6, 36, .inr (.inl (fun _ => zL 0))))] H locs := ⟨hw.1, hP, hD, hS, hw.2.2.2.2⟩
  exact n_ret hc hw ⟨_, _, _, _, _, _, _, _, _, _, _, _, _, _, rfl, rfl⟩ ⟨rfl, rfl⟩ d_B_init_60
def Wn_S (b : Nat) (w : va_W) (tys : List (ClassId × FieldType)) : Prop := ∃ (q0 q1 q2 q3 q4 q5 q6 : Nat) (a0 a1 a2 a3 a4 a5 a6 : ClassId), w = [(b, .inr (4, [.ref q0, .ref q1, .ref q2, .ref q3, .ref q4, .ref q5, .ref q6, .int (zI 0), .long (zL 0)])), (q0, .inl (a0, 8, .inl (fun _ => zI 0))), (q1, .inl (a1, 8, .inl (fun _ => zI 0))), (q2, .inl (a2, 24, .inl (fun _ => zI 0))), (q3, .inl (a3, 24, .inr (.inl (fun _ => zL 0)))), (q4, .inl (a4, 24, .inl (fun _ => zI 0))), (q5, .inl (a5, 8, .inl (fun _ => zI 0))), (q6, .inl (a6, 8, .inl (fun _ => zI 0)))] ∧ tys = [(a0, .int), (a1, .int), (a2, .int), (a3, .long), (a4, .int), (a5, .int), (a6, .int)]
theorem n_S_init {l : Launch} {D : va_G} (b sz : Nat) : Cn l D y_S_init c_S_init 2 7 104 b 4 fs0_S (Wn_S b) sz := by
  refine Cn.enter rfl rfl ?_
  intro p e s m below meth c hc ls hl hw
  obtain ⟨hx, hb, hml, hown, hTB, hTN, hin, hr, hlk⟩ := id hc
  refine lv_aload_n hx hb d_S_init_0 rfl (lv_at hl 0 rfl) ?_
  refine W.objInit hx hb hown (hTB.hts _ _ oi_S) (hTB.hts _ _ oi_inst) (hTB.hts _ _ oi_code) rfl (by rw [hml]; exact hl.1) rfl d_S_init_1 (Nat.le_of_ble_eq_true rfl) (Nat.le_of_ble_eq_true rfl) ?_
  refine W.eq (g2 := F0 m 4 ls []) rfl ?_
  refine lv_aload_n hx hb d_S_init_4 rfl (lv_at hl 0 rfl) ?_
  refine z_bi hx hb d_S_init_5 (by decide) ?_
  refine n_newI (nL := 0) (atype := .int) (ty := .int) (N' := 8) hx hb hTB hw ac_int rfl 0 rfl (by decide) (by decide +kernel) (by decide) ⟨(Nat.le_of_ble_eq_true rfl), (Nat.le_of_ble_eq_true rfl)⟩ d_S_init_7 (fun q0 a0 H hw => ?_)
  refine va_putF (D := D) (ci := 4) (C := R_S) (T := T_S) (N := 9) (ty := .array .int) hx hb (hTB.hts _) in_S t_S t_S_ok n_S hown hw.1 hw.2.1 hw.2.2.1 hw.2.2.2.1 0 rfl rfl 0 (by decide) (hTB.hts _ _ lk_S_9) (fun _ h => h) rfl hin rfl (by decide +kernel) rfl rfl (Nat.le_of_ble_eq_true rfl) d_S_init_9 (fun H locs hP hD hS => ?_)
  replace hw : Wl D (Ab b sz) s.heap s [(a0, .int)] [(b, .inr (4, [.ref q0, .null, .null, .null, .null, .null, .null, .int (zI 0), .long (zL 0)])), (q0, .inl (a0, 8, .inl (fun _ => zI 0)))] H locs := ⟨hw.1, hP, hD, hS, hw.2.2.2.2⟩
  refine lv_aload_n hx hb d_S_init_12 rfl (lv_at hl 0 rfl) ?_
  refine z_bi hx hb d_S_init_13 (by decide) ?_
  refine n_newI (nL := 0) (atype := .int) (ty := .int) (N' := 8) hx hb hTB hw ac_int rfl 0 rfl (by decide) (by decide +kernel) (by decide) ⟨(Nat.le_of_ble_eq_true rfl), (Nat.le_of_ble_eq_true rfl)⟩ d_S_init_15 (fun q1 a1 H hw => ?_)
  refine va_putF (D := D) (ci := 4) (C := R_S) (T := T_S) (N := 9) (ty := .array .int) hx hb (hTB.hts _) in_S t_S t_S_ok n_S hown hw.1 hw.2.1 hw.2.2.1 hw.2.2.2.1 0 rfl rfl 1 (by decide) (hTB.hts _ _ lk_S_15) (fun _ h => h) rfl hin rfl (by decide +kernel) rfl rfl (Nat.le_of_ble_eq_true rfl) d_S_init_17 (fun H locs hP hD hS => ?_)
  replace hw : Wl D (Ab b sz) s.heap s [(a0, .int), (a1, .int)] [(b, .inr (4, [.ref q0, .ref q1, .null, .null, .null, .null, .null, .int (zI 0), .long (zL 0)])), (q0, .inl (a0, 8, .inl (fun _ => zI 0))), (q1, .inl (a1, 8, .inl (fun _ => zI 0)))] H locs := ⟨hw.1, hP, hD, hS, hw.2.2.2.2⟩
  refine lv_aload_n hx hb d_S_init_20 rfl (lv_at hl 0 rfl) ?_
  refine z_bi hx hb d_S_init_21 (by decide) ?_
  refine n_newI (nL := 0) (atype := .int) (ty := .int) (N' := 24) hx hb hTB hw ac_int rfl 0 rfl (by decide) (by decide +kernel) (by decide) ⟨(Nat.le_of_ble_eq_true rfl), (Nat.le_of_ble_eq_true rfl)⟩ d_S_init_23 (fun q2 a2 H hw => ?_)
  refine va_putF (D := D) (ci := 4) (C := R_S) (T := T_S) (N := 9) (ty := .array .int) hx hb (hTB.hts _) in_S t_S t_S_ok n_S hown hw.1 hw.2.1 hw.2.2.1 hw.2.2.2.1 0 rfl rfl 2 (by decide) (hTB.hts _ _ lk_S_18) (fun _ h => h) rfl hin rfl (by decide +kernel) rfl rfl (Nat.le_of_ble_eq_true rfl) d_S_init_25 (fun H locs hP hD hS => ?_)
  replace hw : Wl D (Ab b sz) s.heap s [(a0, .int), (a1, .int), (a2, .int)] [(b, .inr (4, [.ref q0, .ref q1, .ref q2, .null, .null, .null, .null, .int (zI 0), .long (zL 0)])), (q0, .inl (a0, 8, .inl (fun _ => zI 0))), (q1, .inl (a1, 8, .inl (fun _ => zI 0))), (q2, .inl (a2, 24, .inl (fun _ => zI 0)))] H locs := ⟨hw.1, hP, hD, hS, hw.2.2.2.2⟩
  refine lv_aload_n hx hb d_S_init_28 rfl (lv_at hl 0 rfl) ?_
  refine z_bi hx hb d_S_init_29 (by decide) ?_
  refine n_newL (nL := 0) (N' := 24) hx hb hTB hw ac_long (by decide) (by decide +kernel) (by decide) ⟨(Nat.le_of_ble_eq_true rfl), (Nat.le_of_ble_eq_true rfl)⟩ d_S_init_31 (fun q3 a3 H hw => ?_)
  refine va_putF (D := D) (ci := 4) (C := R_S) (T := T_S) (N := 9) (ty := .array .long) hx hb (hTB.hts _) in_S t_S t_S_ok n_S hown hw.1 hw.2.1 hw.2.2.1 hw.2.2.2.1 0 rfl rfl 3 (by decide) (hTB.hts _ _ lk_S_21) (fun _ h => h) rfl hin rfl (by decide +kernel) rfl rfl (Nat.le_of_ble_eq_true rfl) d_S_init_33 (fun H locs hP hD hS => ?_)
  replace hw : Wl D (Ab b sz) s.heap s [(a0, .int), (a1, .int), (a2, .int), (a3, .long)] [(b, .inr (4, [.ref q0, .ref q1, .ref q2, .ref q3, .null, .null, .null, .int (zI 0), .long (zL 0)])), (q0, .inl (a0, 8, .inl (fun _ => zI 0))), (q1, .inl (a1, 8, .inl (fun _ => zI 0))), (q2, .inl (a2, 24, .inl (fun _ => zI 0))), (q3, .inl (a3, 24, .inr (.inl (fun _ => zL 0))))] H locs := ⟨hw.1, hP, hD, hS, hw.2.2.2.2⟩
  refine lv_aload_n hx hb d_S_init_36 rfl (lv_at hl 0 rfl) ?_
  refine z_bi hx hb d_S_init_37 (by decide) ?_
  refine n_newI (nL := 0) (atype := .int) (ty := .int) (N' := 24) hx hb hTB hw ac_int rfl 0 rfl (by decide) (by decide +kernel) (by decide) ⟨(Nat.le_of_ble_eq_true rfl), (Nat.le_of_ble_eq_true rfl)⟩ d_S_init_39 (fun q4 a4 H hw => ?_)
  refine va_putF (D := D) (ci := 4) (C := R_S) (T := T_S) (N := 9) (ty := .array .int) hx hb (hTB.hts _) in_S t_S t_S_ok n_S hown hw.1 hw.2.1 hw.2.2.1 hw.2.2.2.1 0 rfl rfl 4 (by decide) (hTB.hts _ _ lk_S_25) (fun _ h => h) rfl hin rfl (by decide +kernel) rfl rfl (Nat.le_of_ble_eq_true rfl) d_S_init_41 (fun H locs hP hD hS => ?_)
  replace hw : Wl D (Ab b sz) s.heap s [(a0, .int), (a1, .int), (a2, .int), (a3, .long), (a4, .int)] [(b, .inr (4, [.ref q0, .ref q1, .ref q2, .ref q3, .ref q4, .null, .null, .int (zI 0), .long (zL 0)])), (q0, .inl (a0, 8, .inl (fun _ => zI 0))), (q1, .inl (a1, 8, .inl (fun _ => zI 0))), (q2, .inl (a2, 24, .inl (fun _ => zI 0))), (q3, .inl (a3, 24, .inr (.inl (fun _ => zL 0)))), (q4, .inl (a4, 24, .inl (fun _ => zI 0)))] H locs := ⟨hw.1, hP, hD, hS, hw.2.2.2.2⟩
  refine lv_aload_n hx hb d_S_init_44 rfl (lv_at hl 0 rfl) ?_
  refine z_bi hx hb d_S_init_45 (by decide) ?_
  refine n_newI (nL := 0) (atype := .int) (ty := .int) (N' := 8) hx hb hTB hw ac_int rfl 0 rfl (by decide) (by decide +kernel) (by decide) ⟨(Nat.le_of_ble_eq_true rfl), (Nat.le_of_ble_eq_true rfl)⟩ d_S_init_47 (fun q5 a5 H hw => ?_)
  refine va_putF (D := D) (ci := 4) (C := R_S) (T := T_S) (N := 9) (ty := .array .int) hx hb (hTB.hts _) in_S t_S t_S_ok n_S hown hw.1 hw.2.1 hw.2.2.1 hw.2.2.2.1 0 rfl rfl 5 (by decide) (hTB.hts _ _ lk_S_28) (fun _ h => h) rfl hin rfl (by decide +kernel) rfl rfl (Nat.le_of_ble_eq_true rfl) d_S_init_49 (fun H locs hP hD hS => ?_)
  replace hw : Wl D (Ab b sz) s.heap s [(a0, .int), (a1, .int), (a2, .int), (a3, .long), (a4, .int), (a5, .int)] [(b, .inr (4, [.ref q0, .ref q1, .ref q2, .ref q3, .ref q4, .ref q5, .null, .int (zI 0), .long (zL 0)])), (q0, .inl (a0, 8, .inl (fun _ => zI 0))), (q1, .inl (a1, 8, .inl (fun _ => zI 0))), (q2, .inl (a2, 24, .inl (fun _ => zI 0))), (q3, .inl (a3, 24, .inr (.inl (fun _ => zL 0)))), (q4, .inl (a4, 24, .inl (fun _ => zI 0))), (q5, .inl (a5, 8, .inl (fun _ => zI 0)))] H locs := ⟨hw.1, hP, hD, hS, hw.2.2.2.2⟩
  refine lv_aload_n hx hb d_S_init_52 rfl (lv_at hl 0 rfl) ?_
  refine z_bi hx hb d_S_init_53 (by decide) ?_
  refine n_newI (nL := 0) (atype := .int) (ty := .int) (N' := 8) hx hb hTB hw ac_int rfl 0 rfl (by decide) (by decide +kernel) (by decide) ⟨(Nat.le_of_ble_eq_true rfl), (Nat.le_of_ble_eq_true rfl)⟩ d_S_init_55 (fun q6 a6 H hw => ?_)
  refine va_putF (D := D) (ci := 4) (C := R_S) (T := T_S) (N := 9) (ty := .array .int) hx hb (hTB.hts _) in_S t_S t_S_ok n_S hown hw.1 hw.2.1 hw.2.2.1 hw.2.2.2.1 0 rfl rfl 6 (by decide) (hTB.hts _ _ lk_S_31) (fun _ h => h) rfl hin rfl (by decide +kernel) rfl rfl (Nat.le_of_ble_eq_true rfl) d_S_init_57 (fun H locs hP hD hS => ?_)
  replace hw : Wl D (Ab b sz) s.heap s [(a0, .int), (a1, .int), (a2, .int), (a3, .long), (a4, .int), (a5, .int), (a6, .int)] [(b, .inr (4, [.ref q0, .ref q1, .ref q2, .ref q3, .ref q4, .ref q5, .ref q6, .int (zI 0), .long (zL 0)])), (q0, .inl (a0, 8, .inl (fun _ => zI 0))), (q1, .inl (a1, 8, .inl (fun _ => zI 0))), (q2, .inl (a2, 24, .inl (fun _ => zI 0))), (q3, .inl (a3, 24, .inr (.inl (fun _ => zL 0)))), (q4, .inl (a4, 24, .inl (fun _ => zI 0))), (q5, .inl (a5, 8, .inl (fun _ => zI 0))), (q6, .inl (a6, 8, .inl (fun _ => zI 0)))] H locs := ⟨hw.1, hP, hD, hS, hw.2.2.2.2⟩
  exact n_ret hc hw ⟨_, _, _, _, _, _, _, _, _, _, _, _, _, _, rfl, rfl⟩ ⟨rfl, rfl⟩ d_S_init_60
def Wn_F (b : Nat) (w : va_W) (tys : List (ClassId × FieldType)) : Prop := ∃ (q0 q1 q2 q3 q4 : Nat) (a0 a1 a2 a3 a4 : ClassId), w = [(b, .inr (1, [.ref q0, .ref q1, .ref q2, .ref q3, .ref q4, .int (zI 0), .int (zI 0), .int (zI 0), .long (zL 0), .int (zI 0)])), (q0, .inl (a0, 8, .inl (fun _ => zI 0))), (q1, .inl (a1, 8, .inl (fun _ => zI 0))), (q2, .inl (a2, 8, .inl (fun _ => zI 0))), (q3, .inl (a3, 8, .inl (fun _ => zI 0))), (q4, .inl (a4, 176, .inl (fun _ => zI 0)))] ∧ tys = [(a0, .int), (a1, .int), (a2, .int), (a3, .int), (a4, .char)]
theorem n_F_init {l : Launch} {D : va_G} (b sz : Nat) : Cn l D y_F_init c_F_init 2 5 208 b 1 fs0_F (Wn_F b) sz := by
  refine Cn.enter rfl rfl ?_
  intro p e s m below meth c hc ls hl hw
  obtain ⟨hx, hb, hml, hown, hTB, hTN, hin, hr, hlk⟩ := id hc
  refine lv_aload_n hx hb d_F_init_0 rfl (lv_at hl 0 rfl) ?_
  refine W.objInit hx hb hown (hTB.hts _ _ oi_F) (hTB.hts _ _ oi_inst) (hTB.hts _ _ oi_code) rfl (by rw [hml]; exact hl.1) rfl d_F_init_1 (Nat.le_of_ble_eq_true rfl) (Nat.le_of_ble_eq_true rfl) ?_
  refine W.eq (g2 := F0 m 4 ls []) rfl ?_
  refine lv_aload_n hx hb d_F_init_4 rfl (lv_at hl 0 rfl) ?_
  refine z_bi hx hb d_F_init_5 (by decide) ?_
  refine n_newI (nL := 0) (atype := .int) (ty := .int) (N' := 8) hx hb hTB hw ac_int rfl 0 rfl (by decide) (by decide +kernel) (by decide) ⟨(Nat.le_of_ble_eq_true rfl), (Nat.le_of_ble_eq_true rfl)⟩ d_F_init_7 (fun q0 a0 H hw => ?_)
  refine va_putF (D := D) (ci := 1) (C := R_F) (T := T_F) (N := 10) (ty := .array .int) hx hb (hTB.hts _) in_F t_F t_F_ok n_F hown hw.1 hw.2.1 hw.2.2.1 hw.2.2.2.1 0 rfl rfl 0 (by decide) (hTB.hts _ _ lk_F_9) (fun _ h => h) rfl hin rfl (by decide +kernel) rfl rfl (Nat.le_of_ble_eq_true rfl) d_F_init_9 (fun H locs hP hD hS => ?_)
  replace hw : Wl D (Ab b sz) s.heap s [(a0, .int)] [(b, .inr (1, [.ref q0, .null, .null, .null, .null, .int (zI 0), .int (zI 0), .int (zI 0), .long (zL 0), .int (zI 0)])), (q0, .inl (a0, 8, .inl (fun _ => zI 0)))] H locs := ⟨hw.1, hP, hD, hS, hw.2.2.2.2⟩
  refine lv_aload_n hx hb d_F_init_12 rfl (lv_at hl 0 rfl) ?_
  refine z_bi hx hb d_F_init_13 (by decide) ?_
  refine n_newI (nL := 0) (atype := .int) (ty := .int) (N' := 8) hx hb hTB hw ac_int rfl 0 rfl (by decide) (by decide +kernel) (by decide) ⟨(Nat.le_of_ble_eq_true rfl), (Nat.le_of_ble_eq_true rfl)⟩ d_F_init_15 (fun q1 a1 H hw => ?_)
  refine va_putF (D := D) (ci := 1) (C := R_F) (T := T_F) (N := 10) (ty := .array .int) hx hb (hTB.hts _) in_F t_F t_F_ok n_F hown hw.1 hw.2.1 hw.2.2.1 hw.2.2.2.1 0 rfl rfl 1 (by decide) (hTB.hts _ _ lk_F_15) (fun _ h => h) rfl hin rfl (by decide +kernel) rfl rfl (Nat.le_of_ble_eq_true rfl) d_F_init_17 (fun H locs hP hD hS => ?_)
  replace hw : Wl D (Ab b sz) s.heap s [(a0, .int), (a1, .int)] [(b, .inr (1, [.ref q0, .ref q1, .null, .null, .null, .int (zI 0), .int (zI 0), .int (zI 0), .long (zL 0), .int (zI 0)])), (q0, .inl (a0, 8, .inl (fun _ => zI 0))), (q1, .inl (a1, 8, .inl (fun _ => zI 0)))] H locs := ⟨hw.1, hP, hD, hS, hw.2.2.2.2⟩
  refine lv_aload_n hx hb d_F_init_20 rfl (lv_at hl 0 rfl) ?_
  refine z_bi hx hb d_F_init_21 (by decide) ?_
  refine n_newI (nL := 0) (atype := .int) (ty := .int) (N' := 8) hx hb hTB hw ac_int rfl 0 rfl (by decide) (by decide +kernel) (by decide) ⟨(Nat.le_of_ble_eq_true rfl), (Nat.le_of_ble_eq_true rfl)⟩ d_F_init_23 (fun q2 a2 H hw => ?_)
  refine va_putF (D := D) (ci := 1) (C := R_F) (T := T_F) (N := 10) (ty := .array .int) hx hb (hTB.hts _) in_F t_F t_F_ok n_F hown hw.1 hw.2.1 hw.2.2.1 hw.2.2.2.1 0 rfl rfl 2 (by decide) (hTB.hts _ _ lk_F_18) (fun _ h => h) rfl hin rfl (by decide +kernel) rfl rfl (Nat.le_of_ble_eq_true rfl) d_F_init_25 (fun H locs hP hD hS => ?_)
  replace hw : Wl D (Ab b sz) s.heap s [(a0, .int), (a1, .int), (a2, .int)] [(b, .inr (1, [.ref q0, .ref q1, .ref q2, .null, .null, .int (zI 0), .int (zI 0), .int (zI 0), .long (zL 0), .int (zI 0)])), (q0, .inl (a0, 8, .inl (fun _ => zI 0))), (q1, .inl (a1, 8, .inl (fun _ => zI 0))), (q2, .inl (a2, 8, .inl (fun _ => zI 0)))] H locs := ⟨hw.1, hP, hD, hS, hw.2.2.2.2⟩
  refine lv_aload_n hx hb d_F_init_28 rfl (lv_at hl 0 rfl) ?_
  refine z_bi hx hb d_F_init_29 (by decide) ?_
  refine n_newI (nL := 0) (atype := .int) (ty := .int) (N' := 8) hx hb hTB hw ac_int rfl 0 rfl (by decide) (by decide +kernel) (by decide) ⟨(Nat.le_of_ble_eq_true rfl), (Nat.le_of_ble_eq_true rfl)⟩ d_F_init_31 (fun q3 a3 H hw => ?_)
  refine va_putF (D := D) (ci := 1) (C := R_F) (T := T_F) (N := 10) (ty := .array .int) hx hb (hTB.hts _) in_F t_F t_F_ok n_F hown hw.1 hw.2.1 hw.2.2.1 hw.2.2.2.1 0 rfl rfl 3 (by decide) (hTB.hts _ _ lk_F_21) (fun _ h => h) rfl hin rfl (by decide +kernel) rfl rfl (Nat.le_of_ble_eq_true rfl) d_F_init_33 (fun H locs hP hD hS => ?_)
  replace hw : Wl D (Ab b sz) s.heap s [(a0, .int), (a1, .int), (a2, .int), (a3, .int)] [(b, .inr (1, [.ref q0, .ref q1, .ref q2, .ref q3, .null, .int (zI 0), .int (zI 0), .int (zI 0), .long (zL 0), .int (zI 0)])), (q0, .inl (a0, 8, .inl (fun _ => zI 0))), (q1, .inl (a1, 8, .inl (fun _ => zI 0))), (q2, .inl (a2, 8, .inl (fun _ => zI 0))), (q3, .inl (a3, 8, .inl (fun _ => zI 0)))] H locs := ⟨hw.1, hP, hD, hS, hw.2.2.2.2⟩
  refine lv_aload_n hx hb d_F_init_36 rfl (lv_at hl 0 rfl) ?_
  refine z_si hx hb d_F_init_37 (by decide) ?_
  refine n_newI (nL := 0) (atype := .char) (ty := .char) (N' := 176) hx hb hTB hw ac_char rfl 0 rfl (by decide) (by decide +kernel) (by decide) ⟨(Nat.le_of_ble_eq_true rfl), (Nat.le_of_ble_eq_true rfl)⟩ d_F_init_40 (fun q4 a4 H hw => ?_)
  refine va_putF (D := D) (ci := 1) (C := R_F) (T := T_F) (N := 10) (ty := .array .char) hx hb (hTB.hts _) in_F t_F t_F_ok n_F hown hw.1 hw.2.1 hw.2.2.1 hw.2.2.2.1 0 rfl rfl 4 (by decide) (hTB.hts _ _ lk_F_24) (fun _ h => h) rfl hin rfl (by decide +kernel) rfl rfl (Nat.le_of_ble_eq_true rfl) d_F_init_42 (fun H locs hP hD hS => ?_)
  replace hw : Wl D (Ab b sz) s.heap s [(a0, .int), (a1, .int), (a2, .int), (a3, .int), (a4, .char)] [(b, .inr (1, [.ref q0, .ref q1, .ref q2, .ref q3, .ref q4, .int (zI 0), .int (zI 0), .int (zI 0), .long (zL 0), .int (zI 0)])), (q0, .inl (a0, 8, .inl (fun _ => zI 0))), (q1, .inl (a1, 8, .inl (fun _ => zI 0))), (q2, .inl (a2, 8, .inl (fun _ => zI 0))), (q3, .inl (a3, 8, .inl (fun _ => zI 0))), (q4, .inl (a4, 176, .inl (fun _ => zI 0)))] H locs := ⟨hw.1, hP, hD, hS, hw.2.2.2.2⟩
  exact n_ret hc hw ⟨_, _, _, _, _, _, _, _, _, _, rfl, rfl⟩ ⟨rfl, rfl⟩ d_F_init_45
def Wn_P (b : Nat) (w : va_W) (tys : List (ClassId × FieldType)) : Prop := ∃ (q0 q1 q2 q3 q4 q5 q6 q7 : Nat) (a0 a1 a2 a3 a5 a6 : ClassId), w = [(b, .inr (2, [.ref q0, .ref q1, .ref q2, .ref q5])), (q0, .inl (a0, 144, .inl (fun _ => zI 0))), (q1, .inl (a1, 12, .inl (fun _ => zI 0))), (q2, .inl (a2, 2, .inr (.inr (.inr (.inr (fun i => if i = 0 then some q3 else if i = 1 then some q4 else none)))))), (q3, .inl (a3, 144, .inr (.inl (fun _ => zL 0)))), (q4, .inl (a3, 144, .inr (.inl (fun _ => zL 0)))), (q5, .inl (a5, 2, .inr (.inr (.inr (.inr (fun i => if i = 0 then some q6 else if i = 1 then some q7 else none)))))), (q6, .inl (a6, 144, .inr (.inl (fun _ => zL 0)))), (q7, .inl (a6, 144, .inr (.inl (fun _ => zL 0))))] ∧ tys = [(a0, .int), (a1, .int), (a2, .array .long), (a3, .long), (a3, .long), (a5, .array .long), (a6, .long), (a6, .long)]
theorem n_P_init {l : Launch} {D : va_G} (b sz : Nat) : Cn l D y_P_init c_P_init 2 8 736 b 2 fs0_P (Wn_P b) sz := by
  refine Cn.enter rfl rfl ?_
  intro p e s m below meth c hc ls hl hw
  obtain ⟨hx, hb, hml, hown, hTB, hTN, hin, hr, hlk⟩ := id hc
  refine lv_aload_n hx hb d_P_init_0 rfl (lv_at hl 0 rfl) ?_
  refine W.objInit hx hb hown (hTB.hts _ _ oi_P) (hTB.hts _ _ oi_inst) (hTB.hts _ _ oi_code) rfl (by rw [hml]; exact hl.1) rfl d_P_init_1 (Nat.le_of_ble_eq_true rfl) (Nat.le_of_ble_eq_true rfl) ?_
  refine W.eq (g2 := F0 m 4 ls []) rfl ?_
  refine lv_aload_n hx hb d_P_init_4 rfl (lv_at hl 0 rfl) ?_
  refine z_si hx hb d_P_init_5 (by decide) ?_
  refine n_newI (nL := 0) (atype := .int) (ty := .int) (N' := 144) hx hb hTB hw ac_int rfl 0 rfl (by decide) (by decide +kernel) (by decide) ⟨(Nat.le_of_ble_eq_true rfl), (Nat.le_of_ble_eq_true rfl)⟩ d_P_init_8 (fun q0 a0 H hw => ?_)
  refine va_putF (D := D) (ci := 2) (C := R_P) (T := T_P) (N := 4) (ty := .array .int) hx hb (hTB.hts _) in_P t_P t_P_ok n_P hown hw.1 hw.2.1 hw.2.2.1 hw.2.2.2.1 0 rfl rfl 0 (by decide) (hTB.hts _ _ lk_P_11) (fun _ h => h) rfl hin rfl (by decide +kernel) rfl rfl (Nat.le_of_ble_eq_true rfl) d_P_init_10 (fun H locs hP hD hS => ?_)
  replace hw : Wl D (Ab b sz) s.heap s [(a0, .int)] [(b, .inr (2, [.ref q0, .null, .null, .null])), (q0, .inl (a0, 144, .inl (fun _ => zI 0)))] H locs := ⟨hw.1, hP, hD, hS, hw.2.2.2.2⟩
  refine lv_aload_n hx hb d_P_init_13 rfl (lv_at hl 0 rfl) ?_
  refine z_bi hx hb d_P_init_14 (by decide) ?_
  refine n_newI (nL := 0) (atype := .int) (ty := .int) (N' := 12) hx hb hTB hw ac_int rfl 0 rfl (by decide) (by decide +kernel) (by decide) ⟨(Nat.le_of_ble_eq_true rfl), (Nat.le_of_ble_eq_true rfl)⟩ d_P_init_16 (fun q1 a1 H hw => ?_)
  refine va_putF (D := D) (ci := 2) (C := R_P) (T := T_P) (N := 4) (ty := .array .int) hx hb (hTB.hts _) in_P t_P t_P_ok n_P hown hw.1 hw.2.1 hw.2.2.1 hw.2.2.2.1 0 rfl rfl 1 (by decide) (hTB.hts _ _ lk_P_15) (fun _ h => h) rfl hin rfl (by decide +kernel) rfl rfl (Nat.le_of_ble_eq_true rfl) d_P_init_18 (fun H locs hP hD hS => ?_)
  replace hw : Wl D (Ab b sz) s.heap s [(a0, .int), (a1, .int)] [(b, .inr (2, [.ref q0, .ref q1, .null, .null])), (q0, .inl (a0, 144, .inl (fun _ => zI 0))), (q1, .inl (a1, 12, .inl (fun _ => zI 0)))] H locs := ⟨hw.1, hP, hD, hS, hw.2.2.2.2⟩
  refine lv_aload_n hx hb d_P_init_21 rfl (lv_at hl 0 rfl) ?_
  refine z_ic hx hb d_P_init_22 ?_
  refine z_si hx hb d_P_init_23 (by decide) ?_
  refine n_mna (K' := 144) hx hb hown hTB hTN hw cl_P_18 ac_long (by decide) (by decide +kernel) (by decide) ⟨(Nat.le_of_ble_eq_true rfl), (Nat.le_of_ble_eq_true rfl)⟩ d_P_init_26 (fun q2 q3 q4 a2 a3 H hw => ?_)
  refine va_putF (D := D) (ci := 2) (C := R_P) (T := T_P) (N := 4) (ty := .array (.array .long)) hx hb (hTB.hts _) in_P t_P t_P_ok n_P hown hw.1 hw.2.1 hw.2.2.1 hw.2.2.2.1 0 rfl rfl 2 (by decide) (hTB.hts _ _ lk_P_20) (fun _ h => h) rfl hin rfl (by decide +kernel) rfl rfl (Nat.le_of_ble_eq_true rfl) d_P_init_30 (fun H locs hP hD hS => ?_)
  replace hw : Wl D (Ab b sz) s.heap s [(a0, .int), (a1, .int), (a2, .array .long), (a3, .long), (a3, .long)] [(b, .inr (2, [.ref q0, .ref q1, .ref q2, .null])), (q0, .inl (a0, 144, .inl (fun _ => zI 0))), (q1, .inl (a1, 12, .inl (fun _ => zI 0))), (q2, .inl (a2, 2, .inr (.inr (.inr (.inr (fun i => if i = 0 then some q3 else if i = 1 then some q4 else none)))))), (q3, .inl (a3, 144, .inr (.inl (fun _ => zL 0)))), (q4, .inl (a3, 144, .inr (.inl (fun _ => zL 0))))] H locs := ⟨hw.1, hP, hD, hS, hw.2.2.2.2⟩
  refine lv_aload_n hx hb d_P_init_33 rfl (lv_at hl 0 rfl) ?_
  refine z_ic hx hb d_P_init_34 ?_
  refine z_si hx hb d_P_init_35 (by decide) ?_
  refine n_mna (K' := 144) hx hb hown hTB hTN hw cl_P_18 ac_long (by decide) (by decide +kernel) (by decide) ⟨(Nat.le_of_ble_eq_true rfl), (Nat.le_of_ble_eq_true rfl)⟩ d_P_init_38 (fun q5 q6 q7 a5 a6 H hw => ?_)
  refine va_putF (D := D) (ci := 2) (C := R_P) (T := T_P) (N := 4) (ty := .array (.array .long)) hx hb (hTB.hts _) in_P t_P t_P_ok n_P hown hw.1 hw.2.1 hw.2.2.1 hw.2.2.2.1 0 rfl rfl 3 (by decide) (hTB.hts _ _ lk_P_23) (fun _ h => h) rfl hin rfl (by decide +kernel) rfl rfl (Nat.le_of_ble_eq_true rfl) d_P_init_42 (fun H locs hP hD hS => ?_)
  replace hw : Wl D (Ab b sz) s.heap s [(a0, .int), (a1, .int), (a2, .array .long), (a3, .long), (a3, .long), (a5, .array .long), (a6, .long), (a6, .long)] [(b, .inr (2, [.ref q0, .ref q1, .ref q2, .ref q5])), (q0, .inl (a0, 144, .inl (fun _ => zI 0))), (q1, .inl (a1, 12, .inl (fun _ => zI 0))), (q2, .inl (a2, 2, .inr (.inr (.inr (.inr (fun i => if i = 0 then some q3 else if i = 1 then some q4 else none)))))), (q3, .inl (a3, 144, .inr (.inl (fun _ => zL 0)))), (q4, .inl (a3, 144, .inr (.inl (fun _ => zL 0)))), (q5, .inl (a5, 2, .inr (.inr (.inr (.inr (fun i => if i = 0 then some q6 else if i = 1 then some q7 else none)))))), (q6, .inl (a6, 144, .inr (.inl (fun _ => zL 0)))), (q7, .inl (a6, 144, .inr (.inl (fun _ => zL 0))))] H locs := ⟨hw.1, hP, hD, hS, hw.2.2.2.2⟩
  exact n_ret hc hw ⟨_, _, _, _, _, _, _, _, _, _, _, _, _, _, rfl, rfl⟩ ⟨rfl, rfl⟩ d_P_init_45
def Wn_R (b : Nat) (w : va_W) (tys : List (ClassId × FieldType)) : Prop := ∃ (q0 : Nat) (a0 : ClassId), w = [(b, .inr (3, [.ref q0, .int (zI 0), .int (zI 0), .int (zI 0)])), (q0, .inl (a0, 12, .inl (fun _ => zI 0)))] ∧ tys = [(a0, .int)]
theorem n_R_init {l : Launch} {D : va_G} (b sz : Nat) : Cn l D y_R_init c_R_init 2 1 12 b 3 fs0_R (Wn_R b) sz := by
  refine Cn.enter rfl rfl ?_
  intro p e s m below meth c hc ls hl hw
  obtain ⟨hx, hb, hml, hown, hTB, hTN, hin, hr, hlk⟩ := id hc
  refine lv_aload_n hx hb d_R_init_0 rfl (lv_at hl 0 rfl) ?_
  refine W.objInit hx hb hown (hTB.hts _ _ oi_R) (hTB.hts _ _ oi_inst) (hTB.hts _ _ oi_code) rfl (by rw [hml]; exact hl.1) rfl d_R_init_1 (Nat.le_of_ble_eq_true rfl) (Nat.le_of_ble_eq_true rfl) ?_
  refine W.eq (g2 := F0 m 4 ls []) rfl ?_
  refine lv_aload_n hx hb d_R_init_4 rfl (lv_at hl 0 rfl) ?_
  refine z_bi hx hb d_R_init_5 (by decide) ?_
  refine n_newI (nL := 0) (atype := .int) (ty := .int) (N' := 12) hx hb hTB hw ac_int rfl 0 rfl (by decide) (by decide +kernel) (by decide) ⟨(Nat.le_of_ble_eq_true rfl), (Nat.le_of_ble_eq_true rfl)⟩ d_R_init_7 (fun q0 a0 H hw => ?_)
  refine va_putF (D := D) (ci := 3) (C := R_R) (T := T_R) (N := 4) (ty := .array .int) hx hb (hTB.hts _) in_R t_R t_R_ok n_R hown hw.1 hw.2.1 hw.2.2.1 hw.2.2.2.1 0 rfl rfl 0 (by decide) (hTB.hts _ _ lk_R_9) (fun _ h => h) rfl hin rfl (by decide +kernel) rfl rfl (Nat.le_of_ble_eq_true rfl) d_R_init_9 (fun H locs hP hD hS => ?_)
  replace hw : Wl D (Ab b sz) s.heap s [(a0, .int)] [(b, .inr (3, [.ref q0, .int (zI 0), .int (zI 0), .int (zI 0)])), (q0, .inl (a0, 12, .inl (fun _ => zI 0)))] H locs := ⟨hw.1, hP, hD, hS, hw.2.2.2.2⟩
  exact n_ret hc hw ⟨_, _, rfl, rfl⟩ ⟨rfl, rfl⟩ d_R_init_12
def Wn_X (b : Nat) (w : va_W) (tys : List (ClassId × FieldType)) : Prop := ∃ (ad : Nat → Nat) (ca : Nat → ClassId), ad 100 = b ∧ w = wX ad ca z0 ∧ tys = tyX ca
theorem nw_B : Cond.classLink "ProbeChoice" 9 R_B ∈ lw_gd ∧ Cond.instantiable R_B 10 ∈ lw_gd ∧ Cond.initialized R_B ∈ lw_gd := ⟨gd_at 26 (by decide +kernel) (by decide +kernel), gd_at 27 (by decide +kernel) (by decide +kernel), gd_at 2 (by decide +kernel) (by decide +kernel)⟩
theorem nw_S : Cond.classLink "ProbeChoice" 16 R_S ∈ lw_gd ∧ Cond.instantiable R_S 9 ∈ lw_gd ∧ Cond.initialized R_S ∈ lw_gd := ⟨gd_at 74 (by decide +kernel) (by decide +kernel), gd_at 75 (by decide +kernel) (by decide +kernel), gd_at 3 (by decide +kernel) (by decide +kernel)⟩
theorem nw_F : Cond.classLink "ProbeChoice" 23 R_F ∈ lw_gd ∧ Cond.instantiable R_F 10 ∈ lw_gd ∧ Cond.initialized R_F ∈ lw_gd := ⟨gd_at 111 (by decide +kernel) (by decide +kernel), gd_at 112 (by decide +kernel) (by decide +kernel), gd_at 4 (by decide +kernel) (by decide +kernel)⟩
theorem nw_P : Cond.classLink "ProbeChoice" 30 R_P ∈ lw_gd ∧ Cond.instantiable R_P 4 ∈ lw_gd ∧ Cond.initialized R_P ∈ lw_gd := ⟨gd_at 157 (by decide +kernel) (by decide +kernel), gd_at 158 (by decide +kernel) (by decide +kernel), gd_at 5 (by decide +kernel) (by decide +kernel)⟩
theorem nw_R : Cond.classLink "ProbeChoice" 37 R_R ∈ lw_gd ∧ Cond.instantiable R_R 4 ∈ lw_gd ∧ Cond.initialized R_R ∈ lw_gd := ⟨gd_at 178 (by decide +kernel) (by decide +kernel), gd_at 179 (by decide +kernel) (by decide +kernel), gd_at 6 (by decide +kernel) (by decide +kernel)⟩
theorem n_X_init {l : Launch} {D : va_G} (b sz : Nat) : Cn l D y_X_init c_X_init 4 33 1301 b 5 fs0_X (Wn_X b) sz := by
  refine Cn.enter rfl rfl ?_
  intro p e s m below meth c hc ls hl hw
  obtain ⟨hx, hb, hml, hown, hTB, hTN, hin, hr, hlk⟩ := id hc
  refine lv_aload_n hx hb d_X_init_0 rfl (lv_at hl 0 rfl) ?_
  refine W.objInit hx hb hown (hTB.hts _ _ oi_X) (hTB.hts _ _ oi_inst) (hTB.hts _ _ oi_code) rfl (by rw [hml]; exact hl.1) rfl d_X_init_1 (Nat.le_of_ble_eq_true rfl) (Nat.le_of_ble_eq_true rfl) ?_
  refine W.eq (g2 := F0 m 4 ls []) rfl ?_
  refine lv_aload_n hx hb d_X_init_4 rfl (lv_at hl 0 rfl) ?_
  refine va_new (D := D) (ci := 0) (C := R_B) (T := T_B) (N := 10) (ws := [(b, .inr (5, [.null, .null, .null, .null, .null]))]) (fs := fs0_B) hx hb (hTB.hts _) in_B t_B t_B_ok hown (hTB.hts _ _ nw_B.1) (hTB.hts _ _ nw_B.2.1) (hTB.hts _ _ nw_B.2.2) hw.1 hw.2.1 hw.2.2.1 hw.2.2.2.1 hw.2.2.2.2 rfl fs0_B_ok (Nat.le_of_ble_eq_true rfl) (Nat.le_of_ble_eq_true rfl) d_X_init_5 (fun oB H hP hD hS => ?_)
  replace hw : Wl D (Ab b sz) s.heap s [] ([(b, .inr (5, [.null, .null, .null, .null, .null]))] ++ [(oB, .inr (0, fs0_B))]) H [] := ⟨hw.1, hP, hD, hS, hw.2.2.2.2⟩
  refine lv_dup hx hb d_X_init_8 rfl ?_
  refine n_call hc (fun z => n_B_init oB z) rfl yw_B_init ii_B lk_X_11 hw hl.1 (Nat.le_of_ble_eq_true rfl) ⟨(Nat.le_of_ble_eq_true rfl), (Nat.le_of_ble_eq_true rfl)⟩ ⟨(Nat.le_of_ble_eq_true rfl), (Nat.le_of_ble_eq_true rfl)⟩ d_X_init_9 (fun w tys' H locs hn hw => ?_)
  obtain ⟨Bq0, Bq1, Bq2, Bq3, Bq4, Bq5, Bq6, Ba0, Ba1, Ba2, Ba3, Ba4, Ba5, Ba6, rfl, rfl⟩ := hn
  refine va_putF (D := D) (ci := 5) (C := R_X) (T := T_X) (N := 5) (ty := .object R_B) hx hb (hTB.hts _) in_X t_X t_X_ok n_X hown hw.1 hw.2.1 hw.2.2.1 hw.2.2.2.1 0 rfl rfl 0 (by decide) (hTB.hts _ _ lk_X_12) (fun _ h => h) rfl hin rfl (by decide +kernel) rfl rfl (Nat.le_of_ble_eq_true rfl) d_X_init_12 (fun H locs hP hD hS => ?_)
  replace hw : Wl D (Ab b sz) s.heap s [(Ba0, .boolean), (Ba1, .int), (Ba2, .int), (Ba3, .long), (Ba4, .long), (Ba5, .long), (Ba6, .long)] [(b, .inr (5, [.ref oB, .null, .null, .null, .null])), (oB, .inr (0, [.ref Bq0, .ref Bq1, .ref Bq2, .ref Bq3, .ref Bq4, .ref Bq5, .ref Bq6, .int (zI 0), .int (zI 0), .long (zL 0)])), (Bq0, .inl (Ba0, 12, .inl (fun _ => zI 0))), (Bq1, .inl (Ba1, 12, .inl (fun _ => zI 0))), (Bq2, .inl (Ba2, 36, .inl (fun _ => zI 0))), (Bq3, .inl (Ba3, 36, .inr (.inl (fun _ => zL 0)))), (Bq4, .inl (Ba4, 36, .inr (.inl (fun _ => zL 0)))), (Bq5, .inl (Ba5, 36, .inr (.inl (fun _ => zL 0)))), (Bq6, .inl (Ba6, 36, .inr (.inl (fun _ => zL 0))))] H locs := ⟨hw.1, hP, hD, hS, hw.2.2.2.2⟩
  refine lv_aload_n hx hb d_X_init_15 rfl (lv_at hl 0 rfl) ?_
  refine va_new (D := D) (ci := 4) (C := R_S) (T := T_S) (N := 9) (ws := [(b, .inr (5, [.ref oB, .null, .null, .null, .null])), (oB, .inr (0, [.ref Bq0, .ref Bq1, .ref Bq2, .ref Bq3, .ref Bq4, .ref Bq5, .ref Bq6, .int (zI 0), .int (zI 0), .long (zL 0)])), (Bq0, .inl (Ba0, 12, .inl (fun _ => zI 0))), (Bq1, .inl (Ba1, 12, .inl (fun _ => zI 0))), (Bq2, .inl (Ba2, 36, .inl (fun _ => zI 0))), (Bq3, .inl (Ba3, 36, .inr (.inl (fun _ => zL 0)))), (Bq4, .inl (Ba4, 36, .inr (.inl (fun _ => zL 0)))), (Bq5, .inl (Ba5, 36, .inr (.inl (fun _ => zL 0)))), (Bq6, .inl (Ba6, 36, .inr (.inl (fun _ => zL 0))))]) (fs := fs0_S) hx hb (hTB.hts _) in_S t_S t_S_ok hown (hTB.hts _ _ nw_S.1) (hTB.hts _ _ nw_S.2.1) (hTB.hts _ _ nw_S.2.2) hw.1 hw.2.1 hw.2.2.1 hw.2.2.2.1 hw.2.2.2.2 rfl fs0_S_ok (Nat.le_of_ble_eq_true rfl) (Nat.le_of_ble_eq_true rfl) d_X_init_16 (fun oS H hP hD hS => ?_)
  replace hw : Wl D (Ab b sz) s.heap s [(Ba0, .boolean), (Ba1, .int), (Ba2, .int), (Ba3, .long), (Ba4, .long), (Ba5, .long), (Ba6, .long)] ([(b, .inr (5, [.ref oB, .null, .null, .null, .null])), (oB, .inr (0, [.ref Bq0, .ref Bq1, .ref Bq2, .ref Bq3, .ref Bq4, .ref Bq5, .ref Bq6, .int (zI 0), .int (zI 0), .long (zL 0)])), (Bq0, .inl (Ba0, 12, .inl (fun _ => zI 0))), (Bq1, .inl (Ba1, 12, .inl (fun _ => zI 0))), (Bq2, .inl (Ba2, 36, .inl (fun _ => zI 0))), (Bq3, .inl (Ba3, 36, .inr (.inl (fun _ => zL 0)))), (Bq4, .inl (Ba4, 36, .inr (.inl (fun _ => zL 0)))), (Bq5, .inl (Ba5, 36, .inr (.inl (fun _ => zL 0)))), (Bq6, .inl (Ba6, 36, .inr (.inl (fun _ => zL 0))))] ++ [(oS, .inr (4, fs0_S))]) H locs := ⟨hw.1, hP, hD, hS, hw.2.2.2.2⟩
  refine lv_dup hx hb d_X_init_19 rfl ?_
  refine n_call hc (fun z => n_S_init oS z) rfl yw_S_init ii_S lk_X_18 hw hl.1 (Nat.le_of_ble_eq_true rfl) ⟨(Nat.le_of_ble_eq_true rfl), (Nat.le_of_ble_eq_true rfl)⟩ ⟨(Nat.le_of_ble_eq_true rfl), (Nat.le_of_ble_eq_true rfl)⟩ d_X_init_20 (fun w tys' H locs hn hw => ?_)
  obtain ⟨Sq0, Sq1, Sq2, Sq3, Sq4, Sq5, Sq6, Sa0, Sa1, Sa2, Sa3, Sa4, Sa5, Sa6, rfl, rfl⟩ := hn
  refine va_putF (D := D) (ci := 5) (C := R_X) (T := T_X) (N := 5) (ty := .object R_S) hx hb (hTB.hts _) in_X t_X t_X_ok n_X hown hw.1 hw.2.1 hw.2.2.1 hw.2.2.2.1 0 rfl rfl 1 (by decide) (hTB.hts _ _ lk_X_19) (fun _ h => h) rfl hin rfl (by decide +kernel) rfl rfl (Nat.le_of_ble_eq_true rfl) d_X_init_23 (fun H locs hP hD hS => ?_)
  replace hw : Wl D (Ab b sz) s.heap s [(Ba0, .boolean), (Ba1, .int), (Ba2, .int), (Ba3, .long), (Ba4, .long), (Ba5, .long), (Ba6, .long), (Sa0, .int), (Sa1, .int), (Sa2, .int), (Sa3, .long), (Sa4, .int), (Sa5, .int), (Sa6, .int)] [(b, .inr (5, [.ref oB, .ref oS, .null, .null, .null])), (oB, .inr (0, [.ref Bq0, .ref Bq1, .ref Bq2, .ref Bq3, .ref Bq4, .ref Bq5, .ref Bq6, .int (zI 0), .int (zI 0), .long (zL 0)])), (Bq0, .inl (Ba0, 12, .inl (fun _ => zI 0))), (Bq1, .inl (Ba1, 12, .inl (fun _ => zI 0))), (Bq2, .inl (Ba2, 36, .inl (fun _ => zI 0))), (Bq3, .inl (Ba3, 36, .inr (.inl (fun _ => zL 0)))), (Bq4, .inl (Ba4, 36, .inr (.inl (fun _ => zL 0)))), (Bq5, .inl (Ba5, 36, .inr (.inl (fun _ => zL 0)))), (Bq6, .inl (Ba6, 36, .inr (.inl (fun _ => zL 0)))), (oS, .inr (4, [.ref Sq0, .ref Sq1, .ref Sq2, .ref Sq3, .ref Sq4, .ref Sq5, .ref Sq6, .int (zI 0), .long (zL 0)])), (Sq0, .inl (Sa0, 8, .inl (fun _ => zI 0))), (Sq1, .inl (Sa1, 8, .inl (fun _ => zI 0))), (Sq2, .inl (Sa2, 24, .inl (fun _ => zI 0))), (Sq3, .inl (Sa3, 24, .inr (.inl (fun _ => zL 0)))), (Sq4, .inl (Sa4, 24, .inl (fun _ => zI 0))), (Sq5, .inl (Sa5, 8, .inl (fun _ => zI 0))), (Sq6, .inl (Sa6, 8, .inl (fun _ => zI 0)))] H locs := ⟨hw.1, hP, hD, hS, hw.2.2.2.2⟩
  refine lv_aload_n hx hb d_X_init_26 rfl (lv_at hl 0 rfl) ?_
  refine va_new (D := D) (ci := 1) (C := R_F) (T := T_F) (N := 10) (ws := [(b, .inr (5, [.ref oB, .ref oS, .null, .null, .null])), (oB, .inr (0, [.ref Bq0, .ref Bq1, .ref Bq2, .ref Bq3, .ref Bq4, .ref Bq5, .ref Bq6, .int (zI 0), .int (zI 0), .long (zL 0)])), (Bq0, .inl (Ba0, 12, .inl (fun _ => zI 0))), (Bq1, .inl (Ba1, 12, .inl (fun _ => zI 0))), (Bq2, .inl (Ba2, 36, .inl (fun _ => zI 0))), (Bq3, .inl (Ba3, 36, .inr (.inl (fun _ => zL 0)))), (Bq4, .inl (Ba4, 36, .inr (.inl (fun _ => zL 0)))), (Bq5, .inl (Ba5, 36, .inr (.inl (fun _ => zL 0)))), (Bq6, .inl (Ba6, 36, .inr (.inl (fun _ => zL 0)))), (oS, .inr (4, [.ref Sq0, .ref Sq1, .ref Sq2, .ref Sq3, .ref Sq4, .ref Sq5, .ref Sq6, .int (zI 0), .long (zL 0)])), (Sq0, .inl (Sa0, 8, .inl (fun _ => zI 0))), (Sq1, .inl (Sa1, 8, .inl (fun _ => zI 0))), (Sq2, .inl (Sa2, 24, .inl (fun _ => zI 0))), (Sq3, .inl (Sa3, 24, .inr (.inl (fun _ => zL 0)))), (Sq4, .inl (Sa4, 24, .inl (fun _ => zI 0))), (Sq5, .inl (Sa5, 8, .inl (fun _ => zI 0))), (Sq6, .inl (Sa6, 8, .inl (fun _ => zI 0)))]) (fs := fs0_F) hx hb (hTB.hts _) in_F t_F t_F_ok hown (hTB.hts _ _ nw_F.1) (hTB.hts _ _ nw_F.2.1) (hTB.hts _ _ nw_F.2.2) hw.1 hw.2.1 hw.2.2.1 hw.2.2.2.1 hw.2.2.2.2 rfl fs0_F_ok (Nat.le_of_ble_eq_true rfl) (Nat.le_of_ble_eq_true rfl) d_X_init_27 (fun oF H hP hD hS => ?_)
  replace hw : Wl D (Ab b sz) s.heap s [(Ba0, .boolean), (Ba1, .int), (Ba2, .int), (Ba3, .long), (Ba4, .long), (Ba5, .long), (Ba6, .long), (Sa0, .int), (Sa1, .int), (Sa2, .int), (Sa3, .long), (Sa4, .int), (Sa5, .int), (Sa6, .int)] ([(b, .inr (5, [.ref oB, .ref oS, .null, .null, .null])), (oB, .inr (0, [.ref Bq0, .ref Bq1, .ref Bq2, .ref Bq3, .ref Bq4, .ref Bq5, .ref Bq6, .int (zI 0), .int (zI 0), .long (zL 0)])), (Bq0, .inl (Ba0, 12, .inl (fun _ => zI 0))), (Bq1, .inl (Ba1, 12, .inl (fun _ => zI 0))), (Bq2, .inl (Ba2, 36, .inl (fun _ => zI 0))), (Bq3, .inl (Ba3, 36, .inr (.inl (fun _ => zL 0)))), (Bq4, .inl (Ba4, 36, .inr (.inl (fun _ => zL 0)))), (Bq5, .inl (Ba5, 36, .inr (.inl (fun _ => zL 0)))), (Bq6, .inl (Ba6, 36, .inr (.inl (fun _ => zL 0)))), (oS, .inr (4, [.ref Sq0, .ref Sq1, .ref Sq2, .ref Sq3, .ref Sq4, .ref Sq5, .ref Sq6, .int (zI 0), .long (zL 0)])), (Sq0, .inl (Sa0, 8, .inl (fun _ => zI 0))), (Sq1, .inl (Sa1, 8, .inl (fun _ => zI 0))), (Sq2, .inl (Sa2, 24, .inl (fun _ => zI 0))), (Sq3, .inl (Sa3, 24, .inr (.inl (fun _ => zL 0)))), (Sq4, .inl (Sa4, 24, .inl (fun _ => zI 0))), (Sq5, .inl (Sa5, 8, .inl (fun _ => zI 0))), (Sq6, .inl (Sa6, 8, .inl (fun _ => zI 0)))] ++ [(oF, .inr (1, fs0_F))]) H locs := ⟨hw.1, hP, hD, hS, hw.2.2.2.2⟩
  refine lv_dup hx hb d_X_init_30 rfl ?_
  refine n_call hc (fun z => n_F_init oF z) rfl yw_F_init ii_F lk_X_25 hw hl.1 (Nat.le_of_ble_eq_true rfl) ⟨(Nat.le_of_ble_eq_true rfl), (Nat.le_of_ble_eq_true rfl)⟩ ⟨(Nat.le_of_ble_eq_true rfl), (Nat.le_of_ble_eq_true rfl)⟩ d_X_init_31 (fun w tys' H locs hn hw => ?_)
  obtain ⟨Fq0, Fq1, Fq2, Fq3, Fq4, Fa0, Fa1, Fa2, Fa3, Fa4, rfl, rfl⟩ := hn
  refine va_putF (D := D) (ci := 5) (C := R_X) (T := T_X) (N := 5) (ty := .object R_F) hx hb (hTB.hts _) in_X t_X t_X_ok n_X hown hw.1 hw.2.1 hw.2.2.1 hw.2.2.2.1 0 rfl rfl 2 (by decide) (hTB.hts _ _ lk_X_26) (fun _ h => h) rfl hin rfl (by decide +kernel) rfl rfl (Nat.le_of_ble_eq_true rfl) d_X_init_34 (fun H locs hP hD hS => ?_)
  replace hw : Wl D (Ab b sz) s.heap s [(Ba0, .boolean), (Ba1, .int), (Ba2, .int), (Ba3, .long), (Ba4, .long), (Ba5, .long), (Ba6, .long), (Sa0, .int), (Sa1, .int), (Sa2, .int), (Sa3, .long), (Sa4, .int), (Sa5, .int), (Sa6, .int), (Fa0, .int), (Fa1, .int), (Fa2, .int), (Fa3, .int), (Fa4, .char)] [(b, .inr (5, [.ref oB, .ref oS, .ref oF, .null, .null])), (oB, .inr (0, [.ref Bq0, .ref Bq1, .ref Bq2, .ref Bq3, .ref Bq4, .ref Bq5, .ref Bq6, .int (zI 0), .int (zI 0), .long (zL 0)])), (Bq0, .inl (Ba0, 12, .inl (fun _ => zI 0))), (Bq1, .inl (Ba1, 12, .inl (fun _ => zI 0))), (Bq2, .inl (Ba2, 36, .inl (fun _ => zI 0))), (Bq3, .inl (Ba3, 36, .inr (.inl (fun _ => zL 0)))), (Bq4, .inl (Ba4, 36, .inr (.inl (fun _ => zL 0)))), (Bq5, .inl (Ba5, 36, .inr (.inl (fun _ => zL 0)))), (Bq6, .inl (Ba6, 36, .inr (.inl (fun _ => zL 0)))), (oS, .inr (4, [.ref Sq0, .ref Sq1, .ref Sq2, .ref Sq3, .ref Sq4, .ref Sq5, .ref Sq6, .int (zI 0), .long (zL 0)])), (Sq0, .inl (Sa0, 8, .inl (fun _ => zI 0))), (Sq1, .inl (Sa1, 8, .inl (fun _ => zI 0))), (Sq2, .inl (Sa2, 24, .inl (fun _ => zI 0))), (Sq3, .inl (Sa3, 24, .inr (.inl (fun _ => zL 0)))), (Sq4, .inl (Sa4, 24, .inl (fun _ => zI 0))), (Sq5, .inl (Sa5, 8, .inl (fun _ => zI 0))), (Sq6, .inl (Sa6, 8, .inl (fun _ => zI 0))), (oF, .inr (1, [.ref Fq0, .ref Fq1, .ref Fq2, .ref Fq3, .ref Fq4, .int (zI 0), .int (zI 0), .int (zI 0), .long (zL 0), .int (zI 0)])), (Fq0, .inl (Fa0, 8, .inl (fun _ => zI 0))), (Fq1, .inl (Fa1, 8, .inl (fun _ => zI 0))), (Fq2, .inl (Fa2, 8, .inl (fun _ => zI 0))), (Fq3, .inl (Fa3, 8, .inl (fun _ => zI 0))), (Fq4, .inl (Fa4, 176, .inl (fun _ => zI 0)))] H locs := ⟨hw.1, hP, hD, hS, hw.2.2.2.2⟩
  refine lv_aload_n hx hb d_X_init_37 rfl (lv_at hl 0 rfl) ?_
  refine va_new (D := D) (ci := 2) (C := R_P) (T := T_P) (N := 4) (ws := [(b, .inr (5, [.ref oB, .ref oS, .ref oF, .null, .null])), (oB, .inr (0, [.ref Bq0, .ref Bq1, .ref Bq2, .ref Bq3, .ref Bq4, .ref Bq5, .ref Bq6, .int (zI 0), .int (zI 0), .long (zL 0)])), (Bq0, .inl (Ba0, 12, .inl (fun _ => zI 0))), (Bq1, .inl (Ba1, 12, .inl (fun _ => zI 0))), (Bq2, .inl (Ba2, 36, .inl (fun _ => zI 0))), (Bq3, .inl (Ba3, 36, .inr (.inl (fun _ => zL 0)))), (Bq4, .inl (Ba4, 36, .inr (.inl (fun _ => zL 0)))), (Bq5, .inl (Ba5, 36, .inr (.inl (fun _ => zL 0)))), (Bq6, .inl (Ba6, 36, .inr (.inl (fun _ => zL 0)))), (oS, .inr (4, [.ref Sq0, .ref Sq1, .ref Sq2, .ref Sq3, .ref Sq4, .ref Sq5, .ref Sq6, .int (zI 0), .long (zL 0)])), (Sq0, .inl (Sa0, 8, .inl (fun _ => zI 0))), (Sq1, .inl (Sa1, 8, .inl (fun _ => zI 0))), (Sq2, .inl (Sa2, 24, .inl (fun _ => zI 0))), (Sq3, .inl (Sa3, 24, .inr (.inl (fun _ => zL 0)))), (Sq4, .inl (Sa4, 24, .inl (fun _ => zI 0))), (Sq5, .inl (Sa5, 8, .inl (fun _ => zI 0))), (Sq6, .inl (Sa6, 8, .inl (fun _ => zI 0))), (oF, .inr (1, [.ref Fq0, .ref Fq1, .ref Fq2, .ref Fq3, .ref Fq4, .int (zI 0), .int (zI 0), .int (zI 0), .long (zL 0), .int (zI 0)])), (Fq0, .inl (Fa0, 8, .inl (fun _ => zI 0))), (Fq1, .inl (Fa1, 8, .inl (fun _ => zI 0))), (Fq2, .inl (Fa2, 8, .inl (fun _ => zI 0))), (Fq3, .inl (Fa3, 8, .inl (fun _ => zI 0))), (Fq4, .inl (Fa4, 176, .inl (fun _ => zI 0)))]) (fs := fs0_P) hx hb (hTB.hts _) in_P t_P t_P_ok hown (hTB.hts _ _ nw_P.1) (hTB.hts _ _ nw_P.2.1) (hTB.hts _ _ nw_P.2.2) hw.1 hw.2.1 hw.2.2.1 hw.2.2.2.1 hw.2.2.2.2 rfl fs0_P_ok (Nat.le_of_ble_eq_true rfl) (Nat.le_of_ble_eq_true rfl) d_X_init_38 (fun oP H hP hD hS => ?_)
  replace hw : Wl D (Ab b sz) s.heap s [(Ba0, .boolean), (Ba1, .int), (Ba2, .int), (Ba3, .long), (Ba4, .long), (Ba5, .long), (Ba6, .long), (Sa0, .int), (Sa1, .int), (Sa2, .int), (Sa3, .long), (Sa4, .int), (Sa5, .int), (Sa6, .int), (Fa0, .int), (Fa1, .int), (Fa2, .int), (Fa3, .int), (Fa4, .char)] ([(b, .inr (5, [.ref oB, .ref oS, .ref oF, .null, .null])), (oB, .inr (0, [.ref Bq0, .ref Bq1, .ref Bq2, .ref Bq3, .ref Bq4, .ref Bq5, .ref Bq6, .int (zI 0), .int (zI 0), .long (zL 0)])), (Bq0, .inl (Ba0, 12, .inl (fun _ => zI 0))), (Bq1, .inl (Ba1, 12, .inl (fun _ => zI 0))), (Bq2, .inl (Ba2, 36, .inl (fun _ => zI 0))), (Bq3, .inl (Ba3, 36, .inr (.inl (fun _ => zL 0)))), (Bq4, .inl (Ba4, 36, .inr (.inl (fun _ => zL 0)))), (Bq5, .inl (Ba5, 36, .inr (.inl (fun _ => zL 0)))), (Bq6, .inl (Ba6, 36, .inr (.inl (fun _ => zL 0)))), (oS, .inr (4, [.ref Sq0, .ref Sq1, .ref Sq2, .ref Sq3, .ref Sq4, .ref Sq5, .ref Sq6, .int (zI 0), .long (zL 0)])), (Sq0, .inl (Sa0, 8, .inl (fun _ => zI 0))), (Sq1, .inl (Sa1, 8, .inl (fun _ => zI 0))), (Sq2, .inl (Sa2, 24, .inl (fun _ => zI 0))), (Sq3, .inl (Sa3, 24, .inr (.inl (fun _ => zL 0)))), (Sq4, .inl (Sa4, 24, .inl (fun _ => zI 0))), (Sq5, .inl (Sa5, 8, .inl (fun _ => zI 0))), (Sq6, .inl (Sa6, 8, .inl (fun _ => zI 0))), (oF, .inr (1, [.ref Fq0, .ref Fq1, .ref Fq2, .ref Fq3, .ref Fq4, .int (zI 0), .int (zI 0), .int (zI 0), .long (zL 0), .int (zI 0)])), (Fq0, .inl (Fa0, 8, .inl (fun _ => zI 0))), (Fq1, .inl (Fa1, 8, .inl (fun _ => zI 0))), (Fq2, .inl (Fa2, 8, .inl (fun _ => zI 0))), (Fq3, .inl (Fa3, 8, .inl (fun _ => zI 0))), (Fq4, .inl (Fa4, 176, .inl (fun _ => zI 0)))] ++ [(oP, .inr (2, fs0_P))]) H locs := ⟨hw.1, hP, hD, hS, hw.2.2.2.2⟩
  refine lv_dup hx hb d_X_init_41 rfl ?_
  refine n_call hc (fun z => n_P_init oP z) rfl yw_P_init ii_P lk_X_32 hw hl.1 (Nat.le_of_ble_eq_true rfl) ⟨(Nat.le_of_ble_eq_true rfl), (Nat.le_of_ble_eq_true rfl)⟩ ⟨(Nat.le_of_ble_eq_true rfl), (Nat.le_of_ble_eq_true rfl)⟩ d_X_init_42 (fun w tys' H locs hn hw => ?_)
  obtain ⟨Pq0, Pq1, Pq2, Pq3, Pq4, Pq5, Pq6, Pq7, Pa0, Pa1, Pa2, Pa3, Pa5, Pa6, rfl, rfl⟩ := hn
  refine va_putF (D := D) (ci := 5) (C := R_X) (T := T_X) (N := 5) (ty := .object R_P) hx hb (hTB.hts _) in_X t_X t_X_ok n_X hown hw.1 hw.2.1 hw.2.2.1 hw.2.2.2.1 0 rfl rfl 3 (by decide) (hTB.hts _ _ lk_X_33) (fun _ h => h) rfl hin rfl (by decide +kernel) rfl rfl (Nat.le_of_ble_eq_true rfl) d_X_init_45 (fun H locs hP hD hS => ?_)
  replace hw : Wl D (Ab b sz) s.heap s [(Ba0, .boolean), (Ba1, .int), (Ba2, .int), (Ba3, .long), (Ba4, .long), (Ba5, .long), (Ba6, .long), (Sa0, .int), (Sa1, .int), (Sa2, .int), (Sa3, .long), (Sa4, .int), (Sa5, .int), (Sa6, .int), (Fa0, .int), (Fa1, .int), (Fa2, .int), (Fa3, .int), (Fa4, .char), (Pa0, .int), (Pa1, .int), (Pa2, .array .long), (Pa3, .long), (Pa3, .long), (Pa5, .array .long), (Pa6, .long), (Pa6, .long)] [(b, .inr (5, [.ref oB, .ref oS, .ref oF, .ref oP, .null])), (oB, .inr (0, [.ref Bq0, .ref Bq1, .ref Bq2, .ref Bq3, .ref Bq4, .ref Bq5, .ref Bq6, .int (zI 0), .int (zI 0), .long (zL 0)])), (Bq0, .inl (Ba0, 12, .inl (fun _ => zI 0))), (Bq1, .inl (Ba1, 12, .inl (fun _ => zI 0))), (Bq2, .inl (Ba2, 36, .inl (fun _ => zI 0))), (Bq3, .inl (Ba3, 36, .inr (.inl (fun _ => zL 0)))), (Bq4, .inl (Ba4, 36, .inr (.inl (fun _ => zL 0)))), (Bq5, .inl (Ba5, 36, .inr (.inl (fun _ => zL 0)))), (Bq6, .inl (Ba6, 36, .inr (.inl (fun _ => zL 0)))), (oS, .inr (4, [.ref Sq0, .ref Sq1, .ref Sq2, .ref Sq3, .ref Sq4, .ref Sq5, .ref Sq6, .int (zI 0), .long (zL 0)])), (Sq0, .inl (Sa0, 8, .inl (fun _ => zI 0))), (Sq1, .inl (Sa1, 8, .inl (fun _ => zI 0))), (Sq2, .inl (Sa2, 24, .inl (fun _ => zI 0))), (Sq3, .inl (Sa3, 24, .inr (.inl (fun _ => zL 0)))), (Sq4, .inl (Sa4, 24, .inl (fun _ => zI 0))), (Sq5, .inl (Sa5, 8, .inl (fun _ => zI 0))), (Sq6, .inl (Sa6, 8, .inl (fun _ => zI 0))), (oF, .inr (1, [.ref Fq0, .ref Fq1, .ref Fq2, .ref Fq3, .ref Fq4, .int (zI 0), .int (zI 0), .int (zI 0), .long (zL 0), .int (zI 0)])), (Fq0, .inl (Fa0, 8, .inl (fun _ => zI 0))), (Fq1, .inl (Fa1, 8, .inl (fun _ => zI 0))), (Fq2, .inl (Fa2, 8, .inl (fun _ => zI 0))), (Fq3, .inl (Fa3, 8, .inl (fun _ => zI 0))), (Fq4, .inl (Fa4, 176, .inl (fun _ => zI 0))), (oP, .inr (2, [.ref Pq0, .ref Pq1, .ref Pq2, .ref Pq5])), (Pq0, .inl (Pa0, 144, .inl (fun _ => zI 0))), (Pq1, .inl (Pa1, 12, .inl (fun _ => zI 0))), (Pq2, .inl (Pa2, 2, .inr (.inr (.inr (.inr (fun i => if i = 0 then some Pq3 else if i = 1 then some Pq4 else none)))))), (Pq3, .inl (Pa3, 144, .inr (.inl (fun _ => zL 0)))), (Pq4, .inl (Pa3, 144, .inr (.inl (fun _ => zL 0)))), (Pq5, .inl (Pa5, 2, .inr (.inr (.inr (.inr (fun i => if i = 0 then some Pq6 else if i = 1 then some Pq7 else none)))))), (Pq6, .inl (Pa6, 144, .inr (.inl (fun _ => zL 0)))), (Pq7, .inl (Pa6, 144, .inr (.inl (fun _ => zL 0))))] H locs := ⟨hw.1, hP, hD, hS, hw.2.2.2.2⟩
  refine lv_aload_n hx hb d_X_init_48 rfl (lv_at hl 0 rfl) ?_
  refine va_new (D := D) (ci := 3) (C := R_R) (T := T_R) (N := 4) (ws := [(b, .inr (5, [.ref oB, .ref oS, .ref oF, .ref oP, .null])), (oB, .inr (0, [.ref Bq0, .ref Bq1, .ref Bq2, .ref Bq3, .ref Bq4, .ref Bq5, .ref Bq6, .int (zI 0), .int (zI 0), .long (zL 0)])), (Bq0, .inl (Ba0, 12, .inl (fun _ => zI 0))), (Bq1, .inl (Ba1, 12, .inl (fun _ => zI 0))), (Bq2, .inl (Ba2, 36, .inl (fun _ => zI 0))), (Bq3, .inl (Ba3, 36, .inr (.inl (fun _ => zL 0)))), (Bq4, .inl (Ba4, 36, .inr (.inl (fun _ => zL 0)))), (Bq5, .inl (Ba5, 36, .inr (.inl (fun _ => zL 0)))), (Bq6, .inl (Ba6, 36, .inr (.inl (fun _ => zL 0)))), (oS, .inr (4, [.ref Sq0, .ref Sq1, .ref Sq2, .ref Sq3, .ref Sq4, .ref Sq5, .ref Sq6, .int (zI 0), .long (zL 0)])), (Sq0, .inl (Sa0, 8, .inl (fun _ => zI 0))), (Sq1, .inl (Sa1, 8, .inl (fun _ => zI 0))), (Sq2, .inl (Sa2, 24, .inl (fun _ => zI 0))), (Sq3, .inl (Sa3, 24, .inr (.inl (fun _ => zL 0)))), (Sq4, .inl (Sa4, 24, .inl (fun _ => zI 0))), (Sq5, .inl (Sa5, 8, .inl (fun _ => zI 0))), (Sq6, .inl (Sa6, 8, .inl (fun _ => zI 0))), (oF, .inr (1, [.ref Fq0, .ref Fq1, .ref Fq2, .ref Fq3, .ref Fq4, .int (zI 0), .int (zI 0), .int (zI 0), .long (zL 0), .int (zI 0)])), (Fq0, .inl (Fa0, 8, .inl (fun _ => zI 0))), (Fq1, .inl (Fa1, 8, .inl (fun _ => zI 0))), (Fq2, .inl (Fa2, 8, .inl (fun _ => zI 0))), (Fq3, .inl (Fa3, 8, .inl (fun _ => zI 0))), (Fq4, .inl (Fa4, 176, .inl (fun _ => zI 0))), (oP, .inr (2, [.ref Pq0, .ref Pq1, .ref Pq2, .ref Pq5])), (Pq0, .inl (Pa0, 144, .inl (fun _ => zI 0))), (Pq1, .inl (Pa1, 12, .inl (fun _ => zI 0))), (Pq2, .inl (Pa2, 2, .inr (.inr (.inr (.inr (fun i => if i = 0 then some Pq3 else if i = 1 then some Pq4 else none)))))), (Pq3, .inl (Pa3, 144, .inr (.inl (fun _ => zL 0)))), (Pq4, .inl (Pa3, 144, .inr (.inl (fun _ => zL 0)))), (Pq5, .inl (Pa5, 2, .inr (.inr (.inr (.inr (fun i => if i = 0 then some Pq6 else if i = 1 then some Pq7 else none)))))), (Pq6, .inl (Pa6, 144, .inr (.inl (fun _ => zL 0)))), (Pq7, .inl (Pa6, 144, .inr (.inl (fun _ => zL 0))))]) (fs := fs0_R) hx hb (hTB.hts _) in_R t_R t_R_ok hown (hTB.hts _ _ nw_R.1) (hTB.hts _ _ nw_R.2.1) (hTB.hts _ _ nw_R.2.2) hw.1 hw.2.1 hw.2.2.1 hw.2.2.2.1 hw.2.2.2.2 rfl fs0_R_ok (Nat.le_of_ble_eq_true rfl) (Nat.le_of_ble_eq_true rfl) d_X_init_49 (fun oR H hP hD hS => ?_)
  replace hw : Wl D (Ab b sz) s.heap s [(Ba0, .boolean), (Ba1, .int), (Ba2, .int), (Ba3, .long), (Ba4, .long), (Ba5, .long), (Ba6, .long), (Sa0, .int), (Sa1, .int), (Sa2, .int), (Sa3, .long), (Sa4, .int), (Sa5, .int), (Sa6, .int), (Fa0, .int), (Fa1, .int), (Fa2, .int), (Fa3, .int), (Fa4, .char), (Pa0, .int), (Pa1, .int), (Pa2, .array .long), (Pa3, .long), (Pa3, .long), (Pa5, .array .long), (Pa6, .long), (Pa6, .long)] ([(b, .inr (5, [.ref oB, .ref oS, .ref oF, .ref oP, .null])), (oB, .inr (0, [.ref Bq0, .ref Bq1, .ref Bq2, .ref Bq3, .ref Bq4, .ref Bq5, .ref Bq6, .int (zI 0), .int (zI 0), .long (zL 0)])), (Bq0, .inl (Ba0, 12, .inl (fun _ => zI 0))), (Bq1, .inl (Ba1, 12, .inl (fun _ => zI 0))), (Bq2, .inl (Ba2, 36, .inl (fun _ => zI 0))), (Bq3, .inl (Ba3, 36, .inr (.inl (fun _ => zL 0)))), (Bq4, .inl (Ba4, 36, .inr (.inl (fun _ => zL 0)))), (Bq5, .inl (Ba5, 36, .inr (.inl (fun _ => zL 0)))), (Bq6, .inl (Ba6, 36, .inr (.inl (fun _ => zL 0)))), (oS, .inr (4, [.ref Sq0, .ref Sq1, .ref Sq2, .ref Sq3, .ref Sq4, .ref Sq5, .ref Sq6, .int (zI 0), .long (zL 0)])), (Sq0, .inl (Sa0, 8, .inl (fun _ => zI 0))), (Sq1, .inl (Sa1, 8, .inl (fun _ => zI 0))), (Sq2, .inl (Sa2, 24, .inl (fun _ => zI 0))), (Sq3, .inl (Sa3, 24, .inr (.inl (fun _ => zL 0)))), (Sq4, .inl (Sa4, 24, .inl (fun _ => zI 0))), (Sq5, .inl (Sa5, 8, .inl (fun _ => zI 0))), (Sq6, .inl (Sa6, 8, .inl (fun _ => zI 0))), (oF, .inr (1, [.ref Fq0, .ref Fq1, .ref Fq2, .ref Fq3, .ref Fq4, .int (zI 0), .int (zI 0), .int (zI 0), .long (zL 0), .int (zI 0)])), (Fq0, .inl (Fa0, 8, .inl (fun _ => zI 0))), (Fq1, .inl (Fa1, 8, .inl (fun _ => zI 0))), (Fq2, .inl (Fa2, 8, .inl (fun _ => zI 0))), (Fq3, .inl (Fa3, 8, .inl (fun _ => zI 0))), (Fq4, .inl (Fa4, 176, .inl (fun _ => zI 0))), (oP, .inr (2, [.ref Pq0, .ref Pq1, .ref Pq2, .ref Pq5])), (Pq0, .inl (Pa0, 144, .inl (fun _ => zI 0))), (Pq1, .inl (Pa1, 12, .inl (fun _ => zI 0))), (Pq2, .inl (Pa2, 2, .inr (.inr (.inr (.inr (fun i => if i = 0 then some Pq3 else if i = 1 then some Pq4 else none)))))), (Pq3, .inl (Pa3, 144, .inr (.inl (fun _ => zL 0)))), (Pq4, .inl (Pa3, 144, .inr (.inl (fun _ => zL 0)))), (Pq5, .inl (Pa5, 2, .inr (.inr (.inr (.inr (fun i => if i = 0 then some Pq6 else if i = 1 then some Pq7 else none)))))), (Pq6, .inl (Pa6, 144, .inr (.inl (fun _ => zL 0)))), (Pq7, .inl (Pa6, 144, .inr (.inl (fun _ => zL 0))))] ++ [(oR, .inr (3, fs0_R))]) H locs := ⟨hw.1, hP, hD, hS, hw.2.2.2.2⟩
  refine lv_dup hx hb d_X_init_52 rfl ?_
  refine n_call hc (fun z => n_R_init oR z) rfl yw_R_init ii_R lk_X_39 hw hl.1 (Nat.le_of_ble_eq_true rfl) ⟨(Nat.le_of_ble_eq_true rfl), (Nat.le_of_ble_eq_true rfl)⟩ ⟨(Nat.le_of_ble_eq_true rfl), (Nat.le_of_ble_eq_true rfl)⟩ d_X_init_53 (fun w tys' H locs hn hw => ?_)
  obtain ⟨Rq0, Ra0, rfl, rfl⟩ := hn
  refine va_putF (D := D) (ci := 5) (C := R_X) (T := T_X) (N := 5) (ty := .object R_R) hx hb (hTB.hts _) in_X t_X t_X_ok n_X hown hw.1 hw.2.1 hw.2.2.1 hw.2.2.2.1 0 rfl rfl 4 (by decide) (hTB.hts _ _ lk_X_40) (fun _ h => h) rfl hin rfl (by decide +kernel) rfl rfl (Nat.le_of_ble_eq_true rfl) d_X_init_56 (fun H locs hP hD hS => ?_)
  replace hw : Wl D (Ab b sz) s.heap s [(Ba0, .boolean), (Ba1, .int), (Ba2, .int), (Ba3, .long), (Ba4, .long), (Ba5, .long), (Ba6, .long), (Sa0, .int), (Sa1, .int), (Sa2, .int), (Sa3, .long), (Sa4, .int), (Sa5, .int), (Sa6, .int), (Fa0, .int), (Fa1, .int), (Fa2, .int), (Fa3, .int), (Fa4, .char), (Pa0, .int), (Pa1, .int), (Pa2, .array .long), (Pa3, .long), (Pa3, .long), (Pa5, .array .long), (Pa6, .long), (Pa6, .long), (Ra0, .int)] [(b, .inr (5, [.ref oB, .ref oS, .ref oF, .ref oP, .ref oR])), (oB, .inr (0, [.ref Bq0, .ref Bq1, .ref Bq2, .ref Bq3, .ref Bq4, .ref Bq5, .ref Bq6, .int (zI 0), .int (zI 0), .long (zL 0)])), (Bq0, .inl (Ba0, 12, .inl (fun _ => zI 0))), (Bq1, .inl (Ba1, 12, .inl (fun _ => zI 0))), (Bq2, .inl (Ba2, 36, .inl (fun _ => zI 0))), (Bq3, .inl (Ba3, 36, .inr (.inl (fun _ => zL 0)))), (Bq4, .inl (Ba4, 36, .inr (.inl (fun _ => zL 0)))), (Bq5, .inl (Ba5, 36, .inr (.inl (fun _ => zL 0)))), (Bq6, .inl (Ba6, 36, .inr (.inl (fun _ => zL 0)))), (oS, .inr (4, [.ref Sq0, .ref Sq1, .ref Sq2, .ref Sq3, .ref Sq4, .ref Sq5, .ref Sq6, .int (zI 0), .long (zL 0)])), (Sq0, .inl (Sa0, 8, .inl (fun _ => zI 0))), (Sq1, .inl (Sa1, 8, .inl (fun _ => zI 0))), (Sq2, .inl (Sa2, 24, .inl (fun _ => zI 0))), (Sq3, .inl (Sa3, 24, .inr (.inl (fun _ => zL 0)))), (Sq4, .inl (Sa4, 24, .inl (fun _ => zI 0))), (Sq5, .inl (Sa5, 8, .inl (fun _ => zI 0))), (Sq6, .inl (Sa6, 8, .inl (fun _ => zI 0))), (oF, .inr (1, [.ref Fq0, .ref Fq1, .ref Fq2, .ref Fq3, .ref Fq4, .int (zI 0), .int (zI 0), .int (zI 0), .long (zL 0), .int (zI 0)])), (Fq0, .inl (Fa0, 8, .inl (fun _ => zI 0))), (Fq1, .inl (Fa1, 8, .inl (fun _ => zI 0))), (Fq2, .inl (Fa2, 8, .inl (fun _ => zI 0))), (Fq3, .inl (Fa3, 8, .inl (fun _ => zI 0))), (Fq4, .inl (Fa4, 176, .inl (fun _ => zI 0))), (oP, .inr (2, [.ref Pq0, .ref Pq1, .ref Pq2, .ref Pq5])), (Pq0, .inl (Pa0, 144, .inl (fun _ => zI 0))), (Pq1, .inl (Pa1, 12, .inl (fun _ => zI 0))), (Pq2, .inl (Pa2, 2, .inr (.inr (.inr (.inr (fun i => if i = 0 then some Pq3 else if i = 1 then some Pq4 else none)))))), (Pq3, .inl (Pa3, 144, .inr (.inl (fun _ => zL 0)))), (Pq4, .inl (Pa3, 144, .inr (.inl (fun _ => zL 0)))), (Pq5, .inl (Pa5, 2, .inr (.inr (.inr (.inr (fun i => if i = 0 then some Pq6 else if i = 1 then some Pq7 else none)))))), (Pq6, .inl (Pa6, 144, .inr (.inl (fun _ => zL 0)))), (Pq7, .inl (Pa6, 144, .inr (.inl (fun _ => zL 0)))), (oR, .inr (3, [.ref Rq0, .int (zI 0), .int (zI 0), .int (zI 0)])), (Rq0, .inl (Ra0, 12, .inl (fun _ => zI 0)))] H locs := ⟨hw.1, hP, hD, hS, hw.2.2.2.2⟩
  let ad : Nat → Nat := fun k => match k with
    | 100 => b
    | 101 => oB
    | 0 => Bq0
    | 1 => Bq1
    | 2 => Bq2
    | 3 => Bq3
    | 4 => Bq4
    | 5 => Bq5
    | 6 => Bq6
    | 105 => oS
    | 10 => Sq0
    | 11 => Sq1
    | 12 => Sq2
    | 13 => Sq3
    | 14 => Sq4
    | 15 => Sq5
    | 16 => Sq6
    | 102 => oF
    | 20 => Fq0
    | 21 => Fq1
    | 22 => Fq2
    | 23 => Fq3
    | 24 => Fq4
    | 103 => oP
    | 30 => Pq0
    | 31 => Pq1
    | 36 => Pq2
    | 32 => Pq3
    | 33 => Pq4
    | 37 => Pq5
    | 34 => Pq6
    | 35 => Pq7
    | 104 => oR
    | 40 => Rq0
    | _ => 0
  let ca : Nat → ClassId := fun k => match k with
    | 0 => Ba0
    | 1 => Ba1
    | 2 => Ba2
    | 3 => Ba3
    | 4 => Ba4
    | 5 => Ba5
    | 6 => Ba6
    | 10 => Sa0
    | 11 => Sa1
    | 12 => Sa2
    | 13 => Sa3
    | 14 => Sa4
    | 15 => Sa5
    | 16 => Sa6
    | 20 => Fa0
    | 21 => Fa1
    | 22 => Fa2
    | 23 => Fa3
    | 24 => Fa4
    | 30 => Pa0
    | 31 => Pa1
    | 36 => Pa2
    | 32 => Pa3
    | 33 => Pa3
    | 37 => Pa5
    | 34 => Pa6
    | 35 => Pa6
    | 40 => Ra0
    | _ => Ba0
  have hw2 : Wl D (Ab b sz) s.heap s (tyX ca) (wX ad ca z0) H locs := ⟨hw.1.sub [0, 1, 2, 3, 4, 5, 6, 14, 15, 16, 17, 18, 19, 20, 21, 22, 23, 24, 25, 26, 27, 7, 8, 9, 10, 11, 12, 13] rfl, hw.2.1.sub [0, 1, 17, 23, 32, 9, 2, 3, 4, 5, 6, 7, 8, 18, 19, 20, 21, 22, 24, 25, 26, 27, 28, 29, 30, 31, 33, 10, 11, 12, 13, 14, 15, 16] rfl, hw.2.2.1.sub [0, 1, 17, 23, 32, 9, 2, 3, 4, 5, 6, 7, 8, 18, 19, 20, 21, 22, 24, 25, 26, 27, 28, 29, 30, 31, 33, 10, 11, 12, 13, 14, 15, 16] (by decide) rfl, hw.2.2.2⟩
  exact n_ret hc hw2 ⟨ad, ca, rfl, rfl, rfl⟩ ⟨rfl, rfl⟩ d_X_init_59
def Wn_M (b : Nat) (w : va_W) (tys : List (ClassId × FieldType)) : Prop := ∃ (ad : Nat → Nat) (ca : Nat → ClassId), ad 100 = b ∧ w = wM ad ca z0 ∧ tys = tyM ca
theorem n_M_init {l : Launch} {D : va_G} (b sz : Nat) : Cn l D y_M_init c_M_init 2 16 1980 b 6 fs0_M (Wn_M b) sz := by
  refine Cn.enter rfl rfl ?_
  intro p e s m below meth c hc ls hl hw
  obtain ⟨hx, hb, hml, hown, hTB, hTN, hin, hr, hlk⟩ := id hc
  refine lv_aload_n hx hb d_M_init_0 rfl (lv_at hl 0 rfl) ?_
  refine W.objInit hx hb hown (hTB.hts _ _ oi_M) (hTB.hts _ _ oi_inst) (hTB.hts _ _ oi_code) rfl (by rw [hml]; exact hl.1) rfl d_M_init_1 (Nat.le_of_ble_eq_true rfl) (Nat.le_of_ble_eq_true rfl) ?_
  refine W.eq (g2 := F0 m 4 ls []) rfl ?_
  refine lv_aload_n hx hb d_M_init_4 rfl (lv_at hl 0 rfl) ?_
  refine z_bi hx hb d_M_init_5 (by decide) ?_
  refine n_newI (nL := 0) (atype := .boolean) (ty := .boolean) (N' := 12) hx hb hTB hw ac_boolean rfl 0 rfl (by decide) (by decide +kernel) (by decide) ⟨(Nat.le_of_ble_eq_true rfl), (Nat.le_of_ble_eq_true rfl)⟩ d_M_init_7 (fun q0 a0 H hw => ?_)
  refine va_putF (D := D) (ci := 6) (C := R_M) (T := T_M) (N := 26) (ty := .array .boolean) hx hb (hTB.hts _) in_M t_M t_M_ok n_M hown hw.1 hw.2.1 hw.2.2.1 hw.2.2.2.1 0 rfl rfl 2 (by decide) (hTB.hts _ _ lk_M_7) (fun _ h => h) rfl hin rfl (by decide +kernel) rfl rfl (Nat.le_of_ble_eq_true rfl) d_M_init_9 (fun H locs hP hD hS => ?_)
  replace hw : Wl D (Ab b sz) s.heap s [(a0, .boolean)] [(b, .inr (6, [.int (zI 0), .int (zI 0), .ref q0, .null, .null, .int (zI 0), .null, .null, .null, .null, .long (zL 0), .int (zI 0), .int (zI 0), .null, .null, .null, .int (zI 0), .int (zI 0), .null, .null, .null, .null, .null, .null, .int (zI 0), .long (zL 0)])), (q0, .inl (a0, 12, .inl (fun _ => zI 0)))] H locs := ⟨hw.1, hP, hD, hS, hw.2.2.2.2⟩
  refine lv_aload_n hx hb d_M_init_12 rfl (lv_at hl 0 rfl) ?_
  refine z_bi hx hb d_M_init_13 (by decide) ?_
  refine n_newI (nL := 0) (atype := .int) (ty := .int) (N' := 12) hx hb hTB hw ac_int rfl 0 rfl (by decide) (by decide +kernel) (by decide) ⟨(Nat.le_of_ble_eq_true rfl), (Nat.le_of_ble_eq_true rfl)⟩ d_M_init_15 (fun q1 a1 H hw => ?_)
  refine va_putF (D := D) (ci := 6) (C := R_M) (T := T_M) (N := 26) (ty := .array .int) hx hb (hTB.hts _) in_M t_M t_M_ok n_M hown hw.1 hw.2.1 hw.2.2.1 hw.2.2.2.1 0 rfl rfl 3 (by decide) (hTB.hts _ _ lk_M_13) (fun _ h => h) rfl hin rfl (by decide +kernel) rfl rfl (Nat.le_of_ble_eq_true rfl) d_M_init_17 (fun H locs hP hD hS => ?_)
  replace hw : Wl D (Ab b sz) s.heap s [(a0, .boolean), (a1, .int)] [(b, .inr (6, [.int (zI 0), .int (zI 0), .ref q0, .ref q1, .null, .int (zI 0), .null, .null, .null, .null, .long (zL 0), .int (zI 0), .int (zI 0), .null, .null, .null, .int (zI 0), .int (zI 0), .null, .null, .null, .null, .null, .null, .int (zI 0), .long (zL 0)])), (q0, .inl (a0, 12, .inl (fun _ => zI 0))), (q1, .inl (a1, 12, .inl (fun _ => zI 0)))] H locs := ⟨hw.1, hP, hD, hS, hw.2.2.2.2⟩
  refine lv_aload_n hx hb d_M_init_20 rfl (lv_at hl 0 rfl) ?_
  refine z_bi hx hb d_M_init_21 (by decide) ?_
  refine n_newI (nL := 0) (atype := .int) (ty := .int) (N' := 36) hx hb hTB hw ac_int rfl 0 rfl (by decide) (by decide +kernel) (by decide) ⟨(Nat.le_of_ble_eq_true rfl), (Nat.le_of_ble_eq_true rfl)⟩ d_M_init_23 (fun q2 a2 H hw => ?_)
  refine va_putF (D := D) (ci := 6) (C := R_M) (T := T_M) (N := 26) (ty := .array .int) hx hb (hTB.hts _) in_M t_M t_M_ok n_M hown hw.1 hw.2.1 hw.2.2.1 hw.2.2.2.1 0 rfl rfl 4 (by decide) (hTB.hts _ _ lk_M_17) (fun _ h => h) rfl hin rfl (by decide +kernel) rfl rfl (Nat.le_of_ble_eq_true rfl) d_M_init_25 (fun H locs hP hD hS => ?_)
  replace hw : Wl D (Ab b sz) s.heap s [(a0, .boolean), (a1, .int), (a2, .int)] [(b, .inr (6, [.int (zI 0), .int (zI 0), .ref q0, .ref q1, .ref q2, .int (zI 0), .null, .null, .null, .null, .long (zL 0), .int (zI 0), .int (zI 0), .null, .null, .null, .int (zI 0), .int (zI 0), .null, .null, .null, .null, .null, .null, .int (zI 0), .long (zL 0)])), (q0, .inl (a0, 12, .inl (fun _ => zI 0))), (q1, .inl (a1, 12, .inl (fun _ => zI 0))), (q2, .inl (a2, 36, .inl (fun _ => zI 0)))] H locs := ⟨hw.1, hP, hD, hS, hw.2.2.2.2⟩
  refine lv_aload_n hx hb d_M_init_28 rfl (lv_at hl 0 rfl) ?_
  refine z_bi hx hb d_M_init_29 (by decide) ?_
  refine n_newL (nL := 0) (N' := 36) hx hb hTB hw ac_long (by decide) (by decide +kernel) (by decide) ⟨(Nat.le_of_ble_eq_true rfl), (Nat.le_of_ble_eq_true rfl)⟩ d_M_init_31 (fun q3 a3 H hw => ?_)
  refine va_putF (D := D) (ci := 6) (C := R_M) (T := T_M) (N := 26) (ty := .array .long) hx hb (hTB.hts _) in_M t_M t_M_ok n_M hown hw.1 hw.2.1 hw.2.2.1 hw.2.2.2.1 0 rfl rfl 6 (by decide) (hTB.hts _ _ lk_M_20) (fun _ h => h) rfl hin rfl (by decide +kernel) rfl rfl (Nat.le_of_ble_eq_true rfl) d_M_init_33 (fun H locs hP hD hS => ?_)
  replace hw : Wl D (Ab b sz) s.heap s [(a0, .boolean), (a1, .int), (a2, .int), (a3, .long)] [(b, .inr (6, [.int (zI 0), .int (zI 0), .ref q0, .ref q1, .ref q2, .int (zI 0), .ref q3, .null, .null, .null, .long (zL 0), .int (zI 0), .int (zI 0), .null, .null, .null, .int (zI 0), .int (zI 0), .null, .null, .null, .null, .null, .null, .int (zI 0), .long (zL 0)])), (q0, .inl (a0, 12, .inl (fun _ => zI 0))), (q1, .inl (a1, 12, .inl (fun _ => zI 0))), (q2, .inl (a2, 36, .inl (fun _ => zI 0))), (q3, .inl (a3, 36, .inr (.inl (fun _ => zL 0))))] H locs := ⟨hw.1, hP, hD, hS, hw.2.2.2.2⟩
  refine lv_aload_n hx hb d_M_init_36 rfl (lv_at hl 0 rfl) ?_
  refine z_bi hx hb d_M_init_37 (by decide) ?_
  refine n_newL (nL := 0) (N' := 36) hx hb hTB hw ac_long (by decide) (by decide +kernel) (by decide) ⟨(Nat.le_of_ble_eq_true rfl), (Nat.le_of_ble_eq_true rfl)⟩ d_M_init_39 (fun q4 a4 H hw => ?_)
  refine va_putF (D := D) (ci := 6) (C := R_M) (T := T_M) (N := 26) (ty := .array .long) hx hb (hTB.hts _) in_M t_M t_M_ok n_M hown hw.1 hw.2.1 hw.2.2.1 hw.2.2.2.1 0 rfl rfl 7 (by decide) (hTB.hts _ _ lk_M_24) (fun _ h => h) rfl hin rfl (by decide +kernel) rfl rfl (Nat.le_of_ble_eq_true rfl) d_M_init_41 (fun H locs hP hD hS => ?_)
  replace hw : Wl D (Ab b sz) s.heap s [(a0, .boolean), (a1, .int), (a2, .int), (a3, .long), (a4, .long)] [(b, .inr (6, [.int (zI 0), .int (zI 0), .ref q0, .ref q1, .ref q2, .int (zI 0), .ref q3, .ref q4, .null, .null, .long (zL 0), .int (zI 0), .int (zI 0), .null, .null, .null, .int (zI 0), .int (zI 0), .null, .null, .null, .null, .null, .null, .int (zI 0), .long (zL 0)])), (q0, .inl (a0, 12, .inl (fun _ => zI 0))), (q1, .inl (a1, 12, .inl (fun _ => zI 0))), (q2, .inl (a2, 36, .inl (fun _ => zI 0))), (q3, .inl (a3, 36, .inr (.inl (fun _ => zL 0)))), (q4, .inl (a4, 36, .inr (.inl (fun _ => zL 0))))] H locs := ⟨hw.1, hP, hD, hS, hw.2.2.2.2⟩
  refine lv_aload_n hx hb d_M_init_44 rfl (lv_at hl 0 rfl) ?_
  refine z_bi hx hb d_M_init_45 (by decide) ?_
  refine n_newL (nL := 0) (N' := 36) hx hb hTB hw ac_long (by decide) (by decide +kernel) (by decide) ⟨(Nat.le_of_ble_eq_true rfl), (Nat.le_of_ble_eq_true rfl)⟩ d_M_init_47 (fun q5 a5 H hw => ?_)
  refine va_putF (D := D) (ci := 6) (C := R_M) (T := T_M) (N := 26) (ty := .array .long) hx hb (hTB.hts _) in_M t_M t_M_ok n_M hown hw.1 hw.2.1 hw.2.2.1 hw.2.2.2.1 0 rfl rfl 8 (by decide) (hTB.hts _ _ lk_M_27) (fun _ h => h) rfl hin rfl (by decide +kernel) rfl rfl (Nat.le_of_ble_eq_true rfl) d_M_init_49 (fun H locs hP hD hS => ?_)
  replace hw : Wl D (Ab b sz) s.heap s [(a0, .boolean), (a1, .int), (a2, .int), (a3, .long), (a4, .long), (a5, .long)] [(b, .inr (6, [.int (zI 0), .int (zI 0), .ref q0, .ref q1, .ref q2, .int (zI 0), .ref q3, .ref q4, .ref q5, .null, .long (zL 0), .int (zI 0), .int (zI 0), .null, .null, .null, .int (zI 0), .int (zI 0), .null, .null, .null, .null, .null, .null, .int (zI 0), .long (zL 0)])), (q0, .inl (a0, 12, .inl (fun _ => zI 0))), (q1, .inl (a1, 12, .inl (fun _ => zI 0))), (q2, .inl (a2, 36, .inl (fun _ => zI 0))), (q3, .inl (a3, 36, .inr (.inl (fun _ => zL 0)))), (q4, .inl (a4, 36, .inr (.inl (fun _ => zL 0)))), (q5, .inl (a5, 36, .inr (.inl (fun _ => zL 0))))] H locs := ⟨hw.1, hP, hD, hS, hw.2.2.2.2⟩
  refine lv_aload_n hx hb d_M_init_52 rfl (lv_at hl 0 rfl) ?_
  refine z_bi hx hb d_M_init_53 (by decide) ?_
  refine n_newL (nL := 0) (N' := 36) hx hb hTB hw ac_long (by decide) (by decide +kernel) (by decide) ⟨(Nat.le_of_ble_eq_true rfl), (Nat.le_of_ble_eq_true rfl)⟩ d_M_init_55 (fun q6 a6 H hw => ?_)
  refine va_putF (D := D) (ci := 6) (C := R_M) (T := T_M) (N := 26) (ty := .array .long) hx hb (hTB.hts _) in_M t_M t_M_ok n_M hown hw.1 hw.2.1 hw.2.2.1 hw.2.2.2.1 0 rfl rfl 9 (by decide) (hTB.hts _ _ lk_M_30) (fun _ h => h) rfl hin rfl (by decide +kernel) rfl rfl (Nat.le_of_ble_eq_true rfl) d_M_init_57 (fun H locs hP hD hS => ?_)
  replace hw : Wl D (Ab b sz) s.heap s [(a0, .boolean), (a1, .int), (a2, .int), (a3, .long), (a4, .long), (a5, .long), (a6, .long)] [(b, .inr (6, [.int (zI 0), .int (zI 0), .ref q0, .ref q1, .ref q2, .int (zI 0), .ref q3, .ref q4, .ref q5, .ref q6, .long (zL 0), .int (zI 0), .int (zI 0), .null, .null, .null, .int (zI 0), .int (zI 0), .null, .null, .null, .null, .null, .null, .int (zI 0), .long (zL 0)])), (q0, .inl (a0, 12, .inl (fun _ => zI 0))), (q1, .inl (a1, 12, .inl (fun _ => zI 0))), (q2, .inl (a2, 36, .inl (fun _ => zI 0))), (q3, .inl (a3, 36, .inr (.inl (fun _ => zL 0)))), (q4, .inl (a4, 36, .inr (.inl (fun _ => zL 0)))), (q5, .inl (a5, 36, .inr (.inl (fun _ => zL 0)))), (q6, .inl (a6, 36, .inr (.inl (fun _ => zL 0))))] H locs := ⟨hw.1, hP, hD, hS, hw.2.2.2.2⟩
  refine lv_aload_n hx hb d_M_init_60 rfl (lv_at hl 0 rfl) ?_
  refine z_bi hx hb d_M_init_61 (by decide) ?_
  refine n_newI (nL := 0) (atype := .int) (ty := .int) (N' := 8) hx hb hTB hw ac_int rfl 0 rfl (by decide) (by decide +kernel) (by decide) ⟨(Nat.le_of_ble_eq_true rfl), (Nat.le_of_ble_eq_true rfl)⟩ d_M_init_63 (fun q7 a7 H hw => ?_)
  refine va_putF (D := D) (ci := 6) (C := R_M) (T := T_M) (N := 26) (ty := .array .int) hx hb (hTB.hts _) in_M t_M t_M_ok n_M hown hw.1 hw.2.1 hw.2.2.1 hw.2.2.2.1 0 rfl rfl 13 (by decide) (hTB.hts _ _ lk_M_33) (fun _ h => h) rfl hin rfl (by decide +kernel) rfl rfl (Nat.le_of_ble_eq_true rfl) d_M_init_65 (fun H locs hP hD hS => ?_)
  replace hw : Wl D (Ab b sz) s.heap s [(a0, .boolean), (a1, .int), (a2, .int), (a3, .long), (a4, .long), (a5, .long), (a6, .long), (a7, .int)] [(b, .inr (6, [.int (zI 0), .int (zI 0), .ref q0, .ref q1, .ref q2, .int (zI 0), .ref q3, .ref q4, .ref q5, .ref q6, .long (zL 0), .int (zI 0), .int (zI 0), .ref q7, .null, .null, .int (zI 0), .int (zI 0), .null, .null, .null, .null, .null, .null, .int (zI 0), .long (zL 0)])), (q0, .inl (a0, 12, .inl (fun _ => zI 0))), (q1, .inl (a1, 12, .inl (fun _ => zI 0))), (q2, .inl (a2, 36, .inl (fun _ => zI 0))), (q3, .inl (a3, 36, .inr (.inl (fun _ => zL 0)))), (q4, .inl (a4, 36, .inr (.inl (fun _ => zL 0)))), (q5, .inl (a5, 36, .inr (.inl (fun _ => zL 0)))), (q6, .inl (a6, 36, .inr (.inl (fun _ => zL 0)))), (q7, .inl (a7, 8, .inl (fun _ => zI 0)))] H locs := ⟨hw.1, hP, hD, hS, hw.2.2.2.2⟩
  refine lv_aload_n hx hb d_M_init_68 rfl (lv_at hl 0 rfl) ?_
  refine z_bi hx hb d_M_init_69 (by decide) ?_
  refine n_newI (nL := 0) (atype := .int) (ty := .int) (N' := 8) hx hb hTB hw ac_int rfl 0 rfl (by decide) (by decide +kernel) (by decide) ⟨(Nat.le_of_ble_eq_true rfl), (Nat.le_of_ble_eq_true rfl)⟩ d_M_init_71 (fun q8 a8 H hw => ?_)
  refine va_putF (D := D) (ci := 6) (C := R_M) (T := T_M) (N := 26) (ty := .array .int) hx hb (hTB.hts _) in_M t_M t_M_ok n_M hown hw.1 hw.2.1 hw.2.2.1 hw.2.2.2.1 0 rfl rfl 14 (by decide) (hTB.hts _ _ lk_M_36) (fun _ h => h) rfl hin rfl (by decide +kernel) rfl rfl (Nat.le_of_ble_eq_true rfl) d_M_init_73 (fun H locs hP hD hS => ?_)
  replace hw : Wl D (Ab b sz) s.heap s [(a0, .boolean), (a1, .int), (a2, .int), (a3, .long), (a4, .long), (a5, .long), (a6, .long), (a7, .int), (a8, .int)] [(b, .inr (6, [.int (zI 0), .int (zI 0), .ref q0, .ref q1, .ref q2, .int (zI 0), .ref q3, .ref q4, .ref q5, .ref q6, .long (zL 0), .int (zI 0), .int (zI 0), .ref q7, .ref q8, .null, .int (zI 0), .int (zI 0), .null, .null, .null, .null, .null, .null, .int (zI 0), .long (zL 0)])), (q0, .inl (a0, 12, .inl (fun _ => zI 0))), (q1, .inl (a1, 12, .inl (fun _ => zI 0))), (q2, .inl (a2, 36, .inl (fun _ => zI 0))), (q3, .inl (a3, 36, .inr (.inl (fun _ => zL 0)))), (q4, .inl (a4, 36, .inr (.inl (fun _ => zL 0)))), (q5, .inl (a5, 36, .inr (.inl (fun _ => zL 0)))), (q6, .inl (a6, 36, .inr (.inl (fun _ => zL 0)))), (q7, .inl (a7, 8, .inl (fun _ => zI 0))), (q8, .inl (a8, 8, .inl (fun _ => zI 0)))] H locs := ⟨hw.1, hP, hD, hS, hw.2.2.2.2⟩
  refine lv_aload_n hx hb d_M_init_76 rfl (lv_at hl 0 rfl) ?_
  refine z_bi hx hb d_M_init_77 (by decide) ?_
  refine n_newI (nL := 0) (atype := .int) (ty := .int) (N' := 8) hx hb hTB hw ac_int rfl 0 rfl (by decide) (by decide +kernel) (by decide) ⟨(Nat.le_of_ble_eq_true rfl), (Nat.le_of_ble_eq_true rfl)⟩ d_M_init_79 (fun q9 a9 H hw => ?_)
  refine va_putF (D := D) (ci := 6) (C := R_M) (T := T_M) (N := 26) (ty := .array .int) hx hb (hTB.hts _) in_M t_M t_M_ok n_M hown hw.1 hw.2.1 hw.2.2.1 hw.2.2.2.1 0 rfl rfl 15 (by decide) (hTB.hts _ _ lk_M_39) (fun _ h => h) rfl hin rfl (by decide +kernel) rfl rfl (Nat.le_of_ble_eq_true rfl) d_M_init_81 (fun H locs hP hD hS => ?_)
  replace hw : Wl D (Ab b sz) s.heap s [(a0, .boolean), (a1, .int), (a2, .int), (a3, .long), (a4, .long), (a5, .long), (a6, .long), (a7, .int), (a8, .int), (a9, .int)] [(b, .inr (6, [.int (zI 0), .int (zI 0), .ref q0, .ref q1, .ref q2, .int (zI 0), .ref q3, .ref q4, .ref q5, .ref q6, .long (zL 0), .int (zI 0), .int (zI 0), .ref q7, .ref q8, .ref q9, .int (zI 0), .int (zI 0), .null, .null, .null, .null, .null, .null, .int (zI 0), .long (zL 0)])), (q0, .inl (a0, 12, .inl (fun _ => zI 0))), (q1, .inl (a1, 12, .inl (fun _ => zI 0))), (q2, .inl (a2, 36, .inl (fun _ => zI 0))), (q3, .inl (a3, 36, .inr (.inl (fun _ => zL 0)))), (q4, .inl (a4, 36, .inr (.inl (fun _ => zL 0)))), (q5, .inl (a5, 36, .inr (.inl (fun _ => zL 0)))), (q6, .inl (a6, 36, .inr (.inl (fun _ => zL 0)))), (q7, .inl (a7, 8, .inl (fun _ => zI 0))), (q8, .inl (a8, 8, .inl (fun _ => zI 0))), (q9, .inl (a9, 8, .inl (fun _ => zI 0)))] H locs := ⟨hw.1, hP, hD, hS, hw.2.2.2.2⟩
  refine lv_aload_n hx hb d_M_init_84 rfl (lv_at hl 0 rfl) ?_
  refine z_bi hx hb d_M_init_85 (by decide) ?_
  refine n_newI (nL := 0) (atype := .int) (ty := .int) (N' := 8) hx hb hTB hw ac_int rfl 0 rfl (by decide) (by decide +kernel) (by decide) ⟨(Nat.le_of_ble_eq_true rfl), (Nat.le_of_ble_eq_true rfl)⟩ d_M_init_87 (fun q10 a10 H hw => ?_)
  refine va_putF (D := D) (ci := 6) (C := R_M) (T := T_M) (N := 26) (ty := .array .int) hx hb (hTB.hts _) in_M t_M t_M_ok n_M hown hw.1 hw.2.1 hw.2.2.1 hw.2.2.2.1 0 rfl rfl 18 (by decide) (hTB.hts _ _ lk_M_42) (fun _ h => h) rfl hin rfl (by decide +kernel) rfl rfl (Nat.le_of_ble_eq_true rfl) d_M_init_89 (fun H locs hP hD hS => ?_)
  replace hw : Wl D (Ab b sz) s.heap s [(a0, .boolean), (a1, .int), (a2, .int), (a3, .long), (a4, .long), (a5, .long), (a6, .long), (a7, .int), (a8, .int), (a9, .int), (a10, .int)] [(b, .inr (6, [.int (zI 0), .int (zI 0), .ref q0, .ref q1, .ref q2, .int (zI 0), .ref q3, .ref q4, .ref q5, .ref q6, .long (zL 0), .int (zI 0), .int (zI 0), .ref q7, .ref q8, .ref q9, .int (zI 0), .int (zI 0), .ref q10, .null, .null, .null, .null, .null, .int (zI 0), .long (zL 0)])), (q0, .inl (a0, 12, .inl (fun _ => zI 0))), (q1, .inl (a1, 12, .inl (fun _ => zI 0))), (q2, .inl (a2, 36, .inl (fun _ => zI 0))), (q3, .inl (a3, 36, .inr (.inl (fun _ => zL 0)))), (q4, .inl (a4, 36, .inr (.inl (fun _ => zL 0)))), (q5, .inl (a5, 36, .inr (.inl (fun _ => zL 0)))), (q6, .inl (a6, 36, .inr (.inl (fun _ => zL 0)))), (q7, .inl (a7, 8, .inl (fun _ => zI 0))), (q8, .inl (a8, 8, .inl (fun _ => zI 0))), (q9, .inl (a9, 8, .inl (fun _ => zI 0))), (q10, .inl (a10, 8, .inl (fun _ => zI 0)))] H locs := ⟨hw.1, hP, hD, hS, hw.2.2.2.2⟩
  refine lv_aload_n hx hb d_M_init_92 rfl (lv_at hl 0 rfl) ?_
  refine z_si hx hb d_M_init_93 (by decide) ?_
  refine n_newI (nL := 0) (atype := .int) (ty := .int) (N' := 144) hx hb hTB hw ac_int rfl 0 rfl (by decide) (by decide +kernel) (by decide) ⟨(Nat.le_of_ble_eq_true rfl), (Nat.le_of_ble_eq_true rfl)⟩ d_M_init_96 (fun q11 a11 H hw => ?_)
  refine va_putF (D := D) (ci := 6) (C := R_M) (T := T_M) (N := 26) (ty := .array .int) hx hb (hTB.hts _) in_M t_M t_M_ok n_M hown hw.1 hw.2.1 hw.2.2.1 hw.2.2.2.1 0 rfl rfl 19 (by decide) (hTB.hts _ _ lk_M_45) (fun _ h => h) rfl hin rfl (by decide +kernel) rfl rfl (Nat.le_of_ble_eq_true rfl) d_M_init_98 (fun H locs hP hD hS => ?_)
  replace hw : Wl D (Ab b sz) s.heap s [(a0, .boolean), (a1, .int), (a2, .int), (a3, .long), (a4, .long), (a5, .long), (a6, .long), (a7, .int), (a8, .int), (a9, .int), (a10, .int), (a11, .int)] [(b, .inr (6, [.int (zI 0), .int (zI 0), .ref q0, .ref q1, .ref q2, .int (zI 0), .ref q3, .ref q4, .ref q5, .ref q6, .long (zL 0), .int (zI 0), .int (zI 0), .ref q7, .ref q8, .ref q9, .int (zI 0), .int (zI 0), .ref q10, .ref q11, .null, .null, .null, .null, .int (zI 0), .long (zL 0)])), (q0, .inl (a0, 12, .inl (fun _ => zI 0))), (q1, .inl (a1, 12, .inl (fun _ => zI 0))), (q2, .inl (a2, 36, .inl (fun _ => zI 0))), (q3, .inl (a3, 36, .inr (.inl (fun _ => zL 0)))), (q4, .inl (a4, 36, .inr (.inl (fun _ => zL 0)))), (q5, .inl (a5, 36, .inr (.inl (fun _ => zL 0)))), (q6, .inl (a6, 36, .inr (.inl (fun _ => zL 0)))), (q7, .inl (a7, 8, .inl (fun _ => zI 0))), (q8, .inl (a8, 8, .inl (fun _ => zI 0))), (q9, .inl (a9, 8, .inl (fun _ => zI 0))), (q10, .inl (a10, 8, .inl (fun _ => zI 0))), (q11, .inl (a11, 144, .inl (fun _ => zI 0)))] H locs := ⟨hw.1, hP, hD, hS, hw.2.2.2.2⟩
  refine lv_aload_n hx hb d_M_init_101 rfl (lv_at hl 0 rfl) ?_
  refine z_si hx hb d_M_init_102 (by decide) ?_
  refine n_newL (nL := 0) (N' := 1152) hx hb hTB hw ac_long (by decide) (by decide +kernel) (by decide) ⟨(Nat.le_of_ble_eq_true rfl), (Nat.le_of_ble_eq_true rfl)⟩ d_M_init_105 (fun q12 a12 H hw => ?_)
  refine va_putF (D := D) (ci := 6) (C := R_M) (T := T_M) (N := 26) (ty := .array .long) hx hb (hTB.hts _) in_M t_M t_M_ok n_M hown hw.1 hw.2.1 hw.2.2.1 hw.2.2.2.1 0 rfl rfl 20 (by decide) (hTB.hts _ _ lk_M_48) (fun _ h => h) rfl hin rfl (by decide +kernel) rfl rfl (Nat.le_of_ble_eq_true rfl) d_M_init_107 (fun H locs hP hD hS => ?_)
  replace hw : Wl D (Ab b sz) s.heap s [(a0, .boolean), (a1, .int), (a2, .int), (a3, .long), (a4, .long), (a5, .long), (a6, .long), (a7, .int), (a8, .int), (a9, .int), (a10, .int), (a11, .int), (a12, .long)] [(b, .inr (6, [.int (zI 0), .int (zI 0), .ref q0, .ref q1, .ref q2, .int (zI 0), .ref q3, .ref q4, .ref q5, .ref q6, .long (zL 0), .int (zI 0), .int (zI 0), .ref q7, .ref q8, .ref q9, .int (zI 0), .int (zI 0), .ref q10, .ref q11, .ref q12, .null, .null, .null, .int (zI 0), .long (zL 0)])), (q0, .inl (a0, 12, .inl (fun _ => zI 0))), (q1, .inl (a1, 12, .inl (fun _ => zI 0))), (q2, .inl (a2, 36, .inl (fun _ => zI 0))), (q3, .inl (a3, 36, .inr (.inl (fun _ => zL 0)))), (q4, .inl (a4, 36, .inr (.inl (fun _ => zL 0)))), (q5, .inl (a5, 36, .inr (.inl (fun _ => zL 0)))), (q6, .inl (a6, 36, .inr (.inl (fun _ => zL 0)))), (q7, .inl (a7, 8, .inl (fun _ => zI 0))), (q8, .inl (a8, 8, .inl (fun _ => zI 0))), (q9, .inl (a9, 8, .inl (fun _ => zI 0))), (q10, .inl (a10, 8, .inl (fun _ => zI 0))), (q11, .inl (a11, 144, .inl (fun _ => zI 0))), (q12, .inl (a12, 1152, .inr (.inl (fun _ => zL 0))))] H locs := ⟨hw.1, hP, hD, hS, hw.2.2.2.2⟩
  refine lv_aload_n hx hb d_M_init_110 rfl (lv_at hl 0 rfl) ?_
  refine z_bi hx hb d_M_init_111 (by decide) ?_
  refine n_newI (nL := 0) (atype := .int) (ty := .int) (N' := 12) hx hb hTB hw ac_int rfl 0 rfl (by decide) (by decide +kernel) (by decide) ⟨(Nat.le_of_ble_eq_true rfl), (Nat.le_of_ble_eq_true rfl)⟩ d_M_init_113 (fun q13 a13 H hw => ?_)
  refine va_putF (D := D) (ci := 6) (C := R_M) (T := T_M) (N := 26) (ty := .array .int) hx hb (hTB.hts _) in_M t_M t_M_ok n_M hown hw.1 hw.2.1 hw.2.2.1 hw.2.2.2.1 0 rfl rfl 21 (by decide) (hTB.hts _ _ lk_M_51) (fun _ h => h) rfl hin rfl (by decide +kernel) rfl rfl (Nat.le_of_ble_eq_true rfl) d_M_init_115 (fun H locs hP hD hS => ?_)
  replace hw : Wl D (Ab b sz) s.heap s [(a0, .boolean), (a1, .int), (a2, .int), (a3, .long), (a4, .long), (a5, .long), (a6, .long), (a7, .int), (a8, .int), (a9, .int), (a10, .int), (a11, .int), (a12, .long), (a13, .int)] [(b, .inr (6, [.int (zI 0), .int (zI 0), .ref q0, .ref q1, .ref q2, .int (zI 0), .ref q3, .ref q4, .ref q5, .ref q6, .long (zL 0), .int (zI 0), .int (zI 0), .ref q7, .ref q8, .ref q9, .int (zI 0), .int (zI 0), .ref q10, .ref q11, .ref q12, .ref q13, .null, .null, .int (zI 0), .long (zL 0)])), (q0, .inl (a0, 12, .inl (fun _ => zI 0))), (q1, .inl (a1, 12, .inl (fun _ => zI 0))), (q2, .inl (a2, 36, .inl (fun _ => zI 0))), (q3, .inl (a3, 36, .inr (.inl (fun _ => zL 0)))), (q4, .inl (a4, 36, .inr (.inl (fun _ => zL 0)))), (q5, .inl (a5, 36, .inr (.inl (fun _ => zL 0)))), (q6, .inl (a6, 36, .inr (.inl (fun _ => zL 0)))), (q7, .inl (a7, 8, .inl (fun _ => zI 0))), (q8, .inl (a8, 8, .inl (fun _ => zI 0))), (q9, .inl (a9, 8, .inl (fun _ => zI 0))), (q10, .inl (a10, 8, .inl (fun _ => zI 0))), (q11, .inl (a11, 144, .inl (fun _ => zI 0))), (q12, .inl (a12, 1152, .inr (.inl (fun _ => zL 0)))), (q13, .inl (a13, 12, .inl (fun _ => zI 0)))] H locs := ⟨hw.1, hP, hD, hS, hw.2.2.2.2⟩
  refine lv_aload_n hx hb d_M_init_118 rfl (lv_at hl 0 rfl) ?_
  refine z_bi hx hb d_M_init_119 (by decide) ?_
  refine n_newI (nL := 0) (atype := .boolean) (ty := .boolean) (N' := 36) hx hb hTB hw ac_boolean rfl 0 rfl (by decide) (by decide +kernel) (by decide) ⟨(Nat.le_of_ble_eq_true rfl), (Nat.le_of_ble_eq_true rfl)⟩ d_M_init_121 (fun q14 a14 H hw => ?_)
  refine va_putF (D := D) (ci := 6) (C := R_M) (T := T_M) (N := 26) (ty := .array .boolean) hx hb (hTB.hts _) in_M t_M t_M_ok n_M hown hw.1 hw.2.1 hw.2.2.1 hw.2.2.2.1 0 rfl rfl 22 (by decide) (hTB.hts _ _ lk_M_54) (fun _ h => h) rfl hin rfl (by decide +kernel) rfl rfl (Nat.le_of_ble_eq_true rfl) d_M_init_123 (fun H locs hP hD hS => ?_)
  replace hw : Wl D (Ab b sz) s.heap s [(a0, .boolean), (a1, .int), (a2, .int), (a3, .long), (a4, .long), (a5, .long), (a6, .long), (a7, .int), (a8, .int), (a9, .int), (a10, .int), (a11, .int), (a12, .long), (a13, .int), (a14, .boolean)] [(b, .inr (6, [.int (zI 0), .int (zI 0), .ref q0, .ref q1, .ref q2, .int (zI 0), .ref q3, .ref q4, .ref q5, .ref q6, .long (zL 0), .int (zI 0), .int (zI 0), .ref q7, .ref q8, .ref q9, .int (zI 0), .int (zI 0), .ref q10, .ref q11, .ref q12, .ref q13, .ref q14, .null, .int (zI 0), .long (zL 0)])), (q0, .inl (a0, 12, .inl (fun _ => zI 0))), (q1, .inl (a1, 12, .inl (fun _ => zI 0))), (q2, .inl (a2, 36, .inl (fun _ => zI 0))), (q3, .inl (a3, 36, .inr (.inl (fun _ => zL 0)))), (q4, .inl (a4, 36, .inr (.inl (fun _ => zL 0)))), (q5, .inl (a5, 36, .inr (.inl (fun _ => zL 0)))), (q6, .inl (a6, 36, .inr (.inl (fun _ => zL 0)))), (q7, .inl (a7, 8, .inl (fun _ => zI 0))), (q8, .inl (a8, 8, .inl (fun _ => zI 0))), (q9, .inl (a9, 8, .inl (fun _ => zI 0))), (q10, .inl (a10, 8, .inl (fun _ => zI 0))), (q11, .inl (a11, 144, .inl (fun _ => zI 0))), (q12, .inl (a12, 1152, .inr (.inl (fun _ => zL 0)))), (q13, .inl (a13, 12, .inl (fun _ => zI 0))), (q14, .inl (a14, 36, .inl (fun _ => zI 0)))] H locs := ⟨hw.1, hP, hD, hS, hw.2.2.2.2⟩
  refine lv_aload_n hx hb d_M_init_126 rfl (lv_at hl 0 rfl) ?_
  refine z_si hx hb d_M_init_127 (by decide) ?_
  refine n_newI (nL := 0) (atype := .int) (ty := .int) (N' := 400) hx hb hTB hw ac_int rfl 0 rfl (by decide) (by decide +kernel) (by decide) ⟨(Nat.le_of_ble_eq_true rfl), (Nat.le_of_ble_eq_true rfl)⟩ d_M_init_130 (fun q15 a15 H hw => ?_)
  refine va_putF (D := D) (ci := 6) (C := R_M) (T := T_M) (N := 26) (ty := .array .int) hx hb (hTB.hts _) in_M t_M t_M_ok n_M hown hw.1 hw.2.1 hw.2.2.1 hw.2.2.2.1 0 rfl rfl 23 (by decide) (hTB.hts _ _ lk_M_57) (fun _ h => h) rfl hin rfl (by decide +kernel) rfl rfl (Nat.le_of_ble_eq_true rfl) d_M_init_132 (fun H locs hP hD hS => ?_)
  replace hw : Wl D (Ab b sz) s.heap s [(a0, .boolean), (a1, .int), (a2, .int), (a3, .long), (a4, .long), (a5, .long), (a6, .long), (a7, .int), (a8, .int), (a9, .int), (a10, .int), (a11, .int), (a12, .long), (a13, .int), (a14, .boolean), (a15, .int)] [(b, .inr (6, [.int (zI 0), .int (zI 0), .ref q0, .ref q1, .ref q2, .int (zI 0), .ref q3, .ref q4, .ref q5, .ref q6, .long (zL 0), .int (zI 0), .int (zI 0), .ref q7, .ref q8, .ref q9, .int (zI 0), .int (zI 0), .ref q10, .ref q11, .ref q12, .ref q13, .ref q14, .ref q15, .int (zI 0), .long (zL 0)])), (q0, .inl (a0, 12, .inl (fun _ => zI 0))), (q1, .inl (a1, 12, .inl (fun _ => zI 0))), (q2, .inl (a2, 36, .inl (fun _ => zI 0))), (q3, .inl (a3, 36, .inr (.inl (fun _ => zL 0)))), (q4, .inl (a4, 36, .inr (.inl (fun _ => zL 0)))), (q5, .inl (a5, 36, .inr (.inl (fun _ => zL 0)))), (q6, .inl (a6, 36, .inr (.inl (fun _ => zL 0)))), (q7, .inl (a7, 8, .inl (fun _ => zI 0))), (q8, .inl (a8, 8, .inl (fun _ => zI 0))), (q9, .inl (a9, 8, .inl (fun _ => zI 0))), (q10, .inl (a10, 8, .inl (fun _ => zI 0))), (q11, .inl (a11, 144, .inl (fun _ => zI 0))), (q12, .inl (a12, 1152, .inr (.inl (fun _ => zL 0)))), (q13, .inl (a13, 12, .inl (fun _ => zI 0))), (q14, .inl (a14, 36, .inl (fun _ => zI 0))), (q15, .inl (a15, 400, .inl (fun _ => zI 0)))] H locs := ⟨hw.1, hP, hD, hS, hw.2.2.2.2⟩
  let ad : Nat → Nat := fun k => match k with
    | 100 => b
    | 2 => q0
    | 3 => q1
    | 4 => q2
    | 6 => q3
    | 7 => q4
    | 8 => q5
    | 9 => q6
    | 13 => q7
    | 14 => q8
    | 15 => q9
    | 18 => q10
    | 19 => q11
    | 20 => q12
    | 21 => q13
    | 22 => q14
    | 23 => q15
    | _ => 0
  let ca : Nat → ClassId := fun k => match k with
    | 2 => a0
    | 3 => a1
    | 4 => a2
    | 6 => a3
    | 7 => a4
    | 8 => a5
    | 9 => a6
    | 13 => a7
    | 14 => a8
    | 15 => a9
    | 18 => a10
    | 19 => a11
    | 20 => a12
    | 21 => a13
    | 22 => a14
    | 23 => a15
    | _ => a0
  have hw2 : Wl D (Ab b sz) s.heap s (tyM ca) (wM ad ca z0) H locs := ⟨hw.1.sub [0, 1, 2, 3, 4, 5, 6, 7, 8, 9, 10, 11, 12, 13, 14, 15] rfl, hw.2.1.sub [0, 1, 2, 3, 4, 5, 6, 7, 8, 9, 10, 11, 12, 13, 14, 15, 16] rfl, hw.2.2.1.sub [0, 1, 2, 3, 4, 5, 6, 7, 8, 9, 10, 11, 12, 13, 14, 15, 16] (by decide) rfl, hw.2.2.2⟩
  exact n_ret hc hw2 ⟨ad, ca, rfl, rfl, rfl⟩ ⟨rfl, rfl⟩ d_M_init_135
