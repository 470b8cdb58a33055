/-! the class's methods that may throw: where they return (k_), where they throw (t_) -/
theorem xq_IOB : (127, xIOB) ∈ [(127, xIOB), (64, xIAE), (136, xISE)] := by decide +kernel
theorem xlk_IOB : Cond.classLink "ProbeChoice" 123 xIOB ∈ lw_gd ∧ Cond.instantiable xIOB 6 ∈ lw_gd ∧ Cond.initialized xIOB ∈ lw_gd := by decide +kernel
theorem xq_IAE : (64, xIAE) ∈ [(127, xIOB), (64, xIAE), (136, xISE)] := by decide +kernel
theorem xlk_IAE : Cond.classLink "ProbeChoice" 60 xIAE ∈ lw_gd ∧ Cond.instantiable xIAE 6 ∈ lw_gd ∧ Cond.initialized xIAE ∈ lw_gd := by decide +kernel
theorem xq_ISE : (136, xISE) ∈ [(127, xIOB), (64, xIAE), (136, xISE)] := by decide +kernel
theorem xlk_ISE : Cond.classLink "ProbeChoice" 132 xISE ∈ lw_gd ∧ Cond.instantiable xISE 6 ∈ lw_gd ∧ Cond.initialized xISE ∈ lw_gd := by decide +kernel
theorem xs_201 : (201, "no such net") ∈ xStr := by decide +kernel
theorem xs_62 : (62, "no place") ∈ xStr := by decide +kernel
theorem xs_69 : (69, "no radius") ∈ xStr := by decide +kernel
theorem xs_75 : (75, "no gap") ∈ xStr := by decide +kernel
theorem xs_83 : (83, "not so many nets") ∈ xStr := by decide +kernel
theorem xs_117 : (117, "no resistances") ∈ xStr := by decide +kernel
theorem xs_125 : (125, "no such end or part") ∈ xStr := by decide +kernel
theorem xs_134 : (134, "no parts") ∈ xStr := by decide +kernel
theorem xs_148 : (148, "no such row") ∈ xStr := by decide +kernel
theorem xs_162 : (162, "no such suspect or what") ∈ xStr := by decide +kernel
theorem xs_178 : (178, "no such point") ∈ xStr := by decide +kernel
theorem xs_180 : (180, "no force") ∈ xStr := by decide +kernel
theorem xs_190 : (190, "no such character") ∈ xStr := by decide +kernel
theorem IB_cg {σ τ : St} (h : IB σ) (hg : ∀ g, g < 10 → τ g = σ g) : IB τ := by
  unfold IB
  rw [hg 7 (by decide), hg 8 (by decide), hg 9 (by decide), hg 3 (by decide), hg 4 (by decide), hg 5 (by decide), hg 6 (by decide), hg 1 (by decide), hg 2 (by decide), hg 0 (by decide)]
  exact h
theorem nbF_r (a k : Int) : ∀ (f : Nat) (n b : Int), nbF a k f n b = -1 ∨ (n ≤ nbF a k f n b ∧ nbF a k f n b < n + f) := by
  intro f
  induction f with
  | zero => intro n b; exact Or.inl rfl
  | succ f ih =>
    intro n b
    rw [nbF_s]
    split
    · split
      · exact Or.inr ⟨Int.le_refl _, by omega⟩
      · rcases ih (n + 1) (b + 1) with h | h
        · exact Or.inl h
        · exact Or.inr ⟨by omega, by omega⟩
    · rcases ih (n + 1) b with h | h
      · exact Or.inl h
      · exact Or.inr ⟨by omega, by omega⟩
theorem ex_40 : ∀ (f : Nat) (τ : St) (n t : Int), ex f τ n t 40 = τ 40 := by
  intro f
  induction f with
  | zero =>
    intro τ n t
    unfold ex
    split
    · rfl
    · rw [up_f _ _ _ (by decide), up_f _ _ _ (by decide)]
  | succ f ih =>
    intro τ n t
    rw [ex_s]
    split
    · rfl
    · split
      · exact ih τ (n + 1) t
      · rw [ih, ih]
theorem smC_40 (σ : St) : smC σ 40 = σ 40 := by
  unfold smC
  split
  · rfl
  · rw [up_f _ _ _ (by decide), ex_40, up_f _ _ _ (by decide)]
set_option maxHeartbeats 400000 in
set_option maxRecDepth 100000 in
theorem k_X_needNet {l : Launch} {D : va_G} {ad : Nat → Nat} {ca : Nat → ClassId} (σ : St) (a : Int) (ha : r32 a) (hI : 0 ≤ σ 7 0 ∧ σ 7 0 ≤ 12) (h : 0 ≤ a ∧ a < σ 7 0) : Cw l D cl7 (tyX ca) (wX ad ca) y_X_needNet c_X_needNet 2 none 1 [.ref (ad 100), .int (zI a)] σ (VW (σ = ·)) := by
  refine Cw.enter (by decide) (Nat.le_of_ble_eq_true rfl) ?_
  intro A p e s m below meth c hc ls hl hw
  have hl : lv_has ls 2 [(0, .ref (ad 100)), (1, .int (zI a))] := hl
  obtain ⟨hx, hb, hml, hown, hTB, hK, hr, hlk⟩ := id hc
  refine lv_aload_n hx hb d_X_needNet_0 rfl (lv_at hl 0 rfl) ?_
  refine gX_X_board hc hw lk_X_12 d_X_needNet_1 ?_
  refine lv_iload_n hx hb d_X_needNet_4 rfl (lv_at hl 1 rfl) ?_
  refine w_cvR (q0 := 1) hc hw (k_B_hasNet _ _ ha hI) yw_B_hasNet yi_B_hasNet lk_X_198 d_X_needNet_5 rfl rfl rfl rfl hl.1 (Nat.le_of_ble_eq_true rfl) ⟨Nat.le_of_ble_eq_true rfl, Nat.le_of_ble_eq_true rfl⟩ ⟨Nat.zero_le _, Nat.zero_le _⟩ (fun τ5 H locs hτ5 hw => ?_)
  subst hτ5
  refine z_ifb_ne hx hb 21 d_X_needNet_8 (by decide) (fun c8 => ?_) (fun c8 => ?_)
  · exact w_vret hc hw (⟨rfl, rfl⟩) d_X_needNet_21
  · exfalso; omega
set_option maxHeartbeats 400000 in
set_option maxRecDepth 100000 in
theorem t_X_needNet {l : Launch} {D : va_G} {ad : Nat → Nat} {ca : Nat → ClassId} (hfl : l.flags = pinnedFlags ++ [noTraceFlag]) (σ : St) (a : Int) (ha : r32 a) (hI : 0 ≤ σ 7 0 ∧ σ 7 0 ≤ 12) (h : ¬ (0 ≤ a ∧ a < σ 7 0)) : Ct l D cl7 (tyX ca) (wX ad ca) y_X_needNet c_X_needNet 2 none 6 [.ref (ad 100), .int (zI a)] σ σ xIOB := by
  refine Ct.enter (by decide) (Nat.le_of_ble_eq_true rfl) ?_
  intro A p e s m below meth c hc hX ls hl hw
  have hl : lv_has ls 2 [(0, .ref (ad 100)), (1, .int (zI a))] := hl
  obtain ⟨hx, hb, hml, hown, hTB, hK, hr, hlk⟩ := id hc
  refine lv_aload_n hx hb d_X_needNet_0 rfl (lv_at hl 0 rfl) ?_
  refine gX_X_board hc hw lk_X_12 d_X_needNet_1 ?_
  refine lv_iload_n hx hb d_X_needNet_4 rfl (lv_at hl 1 rfl) ?_
  refine w_cvR (q0 := 1) hc hw (k_B_hasNet _ _ ha hI) yw_B_hasNet yi_B_hasNet lk_X_198 d_X_needNet_5 rfl rfl rfl rfl hl.1 (Nat.le_of_ble_eq_true rfl) ⟨Nat.le_of_ble_eq_true rfl, Nat.le_of_ble_eq_true rfl⟩ ⟨Nat.zero_le _, Nat.zero_le _⟩ (fun τ5 H locs hτ5 hw => ?_)
  subst hτ5
  refine z_ifb_ne hx hb 21 d_X_needNet_8 (by decide) (fun c8 => ?_) (fun c8 => ?_)
  · exfalso; omega
  · exact w_throw hfl hc hX hw xq_IOB xlk_IOB xs_201 hl.1 (Nat.le_of_ble_eq_true rfl) (Nat.le_of_ble_eq_true rfl) d_X_needNet_11 d_X_needNet_14 d_X_needNet_15 d_X_needNet_17 d_X_needNet_20
set_option maxHeartbeats 400000 in
set_option maxRecDepth 100000 in
theorem k_X_point {l : Launch} {D : va_G} {ad : Nat → Nat} {ca : Nat → ClassId} (σ : St) (n x y r : Int) (hn : r32 n) (hx1 : r64 x) (hy1 : r64 y) (hr1 : r64 r) (hI : 0 ≤ σ 7 0 ∧ σ 7 0 ≤ 12) (hB : IB σ) (h0 : 0 ≤ n ∧ n < σ 7 0) (h : (-1000000 ≤ x ∧ x ≤ 1000000) ∧ (-1000000 ≤ y ∧ y ≤ 1000000) ∧ (1 ≤ r ∧ r ≤ 100000)) : Cw l D cl7 (tyX ca) (wX ad ca) y_X_point c_X_point 8 (some .int) 2 [.ref (ad 100), .int (zI n), .long (zL x), .long (zL y), .long (zL r)] σ (RW (.int (zI (if 3 ≤ σ 1 n ∨ 36 ≤ σ 8 0 then -1 else σ 8 0))) (bPoint σ n x y r = ·)) := by
  refine Cw.enter (by decide) (Nat.le_of_ble_eq_true rfl) ?_
  intro A p e s m below meth c hc ls hl hw
  have hl : lv_has ls 8 [(0, .ref (ad 100)), (1, .int (zI n)), (2, .long (zL x)), (4, .long (zL y)), (6, .long (zL r))] := hl
  obtain ⟨hx, hb, hml, hown, hTB, hK, hr, hlk⟩ := id hc
  refine lv_aload_n hx hb d_X_point_0 rfl (lv_at hl 0 rfl) ?_
  refine lv_iload_n hx hb d_X_point_1 rfl (lv_at hl 1 rfl) ?_
  refine w_cvV (q0 := 0) hc hw (k_X_needNet _ _ (by omega) hI (by omega)) yw_X_needNet yi_X_needNet lk_X_48 d_X_point_2 rfl rfl rfl rfl hl.1 (Nat.le_of_ble_eq_true rfl) ⟨Nat.le_of_ble_eq_true rfl, Nat.le_of_ble_eq_true rfl⟩ ⟨Nat.zero_le _, Nat.zero_le _⟩ (fun τ2 H locs hτ2 hw => ?_)
  subst hτ2
  refine lv_lload_n hx hb d_X_point_5 rfl (lv_at hl 2 rfl) ?_
  refine z_ldc2 (n := -1000000) hc lk_X_52 d_X_point_6 (by decide) ?_
  refine z_ldc2 (n := 1000000) hc lk_X_54 d_X_point_9 (by decide) ?_
  refine w_csR hc hw (k_X_isWithin _ _ _ _ (by omega) (by omega) (by omega)) yw_X_isWithin yi_X_isWithin lk_X_56 d_X_point_12 rfl rfl hl.1 (Nat.le_of_ble_eq_true rfl) ⟨Nat.le_of_ble_eq_true rfl, Nat.le_of_ble_eq_true rfl⟩ ⟨Nat.zero_le _, Nat.zero_le _⟩ (fun τ12 H locs hτ12 hw => ?_)
  subst hτ12
  refine z_ifb_eq hx hb 32 d_X_point_15 (by decide) (fun c15 => ?_) (fun c15 => ?_)
  · exfalso; omega
  · refine lv_lload hx hb d_X_point_18 (lv_at hl 3 rfl) ?_
    refine z_ldc2 (n := -1000000) hc lk_X_52 d_X_point_20 (by decide) ?_
    refine z_ldc2 (n := 1000000) hc lk_X_54 d_X_point_23 (by decide) ?_
    refine w_csR hc hw (k_X_isWithin _ _ _ _ (by omega) (by omega) (by omega)) yw_X_isWithin yi_X_isWithin lk_X_56 d_X_point_26 rfl rfl hl.1 (Nat.le_of_ble_eq_true rfl) ⟨Nat.le_of_ble_eq_true rfl, Nat.le_of_ble_eq_true rfl⟩ ⟨Nat.zero_le _, Nat.zero_le _⟩ (fun τ26 H locs hτ26 hw => ?_)
    subst hτ26
    refine z_ifb_ne hx hb 42 d_X_point_29 (by decide) (fun c29 => ?_) (fun c29 => ?_)
    · refine lv_lload hx hb d_X_point_42 (lv_at hl 4 rfl) ?_
      refine z_lc1 hx hb d_X_point_44 ?_
      refine z_ldc2 (n := 100000) hc lk_X_67 d_X_point_45 (by decide) ?_
      refine w_csR hc hw (k_X_isWithin _ _ _ _ (by omega) (by omega) (by omega)) yw_X_isWithin yi_X_isWithin lk_X_56 d_X_point_48 rfl rfl hl.1 (Nat.le_of_ble_eq_true rfl) ⟨Nat.le_of_ble_eq_true rfl, Nat.le_of_ble_eq_true rfl⟩ ⟨Nat.zero_le _, Nat.zero_le _⟩ (fun τ48 H locs hτ48 hw => ?_)
      subst hτ48
      refine z_ifb_ne hx hb 64 d_X_point_51 (by decide) (fun c51 => ?_) (fun c51 => ?_)
      · refine lv_aload_n hx hb d_X_point_64 rfl (lv_at hl 0 rfl) ?_
        refine gX_X_board hc hw lk_X_12 d_X_point_65 ?_
        refine lv_iload_n hx hb d_X_point_68 rfl (lv_at hl 1 rfl) ?_
        refine lv_lload_n hx hb d_X_point_69 rfl (lv_at hl 2 rfl) ?_
        refine lv_lload hx hb d_X_point_70 (lv_at hl 3 rfl) ?_
        refine lv_lload hx hb d_X_point_72 (lv_at hl 4 rfl) ?_
        refine w_cvR (q0 := 1) hc hw (k_B_addPoint _ _ _ _ _ (by omega) hB) yw_B_addPoint yi_B_addPoint lk_X_71 d_X_point_74 rfl rfl rfl rfl hl.1 (Nat.le_of_ble_eq_true rfl) ⟨Nat.le_of_ble_eq_true rfl, Nat.le_of_ble_eq_true rfl⟩ ⟨Nat.zero_le _, Nat.zero_le _⟩ (fun τ74 H locs hτ74 hw => ?_)
        subst hτ74
        exact w_iret hc hw (⟨rfl, rfl⟩) d_X_point_77
      · exfalso; omega
    · exfalso; omega
set_option maxHeartbeats 400000 in
set_option maxRecDepth 100000 in
theorem t_X_point0 {l : Launch} {D : va_G} {ad : Nat → Nat} {ca : Nat → ClassId} (hfl : l.flags = pinnedFlags ++ [noTraceFlag]) (σ : St) (n x y r : Int) (hn : r32 n) (hx1 : r64 x) (hy1 : r64 y) (hr1 : r64 r) (hI : 0 ≤ σ 7 0 ∧ σ 7 0 ≤ 12) (h0 : ¬ (0 ≤ n ∧ n < σ 7 0)) : Ct l D cl7 (tyX ca) (wX ad ca) y_X_point c_X_point 8 (some .int) 7 [.ref (ad 100), .int (zI n), .long (zL x), .long (zL y), .long (zL r)] σ σ xIOB := by
  refine Ct.enter (by decide) (Nat.le_of_ble_eq_true rfl) ?_
  intro A p e s m below meth c hc hX ls hl hw
  have hl : lv_has ls 8 [(0, .ref (ad 100)), (1, .int (zI n)), (2, .long (zL x)), (4, .long (zL y)), (6, .long (zL r))] := hl
  obtain ⟨hx, hb, hml, hown, hTB, hK, hr, hlk⟩ := id hc
  refine lv_aload_n hx hb d_X_point_0 rfl (lv_at hl 0 rfl) ?_
  refine lv_iload_n hx hb d_X_point_1 rfl (lv_at hl 1 rfl) ?_
  exact w_cvT (q0 := 0) hc hX hw (t_X_needNet hfl _ _ (by omega) hI (by omega)) yw_X_needNet yi_X_needNet lk_X_48 d_X_point_2 rfl rfl rfl rfl hl.1 (Nat.le_of_ble_eq_true rfl) ⟨Nat.le_of_ble_eq_true rfl, Nat.le_of_ble_eq_true rfl⟩
set_option maxHeartbeats 400000 in
set_option maxRecDepth 100000 in
theorem t_X_point1 {l : Launch} {D : va_G} {ad : Nat → Nat} {ca : Nat → ClassId} (hfl : l.flags = pinnedFlags ++ [noTraceFlag]) (σ : St) (n x y r : Int) (hn : r32 n) (hx1 : r64 x) (hy1 : r64 y) (hr1 : r64 r) (hI : 0 ≤ σ 7 0 ∧ σ 7 0 ≤ 12) (h0 : 0 ≤ n ∧ n < σ 7 0) (h : ¬ ((-1000000 ≤ x ∧ x ≤ 1000000) ∧ (-1000000 ≤ y ∧ y ≤ 1000000) ∧ (1 ≤ r ∧ r ≤ 100000))) : Ct l D cl7 (tyX ca) (wX ad ca) y_X_point c_X_point 8 (some .int) 7 [.ref (ad 100), .int (zI n), .long (zL x), .long (zL y), .long (zL r)] σ σ xIAE := by
  refine Ct.enter (by decide) (Nat.le_of_ble_eq_true rfl) ?_
  intro A p e s m below meth c hc hX ls hl hw
  have hl : lv_has ls 8 [(0, .ref (ad 100)), (1, .int (zI n)), (2, .long (zL x)), (4, .long (zL y)), (6, .long (zL r))] := hl
  obtain ⟨hx, hb, hml, hown, hTB, hK, hr, hlk⟩ := id hc
  refine lv_aload_n hx hb d_X_point_0 rfl (lv_at hl 0 rfl) ?_
  refine lv_iload_n hx hb d_X_point_1 rfl (lv_at hl 1 rfl) ?_
  refine w_cvV (q0 := 0) hc hw (k_X_needNet _ _ (by omega) hI (by omega)) yw_X_needNet yi_X_needNet lk_X_48 d_X_point_2 rfl rfl rfl rfl hl.1 (Nat.le_of_ble_eq_true rfl) ⟨Nat.le_of_ble_eq_true rfl, Nat.le_of_ble_eq_true rfl⟩ ⟨Nat.zero_le _, Nat.zero_le _⟩ (fun τ2 H locs hτ2 hw => ?_)
  subst hτ2
  refine lv_lload_n hx hb d_X_point_5 rfl (lv_at hl 2 rfl) ?_
  refine z_ldc2 (n := -1000000) hc lk_X_52 d_X_point_6 (by decide) ?_
  refine z_ldc2 (n := 1000000) hc lk_X_54 d_X_point_9 (by decide) ?_
  refine w_csR hc hw (k_X_isWithin _ _ _ _ (by omega) (by omega) (by omega)) yw_X_isWithin yi_X_isWithin lk_X_56 d_X_point_12 rfl rfl hl.1 (Nat.le_of_ble_eq_true rfl) ⟨Nat.le_of_ble_eq_true rfl, Nat.le_of_ble_eq_true rfl⟩ ⟨Nat.zero_le _, Nat.zero_le _⟩ (fun τ12 H locs hτ12 hw => ?_)
  subst hτ12
  refine z_ifb_eq hx hb 32 d_X_point_15 (by decide) (fun c15 => ?_) (fun c15 => ?_)
  · exact w_throw hfl hc hX hw xq_IAE xlk_IAE xs_62 hl.1 (Nat.le_of_ble_eq_true rfl) (Nat.le_of_ble_eq_true rfl) d_X_point_32 d_X_point_35 d_X_point_36 d_X_point_38 d_X_point_41
  · refine lv_lload hx hb d_X_point_18 (lv_at hl 3 rfl) ?_
    refine z_ldc2 (n := -1000000) hc lk_X_52 d_X_point_20 (by decide) ?_
    refine z_ldc2 (n := 1000000) hc lk_X_54 d_X_point_23 (by decide) ?_
    refine w_csR hc hw (k_X_isWithin _ _ _ _ (by omega) (by omega) (by omega)) yw_X_isWithin yi_X_isWithin lk_X_56 d_X_point_26 rfl rfl hl.1 (Nat.le_of_ble_eq_true rfl) ⟨Nat.le_of_ble_eq_true rfl, Nat.le_of_ble_eq_true rfl⟩ ⟨Nat.zero_le _, Nat.zero_le _⟩ (fun τ26 H locs hτ26 hw => ?_)
    subst hτ26
    refine z_ifb_ne hx hb 42 d_X_point_29 (by decide) (fun c29 => ?_) (fun c29 => ?_)
    · refine lv_lload hx hb d_X_point_42 (lv_at hl 4 rfl) ?_
      refine z_lc1 hx hb d_X_point_44 ?_
      refine z_ldc2 (n := 100000) hc lk_X_67 d_X_point_45 (by decide) ?_
      refine w_csR hc hw (k_X_isWithin _ _ _ _ (by omega) (by omega) (by omega)) yw_X_isWithin yi_X_isWithin lk_X_56 d_X_point_48 rfl rfl hl.1 (Nat.le_of_ble_eq_true rfl) ⟨Nat.le_of_ble_eq_true rfl, Nat.le_of_ble_eq_true rfl⟩ ⟨Nat.zero_le _, Nat.zero_le _⟩ (fun τ48 H locs hτ48 hw => ?_)
      subst hτ48
      refine z_ifb_ne hx hb 64 d_X_point_51 (by decide) (fun c51 => ?_) (fun c51 => ?_)
      · exfalso; omega
      · exact w_throw hfl hc hX hw xq_IAE xlk_IAE xs_69 hl.1 (Nat.le_of_ble_eq_true rfl) (Nat.le_of_ble_eq_true rfl) d_X_point_54 d_X_point_57 d_X_point_58 d_X_point_60 d_X_point_63
    · exact w_throw hfl hc hX hw xq_IAE xlk_IAE xs_62 hl.1 (Nat.le_of_ble_eq_true rfl) (Nat.le_of_ble_eq_true rfl) d_X_point_32 d_X_point_35 d_X_point_36 d_X_point_38 d_X_point_41
set_option maxHeartbeats 400000 in
set_option maxRecDepth 100000 in
theorem k_X_gap {l : Launch} {D : va_G} {ad : Nat → Nat} {ca : Nat → ClassId} (σ : St) (v : Int) (hv : r64 v) (hI : 0 ≤ σ 9 0 ∧ σ 9 0 ≤ 1000000) (h : 0 ≤ v ∧ v ≤ 1000000) : Cw l D cl7 (tyX ca) (wX ad ca) y_X_gap c_X_gap 3 (some .boolean) 1 [.ref (ad 100), .long (zL v)] σ (RW (.int (zI (bI (¬ v = σ 9 0)))) (up σ 9 0 v = ·)) := by
  refine Cw.enter (by decide) (Nat.le_of_ble_eq_true rfl) ?_
  intro A p e s m below meth c hc ls hl hw
  have hl : lv_has ls 3 [(0, .ref (ad 100)), (1, .long (zL v))] := hl
  obtain ⟨hx, hb, hml, hown, hTB, hK, hr, hlk⟩ := id hc
  refine lv_lload_n hx hb d_X_gap_0 rfl (lv_at hl 1 rfl) ?_
  refine z_lc0 hx hb d_X_gap_1 ?_
  refine z_ldc2 (n := 1000000) hc lk_X_54 d_X_gap_2 (by decide) ?_
  refine w_csR hc hw (k_X_isWithin _ _ _ _ (by omega) (by omega) (by omega)) yw_X_isWithin yi_X_isWithin lk_X_56 d_X_gap_5 rfl rfl hl.1 (Nat.le_of_ble_eq_true rfl) ⟨Nat.le_of_ble_eq_true rfl, Nat.le_of_ble_eq_true rfl⟩ ⟨Nat.zero_le _, Nat.zero_le _⟩ (fun τ5 H locs hτ5 hw => ?_)
  subst hτ5
  refine z_ifb_ne hx hb 21 d_X_gap_8 (by decide) (fun c8 => ?_) (fun c8 => ?_)
  · refine lv_aload_n hx hb d_X_gap_21 rfl (lv_at hl 0 rfl) ?_
    refine gX_X_board hc hw lk_X_12 d_X_gap_22 ?_
    refine lv_lload_n hx hb d_X_gap_25 rfl (lv_at hl 1 rfl) ?_
    refine w_cvR (q0 := 1) hc hw (k_B_setGap _ _ hv hI) yw_B_setGap yi_B_setGap lk_X_77 d_X_gap_26 rfl rfl rfl rfl hl.1 (Nat.le_of_ble_eq_true rfl) ⟨Nat.le_of_ble_eq_true rfl, Nat.le_of_ble_eq_true rfl⟩ ⟨Nat.zero_le _, Nat.zero_le _⟩ (fun τ26 H locs hτ26 hw => ?_)
    subst hτ26
    exact w_zret hc hw (bI_01 _) (⟨rfl, rfl⟩) d_X_gap_29
  · exfalso; omega
set_option maxHeartbeats 400000 in
set_option maxRecDepth 100000 in
theorem t_X_gap {l : Launch} {D : va_G} {ad : Nat → Nat} {ca : Nat → ClassId} (hfl : l.flags = pinnedFlags ++ [noTraceFlag]) (σ : St) (v : Int) (hv : r64 v) (h : ¬ (0 ≤ v ∧ v ≤ 1000000)) : Ct l D cl7 (tyX ca) (wX ad ca) y_X_gap c_X_gap 3 (some .boolean) 6 [.ref (ad 100), .long (zL v)] σ σ xIAE := by
  refine Ct.enter (by decide) (Nat.le_of_ble_eq_true rfl) ?_
  intro A p e s m below meth c hc hX ls hl hw
  have hl : lv_has ls 3 [(0, .ref (ad 100)), (1, .long (zL v))] := hl
  obtain ⟨hx, hb, hml, hown, hTB, hK, hr, hlk⟩ := id hc
  refine lv_lload_n hx hb d_X_gap_0 rfl (lv_at hl 1 rfl) ?_
  refine z_lc0 hx hb d_X_gap_1 ?_
  refine z_ldc2 (n := 1000000) hc lk_X_54 d_X_gap_2 (by decide) ?_
  refine w_csR hc hw (k_X_isWithin _ _ _ _ (by omega) (by omega) (by omega)) yw_X_isWithin yi_X_isWithin lk_X_56 d_X_gap_5 rfl rfl hl.1 (Nat.le_of_ble_eq_true rfl) ⟨Nat.le_of_ble_eq_true rfl, Nat.le_of_ble_eq_true rfl⟩ ⟨Nat.zero_le _, Nat.zero_le _⟩ (fun τ5 H locs hτ5 hw => ?_)
  subst hτ5
  refine z_ifb_ne hx hb 21 d_X_gap_8 (by decide) (fun c8 => ?_) (fun c8 => ?_)
  · exfalso; omega
  · exact w_throw hfl hc hX hw xq_IAE xlk_IAE xs_75 hl.1 (Nat.le_of_ble_eq_true rfl) (Nat.le_of_ble_eq_true rfl) d_X_gap_11 d_X_gap_14 d_X_gap_15 d_X_gap_17 d_X_gap_20
set_option maxHeartbeats 400000 in
set_option maxRecDepth 100000 in
theorem k_X_run {l : Launch} {D : va_G} {ad : Nat → Nat} {ca : Nat → ClassId} (σ : St) (v : Int) (hv : r64 v) (hI : IB σ) (hS : IS σ) (h : 0 ≤ v ∧ v ≤ 8) (hB : ∀ i, 0 ≤ i → i < chS σ v 17 0 → chS σ v 16 i = -1 ∨ (0 ≤ chS σ v 16 i ∧ chS σ v 16 i < 36)) : Cw l D cl7 (tyX ca) (wX ad ca) y_X_run c_X_run 3 (some .int) 14 [.ref (ad 100), .long (zL v)] σ (RW (.int (zI (fB (chS σ v) 25 0))) (fB (chS σ v) = ·)) := by
  refine Cw.enter (by decide) (Nat.le_of_ble_eq_true rfl) ?_
  intro A p e s m below meth c hc ls hl hw
  have hl : lv_has ls 3 [(0, .ref (ad 100)), (1, .long (zL v))] := hl
  obtain ⟨hx, hb, hml, hown, hTB, hK, hr, hlk⟩ := id hc
  refine lv_lload_n hx hb d_X_run_0 rfl (lv_at hl 1 rfl) ?_
  refine z_lc0 hx hb d_X_run_1 ?_
  refine z_ldc2 (n := 8) hc lk_X_81 d_X_run_2 (by decide) ?_
  refine w_csR hc hw (k_X_isWithin _ _ _ _ (by omega) (by omega) (by omega)) yw_X_isWithin yi_X_isWithin lk_X_56 d_X_run_5 rfl rfl hl.1 (Nat.le_of_ble_eq_true rfl) ⟨Nat.le_of_ble_eq_true rfl, Nat.le_of_ble_eq_true rfl⟩ ⟨Nat.zero_le _, Nat.zero_le _⟩ (fun τ5 H locs hτ5 hw => ?_)
  subst hτ5
  refine z_ifb_ne hx hb 21 d_X_run_8 (by decide) (fun c8 => ?_) (fun c8 => ?_)
  · refine lv_aload_n hx hb d_X_run_21 rfl (lv_at hl 0 rfl) ?_
    refine gX_X_search hc hw lk_X_19 d_X_run_22 ?_
    refine lv_aload_n hx hb d_X_run_25 rfl (lv_at hl 0 rfl) ?_
    refine gX_X_board hc hw lk_X_12 d_X_run_26 ?_
    refine lv_lload_n hx hb d_X_run_29 rfl (lv_at hl 1 rfl) ?_
    refine z_l2i hx hb d_X_run_30 ?_
    refine w_cvV (q0 := 5) hc hw (k_S_choose _ _ (by omega) hI hS) yw_S_choose yi_S_choose lk_X_85 d_X_run_31 rfl rfl rfl rfl hl.1 (Nat.le_of_ble_eq_true rfl) ⟨Nat.le_of_ble_eq_true rfl, Nat.le_of_ble_eq_true rfl⟩ ⟨Nat.zero_le _, Nat.zero_le _⟩ (fun τ31 H locs hτ31 hw => ?_)
    obtain ⟨rfl, hS2, hfr⟩ := hτ31
    refine lv_aload_n hx hb d_X_run_34 rfl (lv_at hl 0 rfl) ?_
    refine gX_X_fixture hc hw lk_X_26 d_X_run_35 ?_
    refine lv_aload_n hx hb d_X_run_38 rfl (lv_at hl 0 rfl) ?_
    refine gX_X_board hc hw lk_X_12 d_X_run_39 ?_
    refine lv_aload_n hx hb d_X_run_42 rfl (lv_at hl 0 rfl) ?_
    refine gX_X_search hc hw lk_X_19 d_X_run_43 ?_
    refine w_cvV (q0 := 2) hc hw (k_F_build _ (IB_cg hI (fun g hg => hfr g (Or.inl hg))) hS2.1 hB) yw_F_build yi_F_build lk_X_89 d_X_run_46 rfl rfl rfl rfl hl.1 (Nat.le_of_ble_eq_true rfl) ⟨Nat.le_of_ble_eq_true rfl, Nat.le_of_ble_eq_true rfl⟩ ⟨Nat.zero_le _, Nat.zero_le _⟩ (fun τ46 H locs hτ46 hw => ?_)
    subst hτ46
    refine lv_aload_n hx hb d_X_run_49 rfl (lv_at hl 0 rfl) ?_
    refine gX_X_fixture hc hw lk_X_26 d_X_run_50 ?_
    refine gnX_F_probeCount hc hw lk_X_93 d_X_run_53 ?_
    exact w_iret hc hw (⟨rfl, rfl⟩) d_X_run_56
  · exfalso; omega
set_option maxHeartbeats 400000 in
set_option maxRecDepth 100000 in
theorem t_X_run {l : Launch} {D : va_G} {ad : Nat → Nat} {ca : Nat → ClassId} (hfl : l.flags = pinnedFlags ++ [noTraceFlag]) (σ : St) (v : Int) (hv : r64 v) (h : ¬ (0 ≤ v ∧ v ≤ 8)) : Ct l D cl7 (tyX ca) (wX ad ca) y_X_run c_X_run 3 (some .int) 6 [.ref (ad 100), .long (zL v)] σ σ xIAE := by
  refine Ct.enter (by decide) (Nat.le_of_ble_eq_true rfl) ?_
  intro A p e s m below meth c hc hX ls hl hw
  have hl : lv_has ls 3 [(0, .ref (ad 100)), (1, .long (zL v))] := hl
  obtain ⟨hx, hb, hml, hown, hTB, hK, hr, hlk⟩ := id hc
  refine lv_lload_n hx hb d_X_run_0 rfl (lv_at hl 1 rfl) ?_
  refine z_lc0 hx hb d_X_run_1 ?_
  refine z_ldc2 (n := 8) hc lk_X_81 d_X_run_2 (by decide) ?_
  refine w_csR hc hw (k_X_isWithin _ _ _ _ (by omega) (by omega) (by omega)) yw_X_isWithin yi_X_isWithin lk_X_56 d_X_run_5 rfl rfl hl.1 (Nat.le_of_ble_eq_true rfl) ⟨Nat.le_of_ble_eq_true rfl, Nat.le_of_ble_eq_true rfl⟩ ⟨Nat.zero_le _, Nat.zero_le _⟩ (fun τ5 H locs hτ5 hw => ?_)
  subst hτ5
  refine z_ifb_ne hx hb 21 d_X_run_8 (by decide) (fun c8 => ?_) (fun c8 => ?_)
  · exfalso; omega
  · exact w_throw hfl hc hX hw xq_IAE xlk_IAE xs_83 hl.1 (Nat.le_of_ble_eq_true rfl) (Nat.le_of_ble_eq_true rfl) d_X_run_11 d_X_run_14 d_X_run_15 d_X_run_17 d_X_run_20
set_option maxHeartbeats 400000 in
set_option maxRecDepth 100000 in
theorem k_X_part {l : Launch} {D : va_G} {ad : Nat → Nat} {ca : Nat → ClassId} (σ : St) (a b lo hi : Int) (ha : r32 a) (hb2 : r32 b) (hlo : r64 lo) (hhi : r64 hi) (hI : 0 ≤ σ 7 0 ∧ σ 7 0 ≤ 12) (h0 : 0 ≤ a ∧ a < σ 7 0) (h1 : 0 ≤ b ∧ b < σ 7 0) (h : (1 ≤ lo ∧ lo ≤ 1000) ∧ (lo ≤ hi ∧ hi ≤ 1000)) (hC : ∀ i, 0 ≤ σ 30 i ∧ σ 30 i ≤ 4) (hJ : ∀ i, 0 ≤ σ 31 i ∧ σ 31 i < 4096) : Cw l D cl7 (tyX ca) (wX ad ca) y_X_part c_X_part 7 (some .boolean) 3 [.ref (ad 100), .int (zI a), .int (zI b), .long (zL lo), .long (zL hi)] σ (RW (.int (zI (bI (¬ a = b ∧ σ 30 (prOf a b) < 4)))) ((if a = b then σ else pAdd σ a b lo hi) = ·)) := by
  refine Cw.enter (by decide) (Nat.le_of_ble_eq_true rfl) ?_
  intro A p e s m below meth c hc ls hl hw
  have hl : lv_has ls 7 [(0, .ref (ad 100)), (1, .int (zI a)), (2, .int (zI b)), (3, .long (zL lo)), (5, .long (zL hi))] := hl
  obtain ⟨hx, hb, hml, hown, hTB, hK, hr, hlk⟩ := id hc
  refine lv_aload_n hx hb d_X_part_0 rfl (lv_at hl 0 rfl) ?_
  refine lv_iload_n hx hb d_X_part_1 rfl (lv_at hl 1 rfl) ?_
  refine w_cvV (q0 := 0) hc hw (k_X_needNet _ _ (by omega) hI (by omega)) yw_X_needNet yi_X_needNet lk_X_48 d_X_part_2 rfl rfl rfl rfl hl.1 (Nat.le_of_ble_eq_true rfl) ⟨Nat.le_of_ble_eq_true rfl, Nat.le_of_ble_eq_true rfl⟩ ⟨Nat.zero_le _, Nat.zero_le _⟩ (fun τ2 H locs hτ2 hw => ?_)
  subst hτ2
  refine lv_aload_n hx hb d_X_part_5 rfl (lv_at hl 0 rfl) ?_
  refine lv_iload_n hx hb d_X_part_6 rfl (lv_at hl 2 rfl) ?_
  refine w_cvV (q0 := 0) hc hw (k_X_needNet _ _ (by omega) hI (by omega)) yw_X_needNet yi_X_needNet lk_X_48 d_X_part_7 rfl rfl rfl rfl hl.1 (Nat.le_of_ble_eq_true rfl) ⟨Nat.le_of_ble_eq_true rfl, Nat.le_of_ble_eq_true rfl⟩ ⟨Nat.zero_le _, Nat.zero_le _⟩ (fun τ7 H locs hτ7 hw => ?_)
  subst hτ7
  refine lv_lload_n hx hb d_X_part_10 rfl (lv_at hl 3 rfl) ?_
  refine z_lc1 hx hb d_X_part_11 ?_
  refine z_ldc2 (n := 1000) hc lk_X_115 d_X_part_12 (by decide) ?_
  refine w_csR hc hw (k_X_isWithin _ _ _ _ (by omega) (by omega) (by omega)) yw_X_isWithin yi_X_isWithin lk_X_56 d_X_part_15 rfl rfl hl.1 (Nat.le_of_ble_eq_true rfl) ⟨Nat.le_of_ble_eq_true rfl, Nat.le_of_ble_eq_true rfl⟩ ⟨Nat.zero_le _, Nat.zero_le _⟩ (fun τ15 H locs hτ15 hw => ?_)
  subst hτ15
  refine z_ifb_eq hx hb 33 d_X_part_18 (by decide) (fun c18 => ?_) (fun c18 => ?_)
  · exfalso; omega
  · refine lv_lload hx hb d_X_part_21 (lv_at hl 4 rfl) ?_
    refine lv_lload_n hx hb d_X_part_23 rfl (lv_at hl 3 rfl) ?_
    refine z_ldc2 (n := 1000) hc lk_X_115 d_X_part_24 (by decide) ?_
    refine w_csR hc hw (k_X_isWithin _ _ _ _ (by omega) (by omega) (by omega)) yw_X_isWithin yi_X_isWithin lk_X_56 d_X_part_27 rfl rfl hl.1 (Nat.le_of_ble_eq_true rfl) ⟨Nat.le_of_ble_eq_true rfl, Nat.le_of_ble_eq_true rfl⟩ ⟨Nat.zero_le _, Nat.zero_le _⟩ (fun τ27 H locs hτ27 hw => ?_)
    subst hτ27
    refine z_ifb_ne hx hb 43 d_X_part_30 (by decide) (fun c30 => ?_) (fun c30 => ?_)
    · refine lv_iload_n hx hb d_X_part_43 rfl (lv_at hl 1 rfl) ?_
      refine lv_iload_n hx hb d_X_part_44 rfl (lv_at hl 2 rfl) ?_
      refine z_icmp_eq hx hb 67 d_X_part_45 (by omega) (by omega) (by decide) (fun c45 => ?_) (fun c45 => ?_)
      · refine z_ic hx hb d_X_part_67 ?_
        exact w_zret hc hw (by omega) (by first | exact ⟨by rw [bI_f (by omega)], by simp_all⟩ | exact ⟨by rw [bI_t (by omega)], by simp_all⟩) d_X_part_68
      · refine lv_aload_n hx hb d_X_part_48 rfl (lv_at hl 0 rfl) ?_
        refine gX_X_parts hc hw lk_X_33 d_X_part_49 ?_
        refine lv_iload_n hx hb d_X_part_52 rfl (lv_at hl 1 rfl) ?_
        refine lv_iload_n hx hb d_X_part_53 rfl (lv_at hl 2 rfl) ?_
        refine lv_lload_n hx hb d_X_part_54 rfl (lv_at hl 3 rfl) ?_
        refine lv_lload hx hb d_X_part_55 (lv_at hl 4 rfl) ?_
        refine w_cvR (q0 := 3) hc hw (k_P_add _ _ _ _ _ (by omega) (by omega) hC hJ) yw_P_add yi_P_add lk_X_119 d_X_part_57 rfl rfl rfl rfl hl.1 (Nat.le_of_ble_eq_true rfl) ⟨Nat.le_of_ble_eq_true rfl, Nat.le_of_ble_eq_true rfl⟩ ⟨Nat.zero_le _, Nat.zero_le _⟩ (fun τ57 H locs hτ57 hw => ?_)
        subst hτ57
        refine z_ifb_eq hx hb 67 d_X_part_60 (by decide) (fun c60 => ?_) (fun c60 => ?_)
        · refine z_ic hx hb d_X_part_67 ?_
          exact w_zret hc hw (by omega) (by first | exact ⟨by rw [bI_f (by omega)], by simp_all⟩ | exact ⟨by rw [bI_t (by omega)], by simp_all⟩) d_X_part_68
        · refine z_ic hx hb d_X_part_63 ?_
          refine lv_goto (tgt := 68) hx hb d_X_part_64 (by decide) ?_
          exact w_zret hc hw (by omega) (by first | exact ⟨by rw [bI_f (by omega)], by simp_all⟩ | exact ⟨by rw [bI_t (by omega)], by simp_all⟩) d_X_part_68
    · exfalso; omega
set_option maxHeartbeats 400000 in
set_option maxRecDepth 100000 in
theorem t_X_part0 {l : Launch} {D : va_G} {ad : Nat → Nat} {ca : Nat → ClassId} (hfl : l.flags = pinnedFlags ++ [noTraceFlag]) (σ : St) (a b lo hi : Int) (ha : r32 a) (hb2 : r32 b) (hlo : r64 lo) (hhi : r64 hi) (hI : 0 ≤ σ 7 0 ∧ σ 7 0 ≤ 12) (h0 : ¬ (0 ≤ a ∧ a < σ 7 0)) : Ct l D cl7 (tyX ca) (wX ad ca) y_X_part c_X_part 7 (some .boolean) 7 [.ref (ad 100), .int (zI a), .int (zI b), .long (zL lo), .long (zL hi)] σ σ xIOB := by
  refine Ct.enter (by decide) (Nat.le_of_ble_eq_true rfl) ?_
  intro A p e s m below meth c hc hX ls hl hw
  have hl : lv_has ls 7 [(0, .ref (ad 100)), (1, .int (zI a)), (2, .int (zI b)), (3, .long (zL lo)), (5, .long (zL hi))] := hl
  obtain ⟨hx, hb, hml, hown, hTB, hK, hr, hlk⟩ := id hc
  refine lv_aload_n hx hb d_X_part_0 rfl (lv_at hl 0 rfl) ?_
  refine lv_iload_n hx hb d_X_part_1 rfl (lv_at hl 1 rfl) ?_
  exact w_cvT (q0 := 0) hc hX hw (t_X_needNet hfl _ _ (by omega) hI (by omega)) yw_X_needNet yi_X_needNet lk_X_48 d_X_part_2 rfl rfl rfl rfl hl.1 (Nat.le_of_ble_eq_true rfl) ⟨Nat.le_of_ble_eq_true rfl, Nat.le_of_ble_eq_true rfl⟩
set_option maxHeartbeats 400000 in
set_option maxRecDepth 100000 in
theorem t_X_part1 {l : Launch} {D : va_G} {ad : Nat → Nat} {ca : Nat → ClassId} (hfl : l.flags = pinnedFlags ++ [noTraceFlag]) (σ : St) (a b lo hi : Int) (ha : r32 a) (hb2 : r32 b) (hlo : r64 lo) (hhi : r64 hi) (hI : 0 ≤ σ 7 0 ∧ σ 7 0 ≤ 12) (h0 : 0 ≤ a ∧ a < σ 7 0) (h1 : ¬ (0 ≤ b ∧ b < σ 7 0)) : Ct l D cl7 (tyX ca) (wX ad ca) y_X_part c_X_part 7 (some .boolean) 7 [.ref (ad 100), .int (zI a), .int (zI b), .long (zL lo), .long (zL hi)] σ σ xIOB := by
  refine Ct.enter (by decide) (Nat.le_of_ble_eq_true rfl) ?_
  intro A p e s m below meth c hc hX ls hl hw
  have hl : lv_has ls 7 [(0, .ref (ad 100)), (1, .int (zI a)), (2, .int (zI b)), (3, .long (zL lo)), (5, .long (zL hi))] := hl
  obtain ⟨hx, hb, hml, hown, hTB, hK, hr, hlk⟩ := id hc
  refine lv_aload_n hx hb d_X_part_0 rfl (lv_at hl 0 rfl) ?_
  refine lv_iload_n hx hb d_X_part_1 rfl (lv_at hl 1 rfl) ?_
  refine w_cvV (q0 := 0) hc hw (k_X_needNet _ _ (by omega) hI (by omega)) yw_X_needNet yi_X_needNet lk_X_48 d_X_part_2 rfl rfl rfl rfl hl.1 (Nat.le_of_ble_eq_true rfl) ⟨Nat.le_of_ble_eq_true rfl, Nat.le_of_ble_eq_true rfl⟩ ⟨Nat.zero_le _, Nat.zero_le _⟩ (fun τ2 H locs hτ2 hw => ?_)
  subst hτ2
  refine lv_aload_n hx hb d_X_part_5 rfl (lv_at hl 0 rfl) ?_
  refine lv_iload_n hx hb d_X_part_6 rfl (lv_at hl 2 rfl) ?_
  exact w_cvT (q0 := 0) hc hX hw (t_X_needNet hfl _ _ (by omega) hI (by omega)) yw_X_needNet yi_X_needNet lk_X_48 d_X_part_7 rfl rfl rfl rfl hl.1 (Nat.le_of_ble_eq_true rfl) ⟨Nat.le_of_ble_eq_true rfl, Nat.le_of_ble_eq_true rfl⟩
set_option maxHeartbeats 400000 in
set_option maxRecDepth 100000 in
theorem t_X_part2 {l : Launch} {D : va_G} {ad : Nat → Nat} {ca : Nat → ClassId} (hfl : l.flags = pinnedFlags ++ [noTraceFlag]) (σ : St) (a b lo hi : Int) (ha : r32 a) (hb2 : r32 b) (hlo : r64 lo) (hhi : r64 hi) (hI : 0 ≤ σ 7 0 ∧ σ 7 0 ≤ 12) (h0 : 0 ≤ a ∧ a < σ 7 0) (h1 : 0 ≤ b ∧ b < σ 7 0) (h : ¬ ((1 ≤ lo ∧ lo ≤ 1000) ∧ (lo ≤ hi ∧ hi ≤ 1000))) : Ct l D cl7 (tyX ca) (wX ad ca) y_X_part c_X_part 7 (some .boolean) 7 [.ref (ad 100), .int (zI a), .int (zI b), .long (zL lo), .long (zL hi)] σ σ xIAE := by
  refine Ct.enter (by decide) (Nat.le_of_ble_eq_true rfl) ?_
  intro A p e s m below meth c hc hX ls hl hw
  have hl : lv_has ls 7 [(0, .ref (ad 100)), (1, .int (zI a)), (2, .int (zI b)), (3, .long (zL lo)), (5, .long (zL hi))] := hl
  obtain ⟨hx, hb, hml, hown, hTB, hK, hr, hlk⟩ := id hc
  refine lv_aload_n hx hb d_X_part_0 rfl (lv_at hl 0 rfl) ?_
  refine lv_iload_n hx hb d_X_part_1 rfl (lv_at hl 1 rfl) ?_
  refine w_cvV (q0 := 0) hc hw (k_X_needNet _ _ (by omega) hI (by omega)) yw_X_needNet yi_X_needNet lk_X_48 d_X_part_2 rfl rfl rfl rfl hl.1 (Nat.le_of_ble_eq_true rfl) ⟨Nat.le_of_ble_eq_true rfl, Nat.le_of_ble_eq_true rfl⟩ ⟨Nat.zero_le _, Nat.zero_le _⟩ (fun τ2 H locs hτ2 hw => ?_)
  subst hτ2
  refine lv_aload_n hx hb d_X_part_5 rfl (lv_at hl 0 rfl) ?_
  refine lv_iload_n hx hb d_X_part_6 rfl (lv_at hl 2 rfl) ?_
  refine w_cvV (q0 := 0) hc hw (k_X_needNet _ _ (by omega) hI (by omega)) yw_X_needNet yi_X_needNet lk_X_48 d_X_part_7 rfl rfl rfl rfl hl.1 (Nat.le_of_ble_eq_true rfl) ⟨Nat.le_of_ble_eq_true rfl, Nat.le_of_ble_eq_true rfl⟩ ⟨Nat.zero_le _, Nat.zero_le _⟩ (fun τ7 H locs hτ7 hw => ?_)
  subst hτ7
  refine lv_lload_n hx hb d_X_part_10 rfl (lv_at hl 3 rfl) ?_
  refine z_lc1 hx hb d_X_part_11 ?_
  refine z_ldc2 (n := 1000) hc lk_X_115 d_X_part_12 (by decide) ?_
  refine w_csR hc hw (k_X_isWithin _ _ _ _ (by omega) (by omega) (by omega)) yw_X_isWithin yi_X_isWithin lk_X_56 d_X_part_15 rfl rfl hl.1 (Nat.le_of_ble_eq_true rfl) ⟨Nat.le_of_ble_eq_true rfl, Nat.le_of_ble_eq_true rfl⟩ ⟨Nat.zero_le _, Nat.zero_le _⟩ (fun τ15 H locs hτ15 hw => ?_)
  subst hτ15
  refine z_ifb_eq hx hb 33 d_X_part_18 (by decide) (fun c18 => ?_) (fun c18 => ?_)
  · exact w_throw hfl hc hX hw xq_IAE xlk_IAE xs_117 hl.1 (Nat.le_of_ble_eq_true rfl) (Nat.le_of_ble_eq_true rfl) d_X_part_33 d_X_part_36 d_X_part_37 d_X_part_39 d_X_part_42
  · refine lv_lload hx hb d_X_part_21 (lv_at hl 4 rfl) ?_
    refine lv_lload_n hx hb d_X_part_23 rfl (lv_at hl 3 rfl) ?_
    refine z_ldc2 (n := 1000) hc lk_X_115 d_X_part_24 (by decide) ?_
    refine w_csR hc hw (k_X_isWithin _ _ _ _ (by omega) (by omega) (by omega)) yw_X_isWithin yi_X_isWithin lk_X_56 d_X_part_27 rfl rfl hl.1 (Nat.le_of_ble_eq_true rfl) ⟨Nat.le_of_ble_eq_true rfl, Nat.le_of_ble_eq_true rfl⟩ ⟨Nat.zero_le _, Nat.zero_le _⟩ (fun τ27 H locs hτ27 hw => ?_)
    subst hτ27
    refine z_ifb_ne hx hb 43 d_X_part_30 (by decide) (fun c30 => ?_) (fun c30 => ?_)
    · exfalso; omega
    · exact w_throw hfl hc hX hw xq_IAE xlk_IAE xs_117 hl.1 (Nat.le_of_ble_eq_true rfl) (Nat.le_of_ble_eq_true rfl) d_X_part_33 d_X_part_36 d_X_part_37 d_X_part_39 d_X_part_42
set_option maxHeartbeats 400000 in
set_option maxRecDepth 100000 in
theorem k_X_span00 {l : Launch} {D : va_G} {ad : Nat → Nat} {ca : Nat → ClassId} (σ : St) (a b : Int) (ha : r32 a) (hb2 : r32 b) (hI : 0 ≤ σ 7 0 ∧ σ 7 0 ≤ 12) (h0 : 0 ≤ a ∧ a < σ 7 0) (h1 : 0 ≤ b ∧ b < σ 7 0) (hJ : ∀ i, 0 ≤ σ 31 i ∧ σ 31 i < 4096) (h : zB (σ 31 a) b) (g1 : 0 ≤ σ 34 (prOf a b) ∧ σ 34 (prOf a b) < 4611686018427387904) (g2 : 0 ≤ σ 32 (prOf a b) ∧ σ 32 (prOf a b) < 4611686018427387904) : Cw l D cl7 (tyX ca) (wX ad ca) y_X_span c_X_span 5 (some .long) 3 [.ref (ad 100), .int (zI a), .int (zI b), .int (zI 0), .int (zI 0)] σ (RW (.long (zL (σ 34 (prOf a b) / max 1 (gcdF 200 (σ 34 (prOf a b)) (σ 32 (prOf a b)))))) (σ = ·)) := by
  refine Cw.enter (by decide) (Nat.le_of_ble_eq_true rfl) ?_
  intro A p e s m below meth c hc ls hl hw
  have hl : lv_has ls 5 [(0, .ref (ad 100)), (1, .int (zI a)), (2, .int (zI b)), (3, .int (zI 0)), (4, .int (zI 0))] := hl
  obtain ⟨hx, hb, hml, hown, hTB, hK, hr, hlk⟩ := id hc
  refine lv_aload_n hx hb d_X_span_0 rfl (lv_at hl 0 rfl) ?_
  refine lv_iload_n hx hb d_X_span_1 rfl (lv_at hl 1 rfl) ?_
  refine w_cvV (q0 := 0) hc hw (k_X_needNet _ _ (by omega) hI (by omega)) yw_X_needNet yi_X_needNet lk_X_48 d_X_span_2 rfl rfl rfl rfl hl.1 (Nat.le_of_ble_eq_true rfl) ⟨Nat.le_of_ble_eq_true rfl, Nat.le_of_ble_eq_true rfl⟩ ⟨Nat.zero_le _, Nat.zero_le _⟩ (fun τ2 H locs hτ2 hw => ?_)
  subst hτ2
  refine lv_aload_n hx hb d_X_span_5 rfl (lv_at hl 0 rfl) ?_
  refine lv_iload_n hx hb d_X_span_6 rfl (lv_at hl 2 rfl) ?_
  refine w_cvV (q0 := 0) hc hw (k_X_needNet _ _ (by omega) hI (by omega)) yw_X_needNet yi_X_needNet lk_X_48 d_X_span_7 rfl rfl rfl rfl hl.1 (Nat.le_of_ble_eq_true rfl) ⟨Nat.le_of_ble_eq_true rfl, Nat.le_of_ble_eq_true rfl⟩ ⟨Nat.zero_le _, Nat.zero_le _⟩ (fun τ7 H locs hτ7 hw => ?_)
  subst hτ7
  refine lv_iload_n hx hb d_X_span_10 rfl (lv_at hl 3 rfl) ?_
  refine z_i2l hx hb d_X_span_11 (by omega) ?_
  refine z_lc0 hx hb d_X_span_12 ?_
  refine z_lc1 hx hb d_X_span_13 ?_
  refine w_csR hc hw (k_X_isWithin _ _ _ _ (by omega) (by omega) (by omega)) yw_X_isWithin yi_X_isWithin lk_X_56 d_X_span_14 rfl rfl hl.1 (Nat.le_of_ble_eq_true rfl) ⟨Nat.le_of_ble_eq_true rfl, Nat.le_of_ble_eq_true rfl⟩ ⟨Nat.zero_le _, Nat.zero_le _⟩ (fun τ14 H locs hτ14 hw => ?_)
  subst hτ14
  refine z_ifb_eq hx hb 31 d_X_span_17 (by decide) (fun c17 => ?_) (fun c17 => ?_)
  · exfalso; omega
  · refine lv_iload hx hb d_X_span_20 (lv_at hl 4 rfl) ?_
    refine z_i2l hx hb d_X_span_22 (by omega) ?_
    refine z_lc0 hx hb d_X_span_23 ?_
    refine z_lc1 hx hb d_X_span_24 ?_
    refine w_csR hc hw (k_X_isWithin _ _ _ _ (by omega) (by omega) (by omega)) yw_X_isWithin yi_X_isWithin lk_X_56 d_X_span_25 rfl rfl hl.1 (Nat.le_of_ble_eq_true rfl) ⟨Nat.le_of_ble_eq_true rfl, Nat.le_of_ble_eq_true rfl⟩ ⟨Nat.zero_le _, Nat.zero_le _⟩ (fun τ25 H locs hτ25 hw => ?_)
    subst hτ25
    refine z_ifb_ne hx hb 41 d_X_span_28 (by decide) (fun c28 => ?_) (fun c28 => ?_)
    · refine lv_aload_n hx hb d_X_span_41 rfl (lv_at hl 0 rfl) ?_
      refine gX_X_parts hc hw lk_X_33 d_X_span_42 ?_
      refine lv_iload_n hx hb d_X_span_45 rfl (lv_at hl 1 rfl) ?_
      refine lv_iload_n hx hb d_X_span_46 rfl (lv_at hl 2 rfl) ?_
      refine w_cvR (q0 := 3) hc hw (k_P_areBetween _ _ _ (by omega) (by omega) hJ) yw_P_areBetween yi_P_areBetween lk_X_128 d_X_span_47 rfl rfl rfl rfl hl.1 (Nat.le_of_ble_eq_true rfl) ⟨Nat.le_of_ble_eq_true rfl, Nat.le_of_ble_eq_true rfl⟩ ⟨Nat.zero_le _, Nat.zero_le _⟩ (fun τ47 H locs hτ47 hw => ?_)
      subst hτ47
      refine z_ifb_ne hx hb 63 d_X_span_50 (by decide) (fun c50 => ?_) (fun c50 => ?_)
      · refine lv_aload_n hx hb d_X_span_63 rfl (lv_at hl 0 rfl) ?_
        refine gX_X_parts hc hw lk_X_33 d_X_span_64 ?_
        refine lv_iload_n hx hb d_X_span_67 rfl (lv_at hl 1 rfl) ?_
        refine lv_iload_n hx hb d_X_span_68 rfl (lv_at hl 2 rfl) ?_
        refine lv_iload_n hx hb d_X_span_69 rfl (lv_at hl 3 rfl) ?_
        refine lv_iload hx hb d_X_span_70 (lv_at hl 4 rfl) ?_
        refine w_cvR (q0 := 3) hc hw (k_P_termOfSpan00 _ _ _ (by omega) (by omega) g1 g2) yw_P_termOfSpan yi_P_termOfSpan lk_X_137 d_X_span_72 rfl rfl rfl rfl hl.1 (Nat.le_of_ble_eq_true rfl) ⟨Nat.le_of_ble_eq_true rfl, Nat.le_of_ble_eq_true rfl⟩ ⟨Nat.zero_le _, Nat.zero_le _⟩ (fun τ72 H locs hτ72 hw => ?_)
        subst hτ72
        exact w_lret hc hw (⟨rfl, rfl⟩) d_X_span_75
      · exact absurd h c50
    · exfalso; omega
set_option maxHeartbeats 400000 in
set_option maxRecDepth 100000 in
theorem k_X_span01 {l : Launch} {D : va_G} {ad : Nat → Nat} {ca : Nat → ClassId} (σ : St) (a b : Int) (ha : r32 a) (hb2 : r32 b) (hI : 0 ≤ σ 7 0 ∧ σ 7 0 ≤ 12) (h0 : 0 ≤ a ∧ a < σ 7 0) (h1 : 0 ≤ b ∧ b < σ 7 0) (hJ : ∀ i, 0 ≤ σ 31 i ∧ σ 31 i < 4096) (h : zB (σ 31 a) b) (g1 : 0 ≤ σ 34 (prOf a b) ∧ σ 34 (prOf a b) < 4611686018427387904) (g2 : 0 ≤ σ 32 (prOf a b) ∧ σ 32 (prOf a b) < 4611686018427387904) : Cw l D cl7 (tyX ca) (wX ad ca) y_X_span c_X_span 5 (some .long) 3 [.ref (ad 100), .int (zI a), .int (zI b), .int (zI 0), .int (zI 1)] σ (RW (.long (zL (σ 32 (prOf a b) / max 1 (gcdF 200 (σ 34 (prOf a b)) (σ 32 (prOf a b)))))) (σ = ·)) := by
  refine Cw.enter (by decide) (Nat.le_of_ble_eq_true rfl) ?_
  intro A p e s m below meth c hc ls hl hw
  have hl : lv_has ls 5 [(0, .ref (ad 100)), (1, .int (zI a)), (2, .int (zI b)), (3, .int (zI 0)), (4, .int (zI 1))] := hl
  obtain ⟨hx, hb, hml, hown, hTB, hK, hr, hlk⟩ := id hc
  refine lv_aload_n hx hb d_X_span_0 rfl (lv_at hl 0 rfl) ?_
  refine lv_iload_n hx hb d_X_span_1 rfl (lv_at hl 1 rfl) ?_
  refine w_cvV (q0 := 0) hc hw (k_X_needNet _ _ (by omega) hI (by omega)) yw_X_needNet yi_X_needNet lk_X_48 d_X_span_2 rfl rfl rfl rfl hl.1 (Nat.le_of_ble_eq_true rfl) ⟨Nat.le_of_ble_eq_true rfl, Nat.le_of_ble_eq_true rfl⟩ ⟨Nat.zero_le _, Nat.zero_le _⟩ (fun τ2 H locs hτ2 hw => ?_)
  subst hτ2
  refine lv_aload_n hx hb d_X_span_5 rfl (lv_at hl 0 rfl) ?_
  refine lv_iload_n hx hb d_X_span_6 rfl (lv_at hl 2 rfl) ?_
  refine w_cvV (q0 := 0) hc hw (k_X_needNet _ _ (by omega) hI (by omega)) yw_X_needNet yi_X_needNet lk_X_48 d_X_span_7 rfl rfl rfl rfl hl.1 (Nat.le_of_ble_eq_true rfl) ⟨Nat.le_of_ble_eq_true rfl, Nat.le_of_ble_eq_true rfl⟩ ⟨Nat.zero_le _, Nat.zero_le _⟩ (fun τ7 H locs hτ7 hw => ?_)
  subst hτ7
  refine lv_iload_n hx hb d_X_span_10 rfl (lv_at hl 3 rfl) ?_
  refine z_i2l hx hb d_X_span_11 (by omega) ?_
  refine z_lc0 hx hb d_X_span_12 ?_
  refine z_lc1 hx hb d_X_span_13 ?_
  refine w_csR hc hw (k_X_isWithin _ _ _ _ (by omega) (by omega) (by omega)) yw_X_isWithin yi_X_isWithin lk_X_56 d_X_span_14 rfl rfl hl.1 (Nat.le_of_ble_eq_true rfl) ⟨Nat.le_of_ble_eq_true rfl, Nat.le_of_ble_eq_true rfl⟩ ⟨Nat.zero_le _, Nat.zero_le _⟩ (fun τ14 H locs hτ14 hw => ?_)
  subst hτ14
  refine z_ifb_eq hx hb 31 d_X_span_17 (by decide) (fun c17 => ?_) (fun c17 => ?_)
  · exfalso; omega
  · refine lv_iload hx hb d_X_span_20 (lv_at hl 4 rfl) ?_
    refine z_i2l hx hb d_X_span_22 (by omega) ?_
    refine z_lc0 hx hb d_X_span_23 ?_
    refine z_lc1 hx hb d_X_span_24 ?_
    refine w_csR hc hw (k_X_isWithin _ _ _ _ (by omega) (by omega) (by omega)) yw_X_isWithin yi_X_isWithin lk_X_56 d_X_span_25 rfl rfl hl.1 (Nat.le_of_ble_eq_true rfl) ⟨Nat.le_of_ble_eq_true rfl, Nat.le_of_ble_eq_true rfl⟩ ⟨Nat.zero_le _, Nat.zero_le _⟩ (fun τ25 H locs hτ25 hw => ?_)
    subst hτ25
    refine z_ifb_ne hx hb 41 d_X_span_28 (by decide) (fun c28 => ?_) (fun c28 => ?_)
    · refine lv_aload_n hx hb d_X_span_41 rfl (lv_at hl 0 rfl) ?_
      refine gX_X_parts hc hw lk_X_33 d_X_span_42 ?_
      refine lv_iload_n hx hb d_X_span_45 rfl (lv_at hl 1 rfl) ?_
      refine lv_iload_n hx hb d_X_span_46 rfl (lv_at hl 2 rfl) ?_
      refine w_cvR (q0 := 3) hc hw (k_P_areBetween _ _ _ (by omega) (by omega) hJ) yw_P_areBetween yi_P_areBetween lk_X_128 d_X_span_47 rfl rfl rfl rfl hl.1 (Nat.le_of_ble_eq_true rfl) ⟨Nat.le_of_ble_eq_true rfl, Nat.le_of_ble_eq_true rfl⟩ ⟨Nat.zero_le _, Nat.zero_le _⟩ (fun τ47 H locs hτ47 hw => ?_)
      subst hτ47
      refine z_ifb_ne hx hb 63 d_X_span_50 (by decide) (fun c50 => ?_) (fun c50 => ?_)
      · refine lv_aload_n hx hb d_X_span_63 rfl (lv_at hl 0 rfl) ?_
        refine gX_X_parts hc hw lk_X_33 d_X_span_64 ?_
        refine lv_iload_n hx hb d_X_span_67 rfl (lv_at hl 1 rfl) ?_
        refine lv_iload_n hx hb d_X_span_68 rfl (lv_at hl 2 rfl) ?_
        refine lv_iload_n hx hb d_X_span_69 rfl (lv_at hl 3 rfl) ?_
        refine lv_iload hx hb d_X_span_70 (lv_at hl 4 rfl) ?_
        refine w_cvR (q0 := 3) hc hw (k_P_termOfSpan01 _ _ _ (by omega) (by omega) g1 g2) yw_P_termOfSpan yi_P_termOfSpan lk_X_137 d_X_span_72 rfl rfl rfl rfl hl.1 (Nat.le_of_ble_eq_true rfl) ⟨Nat.le_of_ble_eq_true rfl, Nat.le_of_ble_eq_true rfl⟩ ⟨Nat.zero_le _, Nat.zero_le _⟩ (fun τ72 H locs hτ72 hw => ?_)
        subst hτ72
        exact w_lret hc hw (⟨rfl, rfl⟩) d_X_span_75
      · exact absurd h c50
    · exfalso; omega
set_option maxHeartbeats 400000 in
set_option maxRecDepth 100000 in
theorem k_X_span10 {l : Launch} {D : va_G} {ad : Nat → Nat} {ca : Nat → ClassId} (σ : St) (a b : Int) (ha : r32 a) (hb2 : r32 b) (hI : 0 ≤ σ 7 0 ∧ σ 7 0 ≤ 12) (h0 : 0 ≤ a ∧ a < σ 7 0) (h1 : 0 ≤ b ∧ b < σ 7 0) (hJ : ∀ i, 0 ≤ σ 31 i ∧ σ 31 i < 4096) (h : zB (σ 31 a) b) (g1 : 0 ≤ σ 35 (prOf a b) ∧ σ 35 (prOf a b) < 4611686018427387904) (g2 : 0 ≤ σ 33 (prOf a b) ∧ σ 33 (prOf a b) < 4611686018427387904) : Cw l D cl7 (tyX ca) (wX ad ca) y_X_span c_X_span 5 (some .long) 3 [.ref (ad 100), .int (zI a), .int (zI b), .int (zI 1), .int (zI 0)] σ (RW (.long (zL (σ 35 (prOf a b) / max 1 (gcdF 200 (σ 35 (prOf a b)) (σ 33 (prOf a b)))))) (σ = ·)) := by
  refine Cw.enter (by decide) (Nat.le_of_ble_eq_true rfl) ?_
  intro A p e s m below meth c hc ls hl hw
  have hl : lv_has ls 5 [(0, .ref (ad 100)), (1, .int (zI a)), (2, .int (zI b)), (3, .int (zI 1)), (4, .int (zI 0))] := hl
  obtain ⟨hx, hb, hml, hown, hTB, hK, hr, hlk⟩ := id hc
  refine lv_aload_n hx hb d_X_span_0 rfl (lv_at hl 0 rfl) ?_
  refine lv_iload_n hx hb d_X_span_1 rfl (lv_at hl 1 rfl) ?_
  refine w_cvV (q0 := 0) hc hw (k_X_needNet _ _ (by omega) hI (by omega)) yw_X_needNet yi_X_needNet lk_X_48 d_X_span_2 rfl rfl rfl rfl hl.1 (Nat.le_of_ble_eq_true rfl) ⟨Nat.le_of_ble_eq_true rfl, Nat.le_of_ble_eq_true rfl⟩ ⟨Nat.zero_le _, Nat.zero_le _⟩ (fun τ2 H locs hτ2 hw => ?_)
  subst hτ2
  refine lv_aload_n hx hb d_X_span_5 rfl (lv_at hl 0 rfl) ?_
  refine lv_iload_n hx hb d_X_span_6 rfl (lv_at hl 2 rfl) ?_
  refine w_cvV (q0 := 0) hc hw (k_X_needNet _ _ (by omega) hI (by omega)) yw_X_needNet yi_X_needNet lk_X_48 d_X_span_7 rfl rfl rfl rfl hl.1 (Nat.le_of_ble_eq_true rfl) ⟨Nat.le_of_ble_eq_true rfl, Nat.le_of_ble_eq_true rfl⟩ ⟨Nat.zero_le _, Nat.zero_le _⟩ (fun τ7 H locs hτ7 hw => ?_)
  subst hτ7
  refine lv_iload_n hx hb d_X_span_10 rfl (lv_at hl 3 rfl) ?_
  refine z_i2l hx hb d_X_span_11 (by omega) ?_
  refine z_lc0 hx hb d_X_span_12 ?_
  refine z_lc1 hx hb d_X_span_13 ?_
  refine w_csR hc hw (k_X_isWithin _ _ _ _ (by omega) (by omega) (by omega)) yw_X_isWithin yi_X_isWithin lk_X_56 d_X_span_14 rfl rfl hl.1 (Nat.le_of_ble_eq_true rfl) ⟨Nat.le_of_ble_eq_true rfl, Nat.le_of_ble_eq_true rfl⟩ ⟨Nat.zero_le _, Nat.zero_le _⟩ (fun τ14 H locs hτ14 hw => ?_)
  subst hτ14
  refine z_ifb_eq hx hb 31 d_X_span_17 (by decide) (fun c17 => ?_) (fun c17 => ?_)
  · exfalso; omega
  · refine lv_iload hx hb d_X_span_20 (lv_at hl 4 rfl) ?_
    refine z_i2l hx hb d_X_span_22 (by omega) ?_
    refine z_lc0 hx hb d_X_span_23 ?_
    refine z_lc1 hx hb d_X_span_24 ?_
    refine w_csR hc hw (k_X_isWithin _ _ _ _ (by omega) (by omega) (by omega)) yw_X_isWithin yi_X_isWithin lk_X_56 d_X_span_25 rfl rfl hl.1 (Nat.le_of_ble_eq_true rfl) ⟨Nat.le_of_ble_eq_true rfl, Nat.le_of_ble_eq_true rfl⟩ ⟨Nat.zero_le _, Nat.zero_le _⟩ (fun τ25 H locs hτ25 hw => ?_)
    subst hτ25
    refine z_ifb_ne hx hb 41 d_X_span_28 (by decide) (fun c28 => ?_) (fun c28 => ?_)
    · refine lv_aload_n hx hb d_X_span_41 rfl (lv_at hl 0 rfl) ?_
      refine gX_X_parts hc hw lk_X_33 d_X_span_42 ?_
      refine lv_iload_n hx hb d_X_span_45 rfl (lv_at hl 1 rfl) ?_
      refine lv_iload_n hx hb d_X_span_46 rfl (lv_at hl 2 rfl) ?_
      refine w_cvR (q0 := 3) hc hw (k_P_areBetween _ _ _ (by omega) (by omega) hJ) yw_P_areBetween yi_P_areBetween lk_X_128 d_X_span_47 rfl rfl rfl rfl hl.1 (Nat.le_of_ble_eq_true rfl) ⟨Nat.le_of_ble_eq_true rfl, Nat.le_of_ble_eq_true rfl⟩ ⟨Nat.zero_le _, Nat.zero_le _⟩ (fun τ47 H locs hτ47 hw => ?_)
      subst hτ47
      refine z_ifb_ne hx hb 63 d_X_span_50 (by decide) (fun c50 => ?_) (fun c50 => ?_)
      · refine lv_aload_n hx hb d_X_span_63 rfl (lv_at hl 0 rfl) ?_
        refine gX_X_parts hc hw lk_X_33 d_X_span_64 ?_
        refine lv_iload_n hx hb d_X_span_67 rfl (lv_at hl 1 rfl) ?_
        refine lv_iload_n hx hb d_X_span_68 rfl (lv_at hl 2 rfl) ?_
        refine lv_iload_n hx hb d_X_span_69 rfl (lv_at hl 3 rfl) ?_
        refine lv_iload hx hb d_X_span_70 (lv_at hl 4 rfl) ?_
        refine w_cvR (q0 := 3) hc hw (k_P_termOfSpan10 _ _ _ (by omega) (by omega) g1 g2) yw_P_termOfSpan yi_P_termOfSpan lk_X_137 d_X_span_72 rfl rfl rfl rfl hl.1 (Nat.le_of_ble_eq_true rfl) ⟨Nat.le_of_ble_eq_true rfl, Nat.le_of_ble_eq_true rfl⟩ ⟨Nat.zero_le _, Nat.zero_le _⟩ (fun τ72 H locs hτ72 hw => ?_)
        subst hτ72
        exact w_lret hc hw (⟨rfl, rfl⟩) d_X_span_75
      · exact absurd h c50
    · exfalso; omega
set_option maxHeartbeats 400000 in
set_option maxRecDepth 100000 in
theorem k_X_span11 {l : Launch} {D : va_G} {ad : Nat → Nat} {ca : Nat → ClassId} (σ : St) (a b : Int) (ha : r32 a) (hb2 : r32 b) (hI : 0 ≤ σ 7 0 ∧ σ 7 0 ≤ 12) (h0 : 0 ≤ a ∧ a < σ 7 0) (h1 : 0 ≤ b ∧ b < σ 7 0) (hJ : ∀ i, 0 ≤ σ 31 i ∧ σ 31 i < 4096) (h : zB (σ 31 a) b) (g1 : 0 ≤ σ 35 (prOf a b) ∧ σ 35 (prOf a b) < 4611686018427387904) (g2 : 0 ≤ σ 33 (prOf a b) ∧ σ 33 (prOf a b) < 4611686018427387904) : Cw l D cl7 (tyX ca) (wX ad ca) y_X_span c_X_span 5 (some .long) 3 [.ref (ad 100), .int (zI a), .int (zI b), .int (zI 1), .int (zI 1)] σ (RW (.long (zL (σ 33 (prOf a b) / max 1 (gcdF 200 (σ 35 (prOf a b)) (σ 33 (prOf a b)))))) (σ = ·)) := by
  refine Cw.enter (by decide) (Nat.le_of_ble_eq_true rfl) ?_
  intro A p e s m below meth c hc ls hl hw
  have hl : lv_has ls 5 [(0, .ref (ad 100)), (1, .int (zI a)), (2, .int (zI b)), (3, .int (zI 1)), (4, .int (zI 1))] := hl
  obtain ⟨hx, hb, hml, hown, hTB, hK, hr, hlk⟩ := id hc
  refine lv_aload_n hx hb d_X_span_0 rfl (lv_at hl 0 rfl) ?_
  refine lv_iload_n hx hb d_X_span_1 rfl (lv_at hl 1 rfl) ?_
  refine w_cvV (q0 := 0) hc hw (k_X_needNet _ _ (by omega) hI (by omega)) yw_X_needNet yi_X_needNet lk_X_48 d_X_span_2 rfl rfl rfl rfl hl.1 (Nat.le_of_ble_eq_true rfl) ⟨Nat.le_of_ble_eq_true rfl, Nat.le_of_ble_eq_true rfl⟩ ⟨Nat.zero_le _, Nat.zero_le _⟩ (fun τ2 H locs hτ2 hw => ?_)
  subst hτ2
  refine lv_aload_n hx hb d_X_span_5 rfl (lv_at hl 0 rfl) ?_
  refine lv_iload_n hx hb d_X_span_6 rfl (lv_at hl 2 rfl) ?_
  refine w_cvV (q0 := 0) hc hw (k_X_needNet _ _ (by omega) hI (by omega)) yw_X_needNet yi_X_needNet lk_X_48 d_X_span_7 rfl rfl rfl rfl hl.1 (Nat.le_of_ble_eq_true rfl) ⟨Nat.le_of_ble_eq_true rfl, Nat.le_of_ble_eq_true rfl⟩ ⟨Nat.zero_le _, Nat.zero_le _⟩ (fun τ7 H locs hτ7 hw => ?_)
  subst hτ7
  refine lv_iload_n hx hb d_X_span_10 rfl (lv_at hl 3 rfl) ?_
  refine z_i2l hx hb d_X_span_11 (by omega) ?_
  refine z_lc0 hx hb d_X_span_12 ?_
  refine z_lc1 hx hb d_X_span_13 ?_
  refine w_csR hc hw (k_X_isWithin _ _ _ _ (by omega) (by omega) (by omega)) yw_X_isWithin yi_X_isWithin lk_X_56 d_X_span_14 rfl rfl hl.1 (Nat.le_of_ble_eq_true rfl) ⟨Nat.le_of_ble_eq_true rfl, Nat.le_of_ble_eq_true rfl⟩ ⟨Nat.zero_le _, Nat.zero_le _⟩ (fun τ14 H locs hτ14 hw => ?_)
  subst hτ14
  refine z_ifb_eq hx hb 31 d_X_span_17 (by decide) (fun c17 => ?_) (fun c17 => ?_)
  · exfalso; omega
  · refine lv_iload hx hb d_X_span_20 (lv_at hl 4 rfl) ?_
    refine z_i2l hx hb d_X_span_22 (by omega) ?_
    refine z_lc0 hx hb d_X_span_23 ?_
    refine z_lc1 hx hb d_X_span_24 ?_
    refine w_csR hc hw (k_X_isWithin _ _ _ _ (by omega) (by omega) (by omega)) yw_X_isWithin yi_X_isWithin lk_X_56 d_X_span_25 rfl rfl hl.1 (Nat.le_of_ble_eq_true rfl) ⟨Nat.le_of_ble_eq_true rfl, Nat.le_of_ble_eq_true rfl⟩ ⟨Nat.zero_le _, Nat.zero_le _⟩ (fun τ25 H locs hτ25 hw => ?_)
    subst hτ25
    refine z_ifb_ne hx hb 41 d_X_span_28 (by decide) (fun c28 => ?_) (fun c28 => ?_)
    · refine lv_aload_n hx hb d_X_span_41 rfl (lv_at hl 0 rfl) ?_
      refine gX_X_parts hc hw lk_X_33 d_X_span_42 ?_
      refine lv_iload_n hx hb d_X_span_45 rfl (lv_at hl 1 rfl) ?_
      refine lv_iload_n hx hb d_X_span_46 rfl (lv_at hl 2 rfl) ?_
      refine w_cvR (q0 := 3) hc hw (k_P_areBetween _ _ _ (by omega) (by omega) hJ) yw_P_areBetween yi_P_areBetween lk_X_128 d_X_span_47 rfl rfl rfl rfl hl.1 (Nat.le_of_ble_eq_true rfl) ⟨Nat.le_of_ble_eq_true rfl, Nat.le_of_ble_eq_true rfl⟩ ⟨Nat.zero_le _, Nat.zero_le _⟩ (fun τ47 H locs hτ47 hw => ?_)
      subst hτ47
      refine z_ifb_ne hx hb 63 d_X_span_50 (by decide) (fun c50 => ?_) (fun c50 => ?_)
      · refine lv_aload_n hx hb d_X_span_63 rfl (lv_at hl 0 rfl) ?_
        refine gX_X_parts hc hw lk_X_33 d_X_span_64 ?_
        refine lv_iload_n hx hb d_X_span_67 rfl (lv_at hl 1 rfl) ?_
        refine lv_iload_n hx hb d_X_span_68 rfl (lv_at hl 2 rfl) ?_
        refine lv_iload_n hx hb d_X_span_69 rfl (lv_at hl 3 rfl) ?_
        refine lv_iload hx hb d_X_span_70 (lv_at hl 4 rfl) ?_
        refine w_cvR (q0 := 3) hc hw (k_P_termOfSpan11 _ _ _ (by omega) (by omega) g1 g2) yw_P_termOfSpan yi_P_termOfSpan lk_X_137 d_X_span_72 rfl rfl rfl rfl hl.1 (Nat.le_of_ble_eq_true rfl) ⟨Nat.le_of_ble_eq_true rfl, Nat.le_of_ble_eq_true rfl⟩ ⟨Nat.zero_le _, Nat.zero_le _⟩ (fun τ72 H locs hτ72 hw => ?_)
        subst hτ72
        exact w_lret hc hw (⟨rfl, rfl⟩) d_X_span_75
      · exact absurd h c50
    · exfalso; omega
set_option maxHeartbeats 400000 in
set_option maxRecDepth 100000 in
theorem t_X_span0 {l : Launch} {D : va_G} {ad : Nat → Nat} {ca : Nat → ClassId} (hfl : l.flags = pinnedFlags ++ [noTraceFlag]) (σ : St) (a b en pa : Int) (ha : r32 a) (hb2 : r32 b) (hen : r32 en) (hpa : r32 pa) (hI : 0 ≤ σ 7 0 ∧ σ 7 0 ≤ 12) (h0 : ¬ (0 ≤ a ∧ a < σ 7 0)) : Ct l D cl7 (tyX ca) (wX ad ca) y_X_span c_X_span 5 (some .long) 7 [.ref (ad 100), .int (zI a), .int (zI b), .int (zI en), .int (zI pa)] σ σ xIOB := by
  refine Ct.enter (by decide) (Nat.le_of_ble_eq_true rfl) ?_
  intro A p e s m below meth c hc hX ls hl hw
  have hl : lv_has ls 5 [(0, .ref (ad 100)), (1, .int (zI a)), (2, .int (zI b)), (3, .int (zI en)), (4, .int (zI pa))] := hl
  obtain ⟨hx, hb, hml, hown, hTB, hK, hr, hlk⟩ := id hc
  refine lv_aload_n hx hb d_X_span_0 rfl (lv_at hl 0 rfl) ?_
  refine lv_iload_n hx hb d_X_span_1 rfl (lv_at hl 1 rfl) ?_
  exact w_cvT (q0 := 0) hc hX hw (t_X_needNet hfl _ _ (by omega) hI (by omega)) yw_X_needNet yi_X_needNet lk_X_48 d_X_span_2 rfl rfl rfl rfl hl.1 (Nat.le_of_ble_eq_true rfl) ⟨Nat.le_of_ble_eq_true rfl, Nat.le_of_ble_eq_true rfl⟩
set_option maxHeartbeats 400000 in
set_option maxRecDepth 100000 in
theorem t_X_span1 {l : Launch} {D : va_G} {ad : Nat → Nat} {ca : Nat → ClassId} (hfl : l.flags = pinnedFlags ++ [noTraceFlag]) (σ : St) (a b en pa : Int) (ha : r32 a) (hb2 : r32 b) (hen : r32 en) (hpa : r32 pa) (hI : 0 ≤ σ 7 0 ∧ σ 7 0 ≤ 12) (h0 : 0 ≤ a ∧ a < σ 7 0) (h1 : ¬ (0 ≤ b ∧ b < σ 7 0)) : Ct l D cl7 (tyX ca) (wX ad ca) y_X_span c_X_span 5 (some .long) 7 [.ref (ad 100), .int (zI a), .int (zI b), .int (zI en), .int (zI pa)] σ σ xIOB := by
  refine Ct.enter (by decide) (Nat.le_of_ble_eq_true rfl) ?_
  intro A p e s m below meth c hc hX ls hl hw
  have hl : lv_has ls 5 [(0, .ref (ad 100)), (1, .int (zI a)), (2, .int (zI b)), (3, .int (zI en)), (4, .int (zI pa))] := hl
  obtain ⟨hx, hb, hml, hown, hTB, hK, hr, hlk⟩ := id hc
  refine lv_aload_n hx hb d_X_span_0 rfl (lv_at hl 0 rfl) ?_
  refine lv_iload_n hx hb d_X_span_1 rfl (lv_at hl 1 rfl) ?_
  refine w_cvV (q0 := 0) hc hw (k_X_needNet _ _ (by omega) hI (by omega)) yw_X_needNet yi_X_needNet lk_X_48 d_X_span_2 rfl rfl rfl rfl hl.1 (Nat.le_of_ble_eq_true rfl) ⟨Nat.le_of_ble_eq_true rfl, Nat.le_of_ble_eq_true rfl⟩ ⟨Nat.zero_le _, Nat.zero_le _⟩ (fun τ2 H locs hτ2 hw => ?_)
  subst hτ2
  refine lv_aload_n hx hb d_X_span_5 rfl (lv_at hl 0 rfl) ?_
  refine lv_iload_n hx hb d_X_span_6 rfl (lv_at hl 2 rfl) ?_
  exact w_cvT (q0 := 0) hc hX hw (t_X_needNet hfl _ _ (by omega) hI (by omega)) yw_X_needNet yi_X_needNet lk_X_48 d_X_span_7 rfl rfl rfl rfl hl.1 (Nat.le_of_ble_eq_true rfl) ⟨Nat.le_of_ble_eq_true rfl, Nat.le_of_ble_eq_true rfl⟩
set_option maxHeartbeats 400000 in
set_option maxRecDepth 100000 in
theorem t_X_span2 {l : Launch} {D : va_G} {ad : Nat → Nat} {ca : Nat → ClassId} (hfl : l.flags = pinnedFlags ++ [noTraceFlag]) (σ : St) (a b en pa : Int) (ha : r32 a) (hb2 : r32 b) (hen : r32 en) (hpa : r32 pa) (hI : 0 ≤ σ 7 0 ∧ σ 7 0 ≤ 12) (h0 : 0 ≤ a ∧ a < σ 7 0) (h1 : 0 ≤ b ∧ b < σ 7 0) (h : ¬ ((0 ≤ en ∧ en ≤ 1) ∧ (0 ≤ pa ∧ pa ≤ 1))) : Ct l D cl7 (tyX ca) (wX ad ca) y_X_span c_X_span 5 (some .long) 7 [.ref (ad 100), .int (zI a), .int (zI b), .int (zI en), .int (zI pa)] σ σ xIOB := by
  refine Ct.enter (by decide) (Nat.le_of_ble_eq_true rfl) ?_
  intro A p e s m below meth c hc hX ls hl hw
  have hl : lv_has ls 5 [(0, .ref (ad 100)), (1, .int (zI a)), (2, .int (zI b)), (3, .int (zI en)), (4, .int (zI pa))] := hl
  obtain ⟨hx, hb, hml, hown, hTB, hK, hr, hlk⟩ := id hc
  refine lv_aload_n hx hb d_X_span_0 rfl (lv_at hl 0 rfl) ?_
  refine lv_iload_n hx hb d_X_span_1 rfl (lv_at hl 1 rfl) ?_
  refine w_cvV (q0 := 0) hc hw (k_X_needNet _ _ (by omega) hI (by omega)) yw_X_needNet yi_X_needNet lk_X_48 d_X_span_2 rfl rfl rfl rfl hl.1 (Nat.le_of_ble_eq_true rfl) ⟨Nat.le_of_ble_eq_true rfl, Nat.le_of_ble_eq_true rfl⟩ ⟨Nat.zero_le _, Nat.zero_le _⟩ (fun τ2 H locs hτ2 hw => ?_)
  subst hτ2
  refine lv_aload_n hx hb d_X_span_5 rfl (lv_at hl 0 rfl) ?_
  refine lv_iload_n hx hb d_X_span_6 rfl (lv_at hl 2 rfl) ?_
  refine w_cvV (q0 := 0) hc hw (k_X_needNet _ _ (by omega) hI (by omega)) yw_X_needNet yi_X_needNet lk_X_48 d_X_span_7 rfl rfl rfl rfl hl.1 (Nat.le_of_ble_eq_true rfl) ⟨Nat.le_of_ble_eq_true rfl, Nat.le_of_ble_eq_true rfl⟩ ⟨Nat.zero_le _, Nat.zero_le _⟩ (fun τ7 H locs hτ7 hw => ?_)
  subst hτ7
  refine lv_iload_n hx hb d_X_span_10 rfl (lv_at hl 3 rfl) ?_
  refine z_i2l hx hb d_X_span_11 (by omega) ?_
  refine z_lc0 hx hb d_X_span_12 ?_
  refine z_lc1 hx hb d_X_span_13 ?_
  refine w_csR hc hw (k_X_isWithin _ _ _ _ (by omega) (by omega) (by omega)) yw_X_isWithin yi_X_isWithin lk_X_56 d_X_span_14 rfl rfl hl.1 (Nat.le_of_ble_eq_true rfl) ⟨Nat.le_of_ble_eq_true rfl, Nat.le_of_ble_eq_true rfl⟩ ⟨Nat.zero_le _, Nat.zero_le _⟩ (fun τ14 H locs hτ14 hw => ?_)
  subst hτ14
  refine z_ifb_eq hx hb 31 d_X_span_17 (by decide) (fun c17 => ?_) (fun c17 => ?_)
  · exact w_throw hfl hc hX hw xq_IOB xlk_IOB xs_125 hl.1 (Nat.le_of_ble_eq_true rfl) (Nat.le_of_ble_eq_true rfl) d_X_span_31 d_X_span_34 d_X_span_35 d_X_span_37 d_X_span_40
  · refine lv_iload hx hb d_X_span_20 (lv_at hl 4 rfl) ?_
    refine z_i2l hx hb d_X_span_22 (by omega) ?_
    refine z_lc0 hx hb d_X_span_23 ?_
    refine z_lc1 hx hb d_X_span_24 ?_
    refine w_csR hc hw (k_X_isWithin _ _ _ _ (by omega) (by omega) (by omega)) yw_X_isWithin yi_X_isWithin lk_X_56 d_X_span_25 rfl rfl hl.1 (Nat.le_of_ble_eq_true rfl) ⟨Nat.le_of_ble_eq_true rfl, Nat.le_of_ble_eq_true rfl⟩ ⟨Nat.zero_le _, Nat.zero_le _⟩ (fun τ25 H locs hτ25 hw => ?_)
    subst hτ25
    refine z_ifb_ne hx hb 41 d_X_span_28 (by decide) (fun c28 => ?_) (fun c28 => ?_)
    · exfalso; omega
    · exact w_throw hfl hc hX hw xq_IOB xlk_IOB xs_125 hl.1 (Nat.le_of_ble_eq_true rfl) (Nat.le_of_ble_eq_true rfl) d_X_span_31 d_X_span_34 d_X_span_35 d_X_span_37 d_X_span_40
set_option maxHeartbeats 400000 in
set_option maxRecDepth 100000 in
theorem t_X_span3 {l : Launch} {D : va_G} {ad : Nat → Nat} {ca : Nat → ClassId} (hfl : l.flags = pinnedFlags ++ [noTraceFlag]) (σ : St) (a b en pa : Int) (ha : r32 a) (hb2 : r32 b) (hen : r32 en) (hpa : r32 pa) (hI : 0 ≤ σ 7 0 ∧ σ 7 0 ≤ 12) (h0 : 0 ≤ a ∧ a < σ 7 0) (h1 : 0 ≤ b ∧ b < σ 7 0) (hJ : ∀ i, 0 ≤ σ 31 i ∧ σ 31 i < 4096) (h : (0 ≤ en ∧ en ≤ 1) ∧ (0 ≤ pa ∧ pa ≤ 1)) (h2 : ¬ zB (σ 31 a) b) : Ct l D cl7 (tyX ca) (wX ad ca) y_X_span c_X_span 5 (some .long) 7 [.ref (ad 100), .int (zI a), .int (zI b), .int (zI en), .int (zI pa)] σ σ xISE := by
  refine Ct.enter (by decide) (Nat.le_of_ble_eq_true rfl) ?_
  intro A p e s m below meth c hc hX ls hl hw
  have hl : lv_has ls 5 [(0, .ref (ad 100)), (1, .int (zI a)), (2, .int (zI b)), (3, .int (zI en)), (4, .int (zI pa))] := hl
  obtain ⟨hx, hb, hml, hown, hTB, hK, hr, hlk⟩ := id hc
  refine lv_aload_n hx hb d_X_span_0 rfl (lv_at hl 0 rfl) ?_
  refine lv_iload_n hx hb d_X_span_1 rfl (lv_at hl 1 rfl) ?_
  refine w_cvV (q0 := 0) hc hw (k_X_needNet _ _ (by omega) hI (by omega)) yw_X_needNet yi_X_needNet lk_X_48 d_X_span_2 rfl rfl rfl rfl hl.1 (Nat.le_of_ble_eq_true rfl) ⟨Nat.le_of_ble_eq_true rfl, Nat.le_of_ble_eq_true rfl⟩ ⟨Nat.zero_le _, Nat.zero_le _⟩ (fun τ2 H locs hτ2 hw => ?_)
  subst hτ2
  refine lv_aload_n hx hb d_X_span_5 rfl (lv_at hl 0 rfl) ?_
  refine lv_iload_n hx hb d_X_span_6 rfl (lv_at hl 2 rfl) ?_
  refine w_cvV (q0 := 0) hc hw (k_X_needNet _ _ (by omega) hI (by omega)) yw_X_needNet yi_X_needNet lk_X_48 d_X_span_7 rfl rfl rfl rfl hl.1 (Nat.le_of_ble_eq_true rfl) ⟨Nat.le_of_ble_eq_true rfl, Nat.le_of_ble_eq_true rfl⟩ ⟨Nat.zero_le _, Nat.zero_le _⟩ (fun τ7 H locs hτ7 hw => ?_)
  subst hτ7
  refine lv_iload_n hx hb d_X_span_10 rfl (lv_at hl 3 rfl) ?_
  refine z_i2l hx hb d_X_span_11 (by omega) ?_
  refine z_lc0 hx hb d_X_span_12 ?_
  refine z_lc1 hx hb d_X_span_13 ?_
  refine w_csR hc hw (k_X_isWithin _ _ _ _ (by omega) (by omega) (by omega)) yw_X_isWithin yi_X_isWithin lk_X_56 d_X_span_14 rfl rfl hl.1 (Nat.le_of_ble_eq_true rfl) ⟨Nat.le_of_ble_eq_true rfl, Nat.le_of_ble_eq_true rfl⟩ ⟨Nat.zero_le _, Nat.zero_le _⟩ (fun τ14 H locs hτ14 hw => ?_)
  subst hτ14
  refine z_ifb_eq hx hb 31 d_X_span_17 (by decide) (fun c17 => ?_) (fun c17 => ?_)
  · exfalso; omega
  · refine lv_iload hx hb d_X_span_20 (lv_at hl 4 rfl) ?_
    refine z_i2l hx hb d_X_span_22 (by omega) ?_
    refine z_lc0 hx hb d_X_span_23 ?_
    refine z_lc1 hx hb d_X_span_24 ?_
    refine w_csR hc hw (k_X_isWithin _ _ _ _ (by omega) (by omega) (by omega)) yw_X_isWithin yi_X_isWithin lk_X_56 d_X_span_25 rfl rfl hl.1 (Nat.le_of_ble_eq_true rfl) ⟨Nat.le_of_ble_eq_true rfl, Nat.le_of_ble_eq_true rfl⟩ ⟨Nat.zero_le _, Nat.zero_le _⟩ (fun τ25 H locs hτ25 hw => ?_)
    subst hτ25
    refine z_ifb_ne hx hb 41 d_X_span_28 (by decide) (fun c28 => ?_) (fun c28 => ?_)
    · refine lv_aload_n hx hb d_X_span_41 rfl (lv_at hl 0 rfl) ?_
      refine gX_X_parts hc hw lk_X_33 d_X_span_42 ?_
      refine lv_iload_n hx hb d_X_span_45 rfl (lv_at hl 1 rfl) ?_
      refine lv_iload_n hx hb d_X_span_46 rfl (lv_at hl 2 rfl) ?_
      refine w_cvR (q0 := 3) hc hw (k_P_areBetween _ _ _ (by omega) (by omega) hJ) yw_P_areBetween yi_P_areBetween lk_X_128 d_X_span_47 rfl rfl rfl rfl hl.1 (Nat.le_of_ble_eq_true rfl) ⟨Nat.le_of_ble_eq_true rfl, Nat.le_of_ble_eq_true rfl⟩ ⟨Nat.zero_le _, Nat.zero_le _⟩ (fun τ47 H locs hτ47 hw => ?_)
      subst hτ47
      refine z_ifb_ne hx hb 63 d_X_span_50 (by decide) (fun c50 => ?_) (fun c50 => ?_)
      · exact absurd c50 h2
      · exact w_throw hfl hc hX hw xq_ISE xlk_ISE xs_134 hl.1 (Nat.le_of_ble_eq_true rfl) (Nat.le_of_ble_eq_true rfl) d_X_span_53 d_X_span_56 d_X_span_57 d_X_span_59 d_X_span_62
    · exfalso; omega
set_option maxHeartbeats 400000 in
set_option maxRecDepth 100000 in
theorem k_X_guard {l : Launch} {D : va_G} {ad : Nat → Nat} {ca : Nat → ClassId} (σ : St) (a b k : Int) (ha : r32 a) (hb2 : r32 b) (hk : r32 k) (hI : 0 ≤ σ 7 0 ∧ σ 7 0 ≤ 12) (h0 : 0 ≤ a ∧ a < σ 7 0) (h1 : 0 ≤ b ∧ b < σ 7 0) (hJ : ∀ i, 0 ≤ σ 31 i ∧ σ 31 i < 4096) : Cw l D cl7 (tyX ca) (wX ad ca) y_X_guard c_X_guard 4 (some .int) 2 [.ref (ad 100), .int (zI a), .int (zI b), .int (zI k)] σ (RW (.int (zI (nbF (zAnd (σ 31 a) (σ 31 b)) k 12 0 0))) (σ = ·)) := by
  refine Cw.enter (by decide) (Nat.le_of_ble_eq_true rfl) ?_
  intro A p e s m below meth c hc ls hl hw
  have hl : lv_has ls 4 [(0, .ref (ad 100)), (1, .int (zI a)), (2, .int (zI b)), (3, .int (zI k))] := hl
  obtain ⟨hx, hb, hml, hown, hTB, hK, hr, hlk⟩ := id hc
  refine lv_aload_n hx hb d_X_guard_0 rfl (lv_at hl 0 rfl) ?_
  refine lv_iload_n hx hb d_X_guard_1 rfl (lv_at hl 1 rfl) ?_
  refine w_cvV (q0 := 0) hc hw (k_X_needNet _ _ (by omega) hI (by omega)) yw_X_needNet yi_X_needNet lk_X_48 d_X_guard_2 rfl rfl rfl rfl hl.1 (Nat.le_of_ble_eq_true rfl) ⟨Nat.le_of_ble_eq_true rfl, Nat.le_of_ble_eq_true rfl⟩ ⟨Nat.zero_le _, Nat.zero_le _⟩ (fun τ2 H locs hτ2 hw => ?_)
  subst hτ2
  refine lv_aload_n hx hb d_X_guard_5 rfl (lv_at hl 0 rfl) ?_
  refine lv_iload_n hx hb d_X_guard_6 rfl (lv_at hl 2 rfl) ?_
  refine w_cvV (q0 := 0) hc hw (k_X_needNet _ _ (by omega) hI (by omega)) yw_X_needNet yi_X_needNet lk_X_48 d_X_guard_7 rfl rfl rfl rfl hl.1 (Nat.le_of_ble_eq_true rfl) ⟨Nat.le_of_ble_eq_true rfl, Nat.le_of_ble_eq_true rfl⟩ ⟨Nat.zero_le _, Nat.zero_le _⟩ (fun τ7 H locs hτ7 hw => ?_)
  subst hτ7
  refine lv_aload_n hx hb d_X_guard_10 rfl (lv_at hl 0 rfl) ?_
  refine gX_X_parts hc hw lk_X_33 d_X_guard_11 ?_
  refine lv_iload_n hx hb d_X_guard_14 rfl (lv_at hl 1 rfl) ?_
  refine lv_iload_n hx hb d_X_guard_15 rfl (lv_at hl 2 rfl) ?_
  refine w_cvR (q0 := 3) hc hw (k_P_joinedToBoth _ _ _ (by omega) (by omega) hJ) yw_P_joinedToBoth yi_P_joinedToBoth lk_X_141 d_X_guard_16 rfl rfl rfl rfl hl.1 (Nat.le_of_ble_eq_true rfl) ⟨Nat.le_of_ble_eq_true rfl, Nat.le_of_ble_eq_true rfl⟩ ⟨Nat.zero_le _, Nat.zero_le _⟩ (fun τ16 H locs hτ16 hw => ?_)
  subst hτ16
  refine lv_iload_n hx hb d_X_guard_19 rfl (lv_at hl 3 rfl) ?_
  refine w_csR hc hw (k_X_nthBit _ _ _ (zAnd_bd (hJ a)) hk) yw_X_nthBit yi_X_nthBit lk_X_145 d_X_guard_20 rfl rfl hl.1 (Nat.le_of_ble_eq_true rfl) ⟨Nat.le_of_ble_eq_true rfl, Nat.le_of_ble_eq_true rfl⟩ ⟨Nat.zero_le _, Nat.zero_le _⟩ (fun τ20 H locs hτ20 hw => ?_)
  subst hτ20
  exact w_iret hc hw (⟨rfl, rfl⟩) d_X_guard_23
set_option maxHeartbeats 400000 in
set_option maxRecDepth 100000 in
theorem t_X_guard0 {l : Launch} {D : va_G} {ad : Nat → Nat} {ca : Nat → ClassId} (hfl : l.flags = pinnedFlags ++ [noTraceFlag]) (σ : St) (a b k : Int) (ha : r32 a) (hb2 : r32 b) (hk : r32 k) (hI : 0 ≤ σ 7 0 ∧ σ 7 0 ≤ 12) (h0 : ¬ (0 ≤ a ∧ a < σ 7 0)) : Ct l D cl7 (tyX ca) (wX ad ca) y_X_guard c_X_guard 4 (some .int) 7 [.ref (ad 100), .int (zI a), .int (zI b), .int (zI k)] σ σ xIOB := by
  refine Ct.enter (by decide) (Nat.le_of_ble_eq_true rfl) ?_
  intro A p e s m below meth c hc hX ls hl hw
  have hl : lv_has ls 4 [(0, .ref (ad 100)), (1, .int (zI a)), (2, .int (zI b)), (3, .int (zI k))] := hl
  obtain ⟨hx, hb, hml, hown, hTB, hK, hr, hlk⟩ := id hc
  refine lv_aload_n hx hb d_X_guard_0 rfl (lv_at hl 0 rfl) ?_
  refine lv_iload_n hx hb d_X_guard_1 rfl (lv_at hl 1 rfl) ?_
  exact w_cvT (q0 := 0) hc hX hw (t_X_needNet hfl _ _ (by omega) hI (by omega)) yw_X_needNet yi_X_needNet lk_X_48 d_X_guard_2 rfl rfl rfl rfl hl.1 (Nat.le_of_ble_eq_true rfl) ⟨Nat.le_of_ble_eq_true rfl, Nat.le_of_ble_eq_true rfl⟩
set_option maxHeartbeats 400000 in
set_option maxRecDepth 100000 in
theorem t_X_guard1 {l : Launch} {D : va_G} {ad : Nat → Nat} {ca : Nat → ClassId} (hfl : l.flags = pinnedFlags ++ [noTraceFlag]) (σ : St) (a b k : Int) (ha : r32 a) (hb2 : r32 b) (hk : r32 k) (hI : 0 ≤ σ 7 0 ∧ σ 7 0 ≤ 12) (h0 : 0 ≤ a ∧ a < σ 7 0) (h1 : ¬ (0 ≤ b ∧ b < σ 7 0)) : Ct l D cl7 (tyX ca) (wX ad ca) y_X_guard c_X_guard 4 (some .int) 7 [.ref (ad 100), .int (zI a), .int (zI b), .int (zI k)] σ σ xIOB := by
  refine Ct.enter (by decide) (Nat.le_of_ble_eq_true rfl) ?_
  intro A p e s m below meth c hc hX ls hl hw
  have hl : lv_has ls 4 [(0, .ref (ad 100)), (1, .int (zI a)), (2, .int (zI b)), (3, .int (zI k))] := hl
  obtain ⟨hx, hb, hml, hown, hTB, hK, hr, hlk⟩ := id hc
  refine lv_aload_n hx hb d_X_guard_0 rfl (lv_at hl 0 rfl) ?_
  refine lv_iload_n hx hb d_X_guard_1 rfl (lv_at hl 1 rfl) ?_
  refine w_cvV (q0 := 0) hc hw (k_X_needNet _ _ (by omega) hI (by omega)) yw_X_needNet yi_X_needNet lk_X_48 d_X_guard_2 rfl rfl rfl rfl hl.1 (Nat.le_of_ble_eq_true rfl) ⟨Nat.le_of_ble_eq_true rfl, Nat.le_of_ble_eq_true rfl⟩ ⟨Nat.zero_le _, Nat.zero_le _⟩ (fun τ2 H locs hτ2 hw => ?_)
  subst hτ2
  refine lv_aload_n hx hb d_X_guard_5 rfl (lv_at hl 0 rfl) ?_
  refine lv_iload_n hx hb d_X_guard_6 rfl (lv_at hl 2 rfl) ?_
  exact w_cvT (q0 := 0) hc hX hw (t_X_needNet hfl _ _ (by omega) hI (by omega)) yw_X_needNet yi_X_needNet lk_X_48 d_X_guard_7 rfl rfl rfl rfl hl.1 (Nat.le_of_ble_eq_true rfl) ⟨Nat.le_of_ble_eq_true rfl, Nat.le_of_ble_eq_true rfl⟩
set_option maxHeartbeats 400000 in
set_option maxRecDepth 100000 in
theorem k_X_fail {l : Launch} {D : va_G} {ad : Nat → Nat} {ca : Nat → ClassId} (σ : St) (w : Int) (hw1 : r32 w) (hI : 0 ≤ σ 7 0 ∧ σ 7 0 ≤ 12) (hO : ∀ i, 0 ≤ σ 40 i ∧ σ 40 i < 4096) (hp : 0 ≤ w) (h0 : w / 16 < σ 7 0) (h1 : w % 16 < σ 7 0) : Cw l D cl7 (tyX ca) (wX ad ca) y_X_fail c_X_fail 4 (some .boolean) 2 [.ref (ad 100), .int (zI w)] σ (RW (.int (zI (bI (¬ w / 16 = w % 16 ∧ ¬ zB (σ 40 (w / 16)) (w % 16))))) ((if w / 16 = w % 16 ∨ zB (σ 40 (w / 16)) (w % 16) then σ else rAdd σ (w / 16) (w % 16)) = ·)) := by
  refine Cw.enter (by decide) (Nat.le_of_ble_eq_true rfl) ?_
  intro A p e s m below meth c hc ls hl hw
  have hl : lv_has ls 4 [(0, .ref (ad 100)), (1, .int (zI w))] := hl
  obtain ⟨hx, hb, hml, hown, hTB, hK, hr, hlk⟩ := id hc
  refine lv_iload_n hx hb d_X_fail_0 rfl (lv_at hl 1 rfl) ?_
  refine z_if_ge hx hb 14 d_X_fail_1 (by omega) (by decide) (fun c1 => ?_) (fun c1 => ?_)
  · refine lv_iload_n hx hb d_X_fail_14 rfl (lv_at hl 1 rfl) ?_
    refine z_bi hx hb d_X_fail_15 (by decide) ?_
    refine z_idiv hx hb d_X_fail_17 (by omega) ?_
    refine z_ist_n hx hb d_X_fail_18 rfl hl (by decide) (fun x2_18 ex2_18 ls (hl : lv_has ls 4 [(2, .int (zI x2_18)), (0, .ref (ad 100)), (1, .int (zI w))]) => ?_)
    refine lv_iload_n hx hb d_X_fail_19 rfl (lv_at hl 2 rfl) ?_
    refine z_bi hx hb d_X_fail_20 (by decide) ?_
    refine z_irem hx hb d_X_fail_22 (by omega) ?_
    refine z_ist_n hx hb d_X_fail_23 rfl hl (by decide) (fun x3_23 ex3_23 ls (hl : lv_has ls 4 [(3, .int (zI x3_23)), (2, .int (zI x2_18)), (0, .ref (ad 100)), (1, .int (zI w))]) => ?_)
    refine lv_aload_n hx hb d_X_fail_24 rfl (lv_at hl 2 rfl) ?_
    refine lv_iload_n hx hb d_X_fail_25 rfl (lv_at hl 1 rfl) ?_
    refine w_cvV (q0 := 0) hc hw (k_X_needNet _ _ (by omega) hI (by omega)) yw_X_needNet yi_X_needNet lk_X_48 d_X_fail_26 rfl rfl rfl rfl hl.1 (Nat.le_of_ble_eq_true rfl) ⟨Nat.le_of_ble_eq_true rfl, Nat.le_of_ble_eq_true rfl⟩ ⟨Nat.zero_le _, Nat.zero_le _⟩ (fun τ26 H locs hτ26 hw => ?_)
    subst hτ26
    refine lv_aload_n hx hb d_X_fail_29 rfl (lv_at hl 2 rfl) ?_
    refine lv_iload_n hx hb d_X_fail_30 rfl (lv_at hl 0 rfl) ?_
    refine w_cvV (q0 := 0) hc hw (k_X_needNet _ _ (by omega) hI (by omega)) yw_X_needNet yi_X_needNet lk_X_48 d_X_fail_31 rfl rfl rfl rfl hl.1 (Nat.le_of_ble_eq_true rfl) ⟨Nat.le_of_ble_eq_true rfl, Nat.le_of_ble_eq_true rfl⟩ ⟨Nat.zero_le _, Nat.zero_le _⟩ (fun τ31 H locs hτ31 hw => ?_)
    subst hτ31
    subst ex2_18
    subst ex3_23
    refine lv_iload_n hx hb d_X_fail_34 rfl (lv_at hl 1 rfl) ?_
    refine lv_iload_n hx hb d_X_fail_35 rfl (lv_at hl 0 rfl) ?_
    refine z_icmp_eq hx hb 55 d_X_fail_36 (by omega) (by omega) (by decide) (fun c36 => ?_) (fun c36 => ?_)
    · refine z_ic hx hb d_X_fail_55 ?_
      exact w_zret hc hw (by omega) (by first | exact ⟨by rw [bI_f (fun q => q.1 c36)], if_pos (Or.inl c36)⟩ | exact ⟨by rw [bI_f (fun q => c48 q.2)], by rw [if_pos (Classical.not_not.mp c48), if_pos (Or.inr (Classical.not_not.mp c48))]⟩ | exact ⟨by rw [bI_t ⟨c36, c48⟩], by rw [if_neg c48, if_neg (fun q => q.elim c36 c48)]⟩) d_X_fail_56
    · refine lv_aload_n hx hb d_X_fail_39 rfl (lv_at hl 2 rfl) ?_
      refine gX_X_rows hc hw lk_X_40 d_X_fail_40 ?_
      refine lv_iload_n hx hb d_X_fail_43 rfl (lv_at hl 1 rfl) ?_
      refine lv_iload_n hx hb d_X_fail_44 rfl (lv_at hl 0 rfl) ?_
      refine w_cvR (q0 := 4) hc hw (k_R_add _ _ _ (by omega) (by omega) hO) yw_R_add yi_R_add lk_X_150 d_X_fail_45 rfl rfl rfl rfl hl.1 (Nat.le_of_ble_eq_true rfl) ⟨Nat.le_of_ble_eq_true rfl, Nat.le_of_ble_eq_true rfl⟩ ⟨Nat.zero_le _, Nat.zero_le _⟩ (fun τ45 H locs hτ45 hw => ?_)
      subst hτ45
      refine z_ifb_eq hx hb 55 d_X_fail_48 (by decide) (fun c48 => ?_) (fun c48 => ?_)
      · refine z_ic hx hb d_X_fail_55 ?_
        exact w_zret hc hw (by omega) (by first | exact ⟨by rw [bI_f (fun q => q.1 c36)], if_pos (Or.inl c36)⟩ | exact ⟨by rw [bI_f (fun q => c48 q.2)], by rw [if_pos (Classical.not_not.mp c48), if_pos (Or.inr (Classical.not_not.mp c48))]⟩ | exact ⟨by rw [bI_t ⟨c36, c48⟩], by rw [if_neg c48, if_neg (fun q => q.elim c36 c48)]⟩) d_X_fail_56
      · refine z_ic hx hb d_X_fail_51 ?_
        refine lv_goto (tgt := 56) hx hb d_X_fail_52 (by decide) ?_
        exact w_zret hc hw (by omega) (by first | exact ⟨by rw [bI_f (fun q => q.1 c36)], if_pos (Or.inl c36)⟩ | exact ⟨by rw [bI_f (fun q => c48 q.2)], by rw [if_pos (Classical.not_not.mp c48), if_pos (Or.inr (Classical.not_not.mp c48))]⟩ | exact ⟨by rw [bI_t ⟨c36, c48⟩], by rw [if_neg c48, if_neg (fun q => q.elim c36 c48)]⟩) d_X_fail_56
  · exfalso; omega
set_option maxHeartbeats 400000 in
set_option maxRecDepth 100000 in
theorem t_X_fail0 {l : Launch} {D : va_G} {ad : Nat → Nat} {ca : Nat → ClassId} (hfl : l.flags = pinnedFlags ++ [noTraceFlag]) (σ : St) (w : Int) (hw1 : r32 w) (h0 : w < 0) : Ct l D cl7 (tyX ca) (wX ad ca) y_X_fail c_X_fail 4 (some .boolean) 6 [.ref (ad 100), .int (zI w)] σ σ xIOB := by
  refine Ct.enter (by decide) (Nat.le_of_ble_eq_true rfl) ?_
  intro A p e s m below meth c hc hX ls hl hw
  have hl : lv_has ls 4 [(0, .ref (ad 100)), (1, .int (zI w))] := hl
  obtain ⟨hx, hb, hml, hown, hTB, hK, hr, hlk⟩ := id hc
  refine lv_iload_n hx hb d_X_fail_0 rfl (lv_at hl 1 rfl) ?_
  refine z_if_ge hx hb 14 d_X_fail_1 (by omega) (by decide) (fun c1 => ?_) (fun c1 => ?_)
  · exfalso; omega
  · exact w_throw hfl hc hX hw xq_IOB xlk_IOB xs_148 hl.1 (Nat.le_of_ble_eq_true rfl) (Nat.le_of_ble_eq_true rfl) d_X_fail_4 d_X_fail_7 d_X_fail_8 d_X_fail_10 d_X_fail_13
set_option maxHeartbeats 400000 in
set_option maxRecDepth 100000 in
theorem t_X_fail1 {l : Launch} {D : va_G} {ad : Nat → Nat} {ca : Nat → ClassId} (hfl : l.flags = pinnedFlags ++ [noTraceFlag]) (σ : St) (w : Int) (hw1 : r32 w) (hI : 0 ≤ σ 7 0 ∧ σ 7 0 ≤ 12) (hp : 0 ≤ w) (h0 : ¬ w / 16 < σ 7 0) : Ct l D cl7 (tyX ca) (wX ad ca) y_X_fail c_X_fail 4 (some .boolean) 7 [.ref (ad 100), .int (zI w)] σ σ xIOB := by
  refine Ct.enter (by decide) (Nat.le_of_ble_eq_true rfl) ?_
  intro A p e s m below meth c hc hX ls hl hw
  have hl : lv_has ls 4 [(0, .ref (ad 100)), (1, .int (zI w))] := hl
  obtain ⟨hx, hb, hml, hown, hTB, hK, hr, hlk⟩ := id hc
  refine lv_iload_n hx hb d_X_fail_0 rfl (lv_at hl 1 rfl) ?_
  refine z_if_ge hx hb 14 d_X_fail_1 (by omega) (by decide) (fun c1 => ?_) (fun c1 => ?_)
  · refine lv_iload_n hx hb d_X_fail_14 rfl (lv_at hl 1 rfl) ?_
    refine z_bi hx hb d_X_fail_15 (by decide) ?_
    refine z_idiv hx hb d_X_fail_17 (by omega) ?_
    refine z_ist_n hx hb d_X_fail_18 rfl hl (by decide) (fun x2_18 ex2_18 ls (hl : lv_has ls 4 [(2, .int (zI x2_18)), (0, .ref (ad 100)), (1, .int (zI w))]) => ?_)
    refine lv_iload_n hx hb d_X_fail_19 rfl (lv_at hl 2 rfl) ?_
    refine z_bi hx hb d_X_fail_20 (by decide) ?_
    refine z_irem hx hb d_X_fail_22 (by omega) ?_
    refine z_ist_n hx hb d_X_fail_23 rfl hl (by decide) (fun x3_23 ex3_23 ls (hl : lv_has ls 4 [(3, .int (zI x3_23)), (2, .int (zI x2_18)), (0, .ref (ad 100)), (1, .int (zI w))]) => ?_)
    refine lv_aload_n hx hb d_X_fail_24 rfl (lv_at hl 2 rfl) ?_
    refine lv_iload_n hx hb d_X_fail_25 rfl (lv_at hl 1 rfl) ?_
    exact w_cvT (q0 := 0) hc hX hw (t_X_needNet hfl _ _ (by omega) hI (by omega)) yw_X_needNet yi_X_needNet lk_X_48 d_X_fail_26 rfl rfl rfl rfl hl.1 (Nat.le_of_ble_eq_true rfl) ⟨Nat.le_of_ble_eq_true rfl, Nat.le_of_ble_eq_true rfl⟩
  · exfalso; omega
set_option maxHeartbeats 400000 in
set_option maxRecDepth 100000 in
theorem t_X_fail2 {l : Launch} {D : va_G} {ad : Nat → Nat} {ca : Nat → ClassId} (hfl : l.flags = pinnedFlags ++ [noTraceFlag]) (σ : St) (w : Int) (hw1 : r32 w) (hI : 0 ≤ σ 7 0 ∧ σ 7 0 ≤ 12) (hp : 0 ≤ w) (h0 : w / 16 < σ 7 0) (h1 : ¬ w % 16 < σ 7 0) : Ct l D cl7 (tyX ca) (wX ad ca) y_X_fail c_X_fail 4 (some .boolean) 7 [.ref (ad 100), .int (zI w)] σ σ xIOB := by
  refine Ct.enter (by decide) (Nat.le_of_ble_eq_true rfl) ?_
  intro A p e s m below meth c hc hX ls hl hw
  have hl : lv_has ls 4 [(0, .ref (ad 100)), (1, .int (zI w))] := hl
  obtain ⟨hx, hb, hml, hown, hTB, hK, hr, hlk⟩ := id hc
  refine lv_iload_n hx hb d_X_fail_0 rfl (lv_at hl 1 rfl) ?_
  refine z_if_ge hx hb 14 d_X_fail_1 (by omega) (by decide) (fun c1 => ?_) (fun c1 => ?_)
  · refine lv_iload_n hx hb d_X_fail_14 rfl (lv_at hl 1 rfl) ?_
    refine z_bi hx hb d_X_fail_15 (by decide) ?_
    refine z_idiv hx hb d_X_fail_17 (by omega) ?_
    refine z_ist_n hx hb d_X_fail_18 rfl hl (by decide) (fun x2_18 ex2_18 ls (hl : lv_has ls 4 [(2, .int (zI x2_18)), (0, .ref (ad 100)), (1, .int (zI w))]) => ?_)
    refine lv_iload_n hx hb d_X_fail_19 rfl (lv_at hl 2 rfl) ?_
    refine z_bi hx hb d_X_fail_20 (by decide) ?_
    refine z_irem hx hb d_X_fail_22 (by omega) ?_
    refine z_ist_n hx hb d_X_fail_23 rfl hl (by decide) (fun x3_23 ex3_23 ls (hl : lv_has ls 4 [(3, .int (zI x3_23)), (2, .int (zI x2_18)), (0, .ref (ad 100)), (1, .int (zI w))]) => ?_)
    refine lv_aload_n hx hb d_X_fail_24 rfl (lv_at hl 2 rfl) ?_
    refine lv_iload_n hx hb d_X_fail_25 rfl (lv_at hl 1 rfl) ?_
    refine w_cvV (q0 := 0) hc hw (k_X_needNet _ _ (by omega) hI (by omega)) yw_X_needNet yi_X_needNet lk_X_48 d_X_fail_26 rfl rfl rfl rfl hl.1 (Nat.le_of_ble_eq_true rfl) ⟨Nat.le_of_ble_eq_true rfl, Nat.le_of_ble_eq_true rfl⟩ ⟨Nat.zero_le _, Nat.zero_le _⟩ (fun τ26 H locs hτ26 hw => ?_)
    subst hτ26
    refine lv_aload_n hx hb d_X_fail_29 rfl (lv_at hl 2 rfl) ?_
    refine lv_iload_n hx hb d_X_fail_30 rfl (lv_at hl 0 rfl) ?_
    exact w_cvT (q0 := 0) hc hX hw (t_X_needNet hfl _ _ (by omega) hI (by omega)) yw_X_needNet yi_X_needNet lk_X_48 d_X_fail_31 rfl rfl rfl rfl hl.1 (Nat.le_of_ble_eq_true rfl) ⟨Nat.le_of_ble_eq_true rfl, Nat.le_of_ble_eq_true rfl⟩
  · exfalso; omega
set_option maxHeartbeats 400000 in
set_option maxRecDepth 100000 in
theorem k_X_suspect {l : Launch} {D : va_G} {ad : Nat → Nat} {ca : Nat → ClassId} (σ : St) (k w : Int) (hk : r32 k) (hw1 : r32 w) (hO : ∀ i, 0 ≤ σ 40 i ∧ σ 40 i < 4096) (h42 : 0 ≤ σ 42 0 ∧ σ 42 0 ≤ 13) (h41 : 0 ≤ σ 41 0 ∧ σ 41 0 < 4096) (h43 : σ 43 0 = 0 ∨ σ 43 0 = 1) (h0 : ¬ nbF (smC σ 41 0) k 12 0 0 = -1) (h1 : w = 0 ∨ w = 1) : Cw l D cl7 (tyX ca) (wX ad ca) y_X_suspect c_X_suspect 4 (some .int) 16 [.ref (ad 100), .int (zI k), .int (zI w)] σ (RW (.int (zI (if w = 0 then nbF (smC σ 41 0) k 12 0 0 else popc (σ 40 (nbF (smC σ 41 0) k 12 0 0))))) (smC σ = ·)) := by
  refine Cw.enter (by decide) (Nat.le_of_ble_eq_true rfl) ?_
  intro A p e s m below meth c hc ls hl hw
  have hl : lv_has ls 4 [(0, .ref (ad 100)), (1, .int (zI k)), (2, .int (zI w))] := hl
  obtain ⟨hx, hb, hml, hown, hTB, hK, hr, hlk⟩ := id hc
  refine lv_aload_n hx hb d_X_suspect_0 rfl (lv_at hl 0 rfl) ?_
  refine gX_X_rows hc hw lk_X_40 d_X_suspect_1 ?_
  refine w_cvR (q0 := 4) hc hw (k_R_smallestCover _ hO h42 h41 h43) yw_R_smallestCover yi_R_smallestCover lk_X_152 d_X_suspect_4 rfl rfl rfl rfl hl.1 (Nat.le_of_ble_eq_true rfl) ⟨Nat.le_of_ble_eq_true rfl, Nat.le_of_ble_eq_true rfl⟩ ⟨Nat.zero_le _, Nat.zero_le _⟩ (fun τ4 H locs hτ4 hw => ?_)
  subst hτ4
  have hnb := nbF_r (smC σ 41 0) k 12 0 0
  refine lv_iload_n hx hb d_X_suspect_7 rfl (lv_at hl 1 rfl) ?_
  refine w_csR hc hw (k_X_nthBit _ _ _ (smC_41 hO h41) hk) yw_X_nthBit yi_X_nthBit lk_X_145 d_X_suspect_8 rfl rfl hl.1 (Nat.le_of_ble_eq_true rfl) ⟨Nat.le_of_ble_eq_true rfl, Nat.le_of_ble_eq_true rfl⟩ ⟨Nat.zero_le _, Nat.zero_le _⟩ (fun τ8 H locs hτ8 hw => ?_)
  subst hτ8
  refine z_ist_n hx hb d_X_suspect_11 rfl hl (by decide) (fun x3_11 ex3_11 ls (hl : lv_has ls 4 [(3, .int (zI x3_11)), (0, .ref (ad 100)), (1, .int (zI k)), (2, .int (zI w))]) => ?_)
  refine lv_iload_n hx hb d_X_suspect_12 rfl (lv_at hl 0 rfl) ?_
  refine z_ic hx hb d_X_suspect_13 ?_
  refine z_icmp_eq hx hb 27 d_X_suspect_14 (by omega) (by omega) (by decide) (fun c14 => ?_) (fun c14 => ?_)
  · exfalso; omega
  · refine lv_iload_n hx hb d_X_suspect_17 rfl (lv_at hl 3 rfl) ?_
    refine z_i2l hx hb d_X_suspect_18 (by omega) ?_
    refine z_lc0 hx hb d_X_suspect_19 ?_
    refine z_lc1 hx hb d_X_suspect_20 ?_
    refine w_csR hc hw (k_X_isWithin _ _ _ _ (by omega) (by omega) (by omega)) yw_X_isWithin yi_X_isWithin lk_X_56 d_X_suspect_21 rfl rfl hl.1 (Nat.le_of_ble_eq_true rfl) ⟨Nat.le_of_ble_eq_true rfl, Nat.le_of_ble_eq_true rfl⟩ ⟨Nat.zero_le _, Nat.zero_le _⟩ (fun τ21 H locs hτ21 hw => ?_)
    subst hτ21
    refine z_ifb_ne hx hb 37 d_X_suspect_24 (by decide) (fun c24 => ?_) (fun c24 => ?_)
    · refine lv_iload_n hx hb d_X_suspect_37 rfl (lv_at hl 3 rfl) ?_
      refine z_if_ne hx hb 45 d_X_suspect_38 (by omega) (by decide) (fun c38 => ?_) (fun c38 => ?_)
      · refine lv_aload_n hx hb d_X_suspect_45 rfl (lv_at hl 1 rfl) ?_
        refine gX_X_rows hc hw lk_X_40 d_X_suspect_46 ?_
        refine lv_iload_n hx hb d_X_suspect_49 rfl (lv_at hl 0 rfl) ?_
        refine w_cvR (q0 := 4) hc hw (k_R_countOf _ _ (by omega) (by rw [smC_40]; exact hO)) yw_R_countOf yi_R_countOf lk_X_164 d_X_suspect_50 rfl rfl rfl rfl hl.1 (Nat.le_of_ble_eq_true rfl) ⟨Nat.le_of_ble_eq_true rfl, Nat.le_of_ble_eq_true rfl⟩ ⟨Nat.zero_le _, Nat.zero_le _⟩ (fun τ50 H locs hτ50 hw => ?_)
        subst hτ50
        exact w_iret hc hw (by first | exact ⟨by rw [ex3_11, if_pos c38], rfl⟩ | exact ⟨by rw [ex3_11, if_neg c38, smC_40], rfl⟩) d_X_suspect_53
      · refine lv_iload_n hx hb d_X_suspect_41 rfl (lv_at hl 0 rfl) ?_
        refine lv_goto (tgt := 53) hx hb d_X_suspect_42 (by decide) ?_
        exact w_iret hc hw (by first | exact ⟨by rw [ex3_11, if_pos c38], rfl⟩ | exact ⟨by rw [ex3_11, if_neg c38, smC_40], rfl⟩) d_X_suspect_53
    · exfalso; omega
set_option maxHeartbeats 400000 in
set_option maxRecDepth 100000 in
theorem t_X_suspect {l : Launch} {D : va_G} {ad : Nat → Nat} {ca : Nat → ClassId} (hfl : l.flags = pinnedFlags ++ [noTraceFlag]) (σ : St) (k w : Int) (hk : r32 k) (hw1 : r32 w) (hO : ∀ i, 0 ≤ σ 40 i ∧ σ 40 i < 4096) (h42 : 0 ≤ σ 42 0 ∧ σ 42 0 ≤ 13) (h41 : 0 ≤ σ 41 0 ∧ σ 41 0 < 4096) (h43 : σ 43 0 = 0 ∨ σ 43 0 = 1) (h0 : nbF (smC σ 41 0) k 12 0 0 = -1 ∨ ¬ (w = 0 ∨ w = 1)) : Ct l D cl7 (tyX ca) (wX ad ca) y_X_suspect c_X_suspect 4 (some .int) 16 [.ref (ad 100), .int (zI k), .int (zI w)] σ (smC σ) xIOB := by
  refine Ct.enter (by decide) (Nat.le_of_ble_eq_true rfl) ?_
  intro A p e s m below meth c hc hX ls hl hw
  have hl : lv_has ls 4 [(0, .ref (ad 100)), (1, .int (zI k)), (2, .int (zI w))] := hl
  obtain ⟨hx, hb, hml, hown, hTB, hK, hr, hlk⟩ := id hc
  refine lv_aload_n hx hb d_X_suspect_0 rfl (lv_at hl 0 rfl) ?_
  refine gX_X_rows hc hw lk_X_40 d_X_suspect_1 ?_
  refine w_cvR (q0 := 4) hc hw (k_R_smallestCover _ hO h42 h41 h43) yw_R_smallestCover yi_R_smallestCover lk_X_152 d_X_suspect_4 rfl rfl rfl rfl hl.1 (Nat.le_of_ble_eq_true rfl) ⟨Nat.le_of_ble_eq_true rfl, Nat.le_of_ble_eq_true rfl⟩ ⟨Nat.zero_le _, Nat.zero_le _⟩ (fun τ4 H locs hτ4 hw => ?_)
  subst hτ4
  have hnb := nbF_r (smC σ 41 0) k 12 0 0
  refine lv_iload_n hx hb d_X_suspect_7 rfl (lv_at hl 1 rfl) ?_
  refine w_csR hc hw (k_X_nthBit _ _ _ (smC_41 hO h41) hk) yw_X_nthBit yi_X_nthBit lk_X_145 d_X_suspect_8 rfl rfl hl.1 (Nat.le_of_ble_eq_true rfl) ⟨Nat.le_of_ble_eq_true rfl, Nat.le_of_ble_eq_true rfl⟩ ⟨Nat.zero_le _, Nat.zero_le _⟩ (fun τ8 H locs hτ8 hw => ?_)
  subst hτ8
  refine z_ist_n hx hb d_X_suspect_11 rfl hl (by decide) (fun x3_11 ex3_11 ls (hl : lv_has ls 4 [(3, .int (zI x3_11)), (0, .ref (ad 100)), (1, .int (zI k)), (2, .int (zI w))]) => ?_)
  refine lv_iload_n hx hb d_X_suspect_12 rfl (lv_at hl 0 rfl) ?_
  refine z_ic hx hb d_X_suspect_13 ?_
  refine z_icmp_eq hx hb 27 d_X_suspect_14 (by omega) (by omega) (by decide) (fun c14 => ?_) (fun c14 => ?_)
  · exact w_throw hfl hc hX hw xq_IOB xlk_IOB xs_162 hl.1 (Nat.le_of_ble_eq_true rfl) (Nat.le_of_ble_eq_true rfl) d_X_suspect_27 d_X_suspect_30 d_X_suspect_31 d_X_suspect_33 d_X_suspect_36
  · refine lv_iload_n hx hb d_X_suspect_17 rfl (lv_at hl 3 rfl) ?_
    refine z_i2l hx hb d_X_suspect_18 (by omega) ?_
    refine z_lc0 hx hb d_X_suspect_19 ?_
    refine z_lc1 hx hb d_X_suspect_20 ?_
    refine w_csR hc hw (k_X_isWithin _ _ _ _ (by omega) (by omega) (by omega)) yw_X_isWithin yi_X_isWithin lk_X_56 d_X_suspect_21 rfl rfl hl.1 (Nat.le_of_ble_eq_true rfl) ⟨Nat.le_of_ble_eq_true rfl, Nat.le_of_ble_eq_true rfl⟩ ⟨Nat.zero_le _, Nat.zero_le _⟩ (fun τ21 H locs hτ21 hw => ?_)
    subst hτ21
    refine z_ifb_ne hx hb 37 d_X_suspect_24 (by decide) (fun c24 => ?_) (fun c24 => ?_)
    · exfalso; omega
    · exact w_throw hfl hc hX hw xq_IOB xlk_IOB xs_162 hl.1 (Nat.le_of_ble_eq_true rfl) (Nat.le_of_ble_eq_true rfl) d_X_suspect_27 d_X_suspect_30 d_X_suspect_31 d_X_suspect_33 d_X_suspect_36
set_option maxHeartbeats 400000 in
set_option maxRecDepth 100000 in
theorem k_X_faults {l : Launch} {D : va_G} {ad : Nat → Nat} {ca : Nat → ClassId} (σ : St) (k : Int) (hk : r32 k) (hI : 0 ≤ σ 7 0 ∧ σ 7 0 ≤ 12) (h : 0 ≤ k ∧ k < σ 7 0) (hO : ∀ i, 0 ≤ σ 40 i ∧ σ 40 i < 4096) : Cw l D cl7 (tyX ca) (wX ad ca) y_X_faults c_X_faults 2 (some .int) 2 [.ref (ad 100), .int (zI k)] σ (RW (.int (zI (popc (σ 40 k)))) (σ = ·)) := by
  refine Cw.enter (by decide) (Nat.le_of_ble_eq_true rfl) ?_
  intro A p e s m below meth c hc ls hl hw
  have hl : lv_has ls 2 [(0, .ref (ad 100)), (1, .int (zI k))] := hl
  obtain ⟨hx, hb, hml, hown, hTB, hK, hr, hlk⟩ := id hc
  refine lv_aload_n hx hb d_X_faults_0 rfl (lv_at hl 0 rfl) ?_
  refine lv_iload_n hx hb d_X_faults_1 rfl (lv_at hl 1 rfl) ?_
  refine w_cvV (q0 := 0) hc hw (k_X_needNet _ _ (by omega) hI (by omega)) yw_X_needNet yi_X_needNet lk_X_48 d_X_faults_2 rfl rfl rfl rfl hl.1 (Nat.le_of_ble_eq_true rfl) ⟨Nat.le_of_ble_eq_true rfl, Nat.le_of_ble_eq_true rfl⟩ ⟨Nat.zero_le _, Nat.zero_le _⟩ (fun τ2 H locs hτ2 hw => ?_)
  subst hτ2
  refine lv_aload_n hx hb d_X_faults_5 rfl (lv_at hl 0 rfl) ?_
  refine gX_X_rows hc hw lk_X_40 d_X_faults_6 ?_
  refine lv_iload_n hx hb d_X_faults_9 rfl (lv_at hl 1 rfl) ?_
  refine w_cvR (q0 := 4) hc hw (k_R_countOf _ _ (by omega) hO) yw_R_countOf yi_R_countOf lk_X_164 d_X_faults_10 rfl rfl rfl rfl hl.1 (Nat.le_of_ble_eq_true rfl) ⟨Nat.le_of_ble_eq_true rfl, Nat.le_of_ble_eq_true rfl⟩ ⟨Nat.zero_le _, Nat.zero_le _⟩ (fun τ10 H locs hτ10 hw => ?_)
  subst hτ10
  exact w_iret hc hw (⟨rfl, rfl⟩) d_X_faults_13
set_option maxHeartbeats 400000 in
set_option maxRecDepth 100000 in
theorem t_X_faults {l : Launch} {D : va_G} {ad : Nat → Nat} {ca : Nat → ClassId} (hfl : l.flags = pinnedFlags ++ [noTraceFlag]) (σ : St) (k : Int) (hk : r32 k) (hI : 0 ≤ σ 7 0 ∧ σ 7 0 ≤ 12) (h : ¬ (0 ≤ k ∧ k < σ 7 0)) : Ct l D cl7 (tyX ca) (wX ad ca) y_X_faults c_X_faults 2 (some .int) 7 [.ref (ad 100), .int (zI k)] σ σ xIOB := by
  refine Ct.enter (by decide) (Nat.le_of_ble_eq_true rfl) ?_
  intro A p e s m below meth c hc hX ls hl hw
  have hl : lv_has ls 2 [(0, .ref (ad 100)), (1, .int (zI k))] := hl
  obtain ⟨hx, hb, hml, hown, hTB, hK, hr, hlk⟩ := id hc
  refine lv_aload_n hx hb d_X_faults_0 rfl (lv_at hl 0 rfl) ?_
  refine lv_iload_n hx hb d_X_faults_1 rfl (lv_at hl 1 rfl) ?_
  exact w_cvT (q0 := 0) hc hX hw (t_X_needNet hfl _ _ (by omega) hI (by omega)) yw_X_needNet yi_X_needNet lk_X_48 d_X_faults_2 rfl rfl rfl rfl hl.1 (Nat.le_of_ble_eq_true rfl) ⟨Nat.le_of_ble_eq_true rfl, Nat.le_of_ble_eq_true rfl⟩
set_option maxHeartbeats 400000 in
set_option maxRecDepth 100000 in
theorem k_X_force {l : Launch} {D : va_G} {ad : Nat → Nat} {ca : Nat → ClassId} (σ : St) (a v : Int) (ha : r32 a) (hv : r64 v) (hI : 0 ≤ σ 8 0 ∧ σ 8 0 ≤ 36) (hF : 0 ≤ σ 6 a ∧ σ 6 a ≤ 1000000) (h0 : 0 ≤ a ∧ a < σ 8 0) (h : 0 ≤ v ∧ v ≤ 1000000) : Cw l D cl7 (tyX ca) (wX ad ca) y_X_force c_X_force 4 (some .boolean) 1 [.ref (ad 100), .int (zI a), .long (zL v)] σ (RW (.int (zI (bI (¬ v = σ 6 a)))) (up σ 6 a v = ·)) := by
  refine Cw.enter (by decide) (Nat.le_of_ble_eq_true rfl) ?_
  intro A p e s m below meth c hc ls hl hw
  have hl : lv_has ls 4 [(0, .ref (ad 100)), (1, .int (zI a)), (2, .long (zL v))] := hl
  obtain ⟨hx, hb, hml, hown, hTB, hK, hr, hlk⟩ := id hc
  refine lv_aload_n hx hb d_X_force_0 rfl (lv_at hl 0 rfl) ?_
  refine gX_X_board hc hw lk_X_12 d_X_force_1 ?_
  refine lv_iload_n hx hb d_X_force_4 rfl (lv_at hl 1 rfl) ?_
  refine w_cvR (q0 := 1) hc hw (k_B_hasPoint _ _ ha hI) yw_B_hasPoint yi_B_hasPoint lk_X_174 d_X_force_5 rfl rfl rfl rfl hl.1 (Nat.le_of_ble_eq_true rfl) ⟨Nat.le_of_ble_eq_true rfl, Nat.le_of_ble_eq_true rfl⟩ ⟨Nat.zero_le _, Nat.zero_le _⟩ (fun τ5 H locs hτ5 hw => ?_)
  subst hτ5
  refine z_ifb_ne hx hb 21 d_X_force_8 (by decide) (fun c8 => ?_) (fun c8 => ?_)
  · refine lv_lload_n hx hb d_X_force_21 rfl (lv_at hl 2 rfl) ?_
    refine z_lc0 hx hb d_X_force_22 ?_
    refine z_ldc2 (n := 1000000) hc lk_X_54 d_X_force_23 (by decide) ?_
    refine w_csR hc hw (k_X_isWithin _ _ _ _ (by omega) (by omega) (by omega)) yw_X_isWithin yi_X_isWithin lk_X_56 d_X_force_26 rfl rfl hl.1 (Nat.le_of_ble_eq_true rfl) ⟨Nat.le_of_ble_eq_true rfl, Nat.le_of_ble_eq_true rfl⟩ ⟨Nat.zero_le _, Nat.zero_le _⟩ (fun τ26 H locs hτ26 hw => ?_)
    subst hτ26
    refine z_ifb_ne hx hb 42 d_X_force_29 (by decide) (fun c29 => ?_) (fun c29 => ?_)
    · refine lv_aload_n hx hb d_X_force_42 rfl (lv_at hl 0 rfl) ?_
      refine gX_X_board hc hw lk_X_12 d_X_force_43 ?_
      refine lv_iload_n hx hb d_X_force_46 rfl (lv_at hl 1 rfl) ?_
      refine lv_lload_n hx hb d_X_force_47 rfl (lv_at hl 2 rfl) ?_
      refine w_cvR (q0 := 1) hc hw (k_B_setForce _ _ _ (by omega) hv hF) yw_B_setForce yi_B_setForce lk_X_182 d_X_force_48 rfl rfl rfl rfl hl.1 (Nat.le_of_ble_eq_true rfl) ⟨Nat.le_of_ble_eq_true rfl, Nat.le_of_ble_eq_true rfl⟩ ⟨Nat.zero_le _, Nat.zero_le _⟩ (fun τ48 H locs hτ48 hw => ?_)
      subst hτ48
      exact w_zret hc hw (bI_01 _) (⟨rfl, rfl⟩) d_X_force_51
    · exfalso; omega
  · exfalso; omega
set_option maxHeartbeats 400000 in
set_option maxRecDepth 100000 in
theorem t_X_force0 {l : Launch} {D : va_G} {ad : Nat → Nat} {ca : Nat → ClassId} (hfl : l.flags = pinnedFlags ++ [noTraceFlag]) (σ : St) (a v : Int) (ha : r32 a) (hv : r64 v) (hI : 0 ≤ σ 8 0 ∧ σ 8 0 ≤ 36) (h0 : ¬ (0 ≤ a ∧ a < σ 8 0)) : Ct l D cl7 (tyX ca) (wX ad ca) y_X_force c_X_force 4 (some .boolean) 6 [.ref (ad 100), .int (zI a), .long (zL v)] σ σ xIOB := by
  refine Ct.enter (by decide) (Nat.le_of_ble_eq_true rfl) ?_
  intro A p e s m below meth c hc hX ls hl hw
  have hl : lv_has ls 4 [(0, .ref (ad 100)), (1, .int (zI a)), (2, .long (zL v))] := hl
  obtain ⟨hx, hb, hml, hown, hTB, hK, hr, hlk⟩ := id hc
  refine lv_aload_n hx hb d_X_force_0 rfl (lv_at hl 0 rfl) ?_
  refine gX_X_board hc hw lk_X_12 d_X_force_1 ?_
  refine lv_iload_n hx hb d_X_force_4 rfl (lv_at hl 1 rfl) ?_
  refine w_cvR (q0 := 1) hc hw (k_B_hasPoint _ _ ha hI) yw_B_hasPoint yi_B_hasPoint lk_X_174 d_X_force_5 rfl rfl rfl rfl hl.1 (Nat.le_of_ble_eq_true rfl) ⟨Nat.le_of_ble_eq_true rfl, Nat.le_of_ble_eq_true rfl⟩ ⟨Nat.zero_le _, Nat.zero_le _⟩ (fun τ5 H locs hτ5 hw => ?_)
  subst hτ5
  refine z_ifb_ne hx hb 21 d_X_force_8 (by decide) (fun c8 => ?_) (fun c8 => ?_)
  · exfalso; omega
  · exact w_throw hfl hc hX hw xq_IOB xlk_IOB xs_178 hl.1 (Nat.le_of_ble_eq_true rfl) (Nat.le_of_ble_eq_true rfl) d_X_force_11 d_X_force_14 d_X_force_15 d_X_force_17 d_X_force_20
set_option maxHeartbeats 400000 in
set_option maxRecDepth 100000 in
theorem t_X_force1 {l : Launch} {D : va_G} {ad : Nat → Nat} {ca : Nat → ClassId} (hfl : l.flags = pinnedFlags ++ [noTraceFlag]) (σ : St) (a v : Int) (ha : r32 a) (hv : r64 v) (hI : 0 ≤ σ 8 0 ∧ σ 8 0 ≤ 36) (h0 : 0 ≤ a ∧ a < σ 8 0) (h : ¬ (0 ≤ v ∧ v ≤ 1000000)) : Ct l D cl7 (tyX ca) (wX ad ca) y_X_force c_X_force 4 (some .boolean) 6 [.ref (ad 100), .int (zI a), .long (zL v)] σ σ xIAE := by
  refine Ct.enter (by decide) (Nat.le_of_ble_eq_true rfl) ?_
  intro A p e s m below meth c hc hX ls hl hw
  have hl : lv_has ls 4 [(0, .ref (ad 100)), (1, .int (zI a)), (2, .long (zL v))] := hl
  obtain ⟨hx, hb, hml, hown, hTB, hK, hr, hlk⟩ := id hc
  refine lv_aload_n hx hb d_X_force_0 rfl (lv_at hl 0 rfl) ?_
  refine gX_X_board hc hw lk_X_12 d_X_force_1 ?_
  refine lv_iload_n hx hb d_X_force_4 rfl (lv_at hl 1 rfl) ?_
  refine w_cvR (q0 := 1) hc hw (k_B_hasPoint _ _ ha hI) yw_B_hasPoint yi_B_hasPoint lk_X_174 d_X_force_5 rfl rfl rfl rfl hl.1 (Nat.le_of_ble_eq_true rfl) ⟨Nat.le_of_ble_eq_true rfl, Nat.le_of_ble_eq_true rfl⟩ ⟨Nat.zero_le _, Nat.zero_le _⟩ (fun τ5 H locs hτ5 hw => ?_)
  subst hτ5
  refine z_ifb_ne hx hb 21 d_X_force_8 (by decide) (fun c8 => ?_) (fun c8 => ?_)
  · refine lv_lload_n hx hb d_X_force_21 rfl (lv_at hl 2 rfl) ?_
    refine z_lc0 hx hb d_X_force_22 ?_
    refine z_ldc2 (n := 1000000) hc lk_X_54 d_X_force_23 (by decide) ?_
    refine w_csR hc hw (k_X_isWithin _ _ _ _ (by omega) (by omega) (by omega)) yw_X_isWithin yi_X_isWithin lk_X_56 d_X_force_26 rfl rfl hl.1 (Nat.le_of_ble_eq_true rfl) ⟨Nat.le_of_ble_eq_true rfl, Nat.le_of_ble_eq_true rfl⟩ ⟨Nat.zero_le _, Nat.zero_le _⟩ (fun τ26 H locs hτ26 hw => ?_)
    subst hτ26
    refine z_ifb_ne hx hb 42 d_X_force_29 (by decide) (fun c29 => ?_) (fun c29 => ?_)
    · exfalso; omega
    · exact w_throw hfl hc hX hw xq_IAE xlk_IAE xs_180 hl.1 (Nat.le_of_ble_eq_true rfl) (Nat.le_of_ble_eq_true rfl) d_X_force_32 d_X_force_35 d_X_force_36 d_X_force_38 d_X_force_41
  · exfalso; omega
set_option maxHeartbeats 400000 in
set_option maxRecDepth 100000 in
theorem k_X_text {l : Launch} {D : va_G} {ad : Nat → Nat} {ca : Nat → ClassId} (σ : St) (i : Int) (h0 : 0 ≤ i ∧ i < 2147483648) (hL : 0 ≤ σ 27 0 ∧ σ 27 0 ≤ 176) : Cw l D cl7 (tyX ca) (wX ad ca) y_X_text c_X_text 2 (some .int) 1 [.ref (ad 100), .int (zI i)] σ (RW (.int (zI (ltrA σ i))) (σ = ·)) := by
  refine Cw.enter (by decide) (Nat.le_of_ble_eq_true rfl) ?_
  intro A p e s m below meth c hc ls hl hw
  have hl : lv_has ls 2 [(0, .ref (ad 100)), (1, .int (zI i))] := hl
  obtain ⟨hx, hb, hml, hown, hTB, hK, hr, hlk⟩ := id hc
  refine lv_iload_n hx hb d_X_text_0 rfl (lv_at hl 1 rfl) ?_
  refine z_if_ge hx hb 14 d_X_text_1 (by omega) (by decide) (fun c1 => ?_) (fun c1 => ?_)
  · refine lv_aload_n hx hb d_X_text_14 rfl (lv_at hl 0 rfl) ?_
    refine gX_X_fixture hc hw lk_X_26 d_X_text_15 ?_
    refine lv_iload_n hx hb d_X_text_18 rfl (lv_at hl 1 rfl) ?_
    refine w_cvR (q0 := 2) hc hw (k_F_letterAt _ _ h0 hL) yw_F_letterAt yi_F_letterAt lk_X_192 d_X_text_19 rfl rfl rfl rfl hl.1 (Nat.le_of_ble_eq_true rfl) ⟨Nat.le_of_ble_eq_true rfl, Nat.le_of_ble_eq_true rfl⟩ ⟨Nat.zero_le _, Nat.zero_le _⟩ (fun τ19 H locs hτ19 hw => ?_)
    subst hτ19
    exact w_iret hc hw (⟨rfl, rfl⟩) d_X_text_22
  · exfalso; omega
set_option maxHeartbeats 400000 in
set_option maxRecDepth 100000 in
theorem t_X_text {l : Launch} {D : va_G} {ad : Nat → Nat} {ca : Nat → ClassId} (hfl : l.flags = pinnedFlags ++ [noTraceFlag]) (σ : St) (i : Int) (hi : r32 i) (h0 : i < 0) : Ct l D cl7 (tyX ca) (wX ad ca) y_X_text c_X_text 2 (some .int) 6 [.ref (ad 100), .int (zI i)] σ σ xIOB := by
  refine Ct.enter (by decide) (Nat.le_of_ble_eq_true rfl) ?_
  intro A p e s m below meth c hc hX ls hl hw
  have hl : lv_has ls 2 [(0, .ref (ad 100)), (1, .int (zI i))] := hl
  obtain ⟨hx, hb, hml, hown, hTB, hK, hr, hlk⟩ := id hc
  refine lv_iload_n hx hb d_X_text_0 rfl (lv_at hl 1 rfl) ?_
  refine z_if_ge hx hb 14 d_X_text_1 (by omega) (by decide) (fun c1 => ?_) (fun c1 => ?_)
  · exfalso; omega
  · exact w_throw hfl hc hX hw xq_IOB xlk_IOB xs_190 hl.1 (Nat.le_of_ble_eq_true rfl) (Nat.le_of_ble_eq_true rfl) d_X_text_4 d_X_text_7 d_X_text_8 d_X_text_10 d_X_text_13
