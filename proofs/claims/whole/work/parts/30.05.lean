set_option maxHeartbeats 400000 in
set_option maxRecDepth 100000 in
theorem k_S_choose {l : Launch} {D : va_G} {ad : Nat → Nat} {ca : Nat → ClassId} (σ : St) (mo : Int) (hmo : 0 ≤ mo ∧ mo ≤ 8) (hI : IB σ) (hS : IS σ) : Cw l D cl7 (tyX ca) (wX ad ca) y_S_choose c_S_choose 3 none 13 [.ref (ad 105), .ref (ad 101), .int (zI mo)] σ (VW (fun τ => chS σ mo = τ ∧ IS τ ∧ ∀ g, g < 10 ∨ 20 ≤ g → τ g = σ g)) := by
  refine Cw.enter (by decide) (Nat.le_of_ble_eq_true rfl) ?_
  intro A p e s m below meth c hc ls hl hw
  have hl : lv_has ls 3 [(0, .ref (ad 105)), (1, .ref (ad 101)), (2, .int (zI mo))] := hl
  obtain ⟨hx, hb, hml, hown, hTB, hK, hr, hlk⟩ := id hc
  refine lv_aload_n hx hb d_S_choose_0 rfl (lv_at hl 0 rfl) ?_
  refine lv_aload_n hx hb d_S_choose_1 rfl (lv_at hl 1 rfl) ?_
  refine lv_iload_n hx hb d_S_choose_2 rfl (lv_at hl 2 rfl) ?_
  refine w_cvV (q0 := 5) hc hw (k_S_lookAtNets _ _ hmo hI hS) yw_S_lookAtNets yi_S_lookAtNets lk_S_34 d_S_choose_3 rfl rfl rfl rfl hl.1 (Nat.le_of_ble_eq_true rfl) ⟨Nat.le_of_ble_eq_true rfl, Nat.le_of_ble_eq_true rfl⟩ ⟨Nat.zero_le _, Nat.zero_le _⟩ (fun τ3 H locs hτ3 hw => ?_)
  obtain ⟨hn3, hs3, hf3⟩ := hτ3
  have hI3 : IB τ3 := IB_of (fun g hg => hf3 g (by omega) (by omega) (by omega) (by omega) (by omega)) hI
  refine lv_aload_n hx hb d_S_choose_6 rfl (lv_at hl 0 rfl) ?_
  refine lv_aload_n hx hb d_S_choose_7 rfl (lv_at hl 1 rfl) ?_
  refine w_cvV (q0 := 5) hc hw (k_S_markClashes _ hI3 hs3) yw_S_markClashes yi_S_markClashes lk_S_38 d_S_choose_8 rfl rfl rfl rfl hl.1 (Nat.le_of_ble_eq_true rfl) ⟨Nat.le_of_ble_eq_true rfl, Nat.le_of_ble_eq_true rfl⟩ ⟨Nat.zero_le _, Nat.zero_le _⟩ (fun τ8 H locs hτ8 hw => ?_)
  obtain ⟨hn8, hs8, hf8⟩ := hτ8
  have e8 : chA σ mo = τ8 := by unfold chA; rw [hn3]; exact hn8
  have hwp := wpF_bd hs8 (τ8 17 0).toNat 0 0 0
  have h17 := hs8.1
  refine lv_aload_n hx hb d_S_choose_11 rfl (lv_at hl 0 rfl) ?_
  refine lv_aload_n hx hb d_S_choose_12 rfl (lv_at hl 0 rfl) ?_
  refine w_cvR (q0 := 5) hc hw (k_S_worthOfPlainChoice _ hs8) yw_S_worthOfPlainChoice yi_S_worthOfPlainChoice lk_S_42 d_S_choose_13 rfl rfl rfl rfl hl.1 (Nat.le_of_ble_eq_true rfl) ⟨Nat.le_of_ble_eq_true rfl, Nat.le_of_ble_eq_true rfl⟩ ⟨Nat.zero_le _, Nat.zero_le _⟩ (fun τ13 H locs hτ13 hw => ?_)
  subst hτ13
  refine z_lc1 hx hb d_S_choose_16 ?_
  refine z_lsub hx hb d_S_choose_17 ?_
  refine pX_S_bestWorth hc hw lk_S_46 d_S_choose_18 (fun H locs hw => ?_)
  refine lv_aload_n hx hb d_S_choose_21 rfl (lv_at hl 0 rfl) ?_
  refine z_ic hx hb d_S_choose_22 ?_
  refine z_lc0 hx hb d_S_choose_23 ?_
  refine z_ic hx hb d_S_choose_24 ?_
  have hsu : IS (up τ8 18 0 (wp0 τ8 - 1)) := IS_of (fun g hg => up_f _ _ _ (by omega)) hs8
  refine w_csV hc hw (k_S_descend (τ8 17 0).toNat _ _ _ _ (by show 0 ≤ 0 ∧ 0 ≤ τ8 17 0; omega) (by decide) (by decide) hsu (by rw [up_s]; unfold wp0; omega) (by show τ8 17 0 = _; omega)) yw_S_descend yi_S_descend lk_S_50 d_S_choose_25 rfl rfl hl.1 (Nat.le_of_ble_eq_true rfl) ⟨by simp only [Rmh]; omega, by simp only [Rmh]; omega⟩ ⟨Nat.zero_le _, Nat.zero_le _⟩ (fun τ25 H locs hτ25 hw => ?_)
  obtain ⟨hn25, hk25⟩ := hτ25
  exact w_vret hc hw (⟨rfl, by unfold chS; rw [e8]; exact hn25, hk25.IS hsu, fun g hg => by rw [hk25.1 g (by omega) (by omega) (by omega), up_f _ _ _ (by omega), hf8 g (by omega)]; exact hf3 g (by omega) (by omega) (by omega) (by omega) (by omega)⟩) d_S_choose_28
