set_option maxHeartbeats 400000 in
set_option maxRecDepth 100000 in
theorem k_S_descend_z {l : Launch} {D : va_G} {ad : Nat → Nat} {ca : Nat → ClassId} (σ : St) (d w bl : Int) (hd : 0 ≤ d ∧ d ≤ σ 17 0) (hw0 : 0 ≤ w ∧ w ≤ sDep d) (hbl : 0 ≤ bl ∧ bl < 16777216) (hS : IS σ) (h18 : -1 ≤ σ 18 0 ∧ σ 18 0 ≤ 64000008) (hf : σ 17 0 = d) : Cw l D cl7 (tyX ca) (wX ad ca) y_S_descend c_S_descend 6 none 4 [.ref (ad 105), .int (zI d), .long (zL w), .int (zI bl)] σ (VW (fun τ => ds 0 σ d w bl = τ ∧ Dk σ τ)) := by
  have h17 := hS.1
  unfold sDep at hw0
  have hmw := mwF_bd hS bl (σ 17 0 - d).toNat d 0
  have hmw1 : 0 ≤ mw σ d bl ∧ mw σ d bl ≤ 64000008 := by unfold mw; omega
  refine Cw.enter (by decide) (Nat.le_of_ble_eq_true rfl) ?_
  intro A p e s m below meth c hc ls hl hw
  have hl : lv_has ls 6 [(0, .ref (ad 105)), (1, .int (zI d)), (2, .long (zL w)), (4, .int (zI bl))] := hl
  obtain ⟨hx, hb, hml, hown, hTB, hK, hr, hlk⟩ := id hc
  refine lv_lload_n hx hb d_S_descend_0 rfl (lv_at hl 2 rfl) ?_
  refine lv_aload_n hx hb d_S_descend_1 rfl (lv_at hl 0 rfl) ?_
  refine lv_iload_n hx hb d_S_descend_2 rfl (lv_at hl 1 rfl) ?_
  refine lv_iload hx hb d_S_descend_3 (lv_at hl 3 rfl) ?_
  refine w_cvR (q0 := 5) hc hw (k_S_mostWorthFrom _ _ _ (by omega) hbl hS) yw_S_mostWorthFrom yi_S_mostWorthFrom lk_S_101 d_S_descend_5 rfl rfl rfl rfl hl.1 (Nat.le_of_ble_eq_true rfl) ⟨Nat.le_of_ble_eq_true rfl, Nat.le_of_ble_eq_true rfl⟩ ⟨Nat.zero_le _, Nat.zero_le _⟩ (fun τ5 H locs hτ5 hw => ?_)
  subst hτ5
  refine z_ladd hx hb d_S_descend_8 ?_
  refine lv_aload_n hx hb d_S_descend_9 rfl (lv_at hl 0 rfl) ?_
  refine gX_S_bestWorth hc hw lk_S_46 d_S_descend_10 ?_
  refine z_lcmp_gt hx hb 18 d_S_descend_13 d_S_descend_14 (by omega) (by omega) (by decide) (fun c13 => ?_) (fun c13 => ?_)
  · refine lv_iload_n hx hb d_S_descend_18 rfl (lv_at hl 1 rfl) ?_
    refine lv_aload_n hx hb d_S_descend_19 rfl (lv_at hl 0 rfl) ?_
    refine gX_S_looked hc hw lk_S_54 d_S_descend_20 ?_
    refine z_icmp_ge hx hb 32 d_S_descend_23 (by omega) (by omega) (by decide) (fun c23 => ?_) (fun c23 => ?_)
    · refine lv_aload_n hx hb d_S_descend_32 rfl (lv_at hl 0 rfl) ?_
      refine lv_lload_n hx hb d_S_descend_33 rfl (lv_at hl 2 rfl) ?_
      refine w_cvV (q0 := 5) hc hw (k_S_keep _ _) yw_S_keep yi_S_keep lk_S_105 d_S_descend_34 rfl rfl rfl rfl hl.1 (Nat.le_of_ble_eq_true rfl) ⟨Nat.le_of_ble_eq_true rfl, Nat.le_of_ble_eq_true rfl⟩ ⟨Nat.zero_le _, Nat.zero_le _⟩ (fun τ34 H locs hτ34 hw => ?_)
      subst hτ34
      exact w_vret hc hw (⟨rfl, by unfold ds; rw [if_neg (by omega)], fun g h1 h2 h3 => by unfold kp; rw [cpS_o _ _ _ _ h2, up_f _ _ _ h3], by unfold kp; rw [cpS_o _ _ _ _ (by decide), up_s]; omega⟩) d_S_descend_37
    · exact absurd c23 (by omega)
  · exact w_vret hc hw (⟨rfl, by unfold ds; rw [if_pos c13], fun g _ _ _ => rfl, h18⟩) d_S_descend_17
