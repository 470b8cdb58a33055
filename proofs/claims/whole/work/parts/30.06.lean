set_option maxHeartbeats 400000 in
set_option maxRecDepth 100000 in
theorem k_R_explain_z {l : Launch} {D : va_G} {ad : Nat → Nat} {ca : Nat → ClassId} (σ : St) (n t : Int) (hn : 0 ≤ n ∧ n ≤ 12) (ht : 0 ≤ t ∧ t < 4096) (hO : ∀ i, 0 ≤ σ 40 i ∧ σ 40 i < 4096) (h42 : 0 ≤ σ 42 0 ∧ σ 42 0 ≤ 13) (h41 : 0 ≤ σ 41 0 ∧ σ 41 0 < 4096) (hf : n = 12) : Cw l D cl7 (tyX ca) (wX ad ca) y_R_explain c_R_explain 4 none 2 [.ref (ad 104), .int (zI n), .int (zI t)] σ (VW (fun τ => ex 0 σ n t = τ ∧ Ek σ τ)) := by
  have hpc := popc_bd t
  refine Cw.enter (by decide) (Nat.le_of_ble_eq_true rfl) ?_
  intro A p e s m below meth c hc ls hl hw
  have hl : lv_has ls 4 [(0, .ref (ad 104)), (1, .int (zI n)), (2, .int (zI t))] := hl
  obtain ⟨hx, hb, hml, hown, hTB, hK, hr, hlk⟩ := id hc
  refine lv_iload_n hx hb d_R_explain_0 rfl (lv_at hl 2 rfl) ?_
  refine w_csR hc hw (k_JI_bitCount _ _ ht) yw_JI_bitCount yi_JI_bitCount lk_R_23 d_R_explain_1 rfl rfl hl.1 (Nat.le_of_ble_eq_true rfl) ⟨Nat.le_of_ble_eq_true rfl, Nat.le_of_ble_eq_true rfl⟩ ⟨Nat.zero_le _, Nat.zero_le _⟩ (fun τ1 H locs hτ1 hw => ?_)
  subst hτ1
  refine lv_aload_n hx hb d_R_explain_4 rfl (lv_at hl 0 rfl) ?_
  refine gX_R_coverSize hc hw lk_R_29 d_R_explain_5 ?_
  refine z_icmp_lt hx hb 12 d_R_explain_8 (by omega) (by omega) (by decide) (fun c8 => ?_) (fun c8 => ?_)
  · refine lv_iload_n hx hb d_R_explain_12 rfl (lv_at hl 1 rfl) ?_
    refine z_bi hx hb d_R_explain_13 (by decide) ?_
    refine z_icmp_lt hx hb 32 d_R_explain_15 (by omega) (by omega) (by decide) (fun c15 => ?_) (fun c15 => ?_)
    · exact absurd c15 (by omega)
    · refine lv_aload_n hx hb d_R_explain_18 rfl (lv_at hl 0 rfl) ?_
      refine lv_iload_n hx hb d_R_explain_19 rfl (lv_at hl 2 rfl) ?_
      refine pX_R_cover hc hw lk_R_37 d_R_explain_20 (fun H locs hw => ?_)
      refine lv_aload_n hx hb d_R_explain_23 rfl (lv_at hl 0 rfl) ?_
      refine lv_iload_n hx hb d_R_explain_24 rfl (lv_at hl 2 rfl) ?_
      refine w_csR hc hw (k_JI_bitCount _ _ ht) yw_JI_bitCount yi_JI_bitCount lk_R_23 d_R_explain_25 rfl rfl hl.1 (Nat.le_of_ble_eq_true rfl) ⟨Nat.le_of_ble_eq_true rfl, Nat.le_of_ble_eq_true rfl⟩ ⟨Nat.zero_le _, Nat.zero_le _⟩ (fun τ25 H locs hτ25 hw => ?_)
      subst hτ25
      refine pX_R_coverSize hc hw lk_R_29 d_R_explain_28 (fun H locs hw => ?_)
      exact w_vret hc hw (⟨rfl, by unfold ex; rw [if_neg (by omega)], fun g a1 a2 => by rw [up_f _ _ _ a2, up_f _ _ _ a1], by rw [up_s]; omega, by rw [up_o _ _ _ _ (by decide), up_s]; exact ht⟩) d_R_explain_31
  · exact w_vret hc hw (⟨rfl, by unfold ex; rw [if_pos c8], fun g _ _ => rfl, h42, h41⟩) d_R_explain_11
