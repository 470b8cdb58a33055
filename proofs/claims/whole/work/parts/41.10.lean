set_option maxHeartbeats 400000 in
set_option maxRecDepth 100000 in
theorem k_M_pointAt {l : Launch} {D : va_G} {ad : Nat → Nat} {ca : Nat → ClassId} (μ : St) (k d2 : Int) (hk : 0 ≤ k ∧ k < 8) (hd : 0 ≤ d2 ∧ d2 ≤ 3) (h13 : 0 ≤ μ 13 k ∧ μ 13 k < 12) : Cw l D cl7 (tyM ca) (wM ad ca) y_M_pointAt c_M_pointAt 3 (some .int) 0 [.ref (ad 100), .int (zI k), .int (zI d2)] μ (RW (.int (zI (mPA μ k d2))) (μ = ·)) := by
  refine Cw.enter (by decide) (Nat.le_of_ble_eq_true rfl) ?_
  intro A p e s m below meth c hc ls hl hw
  have hl : lv_has ls 3 [(0, .ref (ad 100)), (1, .int (zI k)), (2, .int (zI d2))] := hl
  obtain ⟨hx, hb, hml, hown, hTB, hK, hr, hlk⟩ := id hc
  refine lv_iload_n hx hb d_M_pointAt_0 rfl (lv_at hl 2 rfl) ?_
  refine z_ic hx hb d_M_pointAt_1 ?_
  refine z_icmp_ne hx hb 9 d_M_pointAt_2 (by omega) (by omega) (by decide) (fun c2 => ?_) (fun c2 => ?_)
  · refine lv_aload_n hx hb d_M_pointAt_9 rfl (lv_at hl 0 rfl) ?_
    refine gM_M_pointsOf hc hw lk_M_17 d_M_pointAt_10 ?_
    refine z_ic hx hb d_M_pointAt_13 ?_
    refine lv_aload_n hx hb d_M_pointAt_14 rfl (lv_at hl 0 rfl) ?_
    refine gM_M_netAt hc hw lk_M_33 d_M_pointAt_15 ?_
    refine lv_iload_n hx hb d_M_pointAt_18 rfl (lv_at hl 1 rfl) ?_
    refine ldM_M_netAt hc hw d_M_pointAt_19 (by omega) ?_
    refine z_imul hx hb d_M_pointAt_20 ?_
    refine lv_iload_n hx hb d_M_pointAt_21 rfl (lv_at hl 2 rfl) ?_
    refine z_iadd hx hb d_M_pointAt_22 ?_
    refine ldM_M_pointsOf hc hw d_M_pointAt_23 (by omega) ?_
    exact w_iret hc hw (⟨by unfold mPA; first | rw [if_pos (by omega)] | rw [if_neg (by omega)], rfl⟩) d_M_pointAt_24
  · refine z_ic hx hb d_M_pointAt_5 ?_
    refine lv_goto (tgt := 24) hx hb d_M_pointAt_6 (by decide) ?_
    exact w_iret hc hw (⟨by unfold mPA; first | rw [if_pos (by omega)] | rw [if_neg (by omega)], rfl⟩) d_M_pointAt_24
