set_option maxHeartbeats 400000 in
set_option maxRecDepth 100000 in
theorem k_F_letterAt {l : Launch} {D : va_G} {ad : Nat → Nat} {ca : Nat → ClassId} (σ : St) (i : Int) (h0 : 0 ≤ i ∧ i < 2147483648) (hL : 0 ≤ σ 27 0 ∧ σ 27 0 ≤ 176) : Cw l D cl7 (tyX ca) (wX ad ca) y_F_letterAt c_F_letterAt 2 (some .int) 0 [.ref (ad 102), .int (zI i)] σ (RW (.int (zI (ltrA σ i))) (σ = ·)) := by
  refine Cw.enter (by decide) (Nat.le_of_ble_eq_true rfl) ?_
  intro A p e s m below meth c hc ls hl hw
  have hl : lv_has ls 2 [(0, .ref (ad 102)), (1, .int (zI i))] := hl
  obtain ⟨hx, hb, hml, hown, hTB, hK, hr, hlk⟩ := id hc
  refine lv_iload_n hx hb d_F_letterAt_0 rfl (lv_at hl 1 rfl) ?_
  refine lv_aload_n hx hb d_F_letterAt_1 rfl (lv_at hl 0 rfl) ?_
  refine gX_F_length hc hw lk_F_65 d_F_letterAt_2 ?_
  refine z_icmp_ge hx hb 15 d_F_letterAt_5 (by omega) (by omega) (by decide) (fun c5 => ?_) (fun c5 => ?_)
  · refine z_ic hx hb d_F_letterAt_15 ?_
    exact w_iret hc hw (⟨by unfold ltrA; first | (exfalso; omega) | rw [if_pos (by omega)] | rw [if_neg (by omega)], rfl⟩) d_F_letterAt_16
  · refine lv_iload_n hx hb d_F_letterAt_8 rfl (lv_at hl 1 rfl) ?_
    refine z_si hx hb d_F_letterAt_9 (by decide) ?_
    refine z_icmp_lt hx hb 17 d_F_letterAt_12 (by omega) (by omega) (by decide) (fun c12 => ?_) (fun c12 => ?_)
    · refine lv_aload_n hx hb d_F_letterAt_17 rfl (lv_at hl 0 rfl) ?_
      refine gX_F_letters hc hw lk_F_24 d_F_letterAt_18 ?_
      refine lv_iload_n hx hb d_F_letterAt_21 rfl (lv_at hl 1 rfl) ?_
      refine ldX_F_letters hc hw d_F_letterAt_22 (by omega) ?_
      exact w_iret hc hw (⟨by unfold ltrA; first | (exfalso; omega) | rw [if_pos (by omega)] | rw [if_neg (by omega)], rfl⟩) d_F_letterAt_23
    · refine z_ic hx hb d_F_letterAt_15 ?_
      exact w_iret hc hw (⟨by unfold ltrA; first | (exfalso; omega) | rw [if_pos (by omega)] | rw [if_neg (by omega)], rfl⟩) d_F_letterAt_16
