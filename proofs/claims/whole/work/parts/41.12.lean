set_option maxHeartbeats 400000 in
set_option maxRecDepth 100000 in
theorem k_M_proved {l : Launch} {D : va_G} {ad : Nat → Nat} {ca : Nat → ClassId} (μ : St) (h11 : μ 11 0 = 0 ∨ μ 11 0 = 1) (h16 : μ 16 0 = 0 ∨ μ 16 0 = 1) : Cw l D cl7 (tyM ca) (wM ad ca) y_M_proved c_M_proved 1 (some .boolean) 0 [.ref (ad 100)] μ (RW (.int (zI (if μ 11 0 = 0 then 0 else μ 16 0))) (up μ 0 0 0 = ·)) := by
  have e11 : up μ 0 0 0 11 0 = μ 11 0 := up_o _ _ _ _ (by decide)
  have e16 : up μ 0 0 0 16 0 = μ 16 0 := up_o _ _ _ _ (by decide)
  refine Cw.enter (by decide) (Nat.le_of_ble_eq_true rfl) ?_
  intro A p e s m below meth c hc ls hl hw
  have hl : lv_has ls 1 [(0, .ref (ad 100))] := hl
  obtain ⟨hx, hb, hml, hown, hTB, hK, hr, hlk⟩ := id hc
  refine lv_aload_n hx hb d_M_proved_0 rfl (lv_at hl 0 rfl) ?_
  refine z_ic hx hb d_M_proved_1 ?_
  refine pM_M_thrown hc hw lk_M_60 d_M_proved_2 (fun H locs hw => ?_)
  refine lv_aload_n hx hb d_M_proved_5 rfl (lv_at hl 0 rfl) ?_
  refine gM_M_ran hc hw lk_M_111 d_M_proved_6 ?_
  refine z_if_eq hx hb 23 d_M_proved_9 (by omega) (by decide) (fun c9 => ?_) (fun c9 => ?_)
  · refine z_ic hx hb d_M_proved_23 ?_
    exact w_zret hc hw (by omega) (⟨by congr 3; first | (rw [if_pos (by omega)]; done) | (rw [if_neg (by omega)]; omega), rfl⟩) d_M_proved_24
  · refine lv_aload_n hx hb d_M_proved_12 rfl (lv_at hl 0 rfl) ?_
    refine gM_M_isProved hc hw lk_M_115 d_M_proved_13 ?_
    refine z_if_eq hx hb 23 d_M_proved_16 (by omega) (by decide) (fun c16 => ?_) (fun c16 => ?_)
    · refine z_ic hx hb d_M_proved_23 ?_
      exact w_zret hc hw (by omega) (⟨by congr 3; first | (rw [if_pos (by omega)]; done) | (rw [if_neg (by omega)]; omega), rfl⟩) d_M_proved_24
    · refine z_ic hx hb d_M_proved_19 ?_
      refine lv_goto (tgt := 24) hx hb d_M_proved_20 (by decide) ?_
      exact w_zret hc hw (by omega) (⟨by congr 3; first | (rw [if_pos (by omega)]; done) | (rw [if_neg (by omega)]; omega), rfl⟩) d_M_proved_24
