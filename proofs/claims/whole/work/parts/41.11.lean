set_option maxHeartbeats 400000 in
set_option maxRecDepth 100000 in
theorem k_M_probe {l : Launch} {D : va_G} {ad : Nat → Nat} {ca : Nat → ClassId} (μ : St) (k : Int) (hk : r32 k) (hn : 0 ≤ μ 17 0 ∧ μ 17 0 ≤ 8) : Cw l D cl7 (tyM ca) (wM ad ca) y_M_probe c_M_probe 2 (some .int) 0 [.ref (ad 100), .int (zI k)] μ (RW (.int (zI (mProbe μ k))) (up μ 0 0 0 = ·)) := by
  have e17 : up μ 0 0 0 17 0 = μ 17 0 := up_o _ _ _ _ (by decide)
  refine Cw.enter (by decide) (Nat.le_of_ble_eq_true rfl) ?_
  intro A p e s m below meth c hc ls hl hw
  have hl : lv_has ls 2 [(0, .ref (ad 100)), (1, .int (zI k))] := hl
  obtain ⟨hx, hb, hml, hown, hTB, hK, hr, hlk⟩ := id hc
  refine lv_aload_n hx hb d_M_probe_0 rfl (lv_at hl 0 rfl) ?_
  refine z_ic hx hb d_M_probe_1 ?_
  refine pM_M_thrown hc hw lk_M_60 d_M_probe_2 (fun H locs hw => ?_)
  refine lv_iload_n hx hb d_M_probe_5 rfl (lv_at hl 1 rfl) ?_
  refine z_if_lt hx hb 26 d_M_probe_6 (by omega) (by decide) (fun c6 => ?_) (fun c6 => ?_)
  · refine z_ic hx hb d_M_probe_26 ?_
    exact w_iret hc hw (⟨by unfold mProbe; first | (rw [if_pos (by omega)]; rfl) | (rw [if_neg (by omega)]; done), rfl⟩) d_M_probe_27
  · refine lv_iload_n hx hb d_M_probe_9 rfl (lv_at hl 1 rfl) ?_
    refine lv_aload_n hx hb d_M_probe_10 rfl (lv_at hl 0 rfl) ?_
    refine gM_M_probes hc hw lk_M_121 d_M_probe_11 ?_
    refine z_icmp_ge hx hb 26 d_M_probe_14 (by omega) (by omega) (by decide) (fun c14 => ?_) (fun c14 => ?_)
    · refine z_ic hx hb d_M_probe_26 ?_
      exact w_iret hc hw (⟨by unfold mProbe; first | (rw [if_pos (by omega)]; rfl) | (rw [if_neg (by omega)]; done), rfl⟩) d_M_probe_27
    · refine lv_aload_n hx hb d_M_probe_17 rfl (lv_at hl 0 rfl) ?_
      refine gM_M_probe hc hw lk_M_42 d_M_probe_18 ?_
      refine lv_iload_n hx hb d_M_probe_21 rfl (lv_at hl 1 rfl) ?_
      refine ldM_M_probe hc hw d_M_probe_22 (by omega) ?_
      refine lv_goto (tgt := 27) hx hb d_M_probe_23 (by decide) ?_
      exact w_iret hc hw (⟨by unfold mProbe; first | (rw [if_pos (by omega)]; rfl) | (rw [if_neg (by omega)]; done), rfl⟩) d_M_probe_27
