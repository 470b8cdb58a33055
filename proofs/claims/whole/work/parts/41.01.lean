set_option maxHeartbeats 400000 in
set_option maxRecDepth 100000 in
theorem k_M_isNet {l : Launch} {D : va_G} {ad : Nat → Nat} {ca : Nat → ClassId} (μ : St) (a : Int) (ha : r32 a) (hI : 0 ≤ μ 1 0 ∧ μ 1 0 ≤ 12) : Cw l D cl7 (tyM ca) (wM ad ca) y_M_isNet c_M_isNet 2 (some .boolean) 0 [.ref (ad 100), .int (zI a)] μ (RW (.int (zI (bI (0 ≤ a ∧ a < μ 1 0)))) (μ = ·)) := by
  refine Cw.enter (by decide) (Nat.le_of_ble_eq_true rfl) ?_
  intro A p e s m below meth c hc ls hl hw
  have hl : lv_has ls 2 [(0, .ref (ad 100)), (1, .int (zI a))] := hl
  obtain ⟨hx, hb, hml, hown, hTB, hK, hr, hlk⟩ := id hc
  refine lv_iload_n hx hb d_M_isNet_0 rfl (lv_at hl 1 rfl) ?_
  refine z_if_lt hx hb 16 d_M_isNet_1 (by omega) (by decide) (fun c1 => ?_) (fun c1 => ?_)
  · refine z_ic hx hb d_M_isNet_16 ?_
    exact w_zret hc hw (by omega) (⟨by first | (exfalso; omega) | rw [bI_t (by omega)] | rw [bI_f (by omega)], rfl⟩) d_M_isNet_17
  · refine lv_iload_n hx hb d_M_isNet_4 rfl (lv_at hl 1 rfl) ?_
    refine lv_aload_n hx hb d_M_isNet_5 rfl (lv_at hl 0 rfl) ?_
    refine gM_M_nets hc hw lk_M_64 d_M_isNet_6 ?_
    refine z_icmp_ge hx hb 16 d_M_isNet_9 (by omega) (by omega) (by decide) (fun c9 => ?_) (fun c9 => ?_)
    · refine z_ic hx hb d_M_isNet_16 ?_
      exact w_zret hc hw (by omega) (⟨by first | (exfalso; omega) | rw [bI_t (by omega)] | rw [bI_f (by omega)], rfl⟩) d_M_isNet_17
    · refine z_ic hx hb d_M_isNet_12 ?_
      refine lv_goto (tgt := 17) hx hb d_M_isNet_13 (by decide) ?_
      exact w_zret hc hw (by omega) (⟨by first | (exfalso; omega) | rw [bI_t (by omega)] | rw [bI_f (by omega)], rfl⟩) d_M_isNet_17
