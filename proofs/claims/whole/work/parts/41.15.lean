set_option maxHeartbeats 400000 in
set_option maxRecDepth 100000 in
theorem k_M_isAhead {l : Launch} {D : va_G} {ad : Nat → Nat} {ca : Nat → ClassId} (μ : St) (a b : Int) (ha : 0 ≤ a ∧ a < 36) (hb2 : 0 ≤ b ∧ b < 36) (hI : IMB μ) : Cw l D cl7 (tyM ca) (wM ad ca) y_M_isAhead c_M_isAhead 3 (some .boolean) 0 [.ref (ad 100), .int (zI a), .int (zI b)] μ (RW (.int (zI (bI (mAh μ a b)))) (μ = ·)) := by
  have h3a := hI.2.2.2.1 a
  have h3b := hI.2.2.2.1 b
  have h4a := hI.2.2.2.2.1 a
  have h4b := hI.2.2.2.2.1 b
  refine Cw.enter (by decide) (Nat.le_of_ble_eq_true rfl) ?_
  intro A p e s m below meth c hc ls hl hw
  have hl : lv_has ls 3 [(0, .ref (ad 100)), (1, .int (zI a)), (2, .int (zI b))] := hl
  obtain ⟨hx, hb, hml, hown, hTB, hK, hr, hlk⟩ := id hc
  refine lv_aload_n hx hb d_M_isAhead_0 rfl (lv_at hl 0 rfl) ?_
  refine gM_M_x hc hw lk_M_20 d_M_isAhead_1 ?_
  refine lv_iload_n hx hb d_M_isAhead_4 rfl (lv_at hl 1 rfl) ?_
  refine ldM_M_x hc hw d_M_isAhead_5 (by omega) ?_
  refine lv_aload_n hx hb d_M_isAhead_6 rfl (lv_at hl 0 rfl) ?_
  refine gM_M_x hc hw lk_M_20 d_M_isAhead_7 ?_
  refine lv_iload_n hx hb d_M_isAhead_10 rfl (lv_at hl 2 rfl) ?_
  refine ldM_M_x hc hw d_M_isAhead_11 (by omega) ?_
  refine z_lcmp_eq hx hb 38 d_M_isAhead_12 d_M_isAhead_13 (by omega) (by omega) (by decide) (fun c12 => ?_) (fun c12 => ?_)
  · refine lv_aload_n hx hb d_M_isAhead_38 rfl (lv_at hl 0 rfl) ?_
    refine gM_M_y hc hw lk_M_24 d_M_isAhead_39 ?_
    refine lv_iload_n hx hb d_M_isAhead_42 rfl (lv_at hl 1 rfl) ?_
    refine ldM_M_y hc hw d_M_isAhead_43 (by omega) ?_
    refine lv_aload_n hx hb d_M_isAhead_44 rfl (lv_at hl 0 rfl) ?_
    refine gM_M_y hc hw lk_M_24 d_M_isAhead_45 ?_
    refine lv_iload_n hx hb d_M_isAhead_48 rfl (lv_at hl 2 rfl) ?_
    refine ldM_M_y hc hw d_M_isAhead_49 (by omega) ?_
    refine z_lcmp_eq hx hb 78 d_M_isAhead_50 d_M_isAhead_51 (by omega) (by omega) (by decide) (fun c50 => ?_) (fun c50 => ?_)
    · refine lv_iload_n hx hb d_M_isAhead_78 rfl (lv_at hl 1 rfl) ?_
      refine lv_iload_n hx hb d_M_isAhead_79 rfl (lv_at hl 2 rfl) ?_
      refine z_icmp_ge hx hb 87 d_M_isAhead_80 (by omega) (by omega) (by decide) (fun c80 => ?_) (fun c80 => ?_)
      · refine z_ic hx hb d_M_isAhead_87 ?_
        exact w_zret hc hw (by omega) (⟨by first | (exfalso; omega) | rw [bI_t (by omega)] | rw [bI_f (by omega)], rfl⟩) d_M_isAhead_88
      · refine z_ic hx hb d_M_isAhead_83 ?_
        refine lv_goto (tgt := 88) hx hb d_M_isAhead_84 (by decide) ?_
        exact w_zret hc hw (by omega) (⟨by first | (exfalso; omega) | rw [bI_t (by omega)] | rw [bI_f (by omega)], rfl⟩) d_M_isAhead_88
    · refine lv_aload_n hx hb d_M_isAhead_54 rfl (lv_at hl 0 rfl) ?_
      refine gM_M_y hc hw lk_M_24 d_M_isAhead_55 ?_
      refine lv_iload_n hx hb d_M_isAhead_58 rfl (lv_at hl 1 rfl) ?_
      refine ldM_M_y hc hw d_M_isAhead_59 (by omega) ?_
      refine lv_aload_n hx hb d_M_isAhead_60 rfl (lv_at hl 0 rfl) ?_
      refine gM_M_y hc hw lk_M_24 d_M_isAhead_61 ?_
      refine lv_iload_n hx hb d_M_isAhead_64 rfl (lv_at hl 2 rfl) ?_
      refine ldM_M_y hc hw d_M_isAhead_65 (by omega) ?_
      refine z_lcmp_ge hx hb 74 d_M_isAhead_66 d_M_isAhead_67 (by omega) (by omega) (by decide) (fun c66 => ?_) (fun c66 => ?_)
      · refine z_ic hx hb d_M_isAhead_74 ?_
        refine lv_goto (tgt := 88) hx hb d_M_isAhead_75 (by decide) ?_
        exact w_zret hc hw (by omega) (⟨by first | (exfalso; omega) | rw [bI_t (by omega)] | rw [bI_f (by omega)], rfl⟩) d_M_isAhead_88
      · refine z_ic hx hb d_M_isAhead_70 ?_
        refine lv_goto (tgt := 88) hx hb d_M_isAhead_71 (by decide) ?_
        exact w_zret hc hw (by omega) (⟨by first | (exfalso; omega) | rw [bI_t (by omega)] | rw [bI_f (by omega)], rfl⟩) d_M_isAhead_88
  · refine lv_aload_n hx hb d_M_isAhead_16 rfl (lv_at hl 0 rfl) ?_
    refine gM_M_x hc hw lk_M_20 d_M_isAhead_17 ?_
    refine lv_iload_n hx hb d_M_isAhead_20 rfl (lv_at hl 1 rfl) ?_
    refine ldM_M_x hc hw d_M_isAhead_21 (by omega) ?_
    refine lv_aload_n hx hb d_M_isAhead_22 rfl (lv_at hl 0 rfl) ?_
    refine gM_M_x hc hw lk_M_20 d_M_isAhead_23 ?_
    refine lv_iload_n hx hb d_M_isAhead_26 rfl (lv_at hl 2 rfl) ?_
    refine ldM_M_x hc hw d_M_isAhead_27 (by omega) ?_
    refine z_lcmp_ge hx hb 36 d_M_isAhead_28 d_M_isAhead_29 (by omega) (by omega) (by decide) (fun c28 => ?_) (fun c28 => ?_)
    · refine z_ic hx hb d_M_isAhead_36 ?_
      exact w_zret hc hw (by omega) (⟨by first | (exfalso; omega) | rw [bI_t (by omega)] | rw [bI_f (by omega)], rfl⟩) d_M_isAhead_37
    · refine z_ic hx hb d_M_isAhead_32 ?_
      refine lv_goto (tgt := 37) hx hb d_M_isAhead_33 (by decide) ?_
      exact w_zret hc hw (by omega) (⟨by first | (exfalso; omega) | rw [bI_t (by omega)] | rw [bI_f (by omega)], rfl⟩) d_M_isAhead_37
