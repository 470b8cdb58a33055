set_option maxHeartbeats 400000 in
set_option maxRecDepth 100000 in
theorem k_M_haveParts {l : Launch} {D : va_G} {ad : Nat → Nat} {ca : Nat → ClassId} (μ : St) (a b : Int) (ha : 0 ≤ a ∧ a < 12) (hb2 : 0 ≤ b ∧ b < 12) (hC : ∀ i, 0 ≤ μ 19 i ∧ μ 19 i ≤ 4) : Cw l D cl7 (tyM ca) (wM ad ca) y_M_haveParts c_M_haveParts 3 (some .boolean) 1 [.ref (ad 100), .int (zI a), .int (zI b)] μ (RW (.int (zI (bI (¬ a = b ∧ 0 < μ 19 (mPr a b))))) (μ = ·)) := by
  have hC2 := hC (mPr a b)
  have hpr : 0 ≤ mPr a b ∧ mPr a b < 144 := by unfold mPr; split <;> omega
  refine Cw.enter (by decide) (Nat.le_of_ble_eq_true rfl) ?_
  intro A p e s m below meth c hc ls hl hw
  have hl : lv_has ls 3 [(0, .ref (ad 100)), (1, .int (zI a)), (2, .int (zI b))] := hl
  obtain ⟨hx, hb, hml, hown, hTB, hK, hr, hlk⟩ := id hc
  refine lv_iload_n hx hb d_M_haveParts_0 rfl (lv_at hl 1 rfl) ?_
  refine lv_iload_n hx hb d_M_haveParts_1 rfl (lv_at hl 2 rfl) ?_
  refine z_icmp_eq hx hb 22 d_M_haveParts_2 (by omega) (by omega) (by decide) (fun c2 => ?_) (fun c2 => ?_)
  · refine z_ic hx hb d_M_haveParts_22 ?_
    exact w_zret hc hw (by omega) (⟨by first | (exfalso; omega) | rw [bI_t (by omega)] | rw [bI_f (by omega)], rfl⟩) d_M_haveParts_23
  · refine lv_aload_n hx hb d_M_haveParts_5 rfl (lv_at hl 0 rfl) ?_
    refine gM_M_partCount hc hw lk_M_45 d_M_haveParts_6 ?_
    refine lv_iload_n hx hb d_M_haveParts_9 rfl (lv_at hl 1 rfl) ?_
    refine lv_iload_n hx hb d_M_haveParts_10 rfl (lv_at hl 2 rfl) ?_
    refine w_csR hc hw (k_M_pairOf _ _ _ (by omega) (by omega)) yw_M_pairOf yi_M_pairOf lk_M_126 d_M_haveParts_11 rfl rfl hl.1 (Nat.le_of_ble_eq_true rfl) ⟨Nat.le_of_ble_eq_true rfl, Nat.le_of_ble_eq_true rfl⟩ ⟨Nat.zero_le _, Nat.zero_le _⟩ (fun τ11 H locs hτ11 hw => ?_)
    subst hτ11
    refine ldM_M_partCount hc hw d_M_haveParts_14 (by omega) ?_
    refine z_if_le hx hb 22 d_M_haveParts_15 (by omega) (by decide) (fun c15 => ?_) (fun c15 => ?_)
    · refine z_ic hx hb d_M_haveParts_22 ?_
      exact w_zret hc hw (by omega) (⟨by first | (exfalso; omega) | rw [bI_t (by omega)] | rw [bI_f (by omega)], rfl⟩) d_M_haveParts_23
    · refine z_ic hx hb d_M_haveParts_18 ?_
      refine lv_goto (tgt := 23) hx hb d_M_haveParts_19 (by decide) ?_
      exact w_zret hc hw (by omega) (⟨by first | (exfalso; omega) | rw [bI_t (by omega)] | rw [bI_f (by omega)], rfl⟩) d_M_haveParts_23
