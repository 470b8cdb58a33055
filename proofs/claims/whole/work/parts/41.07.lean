set_option maxHeartbeats 400000 in
set_option maxRecDepth 100000 in
theorem k_M_gap {l : Launch} {D : va_G} {ad : Nat → Nat} {ca : Nat → ClassId} (μ : St) (v : Int) (hv : r64 v) (hI : 0 ≤ μ 10 0 ∧ μ 10 0 ≤ 1000000) : Cw l D cl7 (tyM ca) (wM ad ca) y_M_gap c_M_gap 3 (some .boolean) 0 [.ref (ad 100), .long (zL v)] μ (RW (.int (zI (bI (¬ (mGapT v ≠ 0 ∨ μ 10 0 = v))))) (mGap μ v = ·)) := by
  have e10 : ∀ w, up μ 0 0 w 10 0 = μ 10 0 := fun w => up_o _ _ _ _ (by decide)
  refine Cw.enter (by decide) (Nat.le_of_ble_eq_true rfl) ?_
  intro A p e s m below meth c hc ls hl hw
  have hl : lv_has ls 3 [(0, .ref (ad 100)), (1, .long (zL v))] := hl
  obtain ⟨hx, hb, hml, hown, hTB, hK, hr, hlk⟩ := id hc
  refine lv_aload_n hx hb d_M_gap_0 rfl (lv_at hl 0 rfl) ?_
  refine lv_lload_n hx hb d_M_gap_1 rfl (lv_at hl 1 rfl) ?_
  refine z_lc0 hx hb d_M_gap_2 ?_
  refine z_lcmp_lt hx hb 15 d_M_gap_3 d_M_gap_4 (by omega) (by omega) (by decide) (fun c3 => ?_) (fun c3 => ?_)
  · refine z_ic hx hb d_M_gap_15 ?_
    refine lv_goto (tgt := 20) hx hb d_M_gap_16 (by decide) ?_
    refine pM_M_thrown hc hw lk_M_60 d_M_gap_20 (fun H locs hw => ?_)
    refine lv_aload_n hx hb d_M_gap_23 rfl (lv_at hl 0 rfl) ?_
    refine gM_M_thrown hc hw lk_M_60 d_M_gap_24 ?_
    simp only [up_s]
    refine z_if_ne hx hb 39 d_M_gap_27 (by omega) (by decide) (fun c27 => ?_) (fun c27 => ?_)
    · refine z_ic hx hb d_M_gap_39 ?_
      exact w_zret hc hw (by omega) (by (first | (have g : mGapT v = 1 := (by unfold mGapT; rw [if_pos (by omega)])) | (have g : mGapT v = 0 := (by unfold mGapT; rw [if_neg (by omega)]))); have z : mGapT v ≠ 0 ∨ μ 10 0 = v := (by first | (left; omega) | (right; exact c35)); unfold mGap; rw [bI_f (fun q => q z), if_pos z, g]; exact ⟨rfl, rfl⟩) d_M_gap_40
    · exact absurd c27 (by omega)
  · refine lv_lload_n hx hb d_M_gap_7 rfl (lv_at hl 1 rfl) ?_
    refine z_ldc2 (n := 1000000) hc lk_M_72 d_M_gap_8 (by decide) ?_
    refine z_lcmp_le hx hb 19 d_M_gap_11 d_M_gap_12 (by omega) (by omega) (by decide) (fun c11 => ?_) (fun c11 => ?_)
    · refine z_ic hx hb d_M_gap_19 ?_
      refine pM_M_thrown hc hw lk_M_60 d_M_gap_20 (fun H locs hw => ?_)
      refine lv_aload_n hx hb d_M_gap_23 rfl (lv_at hl 0 rfl) ?_
      refine gM_M_thrown hc hw lk_M_60 d_M_gap_24 ?_
      simp only [up_s]
      refine z_if_ne hx hb 39 d_M_gap_27 (by omega) (by decide) (fun c27 => ?_) (fun c27 => ?_)
      · exact absurd c27 (by omega)
      · refine lv_aload_n hx hb d_M_gap_30 rfl (lv_at hl 0 rfl) ?_
        refine gM_M_gap hc hw lk_M_84 d_M_gap_31 ?_
        refine lv_lload_n hx hb d_M_gap_34 rfl (lv_at hl 1 rfl) ?_
        refine z_lcmp_ne hx hb 41 d_M_gap_35 d_M_gap_36 (by first | (show r64 (μ 10 0); omega) | omega) (by first | (show r64 (μ 10 0); omega) | omega) (by decide) (fun c35 => ?_) (fun c35 => ?_)
        · refine lv_aload_n hx hb d_M_gap_41 rfl (lv_at hl 0 rfl) ?_
          refine lv_lload_n hx hb d_M_gap_42 rfl (lv_at hl 1 rfl) ?_
          refine pM_M_gap hc hw lk_M_84 d_M_gap_43 (fun H locs hw => ?_)
          refine z_ic hx hb d_M_gap_46 ?_
          exact w_zret hc hw (by omega) (by have g : mGapT v = 0 := (by unfold mGapT; rw [if_neg (by omega)]); have z : ¬ (mGapT v ≠ 0 ∨ μ 10 0 = v) := (fun q => q.elim (fun q => q g) c35); unfold mGap; rw [bI_t z, if_neg z, g]; exact ⟨rfl, rfl⟩) d_M_gap_47
        · refine z_ic hx hb d_M_gap_39 ?_
          exact w_zret hc hw (by omega) (by (first | (have g : mGapT v = 1 := (by unfold mGapT; rw [if_pos (by omega)])) | (have g : mGapT v = 0 := (by unfold mGapT; rw [if_neg (by omega)]))); have z : mGapT v ≠ 0 ∨ μ 10 0 = v := (by first | (left; omega) | (right; exact c35)); unfold mGap; rw [bI_f (fun q => q z), if_pos z, g]; exact ⟨rfl, rfl⟩) d_M_gap_40
    · refine z_ic hx hb d_M_gap_15 ?_
      refine lv_goto (tgt := 20) hx hb d_M_gap_16 (by decide) ?_
      refine pM_M_thrown hc hw lk_M_60 d_M_gap_20 (fun H locs hw => ?_)
      refine lv_aload_n hx hb d_M_gap_23 rfl (lv_at hl 0 rfl) ?_
      refine gM_M_thrown hc hw lk_M_60 d_M_gap_24 ?_
      simp only [up_s]
      refine z_if_ne hx hb 39 d_M_gap_27 (by omega) (by decide) (fun c27 => ?_) (fun c27 => ?_)
      · refine z_ic hx hb d_M_gap_39 ?_
        exact w_zret hc hw (by omega) (by (first | (have g : mGapT v = 1 := (by unfold mGapT; rw [if_pos (by omega)])) | (have g : mGapT v = 0 := (by unfold mGapT; rw [if_neg (by omega)]))); have z : mGapT v ≠ 0 ∨ μ 10 0 = v := (by first | (left; omega) | (right; exact c35)); unfold mGap; rw [bI_f (fun q => q z), if_pos z, g]; exact ⟨rfl, rfl⟩) d_M_gap_40
      · exact absurd c27 (by omega)
