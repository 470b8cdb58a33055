set_option maxHeartbeats 400000 in
set_option maxRecDepth 100000 in
theorem k_M_force {l : Launch} {D : va_G} {ad : Nat → Nat} {ca : Nat → ClassId} (μ : St) (q v : Int) (hq : r32 q) (hv : r64 v) (hI : IMB μ) : Cw l D cl7 (tyM ca) (wM ad ca) y_M_force c_M_force 4 (some .boolean) 1 [.ref (ad 100), .int (zI q), .long (zL v)] μ (RW (.int (zI (bI (¬ (mFoT μ q v ≠ 0 ∨ μ 9 q = v))))) (mForce μ q v = ·)) := by
  have h5 := hI.2.1
  have h9 := hI.2.2.2.2.2.2.1 q
  refine Cw.enter (by decide) (Nat.le_of_ble_eq_true rfl) ?_
  intro A p e s m below meth c hc ls hl hw
  have hl : lv_has ls 4 [(0, .ref (ad 100)), (1, .int (zI q)), (2, .long (zL v))] := hl
  obtain ⟨hx, hb, hml, hown, hTB, hK, hr, hlk⟩ := id hc
  refine lv_aload_n hx hb d_M_force_0 rfl (lv_at hl 0 rfl) ?_
  refine lv_aload_n hx hb d_M_force_1 rfl (lv_at hl 0 rfl) ?_
  refine lv_iload_n hx hb d_M_force_2 rfl (lv_at hl 1 rfl) ?_
  refine w_cvR (q0 := 0) hc hw (k_M_isPoint _ _ hq h5) yw_M_isPoint yi_M_isPoint lk_M_88 d_M_force_3 rfl rfl rfl rfl hl.1 (Nat.le_of_ble_eq_true rfl) ⟨Nat.le_of_ble_eq_true rfl, Nat.le_of_ble_eq_true rfl⟩ ⟨Nat.zero_le _, Nat.zero_le _⟩ (fun τ3 H locs hτ3 hw => ?_)
  subst hτ3
  refine z_ifb_ne hx hb 13 d_M_force_6 (by decide) (fun c6 => ?_) (fun c6 => ?_)
  · refine lv_lload_n hx hb d_M_force_13 rfl (lv_at hl 2 rfl) ?_
    refine z_lc0 hx hb d_M_force_14 ?_
    refine z_lcmp_lt hx hb 27 d_M_force_15 d_M_force_16 (by omega) (by omega) (by decide) (fun c15 => ?_) (fun c15 => ?_)
    · refine z_ic hx hb d_M_force_27 ?_
      refine lv_goto (tgt := 32) hx hb d_M_force_28 (by decide) ?_
      refine pM_M_thrown hc hw lk_M_60 d_M_force_32 (fun H locs hw => ?_)
      refine lv_aload_n hx hb d_M_force_35 rfl (lv_at hl 0 rfl) ?_
      refine gM_M_thrown hc hw lk_M_60 d_M_force_36 ?_
      simp only [up_s]
      refine z_if_ne hx hb 53 d_M_force_39 (by omega) (by decide) (fun c39 => ?_) (fun c39 => ?_)
      · refine z_ic hx hb d_M_force_53 ?_
        exact w_zret hc hw (by omega) (by (first | (have g : mFoT μ q v = 1 := (by unfold mFoT; rw [if_pos c6])) | (have g : mFoT μ q v = 2 := (by unfold mFoT; rw [if_neg (fun z => z c6), if_pos (by omega)])) | (have g : mFoT μ q v = 0 := (by unfold mFoT; rw [if_neg (fun z => z c6), if_neg (by omega)]))); have z : mFoT μ q v ≠ 0 ∨ μ 9 q = v := (by first | (left; omega) | (right; exact c49)); unfold mForce; rw [bI_f (fun w => w z), if_pos z, g]; exact ⟨rfl, rfl⟩) d_M_force_54
      · exact absurd c39 (by omega)
    · refine lv_lload_n hx hb d_M_force_19 rfl (lv_at hl 2 rfl) ?_
      refine z_ldc2 (n := 1000000) hc lk_M_72 d_M_force_20 (by decide) ?_
      refine z_lcmp_le hx hb 31 d_M_force_23 d_M_force_24 (by omega) (by omega) (by decide) (fun c23 => ?_) (fun c23 => ?_)
      · refine z_ic hx hb d_M_force_31 ?_
        refine pM_M_thrown hc hw lk_M_60 d_M_force_32 (fun H locs hw => ?_)
        refine lv_aload_n hx hb d_M_force_35 rfl (lv_at hl 0 rfl) ?_
        refine gM_M_thrown hc hw lk_M_60 d_M_force_36 ?_
        simp only [up_s]
        refine z_if_ne hx hb 53 d_M_force_39 (by omega) (by decide) (fun c39 => ?_) (fun c39 => ?_)
        · exact absurd c39 (by omega)
        · refine lv_aload_n hx hb d_M_force_42 rfl (lv_at hl 0 rfl) ?_
          refine gM_M_forces hc hw lk_M_30 d_M_force_43 ?_
          refine lv_iload_n hx hb d_M_force_46 rfl (lv_at hl 1 rfl) ?_
          refine ldM_M_forces hc hw d_M_force_47 (by omega) ?_
          refine lv_lload_n hx hb d_M_force_48 rfl (lv_at hl 2 rfl) ?_
          refine z_lcmp_ne hx hb 55 d_M_force_49 d_M_force_50 (by first | (show r64 (μ 9 q); omega) | omega) (by first | (show r64 (μ 9 q); omega) | omega) (by decide) (fun c49 => ?_) (fun c49 => ?_)
          · refine lv_aload_n hx hb d_M_force_55 rfl (lv_at hl 0 rfl) ?_
            refine gM_M_forces hc hw lk_M_30 d_M_force_56 ?_
            refine lv_iload_n hx hb d_M_force_59 rfl (lv_at hl 1 rfl) ?_
            refine lv_lload_n hx hb d_M_force_60 rfl (lv_at hl 2 rfl) ?_
            refine stM_M_forces hc hw d_M_force_61 (by omega) (fun H locs hw => ?_)
            refine z_ic hx hb d_M_force_62 ?_
            exact w_zret hc hw (by omega) (by have g : mFoT μ q v = 0 := (by unfold mFoT; rw [if_neg (fun z => z c6), if_neg (by omega)]); have z : ¬ (mFoT μ q v ≠ 0 ∨ μ 9 q = v) := (fun w => w.elim (fun w => w g) c49); unfold mForce; rw [bI_t z, if_neg z, g]; exact ⟨rfl, rfl⟩) d_M_force_63
          · refine z_ic hx hb d_M_force_53 ?_
            exact w_zret hc hw (by omega) (by (first | (have g : mFoT μ q v = 1 := (by unfold mFoT; rw [if_pos c6])) | (have g : mFoT μ q v = 2 := (by unfold mFoT; rw [if_neg (fun z => z c6), if_pos (by omega)])) | (have g : mFoT μ q v = 0 := (by unfold mFoT; rw [if_neg (fun z => z c6), if_neg (by omega)]))); have z : mFoT μ q v ≠ 0 ∨ μ 9 q = v := (by first | (left; omega) | (right; exact c49)); unfold mForce; rw [bI_f (fun w => w z), if_pos z, g]; exact ⟨rfl, rfl⟩) d_M_force_54
      · refine z_ic hx hb d_M_force_27 ?_
        refine lv_goto (tgt := 32) hx hb d_M_force_28 (by decide) ?_
        refine pM_M_thrown hc hw lk_M_60 d_M_force_32 (fun H locs hw => ?_)
        refine lv_aload_n hx hb d_M_force_35 rfl (lv_at hl 0 rfl) ?_
        refine gM_M_thrown hc hw lk_M_60 d_M_force_36 ?_
        simp only [up_s]
        refine z_if_ne hx hb 53 d_M_force_39 (by omega) (by decide) (fun c39 => ?_) (fun c39 => ?_)
        · refine z_ic hx hb d_M_force_53 ?_
          exact w_zret hc hw (by omega) (by (first | (have g : mFoT μ q v = 1 := (by unfold mFoT; rw [if_pos c6])) | (have g : mFoT μ q v = 2 := (by unfold mFoT; rw [if_neg (fun z => z c6), if_pos (by omega)])) | (have g : mFoT μ q v = 0 := (by unfold mFoT; rw [if_neg (fun z => z c6), if_neg (by omega)]))); have z : mFoT μ q v ≠ 0 ∨ μ 9 q = v := (by first | (left; omega) | (right; exact c49)); unfold mForce; rw [bI_f (fun w => w z), if_pos z, g]; exact ⟨rfl, rfl⟩) d_M_force_54
        · exact absurd c39 (by omega)
  · refine z_ic hx hb d_M_force_9 ?_
    refine lv_goto (tgt := 32) hx hb d_M_force_10 (by decide) ?_
    refine pM_M_thrown hc hw lk_M_60 d_M_force_32 (fun H locs hw => ?_)
    refine lv_aload_n hx hb d_M_force_35 rfl (lv_at hl 0 rfl) ?_
    refine gM_M_thrown hc hw lk_M_60 d_M_force_36 ?_
    simp only [up_s]
    refine z_if_ne hx hb 53 d_M_force_39 (by omega) (by decide) (fun c39 => ?_) (fun c39 => ?_)
    · refine z_ic hx hb d_M_force_53 ?_
      exact w_zret hc hw (by omega) (by (first | (have g : mFoT μ q v = 1 := (by unfold mFoT; rw [if_pos c6])) | (have g : mFoT μ q v = 2 := (by unfold mFoT; rw [if_neg (fun z => z c6), if_pos (by omega)])) | (have g : mFoT μ q v = 0 := (by unfold mFoT; rw [if_neg (fun z => z c6), if_neg (by omega)]))); have z : mFoT μ q v ≠ 0 ∨ μ 9 q = v := (by first | (left; omega) | (right; exact c49)); unfold mForce; rw [bI_f (fun w => w z), if_pos z, g]; exact ⟨rfl, rfl⟩) d_M_force_54
    · exact absurd c39 (by omega)
