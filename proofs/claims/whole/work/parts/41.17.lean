set_option maxHeartbeats 400000 in
set_option maxRecDepth 100000 in
theorem k_M_point {l : Launch} {D : va_G} {ad : Nat → Nat} {ca : Nat → ClassId} (μ : St) (n x y r : Int) (hn : r32 n) (hx2 : r64 x) (hy2 : r64 y) (hr2 : r64 r) (hI : IMB μ) (hP5 : μ 5 0 < 36 ∨ (∀ i, 0 ≤ i → i < μ 1 0 → μ 3 i = 3)) : Cw l D cl7 (tyM ca) (wM ad ca) y_M_point c_M_point 9 (some .int) 1 [.ref (ad 100), .int (zI n), .long (zL x), .long (zL y), .long (zL r)] μ (RW (.int (zI (mPtR μ n x y r))) (mPoint μ n x y r = ·)) := by
  have h1 := hI.1
  have h5 := hI.2.1
  have h3 := hI.2.2.2.2.2.2.2.1 n
  refine Cw.enter (by decide) (Nat.le_of_ble_eq_true rfl) ?_
  intro A p e s m below meth c hc ls hl hw
  have hl : lv_has ls 9 [(0, .ref (ad 100)), (1, .int (zI n)), (2, .long (zL x)), (4, .long (zL y)), (6, .long (zL r))] := hl
  obtain ⟨hx, hb, hml, hown, hTB, hK, hr, hlk⟩ := id hc
  refine lv_lload_n hx hb d_M_point_0 rfl (lv_at hl 2 rfl) ?_
  refine w_csR hc hw (k_M_isPlace _ _ (by omega)) yw_M_isPlace yi_M_isPlace lk_M_74 d_M_point_1 rfl rfl hl.1 (Nat.le_of_ble_eq_true rfl) ⟨Nat.le_of_ble_eq_true rfl, Nat.le_of_ble_eq_true rfl⟩ ⟨Nat.zero_le _, Nat.zero_le _⟩ (fun τ1 H locs hτ1 hw => ?_)
  subst hτ1
  refine z_ifb_eq hx hb 35 d_M_point_4 (by decide) (fun c4 => ?_) (fun c4 => ?_)
  · refine z_ic hx hb d_M_point_35 ?_
    refine z_ist hx hb d_M_point_36 hl (by decide) (fun x8_36 ex8_36 ls (hl : lv_has ls 9 [(8, .int (zI x8_36)), (0, .ref (ad 100)), (1, .int (zI n)), (2, .long (zL x)), (4, .long (zL y)), (6, .long (zL r))]) => ?_)
    refine lv_aload_n hx hb d_M_point_38 rfl (lv_at hl 1 rfl) ?_
    refine lv_aload_n hx hb d_M_point_39 rfl (lv_at hl 1 rfl) ?_
    refine lv_iload_n hx hb d_M_point_40 rfl (lv_at hl 2 rfl) ?_
    refine w_cvR (q0 := 0) hc hw (k_M_isNet _ _ hn h1) yw_M_isNet yi_M_isNet lk_M_80 d_M_point_41 rfl rfl rfl rfl hl.1 (Nat.le_of_ble_eq_true rfl) ⟨Nat.le_of_ble_eq_true rfl, Nat.le_of_ble_eq_true rfl⟩ ⟨Nat.zero_le _, Nat.zero_le _⟩ (fun τ41 H locs hτ41 hw => ?_)
    subst hτ41
    refine z_ifb_ne hx hb 51 d_M_point_44 (by decide) (fun c44 => ?_) (fun c44 => ?_)
    · refine lv_iload hx hb d_M_point_51 (lv_at hl 0 rfl) ?_
      refine z_if_eq hx hb 60 d_M_point_53 (by omega) (by decide) (fun c53 => ?_) (fun c53 => ?_)
      · refine z_ic hx hb d_M_point_60 ?_
        refine pM_M_thrown hc hw lk_M_60 d_M_point_61 (fun H locs hw => ?_)
        refine lv_aload_n hx hb d_M_point_64 rfl (lv_at hl 1 rfl) ?_
        refine gM_M_thrown hc hw lk_M_60 d_M_point_65 ?_
        simp only [up_s]
        refine z_if_eq hx hb 73 d_M_point_68 (by omega) (by decide) (fun c68 => ?_) (fun c68 => ?_)
        · exact absurd c68 (by omega)
        · refine z_ic hx hb d_M_point_71 ?_
          exact w_iret hc hw (by (first | (have g : mPtT μ n x y r = 1 := (by unfold mPtT; rw [if_pos c44])) | (have g : mPtT μ n x y r = 2 := (by unfold mPtT; rw [if_neg (fun z => z c44), if_neg (by omega)]))); unfold mPtR mPoint; rw [if_pos (by omega), if_pos (by omega), g]; exact ⟨rfl, rfl⟩) d_M_point_72
      · exact absurd c53 (by omega)
    · refine z_ic hx hb d_M_point_47 ?_
      refine lv_goto (tgt := 61) hx hb d_M_point_48 (by decide) ?_
      refine pM_M_thrown hc hw lk_M_60 d_M_point_61 (fun H locs hw => ?_)
      refine lv_aload_n hx hb d_M_point_64 rfl (lv_at hl 1 rfl) ?_
      refine gM_M_thrown hc hw lk_M_60 d_M_point_65 ?_
      simp only [up_s]
      refine z_if_eq hx hb 73 d_M_point_68 (by omega) (by decide) (fun c68 => ?_) (fun c68 => ?_)
      · exact absurd c68 (by omega)
      · refine z_ic hx hb d_M_point_71 ?_
        exact w_iret hc hw (by (first | (have g : mPtT μ n x y r = 1 := (by unfold mPtT; rw [if_pos c44])) | (have g : mPtT μ n x y r = 2 := (by unfold mPtT; rw [if_neg (fun z => z c44), if_neg (by omega)]))); unfold mPtR mPoint; rw [if_pos (by omega), if_pos (by omega), g]; exact ⟨rfl, rfl⟩) d_M_point_72
  · refine lv_lload hx hb d_M_point_7 (lv_at hl 3 rfl) ?_
    refine w_csR hc hw (k_M_isPlace _ _ (by omega)) yw_M_isPlace yi_M_isPlace lk_M_74 d_M_point_9 rfl rfl hl.1 (Nat.le_of_ble_eq_true rfl) ⟨Nat.le_of_ble_eq_true rfl, Nat.le_of_ble_eq_true rfl⟩ ⟨Nat.zero_le _, Nat.zero_le _⟩ (fun τ9 H locs hτ9 hw => ?_)
    subst hτ9
    refine z_ifb_eq hx hb 35 d_M_point_12 (by decide) (fun c12 => ?_) (fun c12 => ?_)
    · refine z_ic hx hb d_M_point_35 ?_
      refine z_ist hx hb d_M_point_36 hl (by decide) (fun x8_36 ex8_36 ls (hl : lv_has ls 9 [(8, .int (zI x8_36)), (0, .ref (ad 100)), (1, .int (zI n)), (2, .long (zL x)), (4, .long (zL y)), (6, .long (zL r))]) => ?_)
      refine lv_aload_n hx hb d_M_point_38 rfl (lv_at hl 1 rfl) ?_
      refine lv_aload_n hx hb d_M_point_39 rfl (lv_at hl 1 rfl) ?_
      refine lv_iload_n hx hb d_M_point_40 rfl (lv_at hl 2 rfl) ?_
      refine w_cvR (q0 := 0) hc hw (k_M_isNet _ _ hn h1) yw_M_isNet yi_M_isNet lk_M_80 d_M_point_41 rfl rfl rfl rfl hl.1 (Nat.le_of_ble_eq_true rfl) ⟨Nat.le_of_ble_eq_true rfl, Nat.le_of_ble_eq_true rfl⟩ ⟨Nat.zero_le _, Nat.zero_le _⟩ (fun τ41 H locs hτ41 hw => ?_)
      subst hτ41
      refine z_ifb_ne hx hb 51 d_M_point_44 (by decide) (fun c44 => ?_) (fun c44 => ?_)
      · refine lv_iload hx hb d_M_point_51 (lv_at hl 0 rfl) ?_
        refine z_if_eq hx hb 60 d_M_point_53 (by omega) (by decide) (fun c53 => ?_) (fun c53 => ?_)
        · refine z_ic hx hb d_M_point_60 ?_
          refine pM_M_thrown hc hw lk_M_60 d_M_point_61 (fun H locs hw => ?_)
          refine lv_aload_n hx hb d_M_point_64 rfl (lv_at hl 1 rfl) ?_
          refine gM_M_thrown hc hw lk_M_60 d_M_point_65 ?_
          simp only [up_s]
          refine z_if_eq hx hb 73 d_M_point_68 (by omega) (by decide) (fun c68 => ?_) (fun c68 => ?_)
          · exact absurd c68 (by omega)
          · refine z_ic hx hb d_M_point_71 ?_
            exact w_iret hc hw (by (first | (have g : mPtT μ n x y r = 1 := (by unfold mPtT; rw [if_pos c44])) | (have g : mPtT μ n x y r = 2 := (by unfold mPtT; rw [if_neg (fun z => z c44), if_neg (by omega)]))); unfold mPtR mPoint; rw [if_pos (by omega), if_pos (by omega), g]; exact ⟨rfl, rfl⟩) d_M_point_72
        · exact absurd c53 (by omega)
      · refine z_ic hx hb d_M_point_47 ?_
        refine lv_goto (tgt := 61) hx hb d_M_point_48 (by decide) ?_
        refine pM_M_thrown hc hw lk_M_60 d_M_point_61 (fun H locs hw => ?_)
        refine lv_aload_n hx hb d_M_point_64 rfl (lv_at hl 1 rfl) ?_
        refine gM_M_thrown hc hw lk_M_60 d_M_point_65 ?_
        simp only [up_s]
        refine z_if_eq hx hb 73 d_M_point_68 (by omega) (by decide) (fun c68 => ?_) (fun c68 => ?_)
        · exact absurd c68 (by omega)
        · refine z_ic hx hb d_M_point_71 ?_
          exact w_iret hc hw (by (first | (have g : mPtT μ n x y r = 1 := (by unfold mPtT; rw [if_pos c44])) | (have g : mPtT μ n x y r = 2 := (by unfold mPtT; rw [if_neg (fun z => z c44), if_neg (by omega)]))); unfold mPtR mPoint; rw [if_pos (by omega), if_pos (by omega), g]; exact ⟨rfl, rfl⟩) d_M_point_72
    · refine lv_lload hx hb d_M_point_15 (lv_at hl 4 rfl) ?_
      refine z_lc1 hx hb d_M_point_17 ?_
      refine z_lcmp_lt hx hb 35 d_M_point_18 d_M_point_19 (by omega) (by omega) (by decide) (fun c18 => ?_) (fun c18 => ?_)
      · refine z_ic hx hb d_M_point_35 ?_
        refine z_ist hx hb d_M_point_36 hl (by decide) (fun x8_36 ex8_36 ls (hl : lv_has ls 9 [(8, .int (zI x8_36)), (0, .ref (ad 100)), (1, .int (zI n)), (2, .long (zL x)), (4, .long (zL y)), (6, .long (zL r))]) => ?_)
        refine lv_aload_n hx hb d_M_point_38 rfl (lv_at hl 1 rfl) ?_
        refine lv_aload_n hx hb d_M_point_39 rfl (lv_at hl 1 rfl) ?_
        refine lv_iload_n hx hb d_M_point_40 rfl (lv_at hl 2 rfl) ?_
        refine w_cvR (q0 := 0) hc hw (k_M_isNet _ _ hn h1) yw_M_isNet yi_M_isNet lk_M_80 d_M_point_41 rfl rfl rfl rfl hl.1 (Nat.le_of_ble_eq_true rfl) ⟨Nat.le_of_ble_eq_true rfl, Nat.le_of_ble_eq_true rfl⟩ ⟨Nat.zero_le _, Nat.zero_le _⟩ (fun τ41 H locs hτ41 hw => ?_)
        subst hτ41
        refine z_ifb_ne hx hb 51 d_M_point_44 (by decide) (fun c44 => ?_) (fun c44 => ?_)
        · refine lv_iload hx hb d_M_point_51 (lv_at hl 0 rfl) ?_
          refine z_if_eq hx hb 60 d_M_point_53 (by omega) (by decide) (fun c53 => ?_) (fun c53 => ?_)
          · refine z_ic hx hb d_M_point_60 ?_
            refine pM_M_thrown hc hw lk_M_60 d_M_point_61 (fun H locs hw => ?_)
            refine lv_aload_n hx hb d_M_point_64 rfl (lv_at hl 1 rfl) ?_
            refine gM_M_thrown hc hw lk_M_60 d_M_point_65 ?_
            simp only [up_s]
            refine z_if_eq hx hb 73 d_M_point_68 (by omega) (by decide) (fun c68 => ?_) (fun c68 => ?_)
            · exact absurd c68 (by omega)
            · refine z_ic hx hb d_M_point_71 ?_
              exact w_iret hc hw (by (first | (have g : mPtT μ n x y r = 1 := (by unfold mPtT; rw [if_pos c44])) | (have g : mPtT μ n x y r = 2 := (by unfold mPtT; rw [if_neg (fun z => z c44), if_neg (by omega)]))); unfold mPtR mPoint; rw [if_pos (by omega), if_pos (by omega), g]; exact ⟨rfl, rfl⟩) d_M_point_72
          · exact absurd c53 (by omega)
        · refine z_ic hx hb d_M_point_47 ?_
          refine lv_goto (tgt := 61) hx hb d_M_point_48 (by decide) ?_
          refine pM_M_thrown hc hw lk_M_60 d_M_point_61 (fun H locs hw => ?_)
          refine lv_aload_n hx hb d_M_point_64 rfl (lv_at hl 1 rfl) ?_
          refine gM_M_thrown hc hw lk_M_60 d_M_point_65 ?_
          simp only [up_s]
          refine z_if_eq hx hb 73 d_M_point_68 (by omega) (by decide) (fun c68 => ?_) (fun c68 => ?_)
          · exact absurd c68 (by omega)
          · refine z_ic hx hb d_M_point_71 ?_
            exact w_iret hc hw (by (first | (have g : mPtT μ n x y r = 1 := (by unfold mPtT; rw [if_pos c44])) | (have g : mPtT μ n x y r = 2 := (by unfold mPtT; rw [if_neg (fun z => z c44), if_neg (by omega)]))); unfold mPtR mPoint; rw [if_pos (by omega), if_pos (by omega), g]; exact ⟨rfl, rfl⟩) d_M_point_72
      · refine lv_lload hx hb d_M_point_22 (lv_at hl 4 rfl) ?_
        refine z_ldc2 (n := 100000) hc lk_M_78 d_M_point_24 (by decide) ?_
        refine z_lcmp_gt hx hb 35 d_M_point_27 d_M_point_28 (by omega) (by omega) (by decide) (fun c27 => ?_) (fun c27 => ?_)
        · refine z_ic hx hb d_M_point_35 ?_
          refine z_ist hx hb d_M_point_36 hl (by decide) (fun x8_36 ex8_36 ls (hl : lv_has ls 9 [(8, .int (zI x8_36)), (0, .ref (ad 100)), (1, .int (zI n)), (2, .long (zL x)), (4, .long (zL y)), (6, .long (zL r))]) => ?_)
          refine lv_aload_n hx hb d_M_point_38 rfl (lv_at hl 1 rfl) ?_
          refine lv_aload_n hx hb d_M_point_39 rfl (lv_at hl 1 rfl) ?_
          refine lv_iload_n hx hb d_M_point_40 rfl (lv_at hl 2 rfl) ?_
          refine w_cvR (q0 := 0) hc hw (k_M_isNet _ _ hn h1) yw_M_isNet yi_M_isNet lk_M_80 d_M_point_41 rfl rfl rfl rfl hl.1 (Nat.le_of_ble_eq_true rfl) ⟨Nat.le_of_ble_eq_true rfl, Nat.le_of_ble_eq_true rfl⟩ ⟨Nat.zero_le _, Nat.zero_le _⟩ (fun τ41 H locs hτ41 hw => ?_)
          subst hτ41
          refine z_ifb_ne hx hb 51 d_M_point_44 (by decide) (fun c44 => ?_) (fun c44 => ?_)
          · refine lv_iload hx hb d_M_point_51 (lv_at hl 0 rfl) ?_
            refine z_if_eq hx hb 60 d_M_point_53 (by omega) (by decide) (fun c53 => ?_) (fun c53 => ?_)
            · refine z_ic hx hb d_M_point_60 ?_
              refine pM_M_thrown hc hw lk_M_60 d_M_point_61 (fun H locs hw => ?_)
              refine lv_aload_n hx hb d_M_point_64 rfl (lv_at hl 1 rfl) ?_
              refine gM_M_thrown hc hw lk_M_60 d_M_point_65 ?_
              simp only [up_s]
              refine z_if_eq hx hb 73 d_M_point_68 (by omega) (by decide) (fun c68 => ?_) (fun c68 => ?_)
              · exact absurd c68 (by omega)
              · refine z_ic hx hb d_M_point_71 ?_
                exact w_iret hc hw (by (first | (have g : mPtT μ n x y r = 1 := (by unfold mPtT; rw [if_pos c44])) | (have g : mPtT μ n x y r = 2 := (by unfold mPtT; rw [if_neg (fun z => z c44), if_neg (by omega)]))); unfold mPtR mPoint; rw [if_pos (by omega), if_pos (by omega), g]; exact ⟨rfl, rfl⟩) d_M_point_72
            · exact absurd c53 (by omega)
          · refine z_ic hx hb d_M_point_47 ?_
            refine lv_goto (tgt := 61) hx hb d_M_point_48 (by decide) ?_
            refine pM_M_thrown hc hw lk_M_60 d_M_point_61 (fun H locs hw => ?_)
            refine lv_aload_n hx hb d_M_point_64 rfl (lv_at hl 1 rfl) ?_
            refine gM_M_thrown hc hw lk_M_60 d_M_point_65 ?_
            simp only [up_s]
            refine z_if_eq hx hb 73 d_M_point_68 (by omega) (by decide) (fun c68 => ?_) (fun c68 => ?_)
            · exact absurd c68 (by omega)
            · refine z_ic hx hb d_M_point_71 ?_
              exact w_iret hc hw (by (first | (have g : mPtT μ n x y r = 1 := (by unfold mPtT; rw [if_pos c44])) | (have g : mPtT μ n x y r = 2 := (by unfold mPtT; rw [if_neg (fun z => z c44), if_neg (by omega)]))); unfold mPtR mPoint; rw [if_pos (by omega), if_pos (by omega), g]; exact ⟨rfl, rfl⟩) d_M_point_72
        · refine z_ic hx hb d_M_point_31 ?_
          refine lv_goto (tgt := 36) hx hb d_M_point_32 (by decide) ?_
          refine z_ist hx hb d_M_point_36 hl (by decide) (fun x8_36 ex8_36 ls (hl : lv_has ls 9 [(8, .int (zI x8_36)), (0, .ref (ad 100)), (1, .int (zI n)), (2, .long (zL x)), (4, .long (zL y)), (6, .long (zL r))]) => ?_)
          refine lv_aload_n hx hb d_M_point_38 rfl (lv_at hl 1 rfl) ?_
          refine lv_aload_n hx hb d_M_point_39 rfl (lv_at hl 1 rfl) ?_
          refine lv_iload_n hx hb d_M_point_40 rfl (lv_at hl 2 rfl) ?_
          refine w_cvR (q0 := 0) hc hw (k_M_isNet _ _ hn h1) yw_M_isNet yi_M_isNet lk_M_80 d_M_point_41 rfl rfl rfl rfl hl.1 (Nat.le_of_ble_eq_true rfl) ⟨Nat.le_of_ble_eq_true rfl, Nat.le_of_ble_eq_true rfl⟩ ⟨Nat.zero_le _, Nat.zero_le _⟩ (fun τ41 H locs hτ41 hw => ?_)
          subst hτ41
          refine z_ifb_ne hx hb 51 d_M_point_44 (by decide) (fun c44 => ?_) (fun c44 => ?_)
          · refine lv_iload hx hb d_M_point_51 (lv_at hl 0 rfl) ?_
            refine z_if_eq hx hb 60 d_M_point_53 (by omega) (by decide) (fun c53 => ?_) (fun c53 => ?_)
            · exact absurd c53 (by omega)
            · refine z_ic hx hb d_M_point_56 ?_
              refine lv_goto (tgt := 61) hx hb d_M_point_57 (by decide) ?_
              refine pM_M_thrown hc hw lk_M_60 d_M_point_61 (fun H locs hw => ?_)
              refine lv_aload_n hx hb d_M_point_64 rfl (lv_at hl 1 rfl) ?_
              refine gM_M_thrown hc hw lk_M_60 d_M_point_65 ?_
              simp only [up_s]
              refine z_if_eq hx hb 73 d_M_point_68 (by omega) (by decide) (fun c68 => ?_) (fun c68 => ?_)
              · refine lv_aload_n hx hb d_M_point_73 rfl (lv_at hl 1 rfl) ?_
                refine gM_M_pointCount hc hw lk_M_13 d_M_point_74 ?_
                refine lv_iload_n hx hb d_M_point_77 rfl (lv_at hl 2 rfl) ?_
                have h5n : μ 3 n = 3 ∨ μ 5 0 < 36 := by rcases hP5 with q | q; exact Or.inr q; exact Or.inl (q n (by omega) (by omega))
                refine ldM_M_pointCount hc hw d_M_point_78 (by omega) ?_
                refine z_ic hx hb d_M_point_79 ?_
                refine z_icmp_ne hx hb 85 d_M_point_80 (by first | (show r32 (μ 3 n); omega) | omega) (by first | (show r32 (μ 3 n); omega) | omega) (by decide) (fun c80 => ?_) (fun c80 => ?_)
                · refine lv_aload_n hx hb d_M_point_85 rfl (lv_at hl 1 rfl) ?_
                  refine gM_M_x hc hw lk_M_20 d_M_point_86 ?_
                  refine lv_aload_n hx hb d_M_point_89 rfl (lv_at hl 1 rfl) ?_
                  refine gM_M_points hc hw lk_M_67 d_M_point_90 ?_
                  refine lv_lload_n hx hb d_M_point_93 rfl (lv_at hl 3 rfl) ?_
                  refine stM_M_x hc hw d_M_point_94 (by show 0 ≤ μ 5 0 ∧ μ 5 0 < 36; have c8 : ¬ μ 3 n = 3 := c80; omega) (fun H locs hw => ?_)
                  refine lv_aload_n hx hb d_M_point_95 rfl (lv_at hl 1 rfl) ?_
                  refine gM_M_y hc hw lk_M_24 d_M_point_96 ?_
                  refine lv_aload_n hx hb d_M_point_99 rfl (lv_at hl 1 rfl) ?_
                  refine gM_M_points hc hw lk_M_67 d_M_point_100 ?_
                  refine lv_lload hx hb d_M_point_103 (lv_at hl 4 rfl) ?_
                  refine stM_M_y hc hw d_M_point_105 (by show 0 ≤ μ 5 0 ∧ μ 5 0 < 36; have c8 : ¬ μ 3 n = 3 := c80; omega) (fun H locs hw => ?_)
                  refine lv_aload_n hx hb d_M_point_106 rfl (lv_at hl 1 rfl) ?_
                  refine gM_M_radius hc hw lk_M_27 d_M_point_107 ?_
                  refine lv_aload_n hx hb d_M_point_110 rfl (lv_at hl 1 rfl) ?_
                  refine gM_M_points hc hw lk_M_67 d_M_point_111 ?_
                  refine lv_lload hx hb d_M_point_114 (lv_at hl 5 rfl) ?_
                  refine stM_M_radius hc hw d_M_point_116 (by show 0 ≤ μ 5 0 ∧ μ 5 0 < 36; have c8 : ¬ μ 3 n = 3 := c80; omega) (fun H locs hw => ?_)
                  refine lv_aload_n hx hb d_M_point_117 rfl (lv_at hl 1 rfl) ?_
                  refine gM_M_pointsOf hc hw lk_M_17 d_M_point_118 ?_
                  refine z_ic hx hb d_M_point_121 ?_
                  refine lv_iload_n hx hb d_M_point_122 rfl (lv_at hl 2 rfl) ?_
                  refine z_imul hx hb d_M_point_123 ?_
                  refine lv_aload_n hx hb d_M_point_124 rfl (lv_at hl 1 rfl) ?_
                  refine gM_M_pointCount hc hw lk_M_13 d_M_point_125 ?_
                  refine lv_iload_n hx hb d_M_point_128 rfl (lv_at hl 2 rfl) ?_
                  refine ldM_M_pointCount hc hw d_M_point_129 (by omega) ?_
                  refine z_iadd hx hb d_M_point_130 ?_
                  refine lv_aload_n hx hb d_M_point_131 rfl (lv_at hl 1 rfl) ?_
                  refine gM_M_points hc hw lk_M_67 d_M_point_132 ?_
                  refine stM_M_pointsOf hc hw d_M_point_135 (by show 0 ≤ 3 * n + μ 3 n ∧ 3 * n + μ 3 n < 36; have c8 : ¬ μ 3 n = 3 := c80; omega) (fun H locs hw => ?_)
                  refine lv_aload_n hx hb d_M_point_136 rfl (lv_at hl 1 rfl) ?_
                  refine gM_M_pointCount hc hw lk_M_13 d_M_point_137 ?_
                  refine lv_iload_n hx hb d_M_point_140 rfl (lv_at hl 2 rfl) ?_
                  refine lv_dup2_11 hx hb d_M_point_141 rfl rfl ?_
                  refine ldM_M_pointCount hc hw d_M_point_142 (by omega) ?_
                  refine z_ic hx hb d_M_point_143 ?_
                  refine z_iadd hx hb d_M_point_144 ?_
                  refine stM_M_pointCount hc hw d_M_point_145 (by omega) (fun H locs hw => ?_)
                  refine lv_aload_n hx hb d_M_point_146 rfl (lv_at hl 1 rfl) ?_
                  refine lv_dup hx hb d_M_point_147 rfl ?_
                  refine gM_M_points hc hw lk_M_67 d_M_point_148 ?_
                  refine z_ic hx hb d_M_point_151 ?_
                  refine z_iadd hx hb d_M_point_152 ?_
                  refine pM_M_points hc hw lk_M_67 d_M_point_153 (fun H locs hw => ?_)
                  refine lv_aload_n hx hb d_M_point_156 rfl (lv_at hl 1 rfl) ?_
                  refine gM_M_points hc hw lk_M_67 d_M_point_157 ?_
                  refine z_ic hx hb d_M_point_160 ?_
                  refine z_isub hx hb d_M_point_161 ?_
                  exact w_iret hc hw (by have g : mPtT μ n x y r = 0 := (by unfold mPtT; rw [if_neg (fun z => z c44), if_pos (by omega)]); have c8 : ¬ μ 3 n = 3 := c80; unfold mPtR mPoint; rw [if_neg (by omega), if_neg (by omega), if_neg c8, if_neg c8]; exact ⟨by congr 3; show μ 5 0 + 1 - 1 = μ 5 0; omega, rfl⟩) d_M_point_162
                · refine z_ic hx hb d_M_point_83 ?_
                  exact w_iret hc hw (by have g : mPtT μ n x y r = 0 := (by unfold mPtT; rw [if_neg (fun z => z c44), if_pos (by omega)]); have c8 : μ 3 n = 3 := c80; unfold mPtR mPoint; rw [if_neg (by omega), if_neg (by omega), if_pos c8, if_pos c8]; exact ⟨rfl, rfl⟩) d_M_point_84
              · exact absurd c68 (by omega)
          · refine z_ic hx hb d_M_point_47 ?_
            refine lv_goto (tgt := 61) hx hb d_M_point_48 (by decide) ?_
            refine pM_M_thrown hc hw lk_M_60 d_M_point_61 (fun H locs hw => ?_)
            refine lv_aload_n hx hb d_M_point_64 rfl (lv_at hl 1 rfl) ?_
            refine gM_M_thrown hc hw lk_M_60 d_M_point_65 ?_
            simp only [up_s]
            refine z_if_eq hx hb 73 d_M_point_68 (by omega) (by decide) (fun c68 => ?_) (fun c68 => ?_)
            · exact absurd c68 (by omega)
            · refine z_ic hx hb d_M_point_71 ?_
              exact w_iret hc hw (by (first | (have g : mPtT μ n x y r = 1 := (by unfold mPtT; rw [if_pos c44])) | (have g : mPtT μ n x y r = 2 := (by unfold mPtT; rw [if_neg (fun z => z c44), if_neg (by omega)]))); unfold mPtR mPoint; rw [if_pos (by omega), if_pos (by omega), g]; exact ⟨rfl, rfl⟩) d_M_point_72
