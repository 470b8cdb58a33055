set_option maxHeartbeats 400000 in
set_option maxRecDepth 100000 in
theorem k_M_thrown {l : Launch} {D : va_G} {ad : Nat → Nat} {ca : Nat → ClassId} (μ : St) : Cw l D cl7 (tyM ca) (wM ad ca) y_M_thrown c_M_thrown 1 (some .int) 0 [.ref (ad 100)] μ (RW (.int (zI (μ 0 0))) (μ = ·)) := by
  refine Cw.enter (by decide) (Nat.le_of_ble_eq_true rfl) ?_
  intro A p e s m below meth c hc ls hl hw
  have hl : lv_has ls 1 [(0, .ref (ad 100))] := hl
  obtain ⟨hx, hb, hml, hown, hTB, hK, hr, hlk⟩ := id hc
  refine lv_aload_n hx hb d_M_thrown_0 rfl (lv_at hl 0 rfl) ?_
  refine gM_M_thrown hc hw lk_M_60 d_M_thrown_1 ?_
  exact w_iret hc hw (⟨rfl, rfl⟩) d_M_thrown_4
set_option maxHeartbeats 400000 in
set_option maxRecDepth 100000 in
theorem k_M_isNet {l : Launch} {D : va_G} {ad : Nat → Nat} {ca : Nat → ClassId} (μ : St) (a : Int) (ha : r32 a) (hI : 0 ≤ μ 1 0 ∧ μ 1 0 ≤ 12) : Cw l D cl7 (tyM ca) (wM ad ca) y_M_isNet c_M_isNet 2 (some .boolean) 0 [.ref (ad 100), .int (zI a)] μ (RW (.int (zI (bI (0 ≤ a ∧ a < μ 1 0)))) (μ = ·)) := by
  refine Cw.enter (by decide) (Nat.le_of_ble_eq_true rfl) ?_
  intro A p e s m below meth c hc ls hl hw
  have hl : lv_has ls 2 [(0, .ref (ad 100)), (1, .int (zI a))] := hl
  obtain ⟨hx, hb, hml, hown, hTB, hK, hr, hlk⟩ := id hc
  refine lv_iload_n hx hb d_M_isNet_0 rfl (lv_at hl 1 rfl) ?_
  refine z_if_lt hx hb 16 d_M_isNet_1 (by omega) (by decide) (fun c1 => ?_) (fun c1 => ?_)
  · refine z_ic hx hb d_M_isNet_16 ?_
    exact w_zret hc hw (by omega) (⟨by first | (exfalso; omega) | rw [bI_t (by omega)] | rw [bI_f (by omega)], rfl⟩) d_M_isNet_17
  · refine lv_iload_n hx hb d_M_isNet_4 rfl (lv_at hl 1 rfl) ?_
    refine lv_aload_n hx hb d_M_isNet_5 rfl (lv_at hl 0 rfl) ?_
    refine gM_M_nets hc hw lk_M_64 d_M_isNet_6 ?_
    refine z_icmp_ge hx hb 16 d_M_isNet_9 (by omega) (by omega) (by decide) (fun c9 => ?_) (fun c9 => ?_)
    · refine z_ic hx hb d_M_isNet_16 ?_
      exact w_zret hc hw (by omega) (⟨by first | (exfalso; omega) | rw [bI_t (by omega)] | rw [bI_f (by omega)], rfl⟩) d_M_isNet_17
    · refine z_ic hx hb d_M_isNet_12 ?_
      refine lv_goto (tgt := 17) hx hb d_M_isNet_13 (by decide) ?_
      exact w_zret hc hw (by omega) (⟨by first | (exfalso; omega) | rw [bI_t (by omega)] | rw [bI_f (by omega)], rfl⟩) d_M_isNet_17
set_option maxHeartbeats 400000 in
set_option maxRecDepth 100000 in
theorem k_M_isPoint {l : Launch} {D : va_G} {ad : Nat → Nat} {ca : Nat → ClassId} (μ : St) (a : Int) (ha : r32 a) (hI : 0 ≤ μ 5 0 ∧ μ 5 0 ≤ 36) : Cw l D cl7 (tyM ca) (wM ad ca) y_M_isPoint c_M_isPoint 2 (some .boolean) 0 [.ref (ad 100), .int (zI a)] μ (RW (.int (zI (bI (0 ≤ a ∧ a < μ 5 0)))) (μ = ·)) := by
  refine Cw.enter (by decide) (Nat.le_of_ble_eq_true rfl) ?_
  intro A p e s m below meth c hc ls hl hw
  have hl : lv_has ls 2 [(0, .ref (ad 100)), (1, .int (zI a))] := hl
  obtain ⟨hx, hb, hml, hown, hTB, hK, hr, hlk⟩ := id hc
  refine lv_iload_n hx hb d_M_isPoint_0 rfl (lv_at hl 1 rfl) ?_
  refine z_if_lt hx hb 16 d_M_isPoint_1 (by omega) (by decide) (fun c1 => ?_) (fun c1 => ?_)
  · refine z_ic hx hb d_M_isPoint_16 ?_
    exact w_zret hc hw (by omega) (⟨by first | (exfalso; omega) | rw [bI_t (by omega)] | rw [bI_f (by omega)], rfl⟩) d_M_isPoint_17
  · refine lv_iload_n hx hb d_M_isPoint_4 rfl (lv_at hl 1 rfl) ?_
    refine lv_aload_n hx hb d_M_isPoint_5 rfl (lv_at hl 0 rfl) ?_
    refine gM_M_points hc hw lk_M_67 d_M_isPoint_6 ?_
    refine z_icmp_ge hx hb 16 d_M_isPoint_9 (by omega) (by omega) (by decide) (fun c9 => ?_) (fun c9 => ?_)
    · refine z_ic hx hb d_M_isPoint_16 ?_
      exact w_zret hc hw (by omega) (⟨by first | (exfalso; omega) | rw [bI_t (by omega)] | rw [bI_f (by omega)], rfl⟩) d_M_isPoint_17
    · refine z_ic hx hb d_M_isPoint_12 ?_
      refine lv_goto (tgt := 17) hx hb d_M_isPoint_13 (by decide) ?_
      exact w_zret hc hw (by omega) (⟨by first | (exfalso; omega) | rw [bI_t (by omega)] | rw [bI_f (by omega)], rfl⟩) d_M_isPoint_17
set_option maxHeartbeats 400000 in
set_option maxRecDepth 100000 in
theorem k_M_isPlace {l : Launch} {D : va_G} {ad : Nat → Nat} {ca : Nat → ClassId} (μ : St) (v : Int) (hv : r64 v) : Cw l D cl7 (tyM ca) (wM ad ca) y_M_isPlace c_M_isPlace 2 (some .boolean) 0 [.long (zL v)] μ (RW (.int (zI (bI (-1000000 ≤ v ∧ v ≤ 1000000)))) (μ = ·)) := by
  refine Cw.enter (by decide) (Nat.le_of_ble_eq_true rfl) ?_
  intro A p e s m below meth c hc ls hl hw
  have hl : lv_has ls 2 [(0, .long (zL v))] := hl
  obtain ⟨hx, hb, hml, hown, hTB, hK, hr, hlk⟩ := id hc
  refine lv_lload_n hx hb d_M_isPlace_0 rfl (lv_at hl 0 rfl) ?_
  refine z_ldc2 (n := -1000000) hc lk_M_70 d_M_isPlace_1 (by decide) ?_
  refine z_lcmp_lt hx hb 20 d_M_isPlace_4 d_M_isPlace_5 (by omega) (by omega) (by decide) (fun c4 => ?_) (fun c4 => ?_)
  · refine z_ic hx hb d_M_isPlace_20 ?_
    exact w_zret hc hw (by omega) (⟨by first | (exfalso; omega) | rw [bI_t (by omega)] | rw [bI_f (by omega)], rfl⟩) d_M_isPlace_21
  · refine lv_lload_n hx hb d_M_isPlace_8 rfl (lv_at hl 0 rfl) ?_
    refine z_ldc2 (n := 1000000) hc lk_M_72 d_M_isPlace_9 (by decide) ?_
    refine z_lcmp_gt hx hb 20 d_M_isPlace_12 d_M_isPlace_13 (by omega) (by omega) (by decide) (fun c12 => ?_) (fun c12 => ?_)
    · refine z_ic hx hb d_M_isPlace_20 ?_
      exact w_zret hc hw (by omega) (⟨by first | (exfalso; omega) | rw [bI_t (by omega)] | rw [bI_f (by omega)], rfl⟩) d_M_isPlace_21
    · refine z_ic hx hb d_M_isPlace_16 ?_
      refine lv_goto (tgt := 21) hx hb d_M_isPlace_17 (by decide) ?_
      exact w_zret hc hw (by omega) (⟨by first | (exfalso; omega) | rw [bI_t (by omega)] | rw [bI_f (by omega)], rfl⟩) d_M_isPlace_21
set_option maxHeartbeats 400000 in
set_option maxRecDepth 100000 in
theorem k_M_size {l : Launch} {D : va_G} {ad : Nat → Nat} {ca : Nat → ClassId} (μ : St) (v : Int) (hv : r64 v) : Cw l D cl7 (tyM ca) (wM ad ca) y_M_size c_M_size 2 (some .long) 0 [.long (zL v)] μ (RW (.long (zL ((v.natAbs : Nat) : Int))) (μ = ·)) := by
  refine Cw.enter (by decide) (Nat.le_of_ble_eq_true rfl) ?_
  intro A p e s m below meth c hc ls hl hw
  have hl : lv_has ls 2 [(0, .long (zL v))] := hl
  obtain ⟨hx, hb, hml, hown, hTB, hK, hr, hlk⟩ := id hc
  refine lv_lload_n hx hb d_M_size_0 rfl (lv_at hl 0 rfl) ?_
  refine z_lc0 hx hb d_M_size_1 ?_
  refine z_lcmp_ge hx hb 12 d_M_size_2 d_M_size_3 (by omega) (by omega) (by decide) (fun c2 => ?_) (fun c2 => ?_)
  · refine lv_lload_n hx hb d_M_size_12 rfl (lv_at hl 0 rfl) ?_
    exact w_lret hc hw (⟨by congr 3; omega, rfl⟩) d_M_size_13
  · refine z_lc0 hx hb d_M_size_6 ?_
    refine lv_lload_n hx hb d_M_size_7 rfl (lv_at hl 0 rfl) ?_
    refine z_lsub hx hb d_M_size_8 ?_
    refine lv_goto (tgt := 13) hx hb d_M_size_9 (by decide) ?_
    exact w_lret hc hw (⟨by congr 3; omega, rfl⟩) d_M_size_13
set_option maxHeartbeats 400000 in
set_option maxRecDepth 100000 in
theorem k_M_pairOf {l : Launch} {D : va_G} {ad : Nat → Nat} {ca : Nat → ClassId} (μ : St) (a b : Int) (ha : r32 a) (hb2 : r32 b) : Cw l D cl7 (tyM ca) (wM ad ca) y_M_pairOf c_M_pairOf 2 (some .int) 0 [.int (zI a), .int (zI b)] μ (RW (.int (zI (mPr a b))) (μ = ·)) := by
  refine Cw.enter (by decide) (Nat.le_of_ble_eq_true rfl) ?_
  intro A p e s m below meth c hc ls hl hw
  have hl : lv_has ls 2 [(0, .int (zI a)), (1, .int (zI b))] := hl
  obtain ⟨hx, hb, hml, hown, hTB, hK, hr, hlk⟩ := id hc
  refine lv_iload_n hx hb d_M_pairOf_0 rfl (lv_at hl 0 rfl) ?_
  refine lv_iload_n hx hb d_M_pairOf_1 rfl (lv_at hl 1 rfl) ?_
  refine z_icmp_ge hx hb 14 d_M_pairOf_2 (by omega) (by omega) (by decide) (fun c2 => ?_) (fun c2 => ?_)
  · refine z_bi hx hb d_M_pairOf_14 (by decide) ?_
    refine lv_iload_n hx hb d_M_pairOf_16 rfl (lv_at hl 1 rfl) ?_
    refine z_imul hx hb d_M_pairOf_17 ?_
    refine lv_iload_n hx hb d_M_pairOf_18 rfl (lv_at hl 0 rfl) ?_
    refine z_iadd hx hb d_M_pairOf_19 ?_
    exact w_iret hc hw (⟨by unfold mPr; first | rw [if_pos (by omega)] | rw [if_neg (by omega)], rfl⟩) d_M_pairOf_20
  · refine z_bi hx hb d_M_pairOf_5 (by decide) ?_
    refine lv_iload_n hx hb d_M_pairOf_7 rfl (lv_at hl 0 rfl) ?_
    refine z_imul hx hb d_M_pairOf_8 ?_
    refine lv_iload_n hx hb d_M_pairOf_9 rfl (lv_at hl 1 rfl) ?_
    refine z_iadd hx hb d_M_pairOf_10 ?_
    refine lv_goto (tgt := 20) hx hb d_M_pairOf_11 (by decide) ?_
    exact w_iret hc hw (⟨by unfold mPr; first | rw [if_pos (by omega)] | rw [if_neg (by omega)], rfl⟩) d_M_pairOf_20
set_option maxHeartbeats 400000 in
set_option maxRecDepth 100000 in
theorem k_M_net {l : Launch} {D : va_G} {ad : Nat → Nat} {ca : Nat → ClassId} (μ : St) (b : Int) (hb2 : b = 0 ∨ b = 1) (hI : 0 ≤ μ 1 0 ∧ μ 1 0 ≤ 12) : Cw l D cl7 (tyM ca) (wM ad ca) y_M_net c_M_net 2 (some .int) 0 [.ref (ad 100), .int (zI b)] μ (RW (.int (zI (if μ 1 0 = 12 then -1 else μ 1 0))) (mNet μ b = ·)) := by
  have e1 : up μ 0 0 0 1 0 = μ 1 0 := up_o _ _ _ _ (by decide)
  refine Cw.enter (by decide) (Nat.le_of_ble_eq_true rfl) ?_
  intro A p e s m below meth c hc ls hl hw
  have hl : lv_has ls 2 [(0, .ref (ad 100)), (1, .int (zI b))] := hl
  obtain ⟨hx, hb, hml, hown, hTB, hK, hr, hlk⟩ := id hc
  refine lv_aload_n hx hb d_M_net_0 rfl (lv_at hl 0 rfl) ?_
  refine z_ic hx hb d_M_net_1 ?_
  refine pM_M_thrown hc hw lk_M_60 d_M_net_2 (fun H locs hw => ?_)
  refine lv_aload_n hx hb d_M_net_5 rfl (lv_at hl 0 rfl) ?_
  refine gM_M_nets hc hw lk_M_64 d_M_net_6 ?_
  refine z_bi hx hb d_M_net_9 (by decide) ?_
  refine z_icmp_ne hx hb 16 d_M_net_11 (by omega) (by omega) (by decide) (fun c11 => ?_) (fun c11 => ?_)
  · refine lv_aload_n hx hb d_M_net_16 rfl (lv_at hl 0 rfl) ?_
    refine gM_M_must hc hw lk_M_7 d_M_net_17 ?_
    refine lv_aload_n hx hb d_M_net_20 rfl (lv_at hl 0 rfl) ?_
    refine gM_M_nets hc hw lk_M_64 d_M_net_21 ?_
    refine lv_iload_n hx hb d_M_net_24 rfl (lv_at hl 1 rfl) ?_
    refine stM_M_must hc hw d_M_net_25 (by show 0 ≤ up μ 0 0 0 1 0 ∧ up μ 0 0 0 1 0 < 12; omega) (by omega) (fun H locs hw => ?_)
    refine lv_aload_n hx hb d_M_net_26 rfl (lv_at hl 0 rfl) ?_
    refine lv_dup hx hb d_M_net_27 rfl ?_
    refine gM_M_nets hc hw lk_M_64 d_M_net_28 ?_
    refine z_ic hx hb d_M_net_31 ?_
    refine z_iadd hx hb d_M_net_32 ?_
    refine pM_M_nets hc hw lk_M_64 d_M_net_33 (fun H locs hw => ?_)
    refine lv_aload_n hx hb d_M_net_36 rfl (lv_at hl 0 rfl) ?_
    refine gM_M_nets hc hw lk_M_64 d_M_net_37 ?_
    refine z_ic hx hb d_M_net_40 ?_
    refine z_isub hx hb d_M_net_41 ?_
    exact w_iret hc hw (by unfold mNet; rw [if_neg (by omega), if_neg (by omega)]; exact ⟨by congr 3; show _ + 1 - 1 = _; show up μ 0 0 0 1 0 + 1 - 1 = μ 1 0; omega, rfl⟩) d_M_net_42
  · refine z_ic hx hb d_M_net_14 ?_
    exact w_iret hc hw (by unfold mNet; rw [if_pos (by omega), if_pos (by omega)]; exact ⟨rfl, rfl⟩) d_M_net_15
set_option maxHeartbeats 400000 in
set_option maxRecDepth 100000 in
theorem k_M_gap {l : Launch} {D : va_G} {ad : Nat → Nat} {ca : Nat → ClassId} (μ : St) (v : Int) (hv : r64 v) (hI : 0 ≤ μ 10 0 ∧ μ 10 0 ≤ 1000000) : Cw l D cl7 (tyM ca) (wM ad ca) y_M_gap c_M_gap 3 (some .boolean) 0 [.ref (ad 100), .long (zL v)] μ (RW (.int (zI (bI (¬ (mGapT v ≠ 0 ∨ μ 10 0 = v))))) (mGap μ v = ·)) := by
  have e10 : ∀ w, up μ 0 0 w 10 0 = μ 10 0 := fun w => up_o _ _ _ _ (by decide)
  refine Cw.enter (by decide) (Nat.le_of_ble_eq_true rfl) ?_
  intro A p e s m below meth c hc ls hl hw
  have hl : lv_has ls 3 [(0, .ref (ad 100)), (1, .long (zL v))] := hl
  obtain ⟨hx, hb, hml, hown, hTB, hK, hr, hlk⟩ := id hc
  refine lv_aload_n hx hb d_M_gap_0 rfl (lv_at hl 0 rfl) ?_
  refine lv_lload_n hx hb d_M_gap_1 rfl (lv_at hl 1 rfl) ?_
  refine z_lc0 hx hb d_M_gap_2 ?_
  refine z_lcmp_lt hx hb 15 d_M_gap_3 d_M_gap_4 (by omega) (by omega) (by decide) (fun c3 => ?_) (fun c3 => ?_)
  · refine z_ic hx hb d_M_gap_15 ?_
    refine lv_goto (tgt := 20) hx hb d_M_gap_16 (by decide) ?_
    refine pM_M_thrown hc hw lk_M_60 d_M_gap_20 (fun H locs hw => ?_)
    refine lv_aload_n hx hb d_M_gap_23 rfl (lv_at hl 0 rfl) ?_
    refine gM_M_thrown hc hw lk_M_60 d_M_gap_24 ?_
    simp only [up_s]
    refine z_if_ne hx hb 39 d_M_gap_27 (by omega) (by decide) (fun c27 => ?_) (fun c27 => ?_)
    · refine z_ic hx hb d_M_gap_39 ?_
      exact w_zret hc hw (by omega) (by (first | (have g : mGapT v = 1 := (by unfold mGapT; rw [if_pos (by omega)])) | (have g : mGapT v = 0 := (by unfold mGapT; rw [if_neg (by omega)]))); have z : mGapT v ≠ 0 ∨ μ 10 0 = v := (by first | (left; omega) | (right; exact c35)); unfold mGap; rw [bI_f (fun q => q z), if_pos z, g]; exact ⟨rfl, rfl⟩) d_M_gap_40
    · exact absurd c27 (by omega)
  · refine lv_lload_n hx hb d_M_gap_7 rfl (lv_at hl 1 rfl) ?_
    refine z_ldc2 (n := 1000000) hc lk_M_72 d_M_gap_8 (by decide) ?_
    refine z_lcmp_le hx hb 19 d_M_gap_11 d_M_gap_12 (by omega) (by omega) (by decide) (fun c11 => ?_) (fun c11 => ?_)
    · refine z_ic hx hb d_M_gap_19 ?_
      refine pM_M_thrown hc hw lk_M_60 d_M_gap_20 (fun H locs hw => ?_)
      refine lv_aload_n hx hb d_M_gap_23 rfl (lv_at hl 0 rfl) ?_
      refine gM_M_thrown hc hw lk_M_60 d_M_gap_24 ?_
      simp only [up_s]
      refine z_if_ne hx hb 39 d_M_gap_27 (by omega) (by decide) (fun c27 => ?_) (fun c27 => ?_)
      · exact absurd c27 (by omega)
      · refine lv_aload_n hx hb d_M_gap_30 rfl (lv_at hl 0 rfl) ?_
        refine gM_M_gap hc hw lk_M_84 d_M_gap_31 ?_
        refine lv_lload_n hx hb d_M_gap_34 rfl (lv_at hl 1 rfl) ?_
        refine z_lcmp_ne hx hb 41 d_M_gap_35 d_M_gap_36 (by first | (show r64 (μ 10 0); omega) | omega) (by first | (show r64 (μ 10 0); omega) | omega) (by decide) (fun c35 => ?_) (fun c35 => ?_)
        · refine lv_aload_n hx hb d_M_gap_41 rfl (lv_at hl 0 rfl) ?_
          refine lv_lload_n hx hb d_M_gap_42 rfl (lv_at hl 1 rfl) ?_
          refine pM_M_gap hc hw lk_M_84 d_M_gap_43 (fun H locs hw => ?_)
          refine z_ic hx hb d_M_gap_46 ?_
          exact w_zret hc hw (by omega) (by have g : mGapT v = 0 := (by unfold mGapT; rw [if_neg (by omega)]); have z : ¬ (mGapT v ≠ 0 ∨ μ 10 0 = v) := (fun q => q.elim (fun q => q g) c35); unfold mGap; rw [bI_t z, if_neg z, g]; exact ⟨rfl, rfl⟩) d_M_gap_47
        · refine z_ic hx hb d_M_gap_39 ?_
          exact w_zret hc hw (by omega) (by (first | (have g : mGapT v = 1 := (by unfold mGapT; rw [if_pos (by omega)])) | (have g : mGapT v = 0 := (by unfold mGapT; rw [if_neg (by omega)]))); have z : mGapT v ≠ 0 ∨ μ 10 0 = v := (by first | (left; omega) | (right; exact c35)); unfold mGap; rw [bI_f (fun q => q z), if_pos z, g]; exact ⟨rfl, rfl⟩) d_M_gap_40
    · refine z_ic hx hb d_M_gap_15 ?_
      refine lv_goto (tgt := 20) hx hb d_M_gap_16 (by decide) ?_
      refine pM_M_thrown hc hw lk_M_60 d_M_gap_20 (fun H locs hw => ?_)
      refine lv_aload_n hx hb d_M_gap_23 rfl (lv_at hl 0 rfl) ?_
      refine gM_M_thrown hc hw lk_M_60 d_M_gap_24 ?_
      simp only [up_s]
      refine z_if_ne hx hb 39 d_M_gap_27 (by omega) (by decide) (fun c27 => ?_) (fun c27 => ?_)
      · refine z_ic hx hb d_M_gap_39 ?_
        exact w_zret hc hw (by omega) (by (first | (have g : mGapT v = 1 := (by unfold mGapT; rw [if_pos (by omega)])) | (have g : mGapT v = 0 := (by unfold mGapT; rw [if_neg (by omega)]))); have z : mGapT v ≠ 0 ∨ μ 10 0 = v := (by first | (left; omega) | (right; exact c35)); unfold mGap; rw [bI_f (fun q => q z), if_pos z, g]; exact ⟨rfl, rfl⟩) d_M_gap_40
      · exact absurd c27 (by omega)
set_option maxHeartbeats 400000 in
set_option maxRecDepth 100000 in
theorem k_M_force {l : Launch} {D : va_G} {ad : Nat → Nat} {ca : Nat → ClassId} (μ : St) (q v : Int) (hq : r32 q) (hv : r64 v) (hI : IMB μ) : Cw l D cl7 (tyM ca) (wM ad ca) y_M_force c_M_force 4 (some .boolean) 1 [.ref (ad 100), .int (zI q), .long (zL v)] μ (RW (.int (zI (bI (¬ (mFoT μ q v ≠ 0 ∨ μ 9 q = v))))) (mForce μ q v = ·)) := by
  have h5 := hI.2.1
  have h9 := hI.2.2.2.2.2.2.1 q
  refine Cw.enter (by decide) (Nat.le_of_ble_eq_true rfl) ?_
  intro A p e s m below meth c hc ls hl hw
  have hl : lv_has ls 4 [(0, .ref (ad 100)), (1, .int (zI q)), (2, .long (zL v))] := hl
  obtain ⟨hx, hb, hml, hown, hTB, hK, hr, hlk⟩ := id hc
  refine lv_aload_n hx hb d_M_force_0 rfl (lv_at hl 0 rfl) ?_
  refine lv_aload_n hx hb d_M_force_1 rfl (lv_at hl 0 rfl) ?_
  refine lv_iload_n hx hb d_M_force_2 rfl (lv_at hl 1 rfl) ?_
  refine w_cvR (q0 := 0) hc hw (k_M_isPoint _ _ hq h5) yw_M_isPoint yi_M_isPoint lk_M_88 d_M_force_3 rfl rfl rfl rfl hl.1 (Nat.le_of_ble_eq_true rfl) ⟨Nat.le_of_ble_eq_true rfl, Nat.le_of_ble_eq_true rfl⟩ ⟨Nat.zero_le _, Nat.zero_le _⟩ (fun τ3 H locs hτ3 hw => ?_)
  subst hτ3
  refine z_ifb_ne hx hb 13 d_M_force_6 (by decide) (fun c6 => ?_) (fun c6 => ?_)
  · refine lv_lload_n hx hb d_M_force_13 rfl (lv_at hl 2 rfl) ?_
    refine z_lc0 hx hb d_M_force_14 ?_
    refine z_lcmp_lt hx hb 27 d_M_force_15 d_M_force_16 (by omega) (by omega) (by decide) (fun c15 => ?_) (fun c15 => ?_)
    · refine z_ic hx hb d_M_force_27 ?_
      refine lv_goto (tgt := 32) hx hb d_M_force_28 (by decide) ?_
      refine pM_M_thrown hc hw lk_M_60 d_M_force_32 (fun H locs hw => ?_)
      refine lv_aload_n hx hb d_M_force_35 rfl (lv_at hl 0 rfl) ?_
      refine gM_M_thrown hc hw lk_M_60 d_M_force_36 ?_
      simp only [up_s]
      refine z_if_ne hx hb 53 d_M_force_39 (by omega) (by decide) (fun c39 => ?_) (fun c39 => ?_)
      · refine z_ic hx hb d_M_force_53 ?_
        exact w_zret hc hw (by omega) (by (first | (have g : mFoT μ q v = 1 := (by unfold mFoT; rw [if_pos c6])) | (have g : mFoT μ q v = 2 := (by unfold mFoT; rw [if_neg (fun z => z c6), if_pos (by omega)])) | (have g : mFoT μ q v = 0 := (by unfold mFoT; rw [if_neg (fun z => z c6), if_neg (by omega)]))); have z : mFoT μ q v ≠ 0 ∨ μ 9 q = v := (by first | (left; omega) | (right; exact c49)); unfold mForce; rw [bI_f (fun w => w z), if_pos z, g]; exact ⟨rfl, rfl⟩) d_M_force_54
      · exact absurd c39 (by omega)
    · refine lv_lload_n hx hb d_M_force_19 rfl (lv_at hl 2 rfl) ?_
      refine z_ldc2 (n := 1000000) hc lk_M_72 d_M_force_20 (by decide) ?_
      refine z_lcmp_le hx hb 31 d_M_force_23 d_M_force_24 (by omega) (by omega) (by decide) (fun c23 => ?_) (fun c23 => ?_)
      · refine z_ic hx hb d_M_force_31 ?_
        refine pM_M_thrown hc hw lk_M_60 d_M_force_32 (fun H locs hw => ?_)
        refine lv_aload_n hx hb d_M_force_35 rfl (lv_at hl 0 rfl) ?_
        refine gM_M_thrown hc hw lk_M_60 d_M_force_36 ?_
        simp only [up_s]
        refine z_if_ne hx hb 53 d_M_force_39 (by omega) (by decide) (fun c39 => ?_) (fun c39 => ?_)
        · exact absurd c39 (by omega)
        · refine lv_aload_n hx hb d_M_force_42 rfl (lv_at hl 0 rfl) ?_
          refine gM_M_forces hc hw lk_M_30 d_M_force_43 ?_
          refine lv_iload_n hx hb d_M_force_46 rfl (lv_at hl 1 rfl) ?_
          refine ldM_M_forces hc hw d_M_force_47 (by omega) ?_
          refine lv_lload_n hx hb d_M_force_48 rfl (lv_at hl 2 rfl) ?_
          refine z_lcmp_ne hx hb 55 d_M_force_49 d_M_force_50 (by first | (show r64 (μ 9 q); omega) | omega) (by first | (show r64 (μ 9 q); omega) | omega) (by decide) (fun c49 => ?_) (fun c49 => ?_)
          · refine lv_aload_n hx hb d_M_force_55 rfl (lv_at hl 0 rfl) ?_
            refine gM_M_forces hc hw lk_M_30 d_M_force_56 ?_
            refine lv_iload_n hx hb d_M_force_59 rfl (lv_at hl 1 rfl) ?_
            refine lv_lload_n hx hb d_M_force_60 rfl (lv_at hl 2 rfl) ?_
            refine stM_M_forces hc hw d_M_force_61 (by omega) (fun H locs hw => ?_)
            refine z_ic hx hb d_M_force_62 ?_
            exact w_zret hc hw (by omega) (by have g : mFoT μ q v = 0 := (by unfold mFoT; rw [if_neg (fun z => z c6), if_neg (by omega)]); have z : ¬ (mFoT μ q v ≠ 0 ∨ μ 9 q = v) := (fun w => w.elim (fun w => w g) c49); unfold mForce; rw [bI_t z, if_neg z, g]; exact ⟨rfl, rfl⟩) d_M_force_63
          · refine z_ic hx hb d_M_force_53 ?_
            exact w_zret hc hw (by omega) (by (first | (have g : mFoT μ q v = 1 := (by unfold mFoT; rw [if_pos c6])) | (have g : mFoT μ q v = 2 := (by unfold mFoT; rw [if_neg (fun z => z c6), if_pos (by omega)])) | (have g : mFoT μ q v = 0 := (by unfold mFoT; rw [if_neg (fun z => z c6), if_neg (by omega)]))); have z : mFoT μ q v ≠ 0 ∨ μ 9 q = v := (by first | (left; omega) | (right; exact c49)); unfold mForce; rw [bI_f (fun w => w z), if_pos z, g]; exact ⟨rfl, rfl⟩) d_M_force_54
      · refine z_ic hx hb d_M_force_27 ?_
        refine lv_goto (tgt := 32) hx hb d_M_force_28 (by decide) ?_
        refine pM_M_thrown hc hw lk_M_60 d_M_force_32 (fun H locs hw => ?_)
        refine lv_aload_n hx hb d_M_force_35 rfl (lv_at hl 0 rfl) ?_
        refine gM_M_thrown hc hw lk_M_60 d_M_force_36 ?_
        simp only [up_s]
        refine z_if_ne hx hb 53 d_M_force_39 (by omega) (by decide) (fun c39 => ?_) (fun c39 => ?_)
        · refine z_ic hx hb d_M_force_53 ?_
          exact w_zret hc hw (by omega) (by (first | (have g : mFoT μ q v = 1 := (by unfold mFoT; rw [if_pos c6])) | (have g : mFoT μ q v = 2 := (by unfold mFoT; rw [if_neg (fun z => z c6), if_pos (by omega)])) | (have g : mFoT μ q v = 0 := (by unfold mFoT; rw [if_neg (fun z => z c6), if_neg (by omega)]))); have z : mFoT μ q v ≠ 0 ∨ μ 9 q = v := (by first | (left; omega) | (right; exact c49)); unfold mForce; rw [bI_f (fun w => w z), if_pos z, g]; exact ⟨rfl, rfl⟩) d_M_force_54
        · exact absurd c39 (by omega)
  · refine z_ic hx hb d_M_force_9 ?_
    refine lv_goto (tgt := 32) hx hb d_M_force_10 (by decide) ?_
    refine pM_M_thrown hc hw lk_M_60 d_M_force_32 (fun H locs hw => ?_)
    refine lv_aload_n hx hb d_M_force_35 rfl (lv_at hl 0 rfl) ?_
    refine gM_M_thrown hc hw lk_M_60 d_M_force_36 ?_
    simp only [up_s]
    refine z_if_ne hx hb 53 d_M_force_39 (by omega) (by decide) (fun c39 => ?_) (fun c39 => ?_)
    · refine z_ic hx hb d_M_force_53 ?_
      exact w_zret hc hw (by omega) (by (first | (have g : mFoT μ q v = 1 := (by unfold mFoT; rw [if_pos c6])) | (have g : mFoT μ q v = 2 := (by unfold mFoT; rw [if_neg (fun z => z c6), if_pos (by omega)])) | (have g : mFoT μ q v = 0 := (by unfold mFoT; rw [if_neg (fun z => z c6), if_neg (by omega)]))); have z : mFoT μ q v ≠ 0 ∨ μ 9 q = v := (by first | (left; omega) | (right; exact c49)); unfold mForce; rw [bI_f (fun w => w z), if_pos z, g]; exact ⟨rfl, rfl⟩) d_M_force_54
    · exact absurd c39 (by omega)
set_option maxHeartbeats 400000 in
set_option maxRecDepth 100000 in
theorem k_M_areApart {l : Launch} {D : va_G} {ad : Nat → Nat} {ca : Nat → ClassId} (μ : St) (a b : Int) (ha : 0 ≤ a ∧ a < 36) (hb2 : 0 ≤ b ∧ b < 36) (hI : IMB μ) : Cw l D cl7 (tyM ca) (wM ad ca) y_M_areApart c_M_areApart 9 (some .boolean) 0 [.ref (ad 100), .int (zI a), .int (zI b)] μ (RW (.int (zI (bI (mAp μ a b)))) (μ = ·)) := by
  have hsq := mSq_bd hI a b
  have h9 := hI.2.2.1
  have h5a := hI.2.2.2.2.2.1 a
  have h5b := hI.2.2.2.2.2.1 b
  have hll := sq_bd (a := μ 10 0 + μ 8 a + μ 8 b) (n := 1200000) (by omega) (by omega)
  unfold mSq at hsq
  refine Cw.enter (by decide) (Nat.le_of_ble_eq_true rfl) ?_
  intro A p e s m below meth c hc ls hl hw
  have hl : lv_has ls 9 [(0, .ref (ad 100)), (1, .int (zI a)), (2, .int (zI b))] := hl
  obtain ⟨hx, hb, hml, hown, hTB, hK, hr, hlk⟩ := id hc
  refine lv_aload_n hx hb d_M_areApart_0 rfl (lv_at hl 0 rfl) ?_
  refine gM_M_x hc hw lk_M_20 d_M_areApart_1 ?_
  refine lv_iload_n hx hb d_M_areApart_4 rfl (lv_at hl 1 rfl) ?_
  refine ldM_M_x hc hw d_M_areApart_5 (by omega) ?_
  refine lv_aload_n hx hb d_M_areApart_6 rfl (lv_at hl 0 rfl) ?_
  refine gM_M_x hc hw lk_M_20 d_M_areApart_7 ?_
  refine lv_iload_n hx hb d_M_areApart_10 rfl (lv_at hl 2 rfl) ?_
  refine ldM_M_x hc hw d_M_areApart_11 (by omega) ?_
  refine z_lsub hx hb d_M_areApart_12 ?_
  refine z_lst_n hx hb d_M_areApart_13 rfl hl (by decide) (fun x3_13 ex3_13 ls (hl : lv_has ls 9 [(3, .long (zL x3_13)), (0, .ref (ad 100)), (1, .int (zI a)), (2, .int (zI b))]) => ?_)
  refine lv_aload_n hx hb d_M_areApart_14 rfl (lv_at hl 1 rfl) ?_
  refine gM_M_y hc hw lk_M_24 d_M_areApart_15 ?_
  refine lv_iload_n hx hb d_M_areApart_18 rfl (lv_at hl 2 rfl) ?_
  refine ldM_M_y hc hw d_M_areApart_19 (by omega) ?_
  refine lv_aload_n hx hb d_M_areApart_20 rfl (lv_at hl 1 rfl) ?_
  refine gM_M_y hc hw lk_M_24 d_M_areApart_21 ?_
  refine lv_iload_n hx hb d_M_areApart_24 rfl (lv_at hl 3 rfl) ?_
  refine ldM_M_y hc hw d_M_areApart_25 (by omega) ?_
  refine z_lsub hx hb d_M_areApart_26 ?_
  refine z_lst hx hb d_M_areApart_27 hl (by decide) (fun x5_27 ex5_27 ls (hl : lv_has ls 9 [(5, .long (zL x5_27)), (3, .long (zL x3_13)), (0, .ref (ad 100)), (1, .int (zI a)), (2, .int (zI b))]) => ?_)
  refine lv_aload_n hx hb d_M_areApart_29 rfl (lv_at hl 2 rfl) ?_
  refine gM_M_gap hc hw lk_M_84 d_M_areApart_30 ?_
  refine lv_aload_n hx hb d_M_areApart_33 rfl (lv_at hl 2 rfl) ?_
  refine gM_M_radius hc hw lk_M_27 d_M_areApart_34 ?_
  refine lv_iload_n hx hb d_M_areApart_37 rfl (lv_at hl 3 rfl) ?_
  refine ldM_M_radius hc hw d_M_areApart_38 (by omega) ?_
  refine z_ladd hx hb d_M_areApart_39 ?_
  refine lv_aload_n hx hb d_M_areApart_40 rfl (lv_at hl 2 rfl) ?_
  refine gM_M_radius hc hw lk_M_27 d_M_areApart_41 ?_
  refine lv_iload_n hx hb d_M_areApart_44 rfl (lv_at hl 4 rfl) ?_
  refine ldM_M_radius hc hw d_M_areApart_45 (by omega) ?_
  refine z_ladd hx hb d_M_areApart_46 ?_
  refine z_lst hx hb d_M_areApart_47 hl (by decide) (fun x7_47 ex7_47 ls (hl : lv_has ls 9 [(7, .long (zL x7_47)), (5, .long (zL x5_27)), (3, .long (zL x3_13)), (0, .ref (ad 100)), (1, .int (zI a)), (2, .int (zI b))]) => ?_)
  subst ex3_13
  subst ex5_27
  subst ex7_47
  refine lv_lload_n hx hb d_M_areApart_49 rfl (lv_at hl 2 rfl) ?_
  refine lv_lload_n hx hb d_M_areApart_50 rfl (lv_at hl 2 rfl) ?_
  refine z_lmul hx hb d_M_areApart_51 ?_
  refine lv_lload hx hb d_M_areApart_52 (lv_at hl 1 rfl) ?_
  refine lv_lload hx hb d_M_areApart_54 (lv_at hl 1 rfl) ?_
  refine z_lmul hx hb d_M_areApart_56 ?_
  refine z_ladd hx hb d_M_areApart_57 ?_
  refine lv_lload hx hb d_M_areApart_58 (lv_at hl 0 rfl) ?_
  refine lv_lload hx hb d_M_areApart_60 (lv_at hl 0 rfl) ?_
  refine z_lmul hx hb d_M_areApart_62 ?_
  refine z_lcmp_lt hx hb 71 d_M_areApart_63 d_M_areApart_64 (by omega) (by omega) (by decide) (fun c63 => ?_) (fun c63 => ?_)
  · refine z_ic hx hb d_M_areApart_71 ?_
    exact w_zret hc hw (by omega) (⟨by first | rw [bI_t (by unfold mAp mSq; omega)] | rw [bI_f (by unfold mAp mSq; omega)], rfl⟩) d_M_areApart_72
  · refine z_ic hx hb d_M_areApart_67 ?_
    refine lv_goto (tgt := 72) hx hb d_M_areApart_68 (by decide) ?_
    exact w_zret hc hw (by omega) (⟨by first | rw [bI_t (by unfold mAp mSq; omega)] | rw [bI_f (by unfold mAp mSq; omega)], rfl⟩) d_M_areApart_72
set_option maxHeartbeats 400000 in
set_option maxRecDepth 100000 in
theorem k_M_pointAt {l : Launch} {D : va_G} {ad : Nat → Nat} {ca : Nat → ClassId} (μ : St) (k d2 : Int) (hk : 0 ≤ k ∧ k < 8) (hd : 0 ≤ d2 ∧ d2 ≤ 3) (h13 : 0 ≤ μ 13 k ∧ μ 13 k < 12) : Cw l D cl7 (tyM ca) (wM ad ca) y_M_pointAt c_M_pointAt 3 (some .int) 0 [.ref (ad 100), .int (zI k), .int (zI d2)] μ (RW (.int (zI (mPA μ k d2))) (μ = ·)) := by
  refine Cw.enter (by decide) (Nat.le_of_ble_eq_true rfl) ?_
  intro A p e s m below meth c hc ls hl hw
  have hl : lv_has ls 3 [(0, .ref (ad 100)), (1, .int (zI k)), (2, .int (zI d2))] := hl
  obtain ⟨hx, hb, hml, hown, hTB, hK, hr, hlk⟩ := id hc
  refine lv_iload_n hx hb d_M_pointAt_0 rfl (lv_at hl 2 rfl) ?_
  refine z_ic hx hb d_M_pointAt_1 ?_
  refine z_icmp_ne hx hb 9 d_M_pointAt_2 (by omega) (by omega) (by decide) (fun c2 => ?_) (fun c2 => ?_)
  · refine lv_aload_n hx hb d_M_pointAt_9 rfl (lv_at hl 0 rfl) ?_
    refine gM_M_pointsOf hc hw lk_M_17 d_M_pointAt_10 ?_
    refine z_ic hx hb d_M_pointAt_13 ?_
    refine lv_aload_n hx hb d_M_pointAt_14 rfl (lv_at hl 0 rfl) ?_
    refine gM_M_netAt hc hw lk_M_33 d_M_pointAt_15 ?_
    refine lv_iload_n hx hb d_M_pointAt_18 rfl (lv_at hl 1 rfl) ?_
    refine ldM_M_netAt hc hw d_M_pointAt_19 (by omega) ?_
    refine z_imul hx hb d_M_pointAt_20 ?_
    refine lv_iload_n hx hb d_M_pointAt_21 rfl (lv_at hl 2 rfl) ?_
    refine z_iadd hx hb d_M_pointAt_22 ?_
    refine ldM_M_pointsOf hc hw d_M_pointAt_23 (by omega) ?_
    exact w_iret hc hw (⟨by unfold mPA; first | rw [if_pos (by omega)] | rw [if_neg (by omega)], rfl⟩) d_M_pointAt_24
  · refine z_ic hx hb d_M_pointAt_5 ?_
    refine lv_goto (tgt := 24) hx hb d_M_pointAt_6 (by decide) ?_
    exact w_iret hc hw (⟨by unfold mPA; first | rw [if_pos (by omega)] | rw [if_neg (by omega)], rfl⟩) d_M_pointAt_24
set_option maxHeartbeats 400000 in
set_option maxRecDepth 100000 in
theorem k_M_probe {l : Launch} {D : va_G} {ad : Nat → Nat} {ca : Nat → ClassId} (μ : St) (k : Int) (hk : r32 k) (hn : 0 ≤ μ 17 0 ∧ μ 17 0 ≤ 8) : Cw l D cl7 (tyM ca) (wM ad ca) y_M_probe c_M_probe 2 (some .int) 0 [.ref (ad 100), .int (zI k)] μ (RW (.int (zI (mProbe μ k))) (up μ 0 0 0 = ·)) := by
  have e17 : up μ 0 0 0 17 0 = μ 17 0 := up_o _ _ _ _ (by decide)
  refine Cw.enter (by decide) (Nat.le_of_ble_eq_true rfl) ?_
  intro A p e s m below meth c hc ls hl hw
  have hl : lv_has ls 2 [(0, .ref (ad 100)), (1, .int (zI k))] := hl
  obtain ⟨hx, hb, hml, hown, hTB, hK, hr, hlk⟩ := id hc
  refine lv_aload_n hx hb d_M_probe_0 rfl (lv_at hl 0 rfl) ?_
  refine z_ic hx hb d_M_probe_1 ?_
  refine pM_M_thrown hc hw lk_M_60 d_M_probe_2 (fun H locs hw => ?_)
  refine lv_iload_n hx hb d_M_probe_5 rfl (lv_at hl 1 rfl) ?_
  refine z_if_lt hx hb 26 d_M_probe_6 (by omega) (by decide) (fun c6 => ?_) (fun c6 => ?_)
  · refine z_ic hx hb d_M_probe_26 ?_
    exact w_iret hc hw (⟨by unfold mProbe; first | (rw [if_pos (by omega)]; rfl) | (rw [if_neg (by omega)]; done), rfl⟩) d_M_probe_27
  · refine lv_iload_n hx hb d_M_probe_9 rfl (lv_at hl 1 rfl) ?_
    refine lv_aload_n hx hb d_M_probe_10 rfl (lv_at hl 0 rfl) ?_
    refine gM_M_probes hc hw lk_M_121 d_M_probe_11 ?_
    refine z_icmp_ge hx hb 26 d_M_probe_14 (by omega) (by omega) (by decide) (fun c14 => ?_) (fun c14 => ?_)
    · refine z_ic hx hb d_M_probe_26 ?_
      exact w_iret hc hw (⟨by unfold mProbe; first | (rw [if_pos (by omega)]; rfl) | (rw [if_neg (by omega)]; done), rfl⟩) d_M_probe_27
    · refine lv_aload_n hx hb d_M_probe_17 rfl (lv_at hl 0 rfl) ?_
      refine gM_M_probe hc hw lk_M_42 d_M_probe_18 ?_
      refine lv_iload_n hx hb d_M_probe_21 rfl (lv_at hl 1 rfl) ?_
      refine ldM_M_probe hc hw d_M_probe_22 (by omega) ?_
      refine lv_goto (tgt := 27) hx hb d_M_probe_23 (by decide) ?_
      exact w_iret hc hw (⟨by unfold mProbe; first | (rw [if_pos (by omega)]; rfl) | (rw [if_neg (by omega)]; done), rfl⟩) d_M_probe_27
set_option maxHeartbeats 400000 in
set_option maxRecDepth 100000 in
theorem k_M_proved {l : Launch} {D : va_G} {ad : Nat → Nat} {ca : Nat → ClassId} (μ : St) (h11 : μ 11 0 = 0 ∨ μ 11 0 = 1) (h16 : μ 16 0 = 0 ∨ μ 16 0 = 1) : Cw l D cl7 (tyM ca) (wM ad ca) y_M_proved c_M_proved 1 (some .boolean) 0 [.ref (ad 100)] μ (RW (.int (zI (if μ 11 0 = 0 then 0 else μ 16 0))) (up μ 0 0 0 = ·)) := by
  have e11 : up μ 0 0 0 11 0 = μ 11 0 := up_o _ _ _ _ (by decide)
  have e16 : up μ 0 0 0 16 0 = μ 16 0 := up_o _ _ _ _ (by decide)
  refine Cw.enter (by decide) (Nat.le_of_ble_eq_true rfl) ?_
  intro A p e s m below meth c hc ls hl hw
  have hl : lv_has ls 1 [(0, .ref (ad 100))] := hl
  obtain ⟨hx, hb, hml, hown, hTB, hK, hr, hlk⟩ := id hc
  refine lv_aload_n hx hb d_M_proved_0 rfl (lv_at hl 0 rfl) ?_
  refine z_ic hx hb d_M_proved_1 ?_
  refine pM_M_thrown hc hw lk_M_60 d_M_proved_2 (fun H locs hw => ?_)
  refine lv_aload_n hx hb d_M_proved_5 rfl (lv_at hl 0 rfl) ?_
  refine gM_M_ran hc hw lk_M_111 d_M_proved_6 ?_
  refine z_if_eq hx hb 23 d_M_proved_9 (by omega) (by decide) (fun c9 => ?_) (fun c9 => ?_)
  · refine z_ic hx hb d_M_proved_23 ?_
    exact w_zret hc hw (by omega) (⟨by congr 3; first | (rw [if_pos (by omega)]; done) | (rw [if_neg (by omega)]; omega), rfl⟩) d_M_proved_24
  · refine lv_aload_n hx hb d_M_proved_12 rfl (lv_at hl 0 rfl) ?_
    refine gM_M_isProved hc hw lk_M_115 d_M_proved_13 ?_
    refine z_if_eq hx hb 23 d_M_proved_16 (by omega) (by decide) (fun c16 => ?_) (fun c16 => ?_)
    · refine z_ic hx hb d_M_proved_23 ?_
      exact w_zret hc hw (by omega) (⟨by congr 3; first | (rw [if_pos (by omega)]; done) | (rw [if_neg (by omega)]; omega), rfl⟩) d_M_proved_24
    · refine z_ic hx hb d_M_proved_19 ?_
      refine lv_goto (tgt := 24) hx hb d_M_proved_20 (by decide) ?_
      exact w_zret hc hw (by omega) (⟨by congr 3; first | (rw [if_pos (by omega)]; done) | (rw [if_neg (by omega)]; omega), rfl⟩) d_M_proved_24
set_option maxHeartbeats 400000 in
set_option maxRecDepth 100000 in
theorem k_M_forces {l : Launch} {D : va_G} {ad : Nat → Nat} {ca : Nat → ClassId} (μ : St) (hn : 0 ≤ μ 17 0 ∧ μ 17 0 ≤ 8) (hP : ∀ i, 0 ≤ i → i < μ 17 0 → 0 ≤ μ 18 i ∧ μ 18 i < 36) : Cw l D cl7 (tyM ca) (wM ad ca) y_M_forces c_M_forces 4 (some .long) 0 [.ref (ad 100)] μ (RW (.long (zL (mSumF μ (μ 17 0).toNat))) (up μ 0 0 0 = ·)) := by
  refine Cw.enter (by decide) (Nat.le_of_ble_eq_true rfl) ?_
  intro A p e s m below meth c hc ls hl hw
  have hl : lv_has ls 4 [(0, .ref (ad 100))] := hl
  obtain ⟨hx, hb, hml, hown, hTB, hK, hr, hlk⟩ := id hc
  refine lv_aload_n hx hb d_M_forces_0 rfl (lv_at hl 0 rfl) ?_
  refine z_ic hx hb d_M_forces_1 ?_
  refine pM_M_thrown hc hw lk_M_60 d_M_forces_2 (fun H locs hw => ?_)
  refine z_lc0 hx hb d_M_forces_5 ?_
  refine z_lst_n hx hb d_M_forces_6 rfl hl (by decide) (fun x1_6 ex1_6 ls (hl : lv_has ls 4 [(1, .long (zL x1_6)), (0, .ref (ad 100))]) => ?_)
  refine z_ic hx hb d_M_forces_7 ?_
  refine z_ist_n hx hb d_M_forces_8 rfl hl (by decide) (fun x3_8 ex3_8 ls (hl : lv_has ls 4 [(3, .int (zI x3_8)), (1, .long (zL x1_6)), (0, .ref (ad 100))]) => ?_)
  have L9 : ∀ (nf : Nat) (i : Int) (t : Int) (ν : St) (H : Heap) (locs : List Loc), (0 ≤ i ∧ i ≤ μ 17 0) → (t = mSumF μ i.toNat) → (ν = up μ 0 0 0) → (μ 17 0 - i).toNat < nf → Wd D cl7 (wM ad ca) A s.heap ν H locs → ∀ ls : Array Slot, lv_has ls 4 [(3, .int (zI i)), (1, .long (zL t)), (0, .ref (ad 100))] → W p l e (Rmh 0) s m ([.ref (ad 100)] : List Value).toArray below meth c H locs 0 0 (MQ below (Qw D cl7 (wM ad ca) A (RW (.long (zL (mSumF μ (μ 17 0).toNat))) (up μ 0 0 0 = ·))) ([.ref (ad 100)] : List Value).toArray s 0 0 A) (F0 m 9 ls []) := by
    intro nf
    induction nf with
    | zero => intro i t ν H locs hi ht hν hm; exact absurd hm (Nat.not_lt_zero _)
    | succ nf ih9 =>
      intro i t ν H locs hi ht hν hm9 hw ls hl
      subst hν
      have e17 : up μ 0 0 0 17 0 = μ 17 0 := up_o _ _ _ _ (by decide)
      refine lv_iload_n hx hb d_M_forces_9 rfl (lv_at hl 0 rfl) ?_
      refine lv_aload_n hx hb d_M_forces_10 rfl (lv_at hl 2 rfl) ?_
      refine gM_M_probes hc hw lk_M_121 d_M_forces_11 ?_
      refine z_icmp_ge hx hb 37 d_M_forces_14 (by omega) (by omega) (by decide) (fun c14 => ?_) (fun c14 => ?_)
      · refine lv_lload_n hx hb d_M_forces_37 rfl (lv_at hl 1 rfl) ?_
        exact w_lret hc hw (⟨by rw [ht, show i = μ 17 0 by omega], rfl⟩) d_M_forces_38
      · refine lv_lload_n hx hb d_M_forces_17 rfl (lv_at hl 1 rfl) ?_
        refine lv_aload_n hx hb d_M_forces_18 rfl (lv_at hl 2 rfl) ?_
        refine gM_M_forces hc hw lk_M_30 d_M_forces_19 ?_
        refine lv_aload_n hx hb d_M_forces_22 rfl (lv_at hl 2 rfl) ?_
        refine gM_M_probe hc hw lk_M_42 d_M_forces_23 ?_
        refine lv_iload_n hx hb d_M_forces_26 rfl (lv_at hl 0 rfl) ?_
        refine ldM_M_probe hc hw d_M_forces_27 (by omega) ?_
        refine ldM_M_forces hc hw d_M_forces_28 (hP i hi.1 (by omega)) ?_
        refine z_ladd hx hb d_M_forces_29 ?_
        refine z_lst_n hx hb d_M_forces_30 rfl hl (by decide) (fun x1_30 ex1_30 ls (hl : lv_has ls 4 [(1, .long (zL x1_30)), (3, .int (zI i)), (0, .ref (ad 100))]) => ?_)
        refine z_iinc (k := 1) hx hb d_M_forces_31 hl rfl (by decide) (fun x3_31 ex3_31 ls (hl : lv_has ls 4 [(3, .int (zI x3_31)), (1, .long (zL x1_30)), (0, .ref (ad 100))]) => ?_)
        refine lv_goto (tgt := 9) hx hb d_M_forces_34 (by decide) ?_
        exact ih9 x3_31 x1_30 _ _ _ (by omega) (by rw [ex1_30, ht, show x3_31.toNat = i.toNat + 1 from (by omega)]; simp only [mSumF]; rw [Int.toNat_of_nonneg hi.1]; rfl) (rfl) (by omega) hw ls (lv_sub hl [0, 1, 2] rfl)
  exact L9 _ x3_8 x1_6 _ _ _ (by omega) (by rw [ex1_6, ex3_8]; rfl) (rfl) (Nat.lt_succ_self _) hw ls (lv_sub hl [0, 1, 2] rfl)
set_option maxHeartbeats 400000 in
set_option maxRecDepth 100000 in
theorem k_M_haveParts {l : Launch} {D : va_G} {ad : Nat → Nat} {ca : Nat → ClassId} (μ : St) (a b : Int) (ha : 0 ≤ a ∧ a < 12) (hb2 : 0 ≤ b ∧ b < 12) (hC : ∀ i, 0 ≤ μ 19 i ∧ μ 19 i ≤ 4) : Cw l D cl7 (tyM ca) (wM ad ca) y_M_haveParts c_M_haveParts 3 (some .boolean) 1 [.ref (ad 100), .int (zI a), .int (zI b)] μ (RW (.int (zI (bI (¬ a = b ∧ 0 < μ 19 (mPr a b))))) (μ = ·)) := by
  have hC2 := hC (mPr a b)
  have hpr : 0 ≤ mPr a b ∧ mPr a b < 144 := by unfold mPr; split <;> omega
  refine Cw.enter (by decide) (Nat.le_of_ble_eq_true rfl) ?_
  intro A p e s m below meth c hc ls hl hw
  have hl : lv_has ls 3 [(0, .ref (ad 100)), (1, .int (zI a)), (2, .int (zI b))] := hl
  obtain ⟨hx, hb, hml, hown, hTB, hK, hr, hlk⟩ := id hc
  refine lv_iload_n hx hb d_M_haveParts_0 rfl (lv_at hl 1 rfl) ?_
  refine lv_iload_n hx hb d_M_haveParts_1 rfl (lv_at hl 2 rfl) ?_
  refine z_icmp_eq hx hb 22 d_M_haveParts_2 (by omega) (by omega) (by decide) (fun c2 => ?_) (fun c2 => ?_)
  · refine z_ic hx hb d_M_haveParts_22 ?_
    exact w_zret hc hw (by omega) (⟨by first | (exfalso; omega) | rw [bI_t (by omega)] | rw [bI_f (by omega)], rfl⟩) d_M_haveParts_23
  · refine lv_aload_n hx hb d_M_haveParts_5 rfl (lv_at hl 0 rfl) ?_
    refine gM_M_partCount hc hw lk_M_45 d_M_haveParts_6 ?_
    refine lv_iload_n hx hb d_M_haveParts_9 rfl (lv_at hl 1 rfl) ?_
    refine lv_iload_n hx hb d_M_haveParts_10 rfl (lv_at hl 2 rfl) ?_
    refine w_csR hc hw (k_M_pairOf _ _ _ (by omega) (by omega)) yw_M_pairOf yi_M_pairOf lk_M_126 d_M_haveParts_11 rfl rfl hl.1 (Nat.le_of_ble_eq_true rfl) ⟨Nat.le_of_ble_eq_true rfl, Nat.le_of_ble_eq_true rfl⟩ ⟨Nat.zero_le _, Nat.zero_le _⟩ (fun τ11 H locs hτ11 hw => ?_)
    subst hτ11
    refine ldM_M_partCount hc hw d_M_haveParts_14 (by omega) ?_
    refine z_if_le hx hb 22 d_M_haveParts_15 (by omega) (by decide) (fun c15 => ?_) (fun c15 => ?_)
    · refine z_ic hx hb d_M_haveParts_22 ?_
      exact w_zret hc hw (by omega) (⟨by first | (exfalso; omega) | rw [bI_t (by omega)] | rw [bI_f (by omega)], rfl⟩) d_M_haveParts_23
    · refine z_ic hx hb d_M_haveParts_18 ?_
      refine lv_goto (tgt := 23) hx hb d_M_haveParts_19 (by decide) ?_
      exact w_zret hc hw (by omega) (⟨by first | (exfalso; omega) | rw [bI_t (by omega)] | rw [bI_f (by omega)], rfl⟩) d_M_haveParts_23
set_option maxHeartbeats 400000 in
set_option maxRecDepth 100000 in
theorem k_M_isAhead {l : Launch} {D : va_G} {ad : Nat → Nat} {ca : Nat → ClassId} (μ : St) (a b : Int) (ha : 0 ≤ a ∧ a < 36) (hb2 : 0 ≤ b ∧ b < 36) (hI : IMB μ) : Cw l D cl7 (tyM ca) (wM ad ca) y_M_isAhead c_M_isAhead 3 (some .boolean) 0 [.ref (ad 100), .int (zI a), .int (zI b)] μ (RW (.int (zI (bI (mAh μ a b)))) (μ = ·)) := by
  have h3a := hI.2.2.2.1 a
  have h3b := hI.2.2.2.1 b
  have h4a := hI.2.2.2.2.1 a
  have h4b := hI.2.2.2.2.1 b
  refine Cw.enter (by decide) (Nat.le_of_ble_eq_true rfl) ?_
  intro A p e s m below meth c hc ls hl hw
  have hl : lv_has ls 3 [(0, .ref (ad 100)), (1, .int (zI a)), (2, .int (zI b))] := hl
  obtain ⟨hx, hb, hml, hown, hTB, hK, hr, hlk⟩ := id hc
  refine lv_aload_n hx hb d_M_isAhead_0 rfl (lv_at hl 0 rfl) ?_
  refine gM_M_x hc hw lk_M_20 d_M_isAhead_1 ?_
  refine lv_iload_n hx hb d_M_isAhead_4 rfl (lv_at hl 1 rfl) ?_
  refine ldM_M_x hc hw d_M_isAhead_5 (by omega) ?_
  refine lv_aload_n hx hb d_M_isAhead_6 rfl (lv_at hl 0 rfl) ?_
  refine gM_M_x hc hw lk_M_20 d_M_isAhead_7 ?_
  refine lv_iload_n hx hb d_M_isAhead_10 rfl (lv_at hl 2 rfl) ?_
  refine ldM_M_x hc hw d_M_isAhead_11 (by omega) ?_
  refine z_lcmp_eq hx hb 38 d_M_isAhead_12 d_M_isAhead_13 (by omega) (by omega) (by decide) (fun c12 => ?_) (fun c12 => ?_)
  · refine lv_aload_n hx hb d_M_isAhead_38 rfl (lv_at hl 0 rfl) ?_
    refine gM_M_y hc hw lk_M_24 d_M_isAhead_39 ?_
    refine lv_iload_n hx hb d_M_isAhead_42 rfl (lv_at hl 1 rfl) ?_
    refine ldM_M_y hc hw d_M_isAhead_43 (by omega) ?_
    refine lv_aload_n hx hb d_M_isAhead_44 rfl (lv_at hl 0 rfl) ?_
    refine gM_M_y hc hw lk_M_24 d_M_isAhead_45 ?_
    refine lv_iload_n hx hb d_M_isAhead_48 rfl (lv_at hl 2 rfl) ?_
    refine ldM_M_y hc hw d_M_isAhead_49 (by omega) ?_
    refine z_lcmp_eq hx hb 78 d_M_isAhead_50 d_M_isAhead_51 (by omega) (by omega) (by decide) (fun c50 => ?_) (fun c50 => ?_)
    · refine lv_iload_n hx hb d_M_isAhead_78 rfl (lv_at hl 1 rfl) ?_
      refine lv_iload_n hx hb d_M_isAhead_79 rfl (lv_at hl 2 rfl) ?_
      refine z_icmp_ge hx hb 87 d_M_isAhead_80 (by omega) (by omega) (by decide) (fun c80 => ?_) (fun c80 => ?_)
      · refine z_ic hx hb d_M_isAhead_87 ?_
        exact w_zret hc hw (by omega) (⟨by first | (exfalso; omega) | rw [bI_t (by omega)] | rw [bI_f (by omega)], rfl⟩) d_M_isAhead_88
      · refine z_ic hx hb d_M_isAhead_83 ?_
        refine lv_goto (tgt := 88) hx hb d_M_isAhead_84 (by decide) ?_
        exact w_zret hc hw (by omega) (⟨by first | (exfalso; omega) | rw [bI_t (by omega)] | rw [bI_f (by omega)], rfl⟩) d_M_isAhead_88
    · refine lv_aload_n hx hb d_M_isAhead_54 rfl (lv_at hl 0 rfl) ?_
      refine gM_M_y hc hw lk_M_24 d_M_isAhead_55 ?_
      refine lv_iload_n hx hb d_M_isAhead_58 rfl (lv_at hl 1 rfl) ?_
      refine ldM_M_y hc hw d_M_isAhead_59 (by omega) ?_
      refine lv_aload_n hx hb d_M_isAhead_60 rfl (lv_at hl 0 rfl) ?_
      refine gM_M_y hc hw lk_M_24 d_M_isAhead_61 ?_
      refine lv_iload_n hx hb d_M_isAhead_64 rfl (lv_at hl 2 rfl) ?_
      refine ldM_M_y hc hw d_M_isAhead_65 (by omega) ?_
      refine z_lcmp_ge hx hb 74 d_M_isAhead_66 d_M_isAhead_67 (by omega) (by omega) (by decide) (fun c66 => ?_) (fun c66 => ?_)
      · refine z_ic hx hb d_M_isAhead_74 ?_
        refine lv_goto (tgt := 88) hx hb d_M_isAhead_75 (by decide) ?_
        exact w_zret hc hw (by omega) (⟨by first | (exfalso; omega) | rw [bI_t (by omega)] | rw [bI_f (by omega)], rfl⟩) d_M_isAhead_88
      · refine z_ic hx hb d_M_isAhead_70 ?_
        refine lv_goto (tgt := 88) hx hb d_M_isAhead_71 (by decide) ?_
        exact w_zret hc hw (by omega) (⟨by first | (exfalso; omega) | rw [bI_t (by omega)] | rw [bI_f (by omega)], rfl⟩) d_M_isAhead_88
  · refine lv_aload_n hx hb d_M_isAhead_16 rfl (lv_at hl 0 rfl) ?_
    refine gM_M_x hc hw lk_M_20 d_M_isAhead_17 ?_
    refine lv_iload_n hx hb d_M_isAhead_20 rfl (lv_at hl 1 rfl) ?_
    refine ldM_M_x hc hw d_M_isAhead_21 (by omega) ?_
    refine lv_aload_n hx hb d_M_isAhead_22 rfl (lv_at hl 0 rfl) ?_
    refine gM_M_x hc hw lk_M_20 d_M_isAhead_23 ?_
    refine lv_iload_n hx hb d_M_isAhead_26 rfl (lv_at hl 2 rfl) ?_
    refine ldM_M_x hc hw d_M_isAhead_27 (by omega) ?_
    refine z_lcmp_ge hx hb 36 d_M_isAhead_28 d_M_isAhead_29 (by omega) (by omega) (by decide) (fun c28 => ?_) (fun c28 => ?_)
    · refine z_ic hx hb d_M_isAhead_36 ?_
      exact w_zret hc hw (by omega) (⟨by first | (exfalso; omega) | rw [bI_t (by omega)] | rw [bI_f (by omega)], rfl⟩) d_M_isAhead_37
    · refine z_ic hx hb d_M_isAhead_32 ?_
      refine lv_goto (tgt := 37) hx hb d_M_isAhead_33 (by decide) ?_
      exact w_zret hc hw (by omega) (⟨by first | (exfalso; omega) | rw [bI_t (by omega)] | rw [bI_f (by omega)], rfl⟩) d_M_isAhead_37
set_option maxHeartbeats 400000 in
set_option maxRecDepth 100000 in
theorem k_M_say {l : Launch} {D : va_G} {ad : Nat → Nat} {ca : Nat → ClassId} (μ : St) (u : Int) (h24 : 0 ≤ μ 24 0 ∧ μ 24 0 < 400) : Cw l D cl7 (tyM ca) (wM ad ca) y_M_say c_M_say 2 none 0 [.ref (ad 100), .int (zI u)] μ (VW (mSay μ u = ·)) := by
  refine Cw.enter (by decide) (Nat.le_of_ble_eq_true rfl) ?_
  intro A p e s m below meth c hc ls hl hw
  have hl : lv_has ls 2 [(0, .ref (ad 100)), (1, .int (zI u))] := hl
  obtain ⟨hx, hb, hml, hown, hTB, hK, hr, hlk⟩ := id hc
  refine lv_aload_n hx hb d_M_say_0 rfl (lv_at hl 0 rfl) ?_
  refine gM_M_out hc hw lk_M_57 d_M_say_1 ?_
  refine lv_aload_n hx hb d_M_say_4 rfl (lv_at hl 0 rfl) ?_
  refine gM_M_written hc hw lk_M_166 d_M_say_5 ?_
  refine lv_iload_n hx hb d_M_say_8 rfl (lv_at hl 1 rfl) ?_
  refine stM_M_out hc hw d_M_say_9 (by omega) (fun H locs hw => ?_)
  refine lv_aload_n hx hb d_M_say_10 rfl (lv_at hl 0 rfl) ?_
  refine lv_dup hx hb d_M_say_11 rfl ?_
  refine gM_M_written hc hw lk_M_166 d_M_say_12 ?_
  refine z_ic hx hb d_M_say_15 ?_
  refine z_iadd hx hb d_M_say_16 ?_
  refine pM_M_written hc hw lk_M_166 d_M_say_17 (fun H locs hw => ?_)
  exact w_vret hc hw (⟨rfl, rfl⟩) d_M_say_20
set_option maxHeartbeats 400000 in
set_option maxRecDepth 100000 in
theorem k_M_point {l : Launch} {D : va_G} {ad : Nat → Nat} {ca : Nat → ClassId} (μ : St) (n x y r : Int) (hn : r32 n) (hx2 : r64 x) (hy2 : r64 y) (hr2 : r64 r) (hI : IMB μ) (hP5 : μ 5 0 < 36 ∨ (∀ i, 0 ≤ i → i < μ 1 0 → μ 3 i = 3)) : Cw l D cl7 (tyM ca) (wM ad ca) y_M_point c_M_point 9 (some .int) 1 [.ref (ad 100), .int (zI n), .long (zL x), .long (zL y), .long (zL r)] μ (RW (.int (zI (mPtR μ n x y r))) (mPoint μ n x y r = ·)) := by
  have h1 := hI.1
  have h5 := hI.2.1
  have h3 := hI.2.2.2.2.2.2.2.1 n
  refine Cw.enter (by decide) (Nat.le_of_ble_eq_true rfl) ?_
  intro A p e s m below meth c hc ls hl hw
  have hl : lv_has ls 9 [(0, .ref (ad 100)), (1, .int (zI n)), (2, .long (zL x)), (4, .long (zL y)), (6, .long (zL r))] := hl
  obtain ⟨hx, hb, hml, hown, hTB, hK, hr, hlk⟩ := id hc
  refine lv_lload_n hx hb d_M_point_0 rfl (lv_at hl 2 rfl) ?_
  refine w_csR hc hw (k_M_isPlace _ _ (by omega)) yw_M_isPlace yi_M_isPlace lk_M_74 d_M_point_1 rfl rfl hl.1 (Nat.le_of_ble_eq_true rfl) ⟨Nat.le_of_ble_eq_true rfl, Nat.le_of_ble_eq_true rfl⟩ ⟨Nat.zero_le _, Nat.zero_le _⟩ (fun τ1 H locs hτ1 hw => ?_)
  subst hτ1
  refine z_ifb_eq hx hb 35 d_M_point_4 (by decide) (fun c4 => ?_) (fun c4 => ?_)
  · refine z_ic hx hb d_M_point_35 ?_
    refine z_ist hx hb d_M_point_36 hl (by decide) (fun x8_36 ex8_36 ls (hl : lv_has ls 9 [(8, .int (zI x8_36)), (0, .ref (ad 100)), (1, .int (zI n)), (2, .long (zL x)), (4, .long (zL y)), (6, .long (zL r))]) => ?_)
    refine lv_aload_n hx hb d_M_point_38 rfl (lv_at hl 1 rfl) ?_
    refine lv_aload_n hx hb d_M_point_39 rfl (lv_at hl 1 rfl) ?_
    refine lv_iload_n hx hb d_M_point_40 rfl (lv_at hl 2 rfl) ?_
    refine w_cvR (q0 := 0) hc hw (k_M_isNet _ _ hn h1) yw_M_isNet yi_M_isNet lk_M_80 d_M_point_41 rfl rfl rfl rfl hl.1 (Nat.le_of_ble_eq_true rfl) ⟨Nat.le_of_ble_eq_true rfl, Nat.le_of_ble_eq_true rfl⟩ ⟨Nat.zero_le _, Nat.zero_le _⟩ (fun τ41 H locs hτ41 hw => ?_)
    subst hτ41
    refine z_ifb_ne hx hb 51 d_M_point_44 (by decide) (fun c44 => ?_) (fun c44 => ?_)
    · refine lv_iload hx hb d_M_point_51 (lv_at hl 0 rfl) ?_
      refine z_if_eq hx hb 60 d_M_point_53 (by omega) (by decide) (fun c53 => ?_) (fun c53 => ?_)
      · refine z_ic hx hb d_M_point_60 ?_
        refine pM_M_thrown hc hw lk_M_60 d_M_point_61 (fun H locs hw => ?_)
        refine lv_aload_n hx hb d_M_point_64 rfl (lv_at hl 1 rfl) ?_
        refine gM_M_thrown hc hw lk_M_60 d_M_point_65 ?_
        simp only [up_s]
        refine z_if_eq hx hb 73 d_M_point_68 (by omega) (by decide) (fun c68 => ?_) (fun c68 => ?_)
        · exact absurd c68 (by omega)
        · refine z_ic hx hb d_M_point_71 ?_
          exact w_iret hc hw (by (first | (have g : mPtT μ n x y r = 1 := (by unfold mPtT; rw [if_pos c44])) | (have g : mPtT μ n x y r = 2 := (by unfold mPtT; rw [if_neg (fun z => z c44), if_neg (by omega)]))); unfold mPtR mPoint; rw [if_pos (by omega), if_pos (by omega), g]; exact ⟨rfl, rfl⟩) d_M_point_72
      · exact absurd c53 (by omega)
    · refine z_ic hx hb d_M_point_47 ?_
      refine lv_goto (tgt := 61) hx hb d_M_point_48 (by decide) ?_
      refine pM_M_thrown hc hw lk_M_60 d_M_point_61 (fun H locs hw => ?_)
      refine lv_aload_n hx hb d_M_point_64 rfl (lv_at hl 1 rfl) ?_
      refine gM_M_thrown hc hw lk_M_60 d_M_point_65 ?_
      simp only [up_s]
      refine z_if_eq hx hb 73 d_M_point_68 (by omega) (by decide) (fun c68 => ?_) (fun c68 => ?_)
      · exact absurd c68 (by omega)
      · refine z_ic hx hb d_M_point_71 ?_
        exact w_iret hc hw (by (first | (have g : mPtT μ n x y r = 1 := (by unfold mPtT; rw [if_pos c44])) | (have g : mPtT μ n x y r = 2 := (by unfold mPtT; rw [if_neg (fun z => z c44), if_neg (by omega)]))); unfold mPtR mPoint; rw [if_pos (by omega), if_pos (by omega), g]; exact ⟨rfl, rfl⟩) d_M_point_72
  · refine lv_lload hx hb d_M_point_7 (lv_at hl 3 rfl) ?_
    refine w_csR hc hw (k_M_isPlace _ _ (by omega)) yw_M_isPlace yi_M_isPlace lk_M_74 d_M_point_9 rfl rfl hl.1 (Nat.le_of_ble_eq_true rfl) ⟨Nat.le_of_ble_eq_true rfl, Nat.le_of_ble_eq_true rfl⟩ ⟨Nat.zero_le _, Nat.zero_le _⟩ (fun τ9 H locs hτ9 hw => ?_)
    subst hτ9
    refine z_ifb_eq hx hb 35 d_M_point_12 (by decide) (fun c12 => ?_) (fun c12 => ?_)
    · refine z_ic hx hb d_M_point_35 ?_
      refine z_ist hx hb d_M_point_36 hl (by decide) (fun x8_36 ex8_36 ls (hl : lv_has ls 9 [(8, .int (zI x8_36)), (0, .ref (ad 100)), (1, .int (zI n)), (2, .long (zL x)), (4, .long (zL y)), (6, .long (zL r))]) => ?_)
      refine lv_aload_n hx hb d_M_point_38 rfl (lv_at hl 1 rfl) ?_
      refine lv_aload_n hx hb d_M_point_39 rfl (lv_at hl 1 rfl) ?_
      refine lv_iload_n hx hb d_M_point_40 rfl (lv_at hl 2 rfl) ?_
      refine w_cvR (q0 := 0) hc hw (k_M_isNet _ _ hn h1) yw_M_isNet yi_M_isNet lk_M_80 d_M_point_41 rfl rfl rfl rfl hl.1 (Nat.le_of_ble_eq_true rfl) ⟨Nat.le_of_ble_eq_true rfl, Nat.le_of_ble_eq_true rfl⟩ ⟨Nat.zero_le _, Nat.zero_le _⟩ (fun τ41 H locs hτ41 hw => ?_)
      subst hτ41
      refine z_ifb_ne hx hb 51 d_M_point_44 (by decide) (fun c44 => ?_) (fun c44 => ?_)
      · refine lv_iload hx hb d_M_point_51 (lv_at hl 0 rfl) ?_
        refine z_if_eq hx hb 60 d_M_point_53 (by omega) (by decide) (fun c53 => ?_) (fun c53 => ?_)
        · refine z_ic hx hb d_M_point_60 ?_
          refine pM_M_thrown hc hw lk_M_60 d_M_point_61 (fun H locs hw => ?_)
          refine lv_aload_n hx hb d_M_point_64 rfl (lv_at hl 1 rfl) ?_
          refine gM_M_thrown hc hw lk_M_60 d_M_point_65 ?_
          simp only [up_s]
          refine z_if_eq hx hb 73 d_M_point_68 (by omega) (by decide) (fun c68 => ?_) (fun c68 => ?_)
          · exact absurd c68 (by omega)
          · refine z_ic hx hb d_M_point_71 ?_
            exact w_iret hc hw (by (first | (have g : mPtT μ n x y r = 1 := (by unfold mPtT; rw [if_pos c44])) | (have g : mPtT μ n x y r = 2 := (by unfold mPtT; rw [if_neg (fun z => z c44), if_neg (by omega)]))); unfold mPtR mPoint; rw [if_pos (by omega), if_pos (by omega), g]; exact ⟨rfl, rfl⟩) d_M_point_72
        · exact absurd c53 (by omega)
      · refine z_ic hx hb d_M_point_47 ?_
        refine lv_goto (tgt := 61) hx hb d_M_point_48 (by decide) ?_
        refine pM_M_thrown hc hw lk_M_60 d_M_point_61 (fun H locs hw => ?_)
        refine lv_aload_n hx hb d_M_point_64 rfl (lv_at hl 1 rfl) ?_
        refine gM_M_thrown hc hw lk_M_60 d_M_point_65 ?_
        simp only [up_s]
        refine z_if_eq hx hb 73 d_M_point_68 (by omega) (by decide) (fun c68 => ?_) (fun c68 => ?_)
        · exact absurd c68 (by omega)
        · refine z_ic hx hb d_M_point_71 ?_
          exact w_iret hc hw (by (first | (have g : mPtT μ n x y r = 1 := (by unfold mPtT; rw [if_pos c44])) | (have g : mPtT μ n x y r = 2 := (by unfold mPtT; rw [if_neg (fun z => z c44), if_neg (by omega)]))); unfold mPtR mPoint; rw [if_pos (by omega), if_pos (by omega), g]; exact ⟨rfl, rfl⟩) d_M_point_72
    · refine lv_lload hx hb d_M_point_15 (lv_at hl 4 rfl) ?_
      refine z_lc1 hx hb d_M_point_17 ?_
      refine z_lcmp_lt hx hb 35 d_M_point_18 d_M_point_19 (by omega) (by omega) (by decide) (fun c18 => ?_) (fun c18 => ?_)
      · refine z_ic hx hb d_M_point_35 ?_
        refine z_ist hx hb d_M_point_36 hl (by decide) (fun x8_36 ex8_36 ls (hl : lv_has ls 9 [(8, .int (zI x8_36)), (0, .ref (ad 100)), (1, .int (zI n)), (2, .long (zL x)), (4, .long (zL y)), (6, .long (zL r))]) => ?_)
        refine lv_aload_n hx hb d_M_point_38 rfl (lv_at hl 1 rfl) ?_
        refine lv_aload_n hx hb d_M_point_39 rfl (lv_at hl 1 rfl) ?_
        refine lv_iload_n hx hb d_M_point_40 rfl (lv_at hl 2 rfl) ?_
        refine w_cvR (q0 := 0) hc hw (k_M_isNet _ _ hn h1) yw_M_isNet yi_M_isNet lk_M_80 d_M_point_41 rfl rfl rfl rfl hl.1 (Nat.le_of_ble_eq_true rfl) ⟨Nat.le_of_ble_eq_true rfl, Nat.le_of_ble_eq_true rfl⟩ ⟨Nat.zero_le _, Nat.zero_le _⟩ (fun τ41 H locs hτ41 hw => ?_)
        subst hτ41
        refine z_ifb_ne hx hb 51 d_M_point_44 (by decide) (fun c44 => ?_) (fun c44 => ?_)
        · refine lv_iload hx hb d_M_point_51 (lv_at hl 0 rfl) ?_
          refine z_if_eq hx hb 60 d_M_point_53 (by omega) (by decide) (fun c53 => ?_) (fun c53 => ?_)
          · refine z_ic hx hb d_M_point_60 ?_
            refine pM_M_thrown hc hw lk_M_60 d_M_point_61 (fun H locs hw => ?_)
            refine lv_aload_n hx hb d_M_point_64 rfl (lv_at hl 1 rfl) ?_
            refine gM_M_thrown hc hw lk_M_60 d_M_point_65 ?_
            simp only [up_s]
            refine z_if_eq hx hb 73 d_M_point_68 (by omega) (by decide) (fun c68 => ?_) (fun c68 => ?_)
            · exact absurd c68 (by omega)
            · refine z_ic hx hb d_M_point_71 ?_
              exact w_iret hc hw (by (first | (have g : mPtT μ n x y r = 1 := (by unfold mPtT; rw [if_pos c44])) | (have g : mPtT μ n x y r = 2 := (by unfold mPtT; rw [if_neg (fun z => z c44), if_neg (by omega)]))); unfold mPtR mPoint; rw [if_pos (by omega), if_pos (by omega), g]; exact ⟨rfl, rfl⟩) d_M_point_72
          · exact absurd c53 (by omega)
        · refine z_ic hx hb d_M_point_47 ?_
          refine lv_goto (tgt := 61) hx hb d_M_point_48 (by decide) ?_
          refine pM_M_thrown hc hw lk_M_60 d_M_point_61 (fun H locs hw => ?_)
          refine lv_aload_n hx hb d_M_point_64 rfl (lv_at hl 1 rfl) ?_
          refine gM_M_thrown hc hw lk_M_60 d_M_point_65 ?_
          simp only [up_s]
          refine z_if_eq hx hb 73 d_M_point_68 (by omega) (by decide) (fun c68 => ?_) (fun c68 => ?_)
          · exact absurd c68 (by omega)
          · refine z_ic hx hb d_M_point_71 ?_
            exact w_iret hc hw (by (first | (have g : mPtT μ n x y r = 1 := (by unfold mPtT; rw [if_pos c44])) | (have g : mPtT μ n x y r = 2 := (by unfold mPtT; rw [if_neg (fun z => z c44), if_neg (by omega)]))); unfold mPtR mPoint; rw [if_pos (by omega), if_pos (by omega), g]; exact ⟨rfl, rfl⟩) d_M_point_72
      · refine lv_lload hx hb d_M_point_22 (lv_at hl 4 rfl) ?_
        refine z_ldc2 (n := 100000) hc lk_M_78 d_M_point_24 (by decide) ?_
        refine z_lcmp_gt hx hb 35 d_M_point_27 d_M_point_28 (by omega) (by omega) (by decide) (fun c27 => ?_) (fun c27 => ?_)
        · refine z_ic hx hb d_M_point_35 ?_
          refine z_ist hx hb d_M_point_36 hl (by decide) (fun x8_36 ex8_36 ls (hl : lv_has ls 9 [(8, .int (zI x8_36)), (0, .ref (ad 100)), (1, .int (zI n)), (2, .long (zL x)), (4, .long (zL y)), (6, .long (zL r))]) => ?_)
          refine lv_aload_n hx hb d_M_point_38 rfl (lv_at hl 1 rfl) ?_
          refine lv_aload_n hx hb d_M_point_39 rfl (lv_at hl 1 rfl) ?_
          refine lv_iload_n hx hb d_M_point_40 rfl (lv_at hl 2 rfl) ?_
          refine w_cvR (q0 := 0) hc hw (k_M_isNet _ _ hn h1) yw_M_isNet yi_M_isNet lk_M_80 d_M_point_41 rfl rfl rfl rfl hl.1 (Nat.le_of_ble_eq_true rfl) ⟨Nat.le_of_ble_eq_true rfl, Nat.le_of_ble_eq_true rfl⟩ ⟨Nat.zero_le _, Nat.zero_le _⟩ (fun τ41 H locs hτ41 hw => ?_)
          subst hτ41
          refine z_ifb_ne hx hb 51 d_M_point_44 (by decide) (fun c44 => ?_) (fun c44 => ?_)
          · refine lv_iload hx hb d_M_point_51 (lv_at hl 0 rfl) ?_
            refine z_if_eq hx hb 60 d_M_point_53 (by omega) (by decide) (fun c53 => ?_) (fun c53 => ?_)
            · refine z_ic hx hb d_M_point_60 ?_
              refine pM_M_thrown hc hw lk_M_60 d_M_point_61 (fun H locs hw => ?_)
              refine lv_aload_n hx hb d_M_point_64 rfl (lv_at hl 1 rfl) ?_
              refine gM_M_thrown hc hw lk_M_60 d_M_point_65 ?_
              simp only [up_s]
              refine z_if_eq hx hb 73 d_M_point_68 (by omega) (by decide) (fun c68 => ?_) (fun c68 => ?_)
              · exact absurd c68 (by omega)
              · refine z_ic hx hb d_M_point_71 ?_
                exact w_iret hc hw (by (first | (have g : mPtT μ n x y r = 1 := (by unfold mPtT; rw [if_pos c44])) | (have g : mPtT μ n x y r = 2 := (by unfold mPtT; rw [if_neg (fun z => z c44), if_neg (by omega)]))); unfold mPtR mPoint; rw [if_pos (by omega), if_pos (by omega), g]; exact ⟨rfl, rfl⟩) d_M_point_72
            · exact absurd c53 (by omega)
          · refine z_ic hx hb d_M_point_47 ?_
            refine lv_goto (tgt := 61) hx hb d_M_point_48 (by decide) ?_
            refine pM_M_thrown hc hw lk_M_60 d_M_point_61 (fun H locs hw => ?_)
            refine lv_aload_n hx hb d_M_point_64 rfl (lv_at hl 1 rfl) ?_
            refine gM_M_thrown hc hw lk_M_60 d_M_point_65 ?_
            simp only [up_s]
            refine z_if_eq hx hb 73 d_M_point_68 (by omega) (by decide) (fun c68 => ?_) (fun c68 => ?_)
            · exact absurd c68 (by omega)
            · refine z_ic hx hb d_M_point_71 ?_
              exact w_iret hc hw (by (first | (have g : mPtT μ n x y r = 1 := (by unfold mPtT; rw [if_pos c44])) | (have g : mPtT μ n x y r = 2 := (by unfold mPtT; rw [if_neg (fun z => z c44), if_neg (by omega)]))); unfold mPtR mPoint; rw [if_pos (by omega), if_pos (by omega), g]; exact ⟨rfl, rfl⟩) d_M_point_72
        · refine z_ic hx hb d_M_point_31 ?_
          refine lv_goto (tgt := 36) hx hb d_M_point_32 (by decide) ?_
          refine z_ist hx hb d_M_point_36 hl (by decide) (fun x8_36 ex8_36 ls (hl : lv_has ls 9 [(8, .int (zI x8_36)), (0, .ref (ad 100)), (1, .int (zI n)), (2, .long (zL x)), (4, .long (zL y)), (6, .long (zL r))]) => ?_)
          refine lv_aload_n hx hb d_M_point_38 rfl (lv_at hl 1 rfl) ?_
          refine lv_aload_n hx hb d_M_point_39 rfl (lv_at hl 1 rfl) ?_
          refine lv_iload_n hx hb d_M_point_40 rfl (lv_at hl 2 rfl) ?_
          refine w_cvR (q0 := 0) hc hw (k_M_isNet _ _ hn h1) yw_M_isNet yi_M_isNet lk_M_80 d_M_point_41 rfl rfl rfl rfl hl.1 (Nat.le_of_ble_eq_true rfl) ⟨Nat.le_of_ble_eq_true rfl, Nat.le_of_ble_eq_true rfl⟩ ⟨Nat.zero_le _, Nat.zero_le _⟩ (fun τ41 H locs hτ41 hw => ?_)
          subst hτ41
          refine z_ifb_ne hx hb 51 d_M_point_44 (by decide) (fun c44 => ?_) (fun c44 => ?_)
          · refine lv_iload hx hb d_M_point_51 (lv_at hl 0 rfl) ?_
            refine z_if_eq hx hb 60 d_M_point_53 (by omega) (by decide) (fun c53 => ?_) (fun c53 => ?_)
            · exact absurd c53 (by omega)
            · refine z_ic hx hb d_M_point_56 ?_
              refine lv_goto (tgt := 61) hx hb d_M_point_57 (by decide) ?_
              refine pM_M_thrown hc hw lk_M_60 d_M_point_61 (fun H locs hw => ?_)
              refine lv_aload_n hx hb d_M_point_64 rfl (lv_at hl 1 rfl) ?_
              refine gM_M_thrown hc hw lk_M_60 d_M_point_65 ?_
              simp only [up_s]
              refine z_if_eq hx hb 73 d_M_point_68 (by omega) (by decide) (fun c68 => ?_) (fun c68 => ?_)
              · refine lv_aload_n hx hb d_M_point_73 rfl (lv_at hl 1 rfl) ?_
                refine gM_M_pointCount hc hw lk_M_13 d_M_point_74 ?_
                refine lv_iload_n hx hb d_M_point_77 rfl (lv_at hl 2 rfl) ?_
                have h5n : μ 3 n = 3 ∨ μ 5 0 < 36 := by rcases hP5 with q | q; exact Or.inr q; exact Or.inl (q n (by omega) (by omega))
                refine ldM_M_pointCount hc hw d_M_point_78 (by omega) ?_
                refine z_ic hx hb d_M_point_79 ?_
                refine z_icmp_ne hx hb 85 d_M_point_80 (by first | (show r32 (μ 3 n); omega) | omega) (by first | (show r32 (μ 3 n); omega) | omega) (by decide) (fun c80 => ?_) (fun c80 => ?_)
                · refine lv_aload_n hx hb d_M_point_85 rfl (lv_at hl 1 rfl) ?_
                  refine gM_M_x hc hw lk_M_20 d_M_point_86 ?_
                  refine lv_aload_n hx hb d_M_point_89 rfl (lv_at hl 1 rfl) ?_
                  refine gM_M_points hc hw lk_M_67 d_M_point_90 ?_
                  refine lv_lload_n hx hb d_M_point_93 rfl (lv_at hl 3 rfl) ?_
                  refine stM_M_x hc hw d_M_point_94 (by show 0 ≤ μ 5 0 ∧ μ 5 0 < 36; have c8 : ¬ μ 3 n = 3 := c80; omega) (fun H locs hw => ?_)
                  refine lv_aload_n hx hb d_M_point_95 rfl (lv_at hl 1 rfl) ?_
                  refine gM_M_y hc hw lk_M_24 d_M_point_96 ?_
                  refine lv_aload_n hx hb d_M_point_99 rfl (lv_at hl 1 rfl) ?_
                  refine gM_M_points hc hw lk_M_67 d_M_point_100 ?_
                  refine lv_lload hx hb d_M_point_103 (lv_at hl 4 rfl) ?_
                  refine stM_M_y hc hw d_M_point_105 (by show 0 ≤ μ 5 0 ∧ μ 5 0 < 36; have c8 : ¬ μ 3 n = 3 := c80; omega) (fun H locs hw => ?_)
                  refine lv_aload_n hx hb d_M_point_106 rfl (lv_at hl 1 rfl) ?_
                  refine gM_M_radius hc hw lk_M_27 d_M_point_107 ?_
                  refine lv_aload_n hx hb d_M_point_110 rfl (lv_at hl 1 rfl) ?_
                  refine gM_M_points hc hw lk_M_67 d_M_point_111 ?_
                  refine lv_lload hx hb d_M_point_114 (lv_at hl 5 rfl) ?_
                  refine stM_M_radius hc hw d_M_point_116 (by show 0 ≤ μ 5 0 ∧ μ 5 0 < 36; have c8 : ¬ μ 3 n = 3 := c80; omega) (fun H locs hw => ?_)
                  refine lv_aload_n hx hb d_M_point_117 rfl (lv_at hl 1 rfl) ?_
                  refine gM_M_pointsOf hc hw lk_M_17 d_M_point_118 ?_
                  refine z_ic hx hb d_M_point_121 ?_
                  refine lv_iload_n hx hb d_M_point_122 rfl (lv_at hl 2 rfl) ?_
                  refine z_imul hx hb d_M_point_123 ?_
                  refine lv_aload_n hx hb d_M_point_124 rfl (lv_at hl 1 rfl) ?_
                  refine gM_M_pointCount hc hw lk_M_13 d_M_point_125 ?_
                  refine lv_iload_n hx hb d_M_point_128 rfl (lv_at hl 2 rfl) ?_
                  refine ldM_M_pointCount hc hw d_M_point_129 (by omega) ?_
                  refine z_iadd hx hb d_M_point_130 ?_
                  refine lv_aload_n hx hb d_M_point_131 rfl (lv_at hl 1 rfl) ?_
                  refine gM_M_points hc hw lk_M_67 d_M_point_132 ?_
                  refine stM_M_pointsOf hc hw d_M_point_135 (by show 0 ≤ 3 * n + μ 3 n ∧ 3 * n + μ 3 n < 36; have c8 : ¬ μ 3 n = 3 := c80; omega) (fun H locs hw => ?_)
                  refine lv_aload_n hx hb d_M_point_136 rfl (lv_at hl 1 rfl) ?_
                  refine gM_M_pointCount hc hw lk_M_13 d_M_point_137 ?_
                  refine lv_iload_n hx hb d_M_point_140 rfl (lv_at hl 2 rfl) ?_
                  refine lv_dup2_11 hx hb d_M_point_141 rfl rfl ?_
                  refine ldM_M_pointCount hc hw d_M_point_142 (by omega) ?_
                  refine z_ic hx hb d_M_point_143 ?_
                  refine z_iadd hx hb d_M_point_144 ?_
                  refine stM_M_pointCount hc hw d_M_point_145 (by omega) (fun H locs hw => ?_)
                  refine lv_aload_n hx hb d_M_point_146 rfl (lv_at hl 1 rfl) ?_
                  refine lv_dup hx hb d_M_point_147 rfl ?_
                  refine gM_M_points hc hw lk_M_67 d_M_point_148 ?_
                  refine z_ic hx hb d_M_point_151 ?_
                  refine z_iadd hx hb d_M_point_152 ?_
                  refine pM_M_points hc hw lk_M_67 d_M_point_153 (fun H locs hw => ?_)
                  refine lv_aload_n hx hb d_M_point_156 rfl (lv_at hl 1 rfl) ?_
                  refine gM_M_points hc hw lk_M_67 d_M_point_157 ?_
                  refine z_ic hx hb d_M_point_160 ?_
                  refine z_isub hx hb d_M_point_161 ?_
                  exact w_iret hc hw (by have g : mPtT μ n x y r = 0 := (by unfold mPtT; rw [if_neg (fun z => z c44), if_pos (by omega)]); have c8 : ¬ μ 3 n = 3 := c80; exact ⟨by unfold mPtR; rw [if_neg (fun z => z g), if_neg c8]; congr 3; show μ 5 0 + 1 - 1 = μ 5 0; omega, by unfold mPoint; rw [if_neg (fun z => z g), if_neg c8]; rfl⟩) d_M_point_162
                · refine z_ic hx hb d_M_point_83 ?_
                  exact w_iret hc hw (by have g : mPtT μ n x y r = 0 := (by unfold mPtT; rw [if_neg (fun z => z c44), if_pos (by omega)]); have c8 : μ 3 n = 3 := c80; exact ⟨by unfold mPtR; rw [if_neg (fun z => z g), if_pos c8], by unfold mPoint; rw [if_neg (fun z => z g), if_pos c8]⟩) d_M_point_84
              · exact absurd c68 (by omega)
          · refine z_ic hx hb d_M_point_47 ?_
            refine lv_goto (tgt := 61) hx hb d_M_point_48 (by decide) ?_
            refine pM_M_thrown hc hw lk_M_60 d_M_point_61 (fun H locs hw => ?_)
            refine lv_aload_n hx hb d_M_point_64 rfl (lv_at hl 1 rfl) ?_
            refine gM_M_thrown hc hw lk_M_60 d_M_point_65 ?_
            simp only [up_s]
            refine z_if_eq hx hb 73 d_M_point_68 (by omega) (by decide) (fun c68 => ?_) (fun c68 => ?_)
            · exact absurd c68 (by omega)
            · refine z_ic hx hb d_M_point_71 ?_
              exact w_iret hc hw (by (first | (have g : mPtT μ n x y r = 1 := (by unfold mPtT; rw [if_pos c44])) | (have g : mPtT μ n x y r = 2 := (by unfold mPtT; rw [if_neg (fun z => z c44), if_neg (by omega)]))); unfold mPtR mPoint; rw [if_pos (by omega), if_pos (by omega), g]; exact ⟨rfl, rfl⟩) d_M_point_72
