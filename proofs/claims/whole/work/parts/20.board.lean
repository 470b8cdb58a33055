set_option maxHeartbeats 4000000 in
set_option maxRecDepth 100000 in
theorem k_JM_absL {l : Launch} {D : va_G} {ad : Nat → Nat} {ca : Nat → ClassId} (σ : St) (a : Int) (ha : r64 a) : Cw l D cl7 (tyX ca) (wX ad ca) y_JM_absL c_JM_absL 2 (some .long) 0 [.long (zL a)] σ (RW (.long (zL ((a.natAbs : Nat) : Int))) (σ = ·)) := by
  refine Cw.enterF (by decide +kernel) (Nat.le_of_ble_eq_true rfl) ?_
  intro A p e s m below meth c hc ls hl hw
  have hl : lv_has ls 2 [(0, .long (zL a))] := hl
  obtain ⟨hx, hb, hml, hown, hTB, hK, hr, hlk⟩ := id hc
  refine lv_lload_n hx hb d_JM_absL_0 rfl (lv_at hl 0 rfl) ?_
  refine z_lc0 hx hb d_JM_absL_1 ?_
  refine z_lcmp_ge hx hb 11 d_JM_absL_2 d_JM_absL_3 (by omega) (by omega) (by decide) (fun c2 => ?_) (fun c2 => ?_)
  · refine lv_lload_n hx hb d_JM_absL_11 rfl (lv_at hl 0 rfl) ?_
    exact w_lret hc hw (⟨by congr 3; omega, rfl⟩) d_JM_absL_12
  · refine lv_lload_n hx hb d_JM_absL_6 rfl (lv_at hl 0 rfl) ?_
    refine z_lneg hx hb d_JM_absL_7 ?_
    refine lv_goto (tgt := 12) hx hb d_JM_absL_8 (by decide) ?_
    exact w_lret hc hw (⟨by congr 3; omega, rfl⟩) d_JM_absL_12
set_option maxHeartbeats 4000000 in
set_option maxRecDepth 100000 in
theorem k_JM_maxL {l : Launch} {D : va_G} {ad : Nat → Nat} {ca : Nat → ClassId} (σ : St) (a b : Int) (ha : r64 a) (hb2 : r64 b) : Cw l D cl7 (tyX ca) (wX ad ca) y_JM_maxL c_JM_maxL 4 (some .long) 0 [.long (zL a), .long (zL b)] σ (RW (.long (zL (max a b))) (σ = ·)) := by
  refine Cw.enterF (by decide +kernel) (Nat.le_of_ble_eq_true rfl) ?_
  intro A p e s m below meth c hc ls hl hw
  have hl : lv_has ls 4 [(0, .long (zL a)), (2, .long (zL b))] := hl
  obtain ⟨hx, hb, hml, hown, hTB, hK, hr, hlk⟩ := id hc
  refine lv_lload_n hx hb d_JM_maxL_0 rfl (lv_at hl 0 rfl) ?_
  refine lv_lload_n hx hb d_JM_maxL_1 rfl (lv_at hl 1 rfl) ?_
  refine z_lcmp_lt hx hb 10 d_JM_maxL_2 d_JM_maxL_3 (by omega) (by omega) (by decide) (fun c2 => ?_) (fun c2 => ?_)
  · refine lv_lload_n hx hb d_JM_maxL_10 rfl (lv_at hl 1 rfl) ?_
    exact w_lret hc hw (⟨by congr 3; omega, rfl⟩) d_JM_maxL_11
  · refine lv_lload_n hx hb d_JM_maxL_6 rfl (lv_at hl 0 rfl) ?_
    refine lv_goto (tgt := 11) hx hb d_JM_maxL_7 (by decide) ?_
    exact w_lret hc hw (⟨by congr 3; omega, rfl⟩) d_JM_maxL_11
set_option maxHeartbeats 4000000 in
set_option maxRecDepth 100000 in
theorem k_JM_max {l : Launch} {D : va_G} {ad : Nat → Nat} {ca : Nat → ClassId} (σ : St) (a b : Int) (ha : r32 a) (hb2 : r32 b) : Cw l D cl7 (tyX ca) (wX ad ca) y_JM_max c_JM_max 2 (some .int) 0 [.int (zI a), .int (zI b)] σ (RW (.int (zI (max a b))) (σ = ·)) := by
  refine Cw.enterF (by decide +kernel) (Nat.le_of_ble_eq_true rfl) ?_
  intro A p e s m below meth c hc ls hl hw
  have hl : lv_has ls 2 [(0, .int (zI a)), (1, .int (zI b))] := hl
  obtain ⟨hx, hb, hml, hown, hTB, hK, hr, hlk⟩ := id hc
  refine lv_iload_n hx hb d_JM_max_0 rfl (lv_at hl 0 rfl) ?_
  refine lv_iload_n hx hb d_JM_max_1 rfl (lv_at hl 1 rfl) ?_
  refine z_icmp_lt hx hb 9 d_JM_max_2 (by omega) (by omega) (by decide) (fun c2 => ?_) (fun c2 => ?_)
  · refine lv_iload_n hx hb d_JM_max_9 rfl (lv_at hl 1 rfl) ?_
    exact w_iret hc hw (⟨by congr 3; omega, rfl⟩) d_JM_max_10
  · refine lv_iload_n hx hb d_JM_max_5 rfl (lv_at hl 0 rfl) ?_
    refine lv_goto (tgt := 10) hx hb d_JM_max_6 (by decide) ?_
    exact w_iret hc hw (⟨by congr 3; omega, rfl⟩) d_JM_max_10
set_option maxHeartbeats 4000000 in
set_option maxRecDepth 100000 in
theorem k_JM_min {l : Launch} {D : va_G} {ad : Nat → Nat} {ca : Nat → ClassId} (σ : St) (a b : Int) (ha : r32 a) (hb2 : r32 b) : Cw l D cl7 (tyX ca) (wX ad ca) y_JM_min c_JM_min 2 (some .int) 0 [.int (zI a), .int (zI b)] σ (RW (.int (zI (min a b))) (σ = ·)) := by
  refine Cw.enterF (by decide +kernel) (Nat.le_of_ble_eq_true rfl) ?_
  intro A p e s m below meth c hc ls hl hw
  have hl : lv_has ls 2 [(0, .int (zI a)), (1, .int (zI b))] := hl
  obtain ⟨hx, hb, hml, hown, hTB, hK, hr, hlk⟩ := id hc
  refine lv_iload_n hx hb d_JM_min_0 rfl (lv_at hl 0 rfl) ?_
  refine lv_iload_n hx hb d_JM_min_1 rfl (lv_at hl 1 rfl) ?_
  refine z_icmp_gt hx hb 9 d_JM_min_2 (by omega) (by omega) (by decide) (fun c2 => ?_) (fun c2 => ?_)
  · refine lv_iload_n hx hb d_JM_min_9 rfl (lv_at hl 1 rfl) ?_
    exact w_iret hc hw (⟨by congr 3; omega, rfl⟩) d_JM_min_10
  · refine lv_iload_n hx hb d_JM_min_5 rfl (lv_at hl 0 rfl) ?_
    refine lv_goto (tgt := 10) hx hb d_JM_min_6 (by decide) ?_
    exact w_iret hc hw (⟨by congr 3; omega, rfl⟩) d_JM_min_10
set_option maxHeartbeats 4000000 in
set_option maxRecDepth 100000 in
theorem k_X_hasBit {l : Launch} {D : va_G} {ad : Nat → Nat} {ca : Nat → ClassId} (σ : St) (a b : Int) (ha : 0 ≤ a ∧ a < 2147483648) (hb2 : 0 ≤ b ∧ b < 32) : Cw l D cl7 (tyX ca) (wX ad ca) y_X_hasBit c_X_hasBit 2 (some .boolean) 0 [.int (zI a), .int (zI b)] σ (RW (.int (zI (bI (zB a b)))) (σ = ·)) := by
  refine Cw.enter (by decide) (Nat.le_of_ble_eq_true rfl) ?_
  intro A p e s m below meth c hc ls hl hw
  have hl : lv_has ls 2 [(0, .int (zI a)), (1, .int (zI b))] := hl
  obtain ⟨hx, hb, hml, hown, hTB, hK, hr, hlk⟩ := id hc
  refine lv_iload_n hx hb d_X_hasBit_0 rfl (lv_at hl 0 rfl) ?_
  refine lv_iload_n hx hb d_X_hasBit_1 rfl (lv_at hl 1 rfl) ?_
  refine z_ishr hx hb d_X_hasBit_2 (by omega) ?_
  refine z_ic hx hb d_X_hasBit_3 ?_
  refine z_iand hx hb d_X_hasBit_4 (⟨Int.natCast_nonneg _, by decide⟩) ?_
  rw [zAnd1 a b ha.1]
  refine z_if_eq hx hb 12 d_X_hasBit_5 (by have := bI_r (zB a b); omega) (by decide) (fun cz => ?_) (fun cz => ?_)
  · refine z_ic hx hb d_X_hasBit_12 ?_
    exact w_zret hc hw (by omega) (⟨by congr 3; have := bI_01 (zB a b); omega, rfl⟩) d_X_hasBit_13
  · refine z_ic hx hb d_X_hasBit_8 ?_
    refine lv_goto (tgt := 13) hx hb d_X_hasBit_9 (by decide) ?_
    exact w_zret hc hw (by omega) (⟨by congr 3; have := bI_01 (zB a b); omega, rfl⟩) d_X_hasBit_13
set_option maxHeartbeats 4000000 in
set_option maxRecDepth 100000 in
theorem k_X_isWithin {l : Launch} {D : va_G} {ad : Nat → Nat} {ca : Nat → ClassId} (σ : St) (v a b : Int) (hv : r64 v) (ha : r64 a) (hb2 : r64 b) : Cw l D cl7 (tyX ca) (wX ad ca) y_X_isWithin c_X_isWithin 6 (some .boolean) 0 [.long (zL v), .long (zL a), .long (zL b)] σ (RW (.int (zI (bI (a ≤ v ∧ v ≤ b)))) (σ = ·)) := by
  refine Cw.enter (by decide) (Nat.le_of_ble_eq_true rfl) ?_
  intro A p e s m below meth c hc ls hl hw
  have hl : lv_has ls 6 [(0, .long (zL v)), (2, .long (zL a)), (4, .long (zL b))] := hl
  obtain ⟨hx, hb, hml, hown, hTB, hK, hr, hlk⟩ := id hc
  refine lv_lload_n hx hb d_X_isWithin_0 rfl (lv_at hl 0 rfl) ?_
  refine lv_lload_n hx hb d_X_isWithin_1 rfl (lv_at hl 1 rfl) ?_
  refine z_lcmp_lt hx hb 17 d_X_isWithin_2 d_X_isWithin_3 (by omega) (by omega) (by decide) (fun c2 => ?_) (fun c2 => ?_)
  · refine z_ic hx hb d_X_isWithin_17 ?_
    exact w_zret hc hw (by omega) (⟨by first | rw [bI_t (by omega)] | rw [bI_f (by omega)], rfl⟩) d_X_isWithin_18
  · refine lv_lload_n hx hb d_X_isWithin_6 rfl (lv_at hl 0 rfl) ?_
    refine lv_lload hx hb d_X_isWithin_7 (lv_at hl 2 rfl) ?_
    refine z_lcmp_gt hx hb 17 d_X_isWithin_9 d_X_isWithin_10 (by omega) (by omega) (by decide) (fun c9 => ?_) (fun c9 => ?_)
    · refine z_ic hx hb d_X_isWithin_17 ?_
      exact w_zret hc hw (by omega) (⟨by first | rw [bI_t (by omega)] | rw [bI_f (by omega)], rfl⟩) d_X_isWithin_18
    · refine z_ic hx hb d_X_isWithin_13 ?_
      refine lv_goto (tgt := 18) hx hb d_X_isWithin_14 (by decide) ?_
      exact w_zret hc hw (by omega) (⟨by first | rw [bI_t (by omega)] | rw [bI_f (by omega)], rfl⟩) d_X_isWithin_18
set_option maxHeartbeats 4000000 in
set_option maxRecDepth 100000 in
theorem k_B_hasNet {l : Launch} {D : va_G} {ad : Nat → Nat} {ca : Nat → ClassId} (σ : St) (a : Int) (ha : r32 a) (hI : 0 ≤ σ 7 0 ∧ σ 7 0 ≤ 12) : Cw l D cl7 (tyX ca) (wX ad ca) y_B_hasNet c_B_hasNet 2 (some .boolean) 0 [.ref (ad 101), .int (zI a)] σ (RW (.int (zI (bI (0 ≤ a ∧ a < σ 7 0)))) (σ = ·)) := by
  refine Cw.enter (by decide) (Nat.le_of_ble_eq_true rfl) ?_
  intro A p e s m below meth c hc ls hl hw
  have hl : lv_has ls 2 [(0, .ref (ad 101)), (1, .int (zI a))] := hl
  obtain ⟨hx, hb, hml, hown, hTB, hK, hr, hlk⟩ := id hc
  refine lv_iload_n hx hb d_B_hasNet_0 rfl (lv_at hl 1 rfl) ?_
  refine z_if_lt hx hb 16 d_B_hasNet_1 (by omega) (by decide) (fun c1 => ?_) (fun c1 => ?_)
  · refine z_ic hx hb d_B_hasNet_16 ?_
    exact w_zret hc hw (by omega) (⟨by first | rw [bI_t (by omega)] | rw [bI_f (by omega)], rfl⟩) d_B_hasNet_17
  · refine lv_iload_n hx hb d_B_hasNet_4 rfl (lv_at hl 1 rfl) ?_
    refine lv_aload_n hx hb d_B_hasNet_5 rfl (lv_at hl 0 rfl) ?_
    refine gX_B_netCount hc hw lk_B_35 d_B_hasNet_6 ?_
    refine z_icmp_ge hx hb 16 d_B_hasNet_9 (by omega) (by omega) (by decide) (fun c9 => ?_) (fun c9 => ?_)
    · refine z_ic hx hb d_B_hasNet_16 ?_
      exact w_zret hc hw (by omega) (⟨by first | rw [bI_t (by omega)] | rw [bI_f (by omega)], rfl⟩) d_B_hasNet_17
    · refine z_ic hx hb d_B_hasNet_12 ?_
      refine lv_goto (tgt := 17) hx hb d_B_hasNet_13 (by decide) ?_
      exact w_zret hc hw (by omega) (⟨by first | rw [bI_t (by omega)] | rw [bI_f (by omega)], rfl⟩) d_B_hasNet_17
set_option maxHeartbeats 4000000 in
set_option maxRecDepth 100000 in
theorem k_B_hasPoint {l : Launch} {D : va_G} {ad : Nat → Nat} {ca : Nat → ClassId} (σ : St) (a : Int) (ha : r32 a) (hI : 0 ≤ σ 8 0 ∧ σ 8 0 ≤ 36) : Cw l D cl7 (tyX ca) (wX ad ca) y_B_hasPoint c_B_hasPoint 2 (some .boolean) 0 [.ref (ad 101), .int (zI a)] σ (RW (.int (zI (bI (0 ≤ a ∧ a < σ 8 0)))) (σ = ·)) := by
  refine Cw.enter (by decide) (Nat.le_of_ble_eq_true rfl) ?_
  intro A p e s m below meth c hc ls hl hw
  have hl : lv_has ls 2 [(0, .ref (ad 101)), (1, .int (zI a))] := hl
  obtain ⟨hx, hb, hml, hown, hTB, hK, hr, hlk⟩ := id hc
  refine lv_iload_n hx hb d_B_hasPoint_0 rfl (lv_at hl 1 rfl) ?_
  refine z_if_lt hx hb 16 d_B_hasPoint_1 (by omega) (by decide) (fun c1 => ?_) (fun c1 => ?_)
  · refine z_ic hx hb d_B_hasPoint_16 ?_
    exact w_zret hc hw (by omega) (⟨by first | rw [bI_t (by omega)] | rw [bI_f (by omega)], rfl⟩) d_B_hasPoint_17
  · refine lv_iload_n hx hb d_B_hasPoint_4 rfl (lv_at hl 1 rfl) ?_
    refine lv_aload_n hx hb d_B_hasPoint_5 rfl (lv_at hl 0 rfl) ?_
    refine gX_B_pointCount hc hw lk_B_39 d_B_hasPoint_6 ?_
    refine z_icmp_ge hx hb 16 d_B_hasPoint_9 (by omega) (by omega) (by decide) (fun c9 => ?_) (fun c9 => ?_)
    · refine z_ic hx hb d_B_hasPoint_16 ?_
      exact w_zret hc hw (by omega) (⟨by first | rw [bI_t (by omega)] | rw [bI_f (by omega)], rfl⟩) d_B_hasPoint_17
    · refine z_ic hx hb d_B_hasPoint_12 ?_
      refine lv_goto (tgt := 17) hx hb d_B_hasPoint_13 (by decide) ?_
      exact w_zret hc hw (by omega) (⟨by first | rw [bI_t (by omega)] | rw [bI_f (by omega)], rfl⟩) d_B_hasPoint_17
set_option maxHeartbeats 4000000 in
set_option maxRecDepth 100000 in
theorem k_B_addNet {l : Launch} {D : va_G} {ad : Nat → Nat} {ca : Nat → ClassId} (σ : St) (b : Int) (hb2 : b = 0 ∨ b = 1) (hI : 0 ≤ σ 7 0 ∧ σ 7 0 ≤ 12) : Cw l D cl7 (tyX ca) (wX ad ca) y_B_addNet c_B_addNet 2 (some .int) 0 [.ref (ad 101), .int (zI b)] σ (RW (.int (zI (if 12 ≤ σ 7 0 then -1 else σ 7 0))) (bNet σ b = ·)) := by
  refine Cw.enter (by decide) (Nat.le_of_ble_eq_true rfl) ?_
  intro A p e s m below meth c hc ls hl hw
  have hl : lv_has ls 2 [(0, .ref (ad 101)), (1, .int (zI b))] := hl
  obtain ⟨hx, hb, hml, hown, hTB, hK, hr, hlk⟩ := id hc
  refine lv_aload_n hx hb d_B_addNet_0 rfl (lv_at hl 0 rfl) ?_
  refine gX_B_netCount hc hw lk_B_35 d_B_addNet_1 ?_
  refine z_bi hx hb d_B_addNet_4 (by decide) ?_
  refine z_icmp_lt hx hb 11 d_B_addNet_6 (by omega) (by omega) (by decide) (fun c6 => ?_) (fun c6 => ?_)
  · refine lv_aload_n hx hb d_B_addNet_11 rfl (lv_at hl 0 rfl) ?_
    refine gX_B_must hc hw lk_B_9 d_B_addNet_12 ?_
    refine lv_aload_n hx hb d_B_addNet_15 rfl (lv_at hl 0 rfl) ?_
    refine gX_B_netCount hc hw lk_B_35 d_B_addNet_16 ?_
    refine lv_iload_n hx hb d_B_addNet_19 rfl (lv_at hl 1 rfl) ?_
    refine stX_B_must hc hw d_B_addNet_20 (by omega) (by omega) (fun H locs hw => ?_)
    refine lv_aload_n hx hb d_B_addNet_21 rfl (lv_at hl 0 rfl) ?_
    refine lv_dup hx hb d_B_addNet_22 rfl ?_
    refine gX_B_netCount hc hw lk_B_35 d_B_addNet_23 ?_
    refine z_ic hx hb d_B_addNet_26 ?_
    refine z_iadd hx hb d_B_addNet_27 ?_
    refine pX_B_netCount hc hw lk_B_35 d_B_addNet_28 (fun H locs hw => ?_)
    refine lv_aload_n hx hb d_B_addNet_31 rfl (lv_at hl 0 rfl) ?_
    refine gX_B_netCount hc hw lk_B_35 d_B_addNet_32 ?_
    refine z_ic hx hb d_B_addNet_35 ?_
    refine z_isub hx hb d_B_addNet_36 ?_
    exact w_iret hc hw (by unfold bNet; first | (rw [if_pos (by omega), if_pos (by omega)]; exact ⟨rfl, rfl⟩) | (rw [if_neg (by omega), if_neg (by omega)]; exact ⟨by simp [up], by simp [up]⟩)) d_B_addNet_37
  · refine z_ic hx hb d_B_addNet_9 ?_
    exact w_iret hc hw (by unfold bNet; first | (rw [if_pos (by omega), if_pos (by omega)]; exact ⟨rfl, rfl⟩) | (rw [if_neg (by omega), if_neg (by omega)]; exact ⟨by simp [up], by simp [up]⟩)) d_B_addNet_10
set_option maxHeartbeats 4000000 in
set_option maxRecDepth 100000 in
theorem k_B_squareOfWay {l : Launch} {D : va_G} {ad : Nat → Nat} {ca : Nat → ClassId} (σ : St) (a x y : Int) (ha : 0 ≤ a ∧ a < 36) : Cw l D cl7 (tyX ca) (wX ad ca) y_B_squareOfWay c_B_squareOfWay 10 (some .long) 0 [.ref (ad 101), .int (zI a), .long (zL x), .long (zL y)] σ (RW (.long (zL (sqW σ a x y))) (σ = ·)) := by
  refine Cw.enter (by decide) (Nat.le_of_ble_eq_true rfl) ?_
  intro A p e s m below meth c hc ls hl hw
  have hl : lv_has ls 10 [(0, .ref (ad 101)), (1, .int (zI a)), (2, .long (zL x)), (4, .long (zL y))] := hl
  obtain ⟨hx, hb, hml, hown, hTB, hK, hr, hlk⟩ := id hc
  refine lv_aload_n hx hb d_B_squareOfWay_0 rfl (lv_at hl 0 rfl) ?_
  refine gX_B_xs hc hw lk_B_22 d_B_squareOfWay_1 ?_
  refine lv_iload_n hx hb d_B_squareOfWay_4 rfl (lv_at hl 1 rfl) ?_
  refine ldX_B_xs hc hw d_B_squareOfWay_5 (by omega) ?_
  refine lv_lload_n hx hb d_B_squareOfWay_6 rfl (lv_at hl 2 rfl) ?_
  refine z_lsub hx hb d_B_squareOfWay_7 ?_
  refine z_lst hx hb d_B_squareOfWay_8 hl (by decide) (fun x6_8 ex6_8 ls (hl : lv_has ls 10 [(6, .long (zL x6_8)), (0, .ref (ad 101)), (1, .int (zI a)), (2, .long (zL x)), (4, .long (zL y))]) => ?_)
  refine lv_aload_n hx hb d_B_squareOfWay_10 rfl (lv_at hl 1 rfl) ?_
  refine gX_B_ys hc hw lk_B_26 d_B_squareOfWay_11 ?_
  refine lv_iload_n hx hb d_B_squareOfWay_14 rfl (lv_at hl 2 rfl) ?_
  refine ldX_B_ys hc hw d_B_squareOfWay_15 (by omega) ?_
  refine lv_lload hx hb d_B_squareOfWay_16 (lv_at hl 4 rfl) ?_
  refine z_lsub hx hb d_B_squareOfWay_18 ?_
  refine z_lst hx hb d_B_squareOfWay_19 hl (by decide) (fun x8_19 ex8_19 ls (hl : lv_has ls 10 [(8, .long (zL x8_19)), (6, .long (zL x6_8)), (0, .ref (ad 101)), (1, .int (zI a)), (2, .long (zL x)), (4, .long (zL y))]) => ?_)
  refine lv_lload hx hb d_B_squareOfWay_21 (lv_at hl 1 rfl) ?_
  refine lv_lload hx hb d_B_squareOfWay_23 (lv_at hl 1 rfl) ?_
  refine z_lmul hx hb d_B_squareOfWay_25 ?_
  refine lv_lload hx hb d_B_squareOfWay_26 (lv_at hl 0 rfl) ?_
  refine lv_lload hx hb d_B_squareOfWay_28 (lv_at hl 0 rfl) ?_
  refine z_lmul hx hb d_B_squareOfWay_30 ?_
  refine z_ladd hx hb d_B_squareOfWay_31 ?_
  exact w_lret hc hw (by unfold sqW; subst_vars; exact ⟨rfl, rfl⟩) d_B_squareOfWay_32
set_option maxHeartbeats 4000000 in
set_option maxRecDepth 100000 in
theorem k_B_setGap {l : Launch} {D : va_G} {ad : Nat → Nat} {ca : Nat → ClassId} (σ : St) (v : Int) (hv : r64 v) (hI : 0 ≤ σ 9 0 ∧ σ 9 0 ≤ 1000000) : Cw l D cl7 (tyX ca) (wX ad ca) y_B_setGap c_B_setGap 4 (some .boolean) 0 [.ref (ad 101), .long (zL v)] σ (RW (.int (zI (bI (¬ v = σ 9 0)))) (up σ 9 0 v = ·)) := by
  refine Cw.enter (by decide) (Nat.le_of_ble_eq_true rfl) ?_
  intro A p e s m below meth c hc ls hl hw
  have hl : lv_has ls 4 [(0, .ref (ad 101)), (1, .long (zL v))] := hl
  obtain ⟨hx, hb, hml, hown, hTB, hK, hr, hlk⟩ := id hc
  refine lv_lload_n hx hb d_B_setGap_0 rfl (lv_at hl 1 rfl) ?_
  refine lv_aload_n hx hb d_B_setGap_1 rfl (lv_at hl 0 rfl) ?_
  refine gX_B_apart hc hw lk_B_42 d_B_setGap_2 ?_
  refine z_lcmp_eq hx hb 13 d_B_setGap_5 d_B_setGap_6 (by omega) (by omega) (by decide) (fun c5 => ?_) (fun c5 => ?_)
  · refine z_ic hx hb d_B_setGap_13 ?_
    refine z_ist_n hx hb d_B_setGap_14 rfl hl (by decide) (fun x3_14 ex3_14 ls (hl : lv_has ls 4 [(3, .int (zI x3_14)), (0, .ref (ad 101)), (1, .long (zL v))]) => ?_)
    refine lv_aload_n hx hb d_B_setGap_15 rfl (lv_at hl 1 rfl) ?_
    refine lv_lload_n hx hb d_B_setGap_16 rfl (lv_at hl 2 rfl) ?_
    refine pX_B_apart hc hw lk_B_42 d_B_setGap_17 (fun H locs hw => ?_)
    refine lv_iload_n hx hb d_B_setGap_20 rfl (lv_at hl 0 rfl) ?_
    exact w_zret hc hw (by omega) (⟨by subst_vars; first | rw [bI_t (by omega)] | rw [bI_f (by omega)], rfl⟩) d_B_setGap_21
  · refine z_ic hx hb d_B_setGap_9 ?_
    refine lv_goto (tgt := 14) hx hb d_B_setGap_10 (by decide) ?_
    refine z_ist_n hx hb d_B_setGap_14 rfl hl (by decide) (fun x3_14 ex3_14 ls (hl : lv_has ls 4 [(3, .int (zI x3_14)), (0, .ref (ad 101)), (1, .long (zL v))]) => ?_)
    refine lv_aload_n hx hb d_B_setGap_15 rfl (lv_at hl 1 rfl) ?_
    refine lv_lload_n hx hb d_B_setGap_16 rfl (lv_at hl 2 rfl) ?_
    refine pX_B_apart hc hw lk_B_42 d_B_setGap_17 (fun H locs hw => ?_)
    refine lv_iload_n hx hb d_B_setGap_20 rfl (lv_at hl 0 rfl) ?_
    exact w_zret hc hw (by omega) (⟨by subst_vars; first | rw [bI_t (by omega)] | rw [bI_f (by omega)], rfl⟩) d_B_setGap_21
set_option maxHeartbeats 4000000 in
set_option maxRecDepth 100000 in
theorem k_B_setForce {l : Launch} {D : va_G} {ad : Nat → Nat} {ca : Nat → ClassId} (σ : St) (a v : Int) (ha : 0 ≤ a ∧ a < 36) (hv : r64 v) (hI : 0 ≤ σ 6 a ∧ σ 6 a ≤ 1000000) : Cw l D cl7 (tyX ca) (wX ad ca) y_B_setForce c_B_setForce 5 (some .boolean) 0 [.ref (ad 101), .int (zI a), .long (zL v)] σ (RW (.int (zI (bI (¬ v = σ 6 a)))) (up σ 6 a v = ·)) := by
  refine Cw.enter (by decide) (Nat.le_of_ble_eq_true rfl) ?_
  intro A p e s m below meth c hc ls hl hw
  have hl : lv_has ls 5 [(0, .ref (ad 101)), (1, .int (zI a)), (2, .long (zL v))] := hl
  obtain ⟨hx, hb, hml, hown, hTB, hK, hr, hlk⟩ := id hc
  refine lv_lload_n hx hb d_B_setForce_0 rfl (lv_at hl 2 rfl) ?_
  refine lv_aload_n hx hb d_B_setForce_1 rfl (lv_at hl 0 rfl) ?_
  refine gX_B_weights hc hw lk_B_32 d_B_setForce_2 ?_
  refine lv_iload_n hx hb d_B_setForce_5 rfl (lv_at hl 1 rfl) ?_
  refine ldX_B_weights hc hw d_B_setForce_6 (by omega) ?_
  refine z_lcmp_eq hx hb 15 d_B_setForce_7 d_B_setForce_8 (by omega) (by omega) (by decide) (fun c7 => ?_) (fun c7 => ?_)
  · refine z_ic hx hb d_B_setForce_15 ?_
    refine z_ist hx hb d_B_setForce_16 hl (by decide) (fun x4_16 ex4_16 ls (hl : lv_has ls 5 [(4, .int (zI x4_16)), (0, .ref (ad 101)), (1, .int (zI a)), (2, .long (zL v))]) => ?_)
    refine lv_aload_n hx hb d_B_setForce_18 rfl (lv_at hl 1 rfl) ?_
    refine gX_B_weights hc hw lk_B_32 d_B_setForce_19 ?_
    refine lv_iload_n hx hb d_B_setForce_22 rfl (lv_at hl 2 rfl) ?_
    refine lv_lload_n hx hb d_B_setForce_23 rfl (lv_at hl 3 rfl) ?_
    refine stX_B_weights hc hw d_B_setForce_24 (by omega) (fun H locs hw => ?_)
    refine lv_iload hx hb d_B_setForce_25 (lv_at hl 0 rfl) ?_
    exact w_zret hc hw (by omega) (⟨by subst_vars; first | rw [bI_t (by omega)] | rw [bI_f (by omega)], rfl⟩) d_B_setForce_27
  · refine z_ic hx hb d_B_setForce_11 ?_
    refine lv_goto (tgt := 16) hx hb d_B_setForce_12 (by decide) ?_
    refine z_ist hx hb d_B_setForce_16 hl (by decide) (fun x4_16 ex4_16 ls (hl : lv_has ls 5 [(4, .int (zI x4_16)), (0, .ref (ad 101)), (1, .int (zI a)), (2, .long (zL v))]) => ?_)
    refine lv_aload_n hx hb d_B_setForce_18 rfl (lv_at hl 1 rfl) ?_
    refine gX_B_weights hc hw lk_B_32 d_B_setForce_19 ?_
    refine lv_iload_n hx hb d_B_setForce_22 rfl (lv_at hl 2 rfl) ?_
    refine lv_lload_n hx hb d_B_setForce_23 rfl (lv_at hl 3 rfl) ?_
    refine stX_B_weights hc hw d_B_setForce_24 (by omega) (fun H locs hw => ?_)
    refine lv_iload hx hb d_B_setForce_25 (lv_at hl 0 rfl) ?_
    exact w_zret hc hw (by omega) (⟨by subst_vars; first | rw [bI_t (by omega)] | rw [bI_f (by omega)], rfl⟩) d_B_setForce_27
set_option maxHeartbeats 4000000 in
set_option maxRecDepth 100000 in
theorem k_B_canBothBeProbes {l : Launch} {D : va_G} {ad : Nat → Nat} {ca : Nat → ClassId} (σ : St) (a b : Int) (ha : 0 ≤ a ∧ a < 36) (hb2 : 0 ≤ b ∧ b < 36) (hI : IB σ) : Cw l D cl7 (tyX ca) (wX ad ca) y_B_canBothBeProbes c_B_canBothBeProbes 5 (some .boolean) 1 [.ref (ad 101), .int (zI a), .int (zI b)] σ (RW (.int (zI (bI (canB σ a b)))) (σ = ·)) := by
  have hsq := sqW_bd hI a (hI.2.2.2.1 b) (hI.2.2.2.2.1 b)
  have h9 := hI.2.2.1
  have h5a := hI.2.2.2.2.2.1 a
  have h5b := hI.2.2.2.2.2.1 b
  have hll := sq_bd (a := σ 9 0 + σ 5 a + σ 5 b) (n := 1200000) (by omega) (by omega)
  refine Cw.enter (by decide) (Nat.le_of_ble_eq_true rfl) ?_
  intro A p e s m below meth c hc ls hl hw
  have hl : lv_has ls 5 [(0, .ref (ad 101)), (1, .int (zI a)), (2, .int (zI b))] := hl
  obtain ⟨hx, hb, hml, hown, hTB, hK, hr, hlk⟩ := id hc
  refine lv_aload_n hx hb d_B_canBothBeProbes_0 rfl (lv_at hl 0 rfl) ?_
  refine gX_B_apart hc hw lk_B_42 d_B_canBothBeProbes_1 ?_
  refine lv_aload_n hx hb d_B_canBothBeProbes_4 rfl (lv_at hl 0 rfl) ?_
  refine gX_B_radii hc hw lk_B_29 d_B_canBothBeProbes_5 ?_
  refine lv_iload_n hx hb d_B_canBothBeProbes_8 rfl (lv_at hl 1 rfl) ?_
  refine ldX_B_radii hc hw d_B_canBothBeProbes_9 (by omega) ?_
  refine z_ladd hx hb d_B_canBothBeProbes_10 ?_
  refine lv_aload_n hx hb d_B_canBothBeProbes_11 rfl (lv_at hl 0 rfl) ?_
  refine gX_B_radii hc hw lk_B_29 d_B_canBothBeProbes_12 ?_
  refine lv_iload_n hx hb d_B_canBothBeProbes_15 rfl (lv_at hl 2 rfl) ?_
  refine ldX_B_radii hc hw d_B_canBothBeProbes_16 (by omega) ?_
  refine z_ladd hx hb d_B_canBothBeProbes_17 ?_
  refine z_lst_n hx hb d_B_canBothBeProbes_18 rfl hl (by decide) (fun x3_18 ex3_18 ls (hl : lv_has ls 5 [(3, .long (zL x3_18)), (0, .ref (ad 101)), (1, .int (zI a)), (2, .int (zI b))]) => ?_)
  refine lv_aload_n hx hb d_B_canBothBeProbes_19 rfl (lv_at hl 1 rfl) ?_
  refine lv_iload_n hx hb d_B_canBothBeProbes_20 rfl (lv_at hl 2 rfl) ?_
  refine lv_aload_n hx hb d_B_canBothBeProbes_21 rfl (lv_at hl 1 rfl) ?_
  refine gX_B_xs hc hw lk_B_22 d_B_canBothBeProbes_22 ?_
  refine lv_iload_n hx hb d_B_canBothBeProbes_25 rfl (lv_at hl 3 rfl) ?_
  refine ldX_B_xs hc hw d_B_canBothBeProbes_26 (by omega) ?_
  refine lv_aload_n hx hb d_B_canBothBeProbes_27 rfl (lv_at hl 1 rfl) ?_
  refine gX_B_ys hc hw lk_B_26 d_B_canBothBeProbes_28 ?_
  refine lv_iload_n hx hb d_B_canBothBeProbes_31 rfl (lv_at hl 3 rfl) ?_
  refine ldX_B_ys hc hw d_B_canBothBeProbes_32 (by omega) ?_
  refine w_cvR (q0 := 1) hc hw (k_B_squareOfWay _ _ _ _ (by omega)) yw_B_squareOfWay yi_B_squareOfWay lk_B_46 d_B_canBothBeProbes_33 rfl rfl rfl rfl hl.1 (Nat.le_of_ble_eq_true rfl) ⟨Nat.le_of_ble_eq_true rfl, Nat.le_of_ble_eq_true rfl⟩ ⟨Nat.zero_le _, Nat.zero_le _⟩ (fun τ33 H locs hτ33 hw => ?_)
  subst hτ33
  refine lv_lload_n hx hb d_B_canBothBeProbes_36 rfl (lv_at hl 0 rfl) ?_
  refine lv_lload_n hx hb d_B_canBothBeProbes_37 rfl (lv_at hl 0 rfl) ?_
  refine z_lmul hx hb d_B_canBothBeProbes_38 ?_
  subst ex3_18
  refine z_lcmp_lt hx hb 47 d_B_canBothBeProbes_39 d_B_canBothBeProbes_40 (by omega) (by omega) (by decide) (fun c39 => ?_) (fun c39 => ?_)
  · refine z_ic hx hb d_B_canBothBeProbes_47 ?_
    exact w_zret hc hw (by omega) (⟨by first | rw [bI_t (by omega)] | rw [bI_f (by omega)], rfl⟩) d_B_canBothBeProbes_48
  · refine z_ic hx hb d_B_canBothBeProbes_43 ?_
    refine lv_goto (tgt := 48) hx hb d_B_canBothBeProbes_44 (by decide) ?_
    exact w_zret hc hw (by omega) (⟨by first | rw [bI_t (by omega)] | rw [bI_f (by omega)], rfl⟩) d_B_canBothBeProbes_48
set_option maxHeartbeats 4000000 in
set_option maxRecDepth 100000 in
theorem k_B_isBeforeByPlace {l : Launch} {D : va_G} {ad : Nat → Nat} {ca : Nat → ClassId} (σ : St) (a b : Int) (ha : 0 ≤ a ∧ a < 36) (hb2 : 0 ≤ b ∧ b < 36) (hI : IB σ) : Cw l D cl7 (tyX ca) (wX ad ca) y_B_isBeforeByPlace c_B_isBeforeByPlace 3 (some .boolean) 0 [.ref (ad 101), .int (zI a), .int (zI b)] σ (RW (.int (zI (bI (befP σ a b)))) (σ = ·)) := by
  have h3a := hI.2.2.2.1 a
  have h3b := hI.2.2.2.1 b
  have h4a := hI.2.2.2.2.1 a
  have h4b := hI.2.2.2.2.1 b
  refine Cw.enter (by decide) (Nat.le_of_ble_eq_true rfl) ?_
  intro A p e s m below meth c hc ls hl hw
  have hl : lv_has ls 3 [(0, .ref (ad 101)), (1, .int (zI a)), (2, .int (zI b))] := hl
  obtain ⟨hx, hb, hml, hown, hTB, hK, hr, hlk⟩ := id hc
  refine lv_aload_n hx hb d_B_isBeforeByPlace_0 rfl (lv_at hl 0 rfl) ?_
  refine gX_B_xs hc hw lk_B_22 d_B_isBeforeByPlace_1 ?_
  refine lv_iload_n hx hb d_B_isBeforeByPlace_4 rfl (lv_at hl 1 rfl) ?_
  refine ldX_B_xs hc hw d_B_isBeforeByPlace_5 (by omega) ?_
  refine lv_aload_n hx hb d_B_isBeforeByPlace_6 rfl (lv_at hl 0 rfl) ?_
  refine gX_B_xs hc hw lk_B_22 d_B_isBeforeByPlace_7 ?_
  refine lv_iload_n hx hb d_B_isBeforeByPlace_10 rfl (lv_at hl 2 rfl) ?_
  refine ldX_B_xs hc hw d_B_isBeforeByPlace_11 (by omega) ?_
  refine z_lcmp_eq hx hb 38 d_B_isBeforeByPlace_12 d_B_isBeforeByPlace_13 (by omega) (by omega) (by decide) (fun c12 => ?_) (fun c12 => ?_)
  · refine lv_aload_n hx hb d_B_isBeforeByPlace_38 rfl (lv_at hl 0 rfl) ?_
    refine gX_B_ys hc hw lk_B_26 d_B_isBeforeByPlace_39 ?_
    refine lv_iload_n hx hb d_B_isBeforeByPlace_42 rfl (lv_at hl 1 rfl) ?_
    refine ldX_B_ys hc hw d_B_isBeforeByPlace_43 (by omega) ?_
    refine lv_aload_n hx hb d_B_isBeforeByPlace_44 rfl (lv_at hl 0 rfl) ?_
    refine gX_B_ys hc hw lk_B_26 d_B_isBeforeByPlace_45 ?_
    refine lv_iload_n hx hb d_B_isBeforeByPlace_48 rfl (lv_at hl 2 rfl) ?_
    refine ldX_B_ys hc hw d_B_isBeforeByPlace_49 (by omega) ?_
    refine z_lcmp_eq hx hb 78 d_B_isBeforeByPlace_50 d_B_isBeforeByPlace_51 (by omega) (by omega) (by decide) (fun c50 => ?_) (fun c50 => ?_)
    · refine lv_iload_n hx hb d_B_isBeforeByPlace_78 rfl (lv_at hl 1 rfl) ?_
      refine lv_iload_n hx hb d_B_isBeforeByPlace_79 rfl (lv_at hl 2 rfl) ?_
      refine z_icmp_ge hx hb 87 d_B_isBeforeByPlace_80 (by omega) (by omega) (by decide) (fun c80 => ?_) (fun c80 => ?_)
      · refine z_ic hx hb d_B_isBeforeByPlace_87 ?_
        exact w_zret hc hw (by omega) (⟨by first | rw [bI_t (by omega)] | rw [bI_f (by omega)], rfl⟩) d_B_isBeforeByPlace_88
      · refine z_ic hx hb d_B_isBeforeByPlace_83 ?_
        refine lv_goto (tgt := 88) hx hb d_B_isBeforeByPlace_84 (by decide) ?_
        exact w_zret hc hw (by omega) (⟨by first | rw [bI_t (by omega)] | rw [bI_f (by omega)], rfl⟩) d_B_isBeforeByPlace_88
    · refine lv_aload_n hx hb d_B_isBeforeByPlace_54 rfl (lv_at hl 0 rfl) ?_
      refine gX_B_ys hc hw lk_B_26 d_B_isBeforeByPlace_55 ?_
      refine lv_iload_n hx hb d_B_isBeforeByPlace_58 rfl (lv_at hl 1 rfl) ?_
      refine ldX_B_ys hc hw d_B_isBeforeByPlace_59 (by omega) ?_
      refine lv_aload_n hx hb d_B_isBeforeByPlace_60 rfl (lv_at hl 0 rfl) ?_
      refine gX_B_ys hc hw lk_B_26 d_B_isBeforeByPlace_61 ?_
      refine lv_iload_n hx hb d_B_isBeforeByPlace_64 rfl (lv_at hl 2 rfl) ?_
      refine ldX_B_ys hc hw d_B_isBeforeByPlace_65 (by omega) ?_
      refine z_lcmp_ge hx hb 74 d_B_isBeforeByPlace_66 d_B_isBeforeByPlace_67 (by omega) (by omega) (by decide) (fun c66 => ?_) (fun c66 => ?_)
      · refine z_ic hx hb d_B_isBeforeByPlace_74 ?_
        refine lv_goto (tgt := 88) hx hb d_B_isBeforeByPlace_75 (by decide) ?_
        exact w_zret hc hw (by omega) (⟨by first | rw [bI_t (by omega)] | rw [bI_f (by omega)], rfl⟩) d_B_isBeforeByPlace_88
      · refine z_ic hx hb d_B_isBeforeByPlace_70 ?_
        refine lv_goto (tgt := 88) hx hb d_B_isBeforeByPlace_71 (by decide) ?_
        exact w_zret hc hw (by omega) (⟨by first | rw [bI_t (by omega)] | rw [bI_f (by omega)], rfl⟩) d_B_isBeforeByPlace_88
  · refine lv_aload_n hx hb d_B_isBeforeByPlace_16 rfl (lv_at hl 0 rfl) ?_
    refine gX_B_xs hc hw lk_B_22 d_B_isBeforeByPlace_17 ?_
    refine lv_iload_n hx hb d_B_isBeforeByPlace_20 rfl (lv_at hl 1 rfl) ?_
    refine ldX_B_xs hc hw d_B_isBeforeByPlace_21 (by omega) ?_
    refine lv_aload_n hx hb d_B_isBeforeByPlace_22 rfl (lv_at hl 0 rfl) ?_
    refine gX_B_xs hc hw lk_B_22 d_B_isBeforeByPlace_23 ?_
    refine lv_iload_n hx hb d_B_isBeforeByPlace_26 rfl (lv_at hl 2 rfl) ?_
    refine ldX_B_xs hc hw d_B_isBeforeByPlace_27 (by omega) ?_
    refine z_lcmp_ge hx hb 36 d_B_isBeforeByPlace_28 d_B_isBeforeByPlace_29 (by omega) (by omega) (by decide) (fun c28 => ?_) (fun c28 => ?_)
    · refine z_ic hx hb d_B_isBeforeByPlace_36 ?_
      exact w_zret hc hw (by omega) (⟨by first | rw [bI_t (by omega)] | rw [bI_f (by omega)], rfl⟩) d_B_isBeforeByPlace_37
    · refine z_ic hx hb d_B_isBeforeByPlace_32 ?_
      refine lv_goto (tgt := 37) hx hb d_B_isBeforeByPlace_33 (by decide) ?_
      exact w_zret hc hw (by omega) (⟨by first | rw [bI_t (by omega)] | rw [bI_f (by omega)], rfl⟩) d_B_isBeforeByPlace_37
set_option maxHeartbeats 4000000 in
set_option maxRecDepth 100000 in
theorem k_B_countOfMust {l : Launch} {D : va_G} {ad : Nat → Nat} {ca : Nat → ClassId} (σ : St) (hI : IB σ) : Cw l D cl7 (tyX ca) (wX ad ca) y_B_countOfMust c_B_countOfMust 3 (some .int) 0 [.ref (ad 101)] σ (RW (.int (zI (cntM σ (σ 7 0).toNat))) (σ = ·)) := by
  have h7 := hI.1
  refine Cw.enter (by decide) (Nat.le_of_ble_eq_true rfl) ?_
  intro A p e s m below meth c hc ls hl hw
  have hl : lv_has ls 3 [(0, .ref (ad 101))] := hl
  obtain ⟨hx, hb, hml, hown, hTB, hK, hr, hlk⟩ := id hc
  refine z_ic hx hb d_B_countOfMust_0 ?_
  refine z_ist_n hx hb d_B_countOfMust_1 rfl hl (by decide) (fun x1_1 ex1_1 ls (hl : lv_has ls 3 [(1, .int (zI x1_1)), (0, .ref (ad 101))]) => ?_)
  refine z_ic hx hb d_B_countOfMust_2 ?_
  refine z_ist_n hx hb d_B_countOfMust_3 rfl hl (by decide) (fun x2_3 ex2_3 ls (hl : lv_has ls 3 [(2, .int (zI x2_3)), (1, .int (zI x1_1)), (0, .ref (ad 101))]) => ?_)
  have L4 : ∀ (n : Nat) (i : Int) (n1 : Int) (H : Heap) (locs : List Loc), (0 ≤ i ∧ i ≤ σ 7 0) → (n1 = cntM σ i.toNat) → (σ 7 0 - i).toNat < n → Wd D cl7 (wX ad ca) A s.heap σ H locs → ∀ ls : Array Slot, lv_has ls 3 [(2, .int (zI i)), (1, .int (zI n1)), (0, .ref (ad 101))] → W p l e (Rmh 0) s m ([.ref (ad 101)] : List Value).toArray below meth c H locs 0 0 (MQ below (Qw D cl7 (wX ad ca) A (RW (.int (zI (cntM σ (σ 7 0).toNat))) (σ = ·))) ([.ref (ad 101)] : List Value).toArray s 0 0 A) (F0 m 4 ls []) := by
    intro n
    induction n with
    | zero => intro i n1  H locs hi hn hm; exact absurd hm (Nat.not_lt_zero _)
    | succ n ih4 =>
      intro i n1  H locs hi hn hm4 hw ls hl
      have hcb := cntM_bd hI.2.2.2.2.2.2.2.2.2 i.toNat
      have h0i := hI.2.2.2.2.2.2.2.2.2 i
      refine lv_iload_n hx hb d_B_countOfMust_4 rfl (lv_at hl 0 rfl) ?_
      refine lv_aload_n hx hb d_B_countOfMust_5 rfl (lv_at hl 2 rfl) ?_
      refine gX_B_netCount hc hw lk_B_35 d_B_countOfMust_6 ?_
      refine z_icmp_ge hx hb 30 d_B_countOfMust_9 (by omega) (by omega) (by decide) (fun c9 => ?_) (fun c9 => ?_)
      · refine lv_iload_n hx hb d_B_countOfMust_30 rfl (lv_at hl 1 rfl) ?_
        exact w_iret hc hw (⟨by rw [hn, show i = σ 7 0 by omega], rfl⟩) d_B_countOfMust_31
      · refine lv_aload_n hx hb d_B_countOfMust_12 rfl (lv_at hl 2 rfl) ?_
        refine gX_B_must hc hw lk_B_9 d_B_countOfMust_13 ?_
        refine lv_iload_n hx hb d_B_countOfMust_16 rfl (lv_at hl 0 rfl) ?_
        refine ldX_B_must hc hw d_B_countOfMust_17 (by omega) ?_
        refine z_if_eq hx hb 24 d_B_countOfMust_18 (by omega) (by decide) (fun c18 => ?_) (fun c18 => ?_)
        · refine z_iinc (k := 0) hx hb d_B_countOfMust_24 hl rfl (by decide) (fun x2_24 ex2_24 ls (hl : lv_has ls 3 [(2, .int (zI x2_24)), (1, .int (zI n1)), (0, .ref (ad 101))]) => ?_)
          refine lv_goto (tgt := 4) hx hb d_B_countOfMust_27 (by decide) ?_
          exact ih4 x2_24 n1 _ _ (by omega) (by rw [show x2_24.toNat = i.toNat + 1 from (by omega)]; simp only [cntM]; rw [Int.toNat_of_nonneg hi.1]; omega) (by omega) hw ls (lv_sub hl [0, 1, 2] rfl)
        · refine z_iinc (k := 1) hx hb d_B_countOfMust_21 hl rfl (by decide) (fun x1_21 ex1_21 ls (hl : lv_has ls 3 [(1, .int (zI x1_21)), (2, .int (zI i)), (0, .ref (ad 101))]) => ?_)
          refine z_iinc (k := 1) hx hb d_B_countOfMust_24 hl rfl (by decide) (fun x2_24 ex2_24 ls (hl : lv_has ls 3 [(2, .int (zI x2_24)), (1, .int (zI x1_21)), (0, .ref (ad 101))]) => ?_)
          refine lv_goto (tgt := 4) hx hb d_B_countOfMust_27 (by decide) ?_
          exact ih4 x2_24 x1_21 _ _ (by omega) (by rw [show x2_24.toNat = i.toNat + 1 from (by omega)]; simp only [cntM]; rw [Int.toNat_of_nonneg hi.1]; omega) (by omega) hw ls (lv_sub hl [0, 1, 2] rfl)
  exact L4 _ x2_3 x1_1 _ _ (by omega) (by subst_vars; rfl) (Nat.lt_succ_self _) hw ls (lv_sub hl [0, 1, 2] rfl)
set_option maxHeartbeats 4000000 in
set_option maxRecDepth 100000 in
theorem k_B_addPoint {l : Launch} {D : va_G} {ad : Nat → Nat} {ca : Nat → ClassId} (σ : St) (n x y r : Int) (hn : 0 ≤ n ∧ n < 12) (hI : IB σ) : Cw l D cl7 (tyX ca) (wX ad ca) y_B_addPoint c_B_addPoint 9 (some .int) 0 [.ref (ad 101), .int (zI n), .long (zL x), .long (zL y), .long (zL r)] σ (RW (.int (zI (if 3 ≤ σ 1 n ∨ 36 ≤ σ 8 0 then -1 else σ 8 0))) (bPoint σ n x y r = ·)) := by
  have h1n := hI.2.2.2.2.2.2.2.1 n
  have h8 := hI.2.1
  refine Cw.enter (by decide) (Nat.le_of_ble_eq_true rfl) ?_
  intro A p e s m below meth c hc ls hl hw
  have hl : lv_has ls 9 [(0, .ref (ad 101)), (1, .int (zI n)), (2, .long (zL x)), (4, .long (zL y)), (6, .long (zL r))] := hl
  obtain ⟨hx, hb, hml, hown, hTB, hK, hr, hlk⟩ := id hc
  refine lv_aload_n hx hb d_B_addPoint_0 rfl (lv_at hl 0 rfl) ?_
  refine gX_B_sizes hc hw lk_B_15 d_B_addPoint_1 ?_
  refine lv_iload_n hx hb d_B_addPoint_4 rfl (lv_at hl 1 rfl) ?_
  refine ldX_B_sizes hc hw d_B_addPoint_5 (by omega) ?_
  refine z_ic hx hb d_B_addPoint_6 ?_
  refine z_icmp_ge hx hb 19 d_B_addPoint_7 (by omega) (by omega) (by decide) (fun c7 => ?_) (fun c7 => ?_)
  · refine z_ic hx hb d_B_addPoint_19 ?_
    exact w_iret hc hw (by unfold bPoint; first | (rw [if_pos (by omega), if_pos (by omega)]; exact ⟨rfl, rfl⟩) | (rw [if_neg (by omega), if_neg (by omega)]; exact ⟨rfl, rfl⟩)) d_B_addPoint_20
  · refine lv_aload_n hx hb d_B_addPoint_10 rfl (lv_at hl 0 rfl) ?_
    refine gX_B_pointCount hc hw lk_B_39 d_B_addPoint_11 ?_
    refine z_bi hx hb d_B_addPoint_14 (by decide) ?_
    refine z_icmp_lt hx hb 21 d_B_addPoint_16 (by omega) (by omega) (by decide) (fun c16 => ?_) (fun c16 => ?_)
    · refine lv_aload_n hx hb d_B_addPoint_21 rfl (lv_at hl 0 rfl) ?_
      refine gX_B_pointCount hc hw lk_B_39 d_B_addPoint_22 ?_
      refine z_ist hx hb d_B_addPoint_25 hl (by decide) (fun x8_25 ex8_25 ls (hl : lv_has ls 9 [(8, .int (zI x8_25)), (0, .ref (ad 101)), (1, .int (zI n)), (2, .long (zL x)), (4, .long (zL y)), (6, .long (zL r))]) => ?_)
      subst ex8_25
      refine lv_aload_n hx hb d_B_addPoint_27 rfl (lv_at hl 1 rfl) ?_
      refine gX_B_xs hc hw lk_B_22 d_B_addPoint_28 ?_
      refine lv_iload hx hb d_B_addPoint_31 (lv_at hl 0 rfl) ?_
      refine lv_lload_n hx hb d_B_addPoint_33 rfl (lv_at hl 3 rfl) ?_
      refine stX_B_xs hc hw d_B_addPoint_34 (by omega) (fun H locs hw => ?_)
      refine lv_aload_n hx hb d_B_addPoint_35 rfl (lv_at hl 1 rfl) ?_
      refine gX_B_ys hc hw lk_B_26 d_B_addPoint_36 ?_
      refine lv_iload hx hb d_B_addPoint_39 (lv_at hl 0 rfl) ?_
      refine lv_lload hx hb d_B_addPoint_41 (lv_at hl 4 rfl) ?_
      refine stX_B_ys hc hw d_B_addPoint_43 (by omega) (fun H locs hw => ?_)
      refine lv_aload_n hx hb d_B_addPoint_44 rfl (lv_at hl 1 rfl) ?_
      refine gX_B_radii hc hw lk_B_29 d_B_addPoint_45 ?_
      refine lv_iload hx hb d_B_addPoint_48 (lv_at hl 0 rfl) ?_
      refine lv_lload hx hb d_B_addPoint_50 (lv_at hl 5 rfl) ?_
      refine stX_B_radii hc hw d_B_addPoint_52 (by omega) (fun H locs hw => ?_)
      refine lv_aload_n hx hb d_B_addPoint_53 rfl (lv_at hl 1 rfl) ?_
      refine gX_B_pointsOfNets hc hw lk_B_19 d_B_addPoint_54 ?_
      refine lv_iload_n hx hb d_B_addPoint_57 rfl (lv_at hl 2 rfl) ?_
      refine z_ic hx hb d_B_addPoint_58 ?_
      refine z_imul hx hb d_B_addPoint_59 ?_
      refine lv_aload_n hx hb d_B_addPoint_60 rfl (lv_at hl 1 rfl) ?_
      refine gX_B_sizes hc hw lk_B_15 d_B_addPoint_61 ?_
      refine lv_iload_n hx hb d_B_addPoint_64 rfl (lv_at hl 2 rfl) ?_
      refine ldX_B_sizes hc hw d_B_addPoint_65 (by omega) ?_
      refine z_iadd hx hb d_B_addPoint_66 ?_
      refine lv_iload hx hb d_B_addPoint_67 (lv_at hl 0 rfl) ?_
      refine stX_B_pointsOfNets hc hw d_B_addPoint_69 (by simp [up]; omega) (fun H locs hw => ?_)
      refine lv_aload_n hx hb d_B_addPoint_70 rfl (lv_at hl 1 rfl) ?_
      refine gX_B_sizes hc hw lk_B_15 d_B_addPoint_71 ?_
      refine lv_iload_n hx hb d_B_addPoint_74 rfl (lv_at hl 2 rfl) ?_
      refine lv_dup2_11 hx hb d_B_addPoint_75 rfl rfl ?_
      refine ldX_B_sizes hc hw d_B_addPoint_76 (by omega) ?_
      refine z_ic hx hb d_B_addPoint_77 ?_
      refine z_iadd hx hb d_B_addPoint_78 ?_
      refine stX_B_sizes hc hw d_B_addPoint_79 (by omega) (fun H locs hw => ?_)
      refine lv_aload_n hx hb d_B_addPoint_80 rfl (lv_at hl 1 rfl) ?_
      refine lv_dup hx hb d_B_addPoint_81 rfl ?_
      refine gX_B_pointCount hc hw lk_B_39 d_B_addPoint_82 ?_
      refine z_ic hx hb d_B_addPoint_85 ?_
      refine z_iadd hx hb d_B_addPoint_86 ?_
      refine pX_B_pointCount hc hw lk_B_39 d_B_addPoint_87 (fun H locs hw => ?_)
      refine lv_iload hx hb d_B_addPoint_90 (lv_at hl 0 rfl) ?_
      exact w_iret hc hw (by unfold bPoint; first | (rw [if_pos (by omega), if_pos (by omega)]; exact ⟨rfl, rfl⟩) | (rw [if_neg (by omega), if_neg (by omega)]; exact ⟨rfl, rfl⟩)) d_B_addPoint_92
    · refine z_ic hx hb d_B_addPoint_19 ?_
      exact w_iret hc hw (by unfold bPoint; first | (rw [if_pos (by omega), if_pos (by omega)]; exact ⟨rfl, rfl⟩) | (rw [if_neg (by omega), if_neg (by omega)]; exact ⟨rfl, rfl⟩)) d_B_addPoint_20
