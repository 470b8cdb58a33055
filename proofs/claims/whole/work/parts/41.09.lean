set_option maxHeartbeats 400000 in
set_option maxRecDepth 100000 in
theorem k_M_areApart {l : Launch} {D : va_G} {ad : Nat → Nat} {ca : Nat → ClassId} (μ : St) (a b : Int) (ha : 0 ≤ a ∧ a < 36) (hb2 : 0 ≤ b ∧ b < 36) (hI : IMB μ) : Cw l D cl7 (tyM ca) (wM ad ca) y_M_areApart c_M_areApart 9 (some .boolean) 0 [.ref (ad 100), .int (zI a), .int (zI b)] μ (RW (.int (zI (bI (mAp μ a b)))) (μ = ·)) := by
  have hsq := mSq_bd hI a b
  have h9 := hI.2.2.1
  have h5a := hI.2.2.2.2.2.1 a
  have h5b := hI.2.2.2.2.2.1 b
  have hll := sq_bd (a := μ 10 0 + μ 8 a + μ 8 b) (n := 1200000) (by omega) (by omega)
  unfold mSq at hsq
  refine Cw.enter (by decide) (Nat.le_of_ble_eq_true rfl) ?_
  intro A p e s m below meth c hc ls hl hw
  have hl : lv_has ls 9 [(0, .ref (ad 100)), (1, .int (zI a)), (2, .int (zI b))] := hl
  obtain ⟨hx, hb, hml, hown, hTB, hK, hr, hlk⟩ := id hc
  refine lv_aload_n hx hb d_M_areApart_0 rfl (lv_at hl 0 rfl) ?_
  refine gM_M_x hc hw lk_M_20 d_M_areApart_1 ?_
  refine lv_iload_n hx hb d_M_areApart_4 rfl (lv_at hl 1 rfl) ?_
  refine ldM_M_x hc hw d_M_areApart_5 (by omega) ?_
  refine lv_aload_n hx hb d_M_areApart_6 rfl (lv_at hl 0 rfl) ?_
  refine gM_M_x hc hw lk_M_20 d_M_areApart_7 ?_
  refine lv_iload_n hx hb d_M_areApart_10 rfl (lv_at hl 2 rfl) ?_
  refine ldM_M_x hc hw d_M_areApart_11 (by omega) ?_
  refine z_lsub hx hb d_M_areApart_12 ?_
  refine z_lst_n hx hb d_M_areApart_13 rfl hl (by decide) (fun x3_13 ex3_13 ls (hl : lv_has ls 9 [(3, .long (zL x3_13)), (0, .ref (ad 100)), (1, .int (zI a)), (2, .int (zI b))]) => ?_)
  refine lv_aload_n hx hb d_M_areApart_14 rfl (lv_at hl 1 rfl) ?_
  refine gM_M_y hc hw lk_M_24 d_M_areApart_15 ?_
  refine lv_iload_n hx hb d_M_areApart_18 rfl (lv_at hl 2 rfl) ?_
  refine ldM_M_y hc hw d_M_areApart_19 (by omega) ?_
  refine lv_aload_n hx hb d_M_areApart_20 rfl (lv_at hl 1 rfl) ?_
  refine gM_M_y hc hw lk_M_24 d_M_areApart_21 ?_
  refine lv_iload_n hx hb d_M_areApart_24 rfl (lv_at hl 3 rfl) ?_
  refine ldM_M_y hc hw d_M_areApart_25 (by omega) ?_
  refine z_lsub hx hb d_M_areApart_26 ?_
  refine z_lst hx hb d_M_areApart_27 hl (by decide) (fun x5_27 ex5_27 ls (hl : lv_has ls 9 [(5, .long (zL x5_27)), (3, .long (zL x3_13)), (0, .ref (ad 100)), (1, .int (zI a)), (2, .int (zI b))]) => ?_)
  refine lv_aload_n hx hb d_M_areApart_29 rfl (lv_at hl 2 rfl) ?_
  refine gM_M_gap hc hw lk_M_84 d_M_areApart_30 ?_
  refine lv_aload_n hx hb d_M_areApart_33 rfl (lv_at hl 2 rfl) ?_
  refine gM_M_radius hc hw lk_M_27 d_M_areApart_34 ?_
  refine lv_iload_n hx hb d_M_areApart_37 rfl (lv_at hl 3 rfl) ?_
  refine ldM_M_radius hc hw d_M_areApart_38 (by omega) ?_
  refine z_ladd hx hb d_M_areApart_39 ?_
  refine lv_aload_n hx hb d_M_areApart_40 rfl (lv_at hl 2 rfl) ?_
  refine gM_M_radius hc hw lk_M_27 d_M_areApart_41 ?_
  refine lv_iload_n hx hb d_M_areApart_44 rfl (lv_at hl 4 rfl) ?_
  refine ldM_M_radius hc hw d_M_areApart_45 (by omega) ?_
  refine z_ladd hx hb d_M_areApart_46 ?_
  refine z_lst hx hb d_M_areApart_47 hl (by decide) (fun x7_47 ex7_47 ls (hl : lv_has ls 9 [(7, .long (zL x7_47)), (5, .long (zL x5_27)), (3, .long (zL x3_13)), (0, .ref (ad 100)), (1, .int (zI a)), (2, .int (zI b))]) => ?_)
  subst ex3_13
  subst ex5_27
  subst ex7_47
  refine lv_lload_n hx hb d_M_areApart_49 rfl (lv_at hl 2 rfl) ?_
  refine lv_lload_n hx hb d_M_areApart_50 rfl (lv_at hl 2 rfl) ?_
  refine z_lmul hx hb d_M_areApart_51 ?_
  refine lv_lload hx hb d_M_areApart_52 (lv_at hl 1 rfl) ?_
  refine lv_lload hx hb d_M_areApart_54 (lv_at hl 1 rfl) ?_
  refine z_lmul hx hb d_M_areApart_56 ?_
  refine z_ladd hx hb d_M_areApart_57 ?_
  refine lv_lload hx hb d_M_areApart_58 (lv_at hl 0 rfl) ?_
  refine lv_lload hx hb d_M_areApart_60 (lv_at hl 0 rfl) ?_
  refine z_lmul hx hb d_M_areApart_62 ?_
  refine z_lcmp_lt hx hb 71 d_M_areApart_63 d_M_areApart_64 (by omega) (by omega) (by decide) (fun c63 => ?_) (fun c63 => ?_)
  · refine z_ic hx hb d_M_areApart_71 ?_
    exact w_zret hc hw (by omega) (⟨by first | rw [bI_t (by unfold mAp mSq; omega)] | rw [bI_f (by unfold mAp mSq; omega)], rfl⟩) d_M_areApart_72
  · refine z_ic hx hb d_M_areApart_67 ?_
    refine lv_goto (tgt := 72) hx hb d_M_areApart_68 (by decide) ?_
    exact w_zret hc hw (by omega) (⟨by first | rw [bI_t (by unfold mAp mSq; omega)] | rw [bI_f (by unfold mAp mSq; omega)], rfl⟩) d_M_areApart_72
