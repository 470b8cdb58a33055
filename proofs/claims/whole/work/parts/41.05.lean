set_option maxHeartbeats 400000 in
set_option maxRecDepth 100000 in
theorem k_M_pairOf {l : Launch} {D : va_G} {ad : Nat → Nat} {ca : Nat → ClassId} (μ : St) (a b : Int) (ha : r32 a) (hb2 : r32 b) : Cw l D cl7 (tyM ca) (wM ad ca) y_M_pairOf c_M_pairOf 2 (some .int) 0 [.int (zI a), .int (zI b)] μ (RW (.int (zI (mPr a b))) (μ = ·)) := by
  refine Cw.enter (by decide) (Nat.le_of_ble_eq_true rfl) ?_
  intro A p e s m below meth c hc ls hl hw
  have hl : lv_has ls 2 [(0, .int (zI a)), (1, .int (zI b))] := hl
  obtain ⟨hx, hb, hml, hown, hTB, hK, hr, hlk⟩ := id hc
  refine lv_iload_n hx hb d_M_pairOf_0 rfl (lv_at hl 0 rfl) ?_
  refine lv_iload_n hx hb d_M_pairOf_1 rfl (lv_at hl 1 rfl) ?_
  refine z_icmp_ge hx hb 14 d_M_pairOf_2 (by omega) (by omega) (by decide) (fun c2 => ?_) (fun c2 => ?_)
  · refine z_bi hx hb d_M_pairOf_14 (by decide) ?_
    refine lv_iload_n hx hb d_M_pairOf_16 rfl (lv_at hl 1 rfl) ?_
    refine z_imul hx hb d_M_pairOf_17 ?_
    refine lv_iload_n hx hb d_M_pairOf_18 rfl (lv_at hl 0 rfl) ?_
    refine z_iadd hx hb d_M_pairOf_19 ?_
    exact w_iret hc hw (⟨by unfold mPr; first | rw [if_pos (by omega)] | rw [if_neg (by omega)], rfl⟩) d_M_pairOf_20
  · refine z_bi hx hb d_M_pairOf_5 (by decide) ?_
    refine lv_iload_n hx hb d_M_pairOf_7 rfl (lv_at hl 0 rfl) ?_
    refine z_imul hx hb d_M_pairOf_8 ?_
    refine lv_iload_n hx hb d_M_pairOf_9 rfl (lv_at hl 1 rfl) ?_
    refine z_iadd hx hb d_M_pairOf_10 ?_
    refine lv_goto (tgt := 20) hx hb d_M_pairOf_11 (by decide) ?_
    exact w_iret hc hw (⟨by unfold mPr; first | rw [if_pos (by omega)] | rw [if_neg (by omega)], rfl⟩) d_M_pairOf_20
