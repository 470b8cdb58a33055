set_option maxHeartbeats 400000 in
set_option maxRecDepth 100000 in
theorem k_S_endOf {l : Launch} {D : va_G} {ad : Nat → Nat} {ca : Nat → ClassId} (σ : St) (i : Int) (hi : 0 ≤ i ∧ i < 8) : Cw l D cl7 (tyX ca) (wX ad ca) y_S_endOf c_S_endOf 2 (some .int) 0 [.ref (ad 105), .int (zI i)] σ (RW (.int (zI (i * 3 + σ 11 i))) (σ = ·)) := by
  refine Cw.enter (by decide) (Nat.le_of_ble_eq_true rfl) ?_
  intro A p e s m below meth c hc ls hl hw
  have hl : lv_has ls 2 [(0, .ref (ad 105)), (1, .int (zI i))] := hl
  obtain ⟨hx, hb, hml, hown, hTB, hK, hr, hlk⟩ := id hc
  refine lv_iload_n hx hb d_S_endOf_0 rfl (lv_at hl 1 rfl) ?_
  refine z_ic hx hb d_S_endOf_1 ?_
  refine z_imul hx hb d_S_endOf_2 ?_
  refine lv_aload_n hx hb d_S_endOf_3 rfl (lv_at hl 0 rfl) ?_
  refine gX_S_sizes hc hw lk_S_15 d_S_endOf_4 ?_
  refine lv_iload_n hx hb d_S_endOf_7 rfl (lv_at hl 1 rfl) ?_
  refine ldX_S_sizes hc hw d_S_endOf_8 (by omega) ?_
  refine z_iadd hx hb d_S_endOf_9 ?_
  exact w_iret hc hw (⟨rfl, rfl⟩) d_S_endOf_10
