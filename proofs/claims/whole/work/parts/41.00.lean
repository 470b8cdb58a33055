set_option maxHeartbeats 400000 in
set_option maxRecDepth 100000 in
theorem k_M_thrown {l : Launch} {D : va_G} {ad : Nat → Nat} {ca : Nat → ClassId} (μ : St) : Cw l D cl7 (tyM ca) (wM ad ca) y_M_thrown c_M_thrown 1 (some .int) 0 [.ref (ad 100)] μ (RW (.int (zI (μ 0 0))) (μ = ·)) := by
  refine Cw.enter (by decide) (Nat.le_of_ble_eq_true rfl) ?_
  intro A p e s m below meth c hc ls hl hw
  have hl : lv_has ls 1 [(0, .ref (ad 100))] := hl
  obtain ⟨hx, hb, hml, hown, hTB, hK, hr, hlk⟩ := id hc
  refine lv_aload_n hx hb d_M_thrown_0 rfl (lv_at hl 0 rfl) ?_
  refine gM_M_thrown hc hw lk_M_60 d_M_thrown_1 ?_
  exact w_iret hc hw (⟨rfl, rfl⟩) d_M_thrown_4
