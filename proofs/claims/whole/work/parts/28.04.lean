set_option maxHeartbeats 400000 in
set_option maxRecDepth 100000 in
theorem k_S_keep {l : Launch} {D : va_G} {ad : Nat → Nat} {ca : Nat → ClassId} (σ : St) (w : Int) : Cw l D cl7 (tyX ca) (wX ad ca) y_S_keep c_S_keep 3 none 1 [.ref (ad 105), .long (zL w)] σ (VW (kp σ w = ·)) := by
  refine Cw.enter (by decide) (Nat.le_of_ble_eq_true rfl) ?_
  intro A p e s m below meth c hc ls hl hw
  have hl : lv_has ls 3 [(0, .ref (ad 105)), (1, .long (zL w))] := hl
  obtain ⟨hx, hb, hml, hown, hTB, hK, hr, hlk⟩ := id hc
  refine lv_aload_n hx hb d_S_keep_0 rfl (lv_at hl 0 rfl) ?_
  refine lv_lload_n hx hb d_S_keep_1 rfl (lv_at hl 1 rfl) ?_
  refine pX_S_bestWorth hc hw lk_S_46 d_S_keep_2 (fun H locs hw => ?_)
  refine lv_aload_n hx hb d_S_keep_5 rfl (lv_at hl 0 rfl) ?_
  refine gX_S_tried hc hw lk_S_28 d_S_keep_6 ?_
  refine z_ic hx hb d_S_keep_9 ?_
  refine lv_aload_n hx hb d_S_keep_10 rfl (lv_at hl 0 rfl) ?_
  refine gX_S_best hc hw lk_S_31 d_S_keep_11 ?_
  refine z_ic hx hb d_S_keep_14 ?_
  refine z_bi hx hb d_S_keep_15 (by decide) ?_
  refine cpX_15_16 hc hw hl.1 lk_S_109 d_S_keep_17 (by decide) (Nat.le_of_ble_eq_true rfl) (Nat.le_of_ble_eq_true rfl) (fun H locs hw => ?_)
  exact w_vret hc hw (⟨rfl, rfl⟩) d_S_keep_20
