set_option maxHeartbeats 400000 in
set_option maxRecDepth 100000 in
theorem k_M_say {l : Launch} {D : va_G} {ad : Nat → Nat} {ca : Nat → ClassId} (μ : St) (u : Int) (h24 : 0 ≤ μ 24 0 ∧ μ 24 0 < 400) : Cw l D cl7 (tyM ca) (wM ad ca) y_M_say c_M_say 2 none 0 [.ref (ad 100), .int (zI u)] μ (VW (mSay μ u = ·)) := by
  refine Cw.enter (by decide) (Nat.le_of_ble_eq_true rfl) ?_
  intro A p e s m below meth c hc ls hl hw
  have hl : lv_has ls 2 [(0, .ref (ad 100)), (1, .int (zI u))] := hl
  obtain ⟨hx, hb, hml, hown, hTB, hK, hr, hlk⟩ := id hc
  refine lv_aload_n hx hb d_M_say_0 rfl (lv_at hl 0 rfl) ?_
  refine gM_M_out hc hw lk_M_57 d_M_say_1 ?_
  refine lv_aload_n hx hb d_M_say_4 rfl (lv_at hl 0 rfl) ?_
  refine gM_M_written hc hw lk_M_166 d_M_say_5 ?_
  refine lv_iload_n hx hb d_M_say_8 rfl (lv_at hl 1 rfl) ?_
  refine stM_M_out hc hw d_M_say_9 (by omega) (fun H locs hw => ?_)
  refine lv_aload_n hx hb d_M_say_10 rfl (lv_at hl 0 rfl) ?_
  refine lv_dup hx hb d_M_say_11 rfl ?_
  refine gM_M_written hc hw lk_M_166 d_M_say_12 ?_
  refine z_ic hx hb d_M_say_15 ?_
  refine z_iadd hx hb d_M_say_16 ?_
  refine pM_M_written hc hw lk_M_166 d_M_say_17 (fun H locs hw => ?_)
  exact w_vret hc hw (⟨rfl, rfl⟩) d_M_say_20
