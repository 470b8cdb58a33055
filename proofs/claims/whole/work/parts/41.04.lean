set_option maxHeartbeats 400000 in
set_option maxRecDepth 100000 in
theorem k_M_size {l : Launch} {D : va_G} {ad : Nat → Nat} {ca : Nat → ClassId} (μ : St) (v : Int) (hv : r64 v) : Cw l D cl7 (tyM ca) (wM ad ca) y_M_size c_M_size 2 (some .long) 0 [.long (zL v)] μ (RW (.long (zL ((v.natAbs : Nat) : Int))) (μ = ·)) := by
  refine Cw.enter (by decide) (Nat.le_of_ble_eq_true rfl) ?_
  intro A p e s m below meth c hc ls hl hw
  have hl : lv_has ls 2 [(0, .long (zL v))] := hl
  obtain ⟨hx, hb, hml, hown, hTB, hK, hr, hlk⟩ := id hc
  refine lv_lload_n hx hb d_M_size_0 rfl (lv_at hl 0 rfl) ?_
  refine z_lc0 hx hb d_M_size_1 ?_
  refine z_lcmp_ge hx hb 12 d_M_size_2 d_M_size_3 (by omega) (by omega) (by decide) (fun c2 => ?_) (fun c2 => ?_)
  · refine lv_lload_n hx hb d_M_size_12 rfl (lv_at hl 0 rfl) ?_
    exact w_lret hc hw (⟨by congr 3; omega, rfl⟩) d_M_size_13
  · refine z_lc0 hx hb d_M_size_6 ?_
    refine lv_lload_n hx hb d_M_size_7 rfl (lv_at hl 0 rfl) ?_
    refine z_lsub hx hb d_M_size_8 ?_
    refine lv_goto (tgt := 13) hx hb d_M_size_9 (by decide) ?_
    exact w_lret hc hw (⟨by congr 3; omega, rfl⟩) d_M_size_13
