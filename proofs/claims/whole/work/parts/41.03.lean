set_option maxHeartbeats 400000 in
set_option maxRecDepth 100000 in
theorem k_M_isPlace {l : Launch} {D : va_G} {ad : Nat → Nat} {ca : Nat → ClassId} (μ : St) (v : Int) (hv : r64 v) : Cw l D cl7 (tyM ca) (wM ad ca) y_M_isPlace c_M_isPlace 2 (some .boolean) 0 [.long (zL v)] μ (RW (.int (zI (bI (-1000000 ≤ v ∧ v ≤ 1000000)))) (μ = ·)) := by
  refine Cw.enter (by decide) (Nat.le_of_ble_eq_true rfl) ?_
  intro A p e s m below meth c hc ls hl hw
  have hl : lv_has ls 2 [(0, .long (zL v))] := hl
  obtain ⟨hx, hb, hml, hown, hTB, hK, hr, hlk⟩ := id hc
  refine lv_lload_n hx hb d_M_isPlace_0 rfl (lv_at hl 0 rfl) ?_
  refine z_ldc2 (n := -1000000) hc lk_M_70 d_M_isPlace_1 (by decide) ?_
  refine z_lcmp_lt hx hb 20 d_M_isPlace_4 d_M_isPlace_5 (by omega) (by omega) (by decide) (fun c4 => ?_) (fun c4 => ?_)
  · refine z_ic hx hb d_M_isPlace_20 ?_
    exact w_zret hc hw (by omega) (⟨by first | (exfalso; omega) | rw [bI_t (by omega)] | rw [bI_f (by omega)], rfl⟩) d_M_isPlace_21
  · refine lv_lload_n hx hb d_M_isPlace_8 rfl (lv_at hl 0 rfl) ?_
    refine z_ldc2 (n := 1000000) hc lk_M_72 d_M_isPlace_9 (by decide) ?_
    refine z_lcmp_gt hx hb 20 d_M_isPlace_12 d_M_isPlace_13 (by omega) (by omega) (by decide) (fun c12 => ?_) (fun c12 => ?_)
    · refine z_ic hx hb d_M_isPlace_20 ?_
      exact w_zret hc hw (by omega) (⟨by first | (exfalso; omega) | rw [bI_t (by omega)] | rw [bI_f (by omega)], rfl⟩) d_M_isPlace_21
    · refine z_ic hx hb d_M_isPlace_16 ?_
      refine lv_goto (tgt := 21) hx hb d_M_isPlace_17 (by decide) ?_
      exact w_zret hc hw (by omega) (⟨by first | (exfalso; omega) | rw [bI_t (by omega)] | rw [bI_f (by omega)], rfl⟩) d_M_isPlace_21
