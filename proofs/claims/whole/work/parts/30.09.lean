set_option maxHeartbeats 400000 in
set_option maxRecDepth 100000 in
theorem k_R_smallestCover {l : Launch} {D : va_G} {ad : Nat → Nat} {ca : Nat → ClassId} (σ : St) (hO : ∀ i, 0 ≤ σ 40 i ∧ σ 40 i < 4096) (h42 : 0 ≤ σ 42 0 ∧ σ 42 0 ≤ 13) (h41 : 0 ≤ σ 41 0 ∧ σ 41 0 < 4096) (h43 : σ 43 0 = 0 ∨ σ 43 0 = 1) : Cw l D cl7 (tyX ca) (wX ad ca) y_R_smallestCover c_R_smallestCover 1 (some .int) 15 [.ref (ad 104)] σ (RW (.int (zI (smC σ 41 0))) (fun τ => smC σ = τ)) := by
  refine Cw.enter (by decide) (Nat.le_of_ble_eq_true rfl) ?_
  intro A p e s m below meth c hc ls hl hw
  have hl : lv_has ls 1 [(0, .ref (ad 104))] := hl
  obtain ⟨hx, hb, hml, hown, hTB, hK, hr, hlk⟩ := id hc
  refine lv_aload_n hx hb d_R_smallestCover_0 rfl (lv_at hl 0 rfl) ?_
  refine gX_R_isStale hc hw lk_R_19 d_R_smallestCover_1 ?_
  refine z_if_eq hx hb 24 d_R_smallestCover_4 (by omega) (by decide) (fun c4 => ?_) (fun c4 => ?_)
  · refine lv_aload_n hx hb d_R_smallestCover_24 rfl (lv_at hl 0 rfl) ?_
    refine gX_R_cover hc hw lk_R_37 d_R_smallestCover_25 ?_
    exact w_iret hc hw (by unfold smC; first | (rw [if_pos c4]; exact ⟨rfl, rfl⟩) | (rw [if_neg c4, hn16]; exact ⟨rfl, rfl⟩)) d_R_smallestCover_28
  · refine lv_aload_n hx hb d_R_smallestCover_7 rfl (lv_at hl 0 rfl) ?_
    refine z_bi hx hb d_R_smallestCover_8 (by decide) ?_
    refine pX_R_coverSize hc hw lk_R_29 d_R_smallestCover_10 (fun H locs hw => ?_)
    refine lv_aload_n hx hb d_R_smallestCover_13 rfl (lv_at hl 0 rfl) ?_
    refine z_ic hx hb d_R_smallestCover_14 ?_
    refine z_ic hx hb d_R_smallestCover_15 ?_
    refine w_csV hc hw (k_R_explain 12 _ _ _ (by decide) (by decide) (by rw [up_f _ _ _ (by decide)]; exact hO) (by rw [up_s]; decide) (by rw [up_o _ _ _ _ (by decide)]; exact h41) (by decide)) yw_R_explain yi_R_explain lk_R_33 d_R_smallestCover_16 rfl rfl hl.1 (Nat.le_of_ble_eq_true rfl) ⟨Nat.le_of_ble_eq_true rfl, Nat.le_of_ble_eq_true rfl⟩ ⟨Nat.zero_le _, Nat.zero_le _⟩ (fun τ16 H locs hτ16 hw => ?_)
    obtain ⟨hn16, hk16⟩ := hτ16
    refine lv_aload_n hx hb d_R_smallestCover_19 rfl (lv_at hl 0 rfl) ?_
    refine z_ic hx hb d_R_smallestCover_20 ?_
    refine pX_R_isStale hc hw lk_R_19 d_R_smallestCover_21 (by omega) (fun H locs hw => ?_)
    refine lv_aload_n hx hb d_R_smallestCover_24 rfl (lv_at hl 0 rfl) ?_
    refine gX_R_cover hc hw lk_R_37 d_R_smallestCover_25 ?_
    exact w_iret hc hw (by unfold smC; first | (rw [if_pos c4]; exact ⟨rfl, rfl⟩) | (rw [if_neg c4, hn16]; exact ⟨rfl, rfl⟩)) d_R_smallestCover_28
