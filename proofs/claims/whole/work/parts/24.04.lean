set_option maxHeartbeats 400000 in
set_option maxRecDepth 100000 in
theorem k_F_writeLetter {l : Launch} {D : va_G} {ad : Nat → Nat} {ca : Nat → ClassId} (σ : St) (ch : Int) (hc2 : 0 ≤ ch ∧ ch < 65536) (hL : 0 ≤ σ 27 0 ∧ σ 27 0 ≤ 176) : Cw l D cl7 (tyX ca) (wX ad ca) y_F_writeLetter c_F_writeLetter 2 none 0 [.ref (ad 102), .int (zI ch)] σ (VW (wl σ ch = ·)) := by
  refine Cw.enter (by decide) (Nat.le_of_ble_eq_true rfl) ?_
  intro A p e s m below meth c hc ls hl hw
  have hl : lv_has ls 2 [(0, .ref (ad 102)), (1, .int (zI ch))] := hl
  obtain ⟨hx, hb, hml, hown, hTB, hK, hr, hlk⟩ := id hc
  refine lv_aload_n hx hb d_F_writeLetter_0 rfl (lv_at hl 0 rfl) ?_
  refine gX_F_length hc hw lk_F_65 d_F_writeLetter_1 ?_
  refine z_si hx hb d_F_writeLetter_4 (by decide) ?_
  refine z_icmp_ge hx hb 30 d_F_writeLetter_7 (by omega) (by omega) (by decide) (fun c7 => ?_) (fun c7 => ?_)
  · exact w_vret hc hw (⟨rfl, by unfold wl; first | (rw [if_neg (by omega)]; done) | (rw [if_pos (by omega)]; rfl)⟩) d_F_writeLetter_30
  · refine lv_aload_n hx hb d_F_writeLetter_10 rfl (lv_at hl 0 rfl) ?_
    refine gX_F_letters hc hw lk_F_24 d_F_writeLetter_11 ?_
    refine lv_aload_n hx hb d_F_writeLetter_14 rfl (lv_at hl 0 rfl) ?_
    refine gX_F_length hc hw lk_F_65 d_F_writeLetter_15 ?_
    refine lv_iload_n hx hb d_F_writeLetter_18 rfl (lv_at hl 1 rfl) ?_
    refine stX_F_letters hc hw d_F_writeLetter_19 (by omega) (by omega) (fun H locs hw => ?_)
    refine lv_aload_n hx hb d_F_writeLetter_20 rfl (lv_at hl 0 rfl) ?_
    refine lv_dup hx hb d_F_writeLetter_21 rfl ?_
    refine gX_F_length hc hw lk_F_65 d_F_writeLetter_22 ?_
    refine z_ic hx hb d_F_writeLetter_25 ?_
    refine z_iadd hx hb d_F_writeLetter_26 ?_
    refine pX_F_length hc hw lk_F_65 d_F_writeLetter_27 (fun H locs hw => ?_)
    exact w_vret hc hw (⟨rfl, by unfold wl; first | (rw [if_neg (by omega)]; done) | (rw [if_pos (by omega)]; rfl)⟩) d_F_writeLetter_30
