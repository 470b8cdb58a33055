set_option maxHeartbeats 400000 in
set_option maxRecDepth 100000 in
theorem k_M_net {l : Launch} {D : va_G} {ad : Nat → Nat} {ca : Nat → ClassId} (μ : St) (b : Int) (hb2 : b = 0 ∨ b = 1) (hI : 0 ≤ μ 1 0 ∧ μ 1 0 ≤ 12) : Cw l D cl7 (tyM ca) (wM ad ca) y_M_net c_M_net 2 (some .int) 0 [.ref (ad 100), .int (zI b)] μ (RW (.int (zI (if μ 1 0 = 12 then -1 else μ 1 0))) (mNet μ b = ·)) := by
  have e1 : up μ 0 0 0 1 0 = μ 1 0 := up_o _ _ _ _ (by decide)
  refine Cw.enter (by decide) (Nat.le_of_ble_eq_true rfl) ?_
  intro A p e s m below meth c hc ls hl hw
  have hl : lv_has ls 2 [(0, .ref (ad 100)), (1, .int (zI b))] := hl
  obtain ⟨hx, hb, hml, hown, hTB, hK, hr, hlk⟩ := id hc
  refine lv_aload_n hx hb d_M_net_0 rfl (lv_at hl 0 rfl) ?_
  refine z_ic hx hb d_M_net_1 ?_
  refine pM_M_thrown hc hw lk_M_60 d_M_net_2 (fun H locs hw => ?_)
  refine lv_aload_n hx hb d_M_net_5 rfl (lv_at hl 0 rfl) ?_
  refine gM_M_nets hc hw lk_M_64 d_M_net_6 ?_
  refine z_bi hx hb d_M_net_9 (by decide) ?_
  refine z_icmp_ne hx hb 16 d_M_net_11 (by omega) (by omega) (by decide) (fun c11 => ?_) (fun c11 => ?_)
  · refine lv_aload_n hx hb d_M_net_16 rfl (lv_at hl 0 rfl) ?_
    refine gM_M_must hc hw lk_M_7 d_M_net_17 ?_
    refine lv_aload_n hx hb d_M_net_20 rfl (lv_at hl 0 rfl) ?_
    refine gM_M_nets hc hw lk_M_64 d_M_net_21 ?_
    refine lv_iload_n hx hb d_M_net_24 rfl (lv_at hl 1 rfl) ?_
    refine stM_M_must hc hw d_M_net_25 (by show 0 ≤ up μ 0 0 0 1 0 ∧ up μ 0 0 0 1 0 < 12; omega) (by omega) (fun H locs hw => ?_)
    refine lv_aload_n hx hb d_M_net_26 rfl (lv_at hl 0 rfl) ?_
    refine lv_dup hx hb d_M_net_27 rfl ?_
    refine gM_M_nets hc hw lk_M_64 d_M_net_28 ?_
    refine z_ic hx hb d_M_net_31 ?_
    refine z_iadd hx hb d_M_net_32 ?_
    refine pM_M_nets hc hw lk_M_64 d_M_net_33 (fun H locs hw => ?_)
    refine lv_aload_n hx hb d_M_net_36 rfl (lv_at hl 0 rfl) ?_
    refine gM_M_nets hc hw lk_M_64 d_M_net_37 ?_
    refine z_ic hx hb d_M_net_40 ?_
    refine z_isub hx hb d_M_net_41 ?_
    exact w_iret hc hw (by unfold mNet; rw [if_neg (by omega), if_neg (by omega)]; exact ⟨by congr 3; show _ + 1 - 1 = _; show up μ 0 0 0 1 0 + 1 - 1 = μ 1 0; omega, rfl⟩) d_M_net_42
  · refine z_ic hx hb d_M_net_14 ?_
    exact w_iret hc hw (by unfold mNet; rw [if_pos (by omega), if_pos (by omega)]; exact ⟨rfl, rfl⟩) d_M_net_15
