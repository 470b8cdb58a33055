/-! the class's own methods that never throw -/
theorem smC_41 {σ : St} (hO : ∀ i, 0 ≤ σ 40 i ∧ σ 40 i < 4096) (h41 : 0 ≤ σ 41 0 ∧ σ 41 0 < 4096) : 0 ≤ smC σ 41 0 ∧ smC σ 41 0 < 4096 := by
  have key : ∀ (f : Nat) (τ : St) (n t : Int), (0 ≤ τ 41 0 ∧ τ 41 0 < 4096) → (0 ≤ t ∧ t < 4096) → (∀ i, 0 ≤ τ 40 i ∧ τ 40 i < 4096) → (0 ≤ n ∧ n + f ≤ 12) → (0 ≤ ex f τ n t 41 0 ∧ ex f τ n t 41 0 < 4096) ∧ ex f τ n t 40 = τ 40 := by
    intro f
    induction f with
    | zero =>
      intro τ n t h41 ht hO hn
      unfold ex
      split
      · exact ⟨h41, rfl⟩
      · refine ⟨?_, by rw [up_f _ _ _ (by decide), up_f _ _ _ (by decide)]⟩
        rw [up_o _ _ _ _ (by decide), up_s]; exact ht
    | succ f ih =>
      intro τ n t h41 ht hO hn
      rw [ex_s]
      split
      · exact ⟨h41, rfl⟩
      · split
        · exact ih τ (n + 1) t h41 ht hO (by omega)
        · have hp := p2_bd (b := n) (k := 12) (by omega)
          have a := ih τ (n + 1) _ h41 (zOr_bd (k := 12) ht hp) hO (by omega)
          have b := ih _ (n + 1) (zOr t (τ 40 n)) a.1 (zOr_bd (k := 12) ht (hO n)) (by rw [a.2]; exact hO) (by omega)
          exact ⟨b.1, b.2.trans a.2⟩
  unfold smC
  split
  · exact h41
  · rw [up_o _ _ _ _ (by decide)]
    exact (key 12 (up σ 42 0 13) 0 0 (by rw [up_o _ _ _ _ (by decide)]; exact h41) (by decide) (by rw [up_f _ _ _ (by decide)]; exact hO) (by decide)).1
set_option maxHeartbeats 400000 in
set_option maxRecDepth 100000 in
theorem k_X_net {l : Launch} {D : va_G} {ad : Nat → Nat} {ca : Nat → ClassId} (σ : St) (b : Int) (hb2 : b = 0 ∨ b = 1) (hI : 0 ≤ σ 7 0 ∧ σ 7 0 ≤ 12) : Cw l D cl7 (tyX ca) (wX ad ca) y_X_net c_X_net 2 (some .int) 1 [.ref (ad 100), .int (zI b)] σ (RW (.int (zI (if 12 ≤ σ 7 0 then -1 else σ 7 0))) (bNet σ b = ·)) := by
  refine Cw.enter (by decide) (Nat.le_of_ble_eq_true rfl) ?_
  intro A p e s m below meth c hc ls hl hw
  have hl : lv_has ls 2 [(0, .ref (ad 100)), (1, .int (zI b))] := hl
  obtain ⟨hx, hb, hml, hown, hTB, hK, hr, hlk⟩ := id hc
  refine lv_aload_n hx hb d_X_net_0 rfl (lv_at hl 0 rfl) ?_
  refine gX_X_board hc hw lk_X_12 d_X_net_1 ?_
  refine lv_iload_n hx hb d_X_net_4 rfl (lv_at hl 1 rfl) ?_
  refine w_cvR (q0 := 1) hc hw (k_B_addNet _ _ hb2 hI) yw_B_addNet yi_B_addNet lk_X_44 d_X_net_5 rfl rfl rfl rfl hl.1 (Nat.le_of_ble_eq_true rfl) ⟨Nat.le_of_ble_eq_true rfl, Nat.le_of_ble_eq_true rfl⟩ ⟨Nat.zero_le _, Nat.zero_le _⟩ (fun τ5 H locs hτ5 hw => ?_)
  subst hτ5
  exact w_iret hc hw (⟨rfl, rfl⟩) d_X_net_8
set_option maxHeartbeats 400000 in
set_option maxRecDepth 100000 in
theorem k_X_probe {l : Launch} {D : va_G} {ad : Nat → Nat} {ca : Nat → ClassId} (σ : St) (k : Int) (hn : 0 ≤ σ 25 0 ∧ σ 25 0 ≤ 8) (hk : r32 k) : Cw l D cl7 (tyX ca) (wX ad ca) y_X_probe c_X_probe 2 (some .int) 1 [.ref (ad 100), .int (zI k)] σ (RW (.int (zI (nthR σ 20 (σ 25 0) k))) (σ = ·)) := by
  refine Cw.enter (by decide) (Nat.le_of_ble_eq_true rfl) ?_
  intro A p e s m below meth c hc ls hl hw
  have hl : lv_has ls 2 [(0, .ref (ad 100)), (1, .int (zI k))] := hl
  obtain ⟨hx, hb, hml, hown, hTB, hK, hr, hlk⟩ := id hc
  refine lv_aload_n hx hb d_X_probe_0 rfl (lv_at hl 0 rfl) ?_
  refine gX_X_fixture hc hw lk_X_26 d_X_probe_1 ?_
  refine gnX_F_probes hc hw lk_X_97 d_X_probe_4 ?_
  refine lv_aload_n hx hb d_X_probe_7 rfl (lv_at hl 0 rfl) ?_
  refine gX_X_fixture hc hw lk_X_26 d_X_probe_8 ?_
  refine gnX_F_probeCount hc hw lk_X_93 d_X_probe_11 ?_
  refine lv_iload_n hx hb d_X_probe_14 rfl (lv_at hl 1 rfl) ?_
  refine w_csR hc hw (k_X_nth0 _ _ _ hn hk) yw_X_nth yi_X_nth lk_X_101 d_X_probe_15 rfl rfl hl.1 (Nat.le_of_ble_eq_true rfl) ⟨Nat.le_of_ble_eq_true rfl, Nat.le_of_ble_eq_true rfl⟩ ⟨Nat.zero_le _, Nat.zero_le _⟩ (fun τ15 H locs hτ15 hw => ?_)
  subst hτ15
  exact w_iret hc hw (⟨rfl, rfl⟩) d_X_probe_18
set_option maxHeartbeats 400000 in
set_option maxRecDepth 100000 in
theorem k_X_out {l : Launch} {D : va_G} {ad : Nat → Nat} {ca : Nat → ClassId} (σ : St) (k : Int) (hn : 0 ≤ σ 26 0 ∧ σ 26 0 ≤ 8) (hk : r32 k) : Cw l D cl7 (tyX ca) (wX ad ca) y_X_out c_X_out 2 (some .int) 1 [.ref (ad 100), .int (zI k)] σ (RW (.int (zI (nthR σ 21 (σ 26 0) k))) (σ = ·)) := by
  refine Cw.enter (by decide) (Nat.le_of_ble_eq_true rfl) ?_
  intro A p e s m below meth c hc ls hl hw
  have hl : lv_has ls 2 [(0, .ref (ad 100)), (1, .int (zI k))] := hl
  obtain ⟨hx, hb, hml, hown, hTB, hK, hr, hlk⟩ := id hc
  refine lv_aload_n hx hb d_X_out_0 rfl (lv_at hl 0 rfl) ?_
  refine gX_X_fixture hc hw lk_X_26 d_X_out_1 ?_
  refine gnX_F_left hc hw lk_X_109 d_X_out_4 ?_
  refine lv_aload_n hx hb d_X_out_7 rfl (lv_at hl 0 rfl) ?_
  refine gX_X_fixture hc hw lk_X_26 d_X_out_8 ?_
  refine gnX_F_leftCount hc hw lk_X_112 d_X_out_11 ?_
  refine lv_iload_n hx hb d_X_out_14 rfl (lv_at hl 1 rfl) ?_
  refine w_csR hc hw (k_X_nth1 _ _ _ hn hk) yw_X_nth yi_X_nth lk_X_101 d_X_out_15 rfl rfl hl.1 (Nat.le_of_ble_eq_true rfl) ⟨Nat.le_of_ble_eq_true rfl, Nat.le_of_ble_eq_true rfl⟩ ⟨Nat.zero_le _, Nat.zero_le _⟩ (fun τ15 H locs hτ15 hw => ?_)
  subst hτ15
  exact w_iret hc hw (⟨rfl, rfl⟩) d_X_out_18
set_option maxHeartbeats 400000 in
set_option maxRecDepth 100000 in
theorem k_X_fly {l : Launch} {D : va_G} {ad : Nat → Nat} {ca : Nat → ClassId} (σ : St) (k : Int) (hn : 0 ≤ σ 25 0 ∧ σ 25 0 ≤ 8) (hk : r32 k) : Cw l D cl7 (tyX ca) (wX ad ca) y_X_fly c_X_fly 2 (some .int) 1 [.ref (ad 100), .int (zI k)] σ (RW (.int (zI (nthR σ 22 (σ 25 0) k))) (σ = ·)) := by
  refine Cw.enter (by decide) (Nat.le_of_ble_eq_true rfl) ?_
  intro A p e s m below meth c hc ls hl hw
  have hl : lv_has ls 2 [(0, .ref (ad 100)), (1, .int (zI k))] := hl
  obtain ⟨hx, hb, hml, hown, hTB, hK, hr, hlk⟩ := id hc
  refine lv_aload_n hx hb d_X_fly_0 rfl (lv_at hl 0 rfl) ?_
  refine gX_X_fixture hc hw lk_X_26 d_X_fly_1 ?_
  refine gnX_F_flown hc hw lk_X_167 d_X_fly_4 ?_
  refine lv_aload_n hx hb d_X_fly_7 rfl (lv_at hl 0 rfl) ?_
  refine gX_X_fixture hc hw lk_X_26 d_X_fly_8 ?_
  refine gnX_F_probeCount hc hw lk_X_93 d_X_fly_11 ?_
  refine lv_iload_n hx hb d_X_fly_14 rfl (lv_at hl 1 rfl) ?_
  refine w_csR hc hw (k_X_nth2 _ _ _ hn hk) yw_X_nth yi_X_nth lk_X_101 d_X_fly_15 rfl rfl hl.1 (Nat.le_of_ble_eq_true rfl) ⟨Nat.le_of_ble_eq_true rfl, Nat.le_of_ble_eq_true rfl⟩ ⟨Nat.zero_le _, Nat.zero_le _⟩ (fun τ15 H locs hτ15 hw => ?_)
  subst hτ15
  exact w_iret hc hw (⟨rfl, rfl⟩) d_X_fly_18
set_option maxHeartbeats 400000 in
set_option maxRecDepth 100000 in
theorem k_X_order {l : Launch} {D : va_G} {ad : Nat → Nat} {ca : Nat → ClassId} (σ : St) (k : Int) (hn : 0 ≤ σ 25 0 ∧ σ 25 0 ≤ 8) (hk : r32 k) : Cw l D cl7 (tyX ca) (wX ad ca) y_X_order c_X_order 2 (some .int) 1 [.ref (ad 100), .int (zI k)] σ (RW (.int (zI (nthR σ 23 (σ 25 0) k))) (σ = ·)) := by
  refine Cw.enter (by decide) (Nat.le_of_ble_eq_true rfl) ?_
  intro A p e s m below meth c hc ls hl hw
  have hl : lv_has ls 2 [(0, .ref (ad 100)), (1, .int (zI k))] := hl
  obtain ⟨hx, hb, hml, hown, hTB, hK, hr, hlk⟩ := id hc
  refine lv_aload_n hx hb d_X_order_0 rfl (lv_at hl 0 rfl) ?_
  refine gX_X_fixture hc hw lk_X_26 d_X_order_1 ?_
  refine gnX_F_sorted hc hw lk_X_195 d_X_order_4 ?_
  refine lv_aload_n hx hb d_X_order_7 rfl (lv_at hl 0 rfl) ?_
  refine gX_X_fixture hc hw lk_X_26 d_X_order_8 ?_
  refine gnX_F_probeCount hc hw lk_X_93 d_X_order_11 ?_
  refine lv_iload_n hx hb d_X_order_14 rfl (lv_at hl 1 rfl) ?_
  refine w_csR hc hw (k_X_nth3 _ _ _ hn hk) yw_X_nth yi_X_nth lk_X_101 d_X_order_15 rfl rfl hl.1 (Nat.le_of_ble_eq_true rfl) ⟨Nat.le_of_ble_eq_true rfl, Nat.le_of_ble_eq_true rfl⟩ ⟨Nat.zero_le _, Nat.zero_le _⟩ (fun τ15 H locs hτ15 hw => ?_)
  subst hτ15
  exact w_iret hc hw (⟨rfl, rfl⟩) d_X_order_18
set_option maxHeartbeats 400000 in
set_option maxRecDepth 100000 in
theorem k_X_proved {l : Launch} {D : va_G} {ad : Nat → Nat} {ca : Nat → ClassId} (σ : St) (h01 : σ 29 0 = 0 ∨ σ 29 0 = 1) : Cw l D cl7 (tyX ca) (wX ad ca) y_X_proved c_X_proved 1 (some .boolean) 0 [.ref (ad 100)] σ (RW (.int (zI (σ 29 0))) (σ = ·)) := by
  refine Cw.enter (by decide) (Nat.le_of_ble_eq_true rfl) ?_
  intro A p e s m below meth c hc ls hl hw
  have hl : lv_has ls 1 [(0, .ref (ad 100))] := hl
  obtain ⟨hx, hb, hml, hown, hTB, hK, hr, hlk⟩ := id hc
  refine lv_aload_n hx hb d_X_proved_0 rfl (lv_at hl 0 rfl) ?_
  refine gX_X_fixture hc hw lk_X_26 d_X_proved_1 ?_
  refine gnX_F_sawAll hc hw lk_X_105 d_X_proved_4 ?_
  exact w_zret hc hw (h01) (⟨rfl, rfl⟩) d_X_proved_7
set_option maxHeartbeats 400000 in
set_option maxRecDepth 100000 in
theorem k_X_seconds {l : Launch} {D : va_G} {ad : Nat → Nat} {ca : Nat → ClassId} (σ : St) : Cw l D cl7 (tyX ca) (wX ad ca) y_X_seconds c_X_seconds 1 (some .long) 0 [.ref (ad 100)] σ (RW (.long (zL (σ 28 0))) (σ = ·)) := by
  refine Cw.enter (by decide) (Nat.le_of_ble_eq_true rfl) ?_
  intro A p e s m below meth c hc ls hl hw
  have hl : lv_has ls 1 [(0, .ref (ad 100))] := hl
  obtain ⟨hx, hb, hml, hown, hTB, hK, hr, hlk⟩ := id hc
  refine lv_aload_n hx hb d_X_seconds_0 rfl (lv_at hl 0 rfl) ?_
  refine gX_X_fixture hc hw lk_X_26 d_X_seconds_1 ?_
  refine gnX_F_flightTime hc hw lk_X_170 d_X_seconds_4 ?_
  exact w_lret hc hw (⟨rfl, rfl⟩) d_X_seconds_7
set_option maxHeartbeats 400000 in
set_option maxRecDepth 100000 in
theorem k_X_forces {l : Launch} {D : va_G} {ad : Nat → Nat} {ca : Nat → ClassId} (σ : St) (hn : 0 ≤ σ 25 0 ∧ σ 25 0 ≤ 8) (hP : ∀ i, 0 ≤ i → i < σ 25 0 → 0 ≤ σ 20 i ∧ σ 20 i < 36) : Cw l D cl7 (tyX ca) (wX ad ca) y_X_forces c_X_forces 1 (some .long) 1 [.ref (ad 100)] σ (RW (.long (zL (sumF σ (σ 25 0).toNat))) (σ = ·)) := by
  refine Cw.enter (by decide) (Nat.le_of_ble_eq_true rfl) ?_
  intro A p e s m below meth c hc ls hl hw
  have hl : lv_has ls 1 [(0, .ref (ad 100))] := hl
  obtain ⟨hx, hb, hml, hown, hTB, hK, hr, hlk⟩ := id hc
  refine lv_aload_n hx hb d_X_forces_0 rfl (lv_at hl 0 rfl) ?_
  refine gX_X_fixture hc hw lk_X_26 d_X_forces_1 ?_
  refine lv_aload_n hx hb d_X_forces_4 rfl (lv_at hl 0 rfl) ?_
  refine gX_X_board hc hw lk_X_12 d_X_forces_5 ?_
  refine w_cvR (q0 := 2) hc hw (k_F_sumOfForces _ hn hP) yw_F_sumOfForces yi_F_sumOfForces lk_X_186 d_X_forces_8 rfl rfl rfl rfl hl.1 (Nat.le_of_ble_eq_true rfl) ⟨Nat.le_of_ble_eq_true rfl, Nat.le_of_ble_eq_true rfl⟩ ⟨Nat.zero_le _, Nat.zero_le _⟩ (fun τ8 H locs hτ8 hw => ?_)
  subst hτ8
  exact w_lret hc hw (⟨rfl, rfl⟩) d_X_forces_11
set_option maxHeartbeats 400000 in
set_option maxRecDepth 100000 in
theorem k_X_suspects {l : Launch} {D : va_G} {ad : Nat → Nat} {ca : Nat → ClassId} (σ : St) (hO : ∀ i, 0 ≤ σ 40 i ∧ σ 40 i < 4096) (h42 : 0 ≤ σ 42 0 ∧ σ 42 0 ≤ 13) (h41 : 0 ≤ σ 41 0 ∧ σ 41 0 < 4096) (h43 : σ 43 0 = 0 ∨ σ 43 0 = 1) : Cw l D cl7 (tyX ca) (wX ad ca) y_X_suspects c_X_suspects 1 (some .int) 16 [.ref (ad 100)] σ (RW (.int (zI (popc (smC σ 41 0)))) (smC σ = ·)) := by
  refine Cw.enter (by decide) (Nat.le_of_ble_eq_true rfl) ?_
  intro A p e s m below meth c hc ls hl hw
  have hl : lv_has ls 1 [(0, .ref (ad 100))] := hl
  obtain ⟨hx, hb, hml, hown, hTB, hK, hr, hlk⟩ := id hc
  refine lv_aload_n hx hb d_X_suspects_0 rfl (lv_at hl 0 rfl) ?_
  refine gX_X_rows hc hw lk_X_40 d_X_suspects_1 ?_
  refine w_cvR (q0 := 4) hc hw (k_R_smallestCover _ hO h42 h41 h43) yw_R_smallestCover yi_R_smallestCover lk_X_152 d_X_suspects_4 rfl rfl rfl rfl hl.1 (Nat.le_of_ble_eq_true rfl) ⟨Nat.le_of_ble_eq_true rfl, Nat.le_of_ble_eq_true rfl⟩ ⟨Nat.zero_le _, Nat.zero_le _⟩ (fun τ4 H locs hτ4 hw => ?_)
  subst hτ4
  refine w_csR hc hw (k_JI_bitCount _ _ (smC_41 hO h41)) yw_JI_bitCount yi_JI_bitCount lk_X_156 d_X_suspects_7 rfl rfl hl.1 (Nat.le_of_ble_eq_true rfl) ⟨Nat.le_of_ble_eq_true rfl, Nat.le_of_ble_eq_true rfl⟩ ⟨Nat.zero_le _, Nat.zero_le _⟩ (fun τ7 H locs hτ7 hw => ?_)
  subst hτ7
  exact w_iret hc hw (⟨rfl, rfl⟩) d_X_suspects_10
