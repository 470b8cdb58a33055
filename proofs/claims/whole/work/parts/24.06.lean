set_option maxHeartbeats 400000 in
set_option maxRecDepth 100000 in
theorem k_F_writeText {l : Launch} {D : va_G} {ad : Nat → Nat} {ca : Nat → ClassId} (σ : St) (hI : IB σ) (hn : 0 ≤ σ 25 0 ∧ σ 25 0 ≤ 8) (hP : ∀ i, 0 ≤ i → i < σ 25 0 → 0 ≤ σ 23 i ∧ σ 23 i < 36) : Cw l D cl7 (tyX ca) (wX ad ca) y_F_writeText c_F_writeText 4 none 2 [.ref (ad 102), .ref (ad 101)] σ (VW (wtF σ (σ 25 0).toNat = ·)) := by
  refine Cw.enter (by decide) (Nat.le_of_ble_eq_true rfl) ?_
  intro A p e s m below meth c hc ls hl hw
  have hl : lv_has ls 4 [(0, .ref (ad 102)), (1, .ref (ad 101))] := hl
  obtain ⟨hx, hb, hml, hown, hTB, hK, hr, hlk⟩ := id hc
  refine lv_aload_n hx hb d_F_writeText_0 rfl (lv_at hl 0 rfl) ?_
  refine z_ic hx hb d_F_writeText_1 ?_
  refine pX_F_length hc hw lk_F_65 d_F_writeText_2 (fun H locs hw => ?_)
  refine z_ic hx hb d_F_writeText_5 ?_
  refine z_ist_n hx hb d_F_writeText_6 rfl hl (by decide) (fun x2_6 ex2_6 ls (hl : lv_has ls 4 [(2, .int (zI x2_6)), (0, .ref (ad 102)), (1, .ref (ad 101))]) => ?_)
  have L7 : ∀ (n : Nat) (i : Int) (τ : St) (H : Heap) (locs : List Loc), (0 ≤ i ∧ i ≤ σ 25 0) → (τ = wtF σ i.toNat) → (σ 25 0 - i).toNat < n → Wd D cl7 (wX ad ca) A s.heap τ H locs → ∀ ls : Array Slot, lv_has ls 4 [(2, .int (zI i)), (0, .ref (ad 102)), (1, .ref (ad 101))] → W p l e (Rmh 2) s m ([.ref (ad 102), .ref (ad 101)] : List Value).toArray below meth c H locs 0 0 (MQ below (Qw D cl7 (wX ad ca) A (VW (wtF σ (σ 25 0).toNat = ·))) ([.ref (ad 102), .ref (ad 101)] : List Value).toArray s 0 0 A) (F0 m 7 ls []) := by
    intro n
    induction n with
    | zero => intro i τ H locs hi hτ hm; exact absurd hm (Nat.not_lt_zero _)
    | succ n ih7 =>
      intro i τ H locs hi hτ hm7 hw ls hl
      subst hτ
      have ei : ((i.toNat : Nat) : Int) = i := Int.toNat_of_nonneg hi.1
      have e25 : wtF σ i.toNat 25 0 = σ 25 0 := by rw [wtF_o σ _ 25 (by decide)]
      have e23 : wtF σ i.toNat 23 i = σ 23 i := by rw [wtF_o σ _ 23 (by decide)]
      have hb0 := wtF_bd σ i.toNat
      have hb1 := wl_bd 112 hb0
      have hb2 := wn_bd (wtF σ i.toNat 23 i) hb1
      have hb3 := wl_bd 32 hb2
      have hb4 := wn_bd (wtF σ i.toNat 3 (wtF σ i.toNat 23 i)) hb3
      have hb5 := wl_bd 32 hb4
      have hb6 := wn_bd (wtF σ i.toNat 4 (wtF σ i.toNat 23 i)) hb5
      refine lv_iload_n hx hb d_F_writeText_7 rfl (lv_at hl 0 rfl) ?_
      refine lv_aload_n hx hb d_F_writeText_8 rfl (lv_at hl 1 rfl) ?_
      refine gX_F_probeCount hc hw lk_F_58 d_F_writeText_9 ?_
      refine z_icmp_ge hx hb 78 d_F_writeText_12 (by omega) (by omega) (by decide) (fun c12 => ?_) (fun c12 => ?_)
      · exact w_vret hc hw (⟨rfl, by rw [show i = σ 25 0 by omega]⟩) d_F_writeText_78
      · have hPi := hP i hi.1 (by omega)
        refine lv_aload_n hx hb d_F_writeText_15 rfl (lv_at hl 1 rfl) ?_
        refine gX_F_sorted hc hw lk_F_21 d_F_writeText_16 ?_
        refine lv_iload_n hx hb d_F_writeText_19 rfl (lv_at hl 0 rfl) ?_
        refine ldX_F_sorted hc hw d_F_writeText_20 (by omega) ?_
        refine z_ist_n hx hb d_F_writeText_21 rfl hl (by decide) (fun x3_21 ex3_21 ls (hl : lv_has ls 4 [(3, .int (zI x3_21)), (2, .int (zI i)), (0, .ref (ad 102)), (1, .ref (ad 101))]) => ?_)
        subst ex3_21
        refine lv_aload_n hx hb d_F_writeText_22 rfl (lv_at hl 2 rfl) ?_
        refine z_bi hx hb d_F_writeText_23 (by decide) ?_
        refine w_cvV (q0 := 2) hc hw (k_F_writeLetter _ _ (by decide) hb0) yw_F_writeLetter yi_F_writeLetter lk_F_115 d_F_writeText_25 rfl rfl rfl rfl hl.1 (Nat.le_of_ble_eq_true rfl) ⟨Nat.le_of_ble_eq_true rfl, Nat.le_of_ble_eq_true rfl⟩ ⟨Nat.zero_le _, Nat.zero_le _⟩ (fun τ25 H locs hτ25 hw => ?_)
        subst hτ25
        refine lv_aload_n hx hb d_F_writeText_28 rfl (lv_at hl 2 rfl) ?_
        refine lv_iload_n hx hb d_F_writeText_29 rfl (lv_at hl 0 rfl) ?_
        refine z_i2l hx hb d_F_writeText_30 (by omega) ?_
        refine w_cvV (q0 := 2) hc hw (k_F_writeNumber _ _ (by omega) hb1) yw_F_writeNumber yi_F_writeNumber lk_F_119 d_F_writeText_31 rfl rfl rfl rfl hl.1 (Nat.le_of_ble_eq_true rfl) ⟨Nat.le_of_ble_eq_true rfl, Nat.le_of_ble_eq_true rfl⟩ ⟨Nat.zero_le _, Nat.zero_le _⟩ (fun τ31 H locs hτ31 hw => ?_)
        subst hτ31
        refine lv_aload_n hx hb d_F_writeText_34 rfl (lv_at hl 2 rfl) ?_
        refine z_bi hx hb d_F_writeText_35 (by decide) ?_
        refine w_cvV (q0 := 2) hc hw (k_F_writeLetter _ _ (by decide) hb2) yw_F_writeLetter yi_F_writeLetter lk_F_115 d_F_writeText_37 rfl rfl rfl rfl hl.1 (Nat.le_of_ble_eq_true rfl) ⟨Nat.le_of_ble_eq_true rfl, Nat.le_of_ble_eq_true rfl⟩ ⟨Nat.zero_le _, Nat.zero_le _⟩ (fun τ37 H locs hτ37 hw => ?_)
        subst hτ37
        refine lv_aload_n hx hb d_F_writeText_40 rfl (lv_at hl 2 rfl) ?_
        refine lv_aload_n hx hb d_F_writeText_41 rfl (lv_at hl 3 rfl) ?_
        refine gnX_B_xs hc hw lk_F_91 d_F_writeText_42 ?_
        refine lv_iload_n hx hb d_F_writeText_45 rfl (lv_at hl 0 rfl) ?_
        refine ldX_B_xs hc hw d_F_writeText_46 (by omega) ?_
        have ex3 : ∀ j, (wl (wn (wl (wtF σ i.toNat) 112) (wtF σ i.toNat 23 i)) 32) 3 j = σ 3 j := fun j => by rw [wl_o _ _ _ (by decide), wn_o _ _ _ (by decide), wl_o _ _ _ (by decide), wtF_o σ _ 3 (by decide)]
        rw [show wl (wn (wl (wtF σ i.toNat) 112) (wtF σ i.toNat 23 i)) 32 3 = wtF σ i.toNat 3 from by rw [wl_o _ _ _ (by decide), wn_o _ _ _ (by decide), wl_o _ _ _ (by decide)]]
        refine w_cvV (q0 := 2) hc hw (k_F_writeNumber _ _ (by have := hI.2.2.2.1 (wtF σ i.toNat 23 i); rw [wtF_o σ _ 3 (by decide)]; omega) hb3) yw_F_writeNumber yi_F_writeNumber lk_F_119 d_F_writeText_47 rfl rfl rfl rfl hl.1 (Nat.le_of_ble_eq_true rfl) ⟨Nat.le_of_ble_eq_true rfl, Nat.le_of_ble_eq_true rfl⟩ ⟨Nat.zero_le _, Nat.zero_le _⟩ (fun τ47 H locs hτ47 hw => ?_)
        subst hτ47
        refine lv_aload_n hx hb d_F_writeText_50 rfl (lv_at hl 2 rfl) ?_
        refine z_bi hx hb d_F_writeText_51 (by decide) ?_
        refine w_cvV (q0 := 2) hc hw (k_F_writeLetter _ _ (by decide) hb4) yw_F_writeLetter yi_F_writeLetter lk_F_115 d_F_writeText_53 rfl rfl rfl rfl hl.1 (Nat.le_of_ble_eq_true rfl) ⟨Nat.le_of_ble_eq_true rfl, Nat.le_of_ble_eq_true rfl⟩ ⟨Nat.zero_le _, Nat.zero_le _⟩ (fun τ53 H locs hτ53 hw => ?_)
        subst hτ53
        refine lv_aload_n hx hb d_F_writeText_56 rfl (lv_at hl 2 rfl) ?_
        refine lv_aload_n hx hb d_F_writeText_57 rfl (lv_at hl 3 rfl) ?_
        refine gnX_B_ys hc hw lk_F_100 d_F_writeText_58 ?_
        refine lv_iload_n hx hb d_F_writeText_61 rfl (lv_at hl 0 rfl) ?_
        refine ldX_B_ys hc hw d_F_writeText_62 (by omega) ?_
        rw [show wl (wn (wl (wn (wl (wtF σ i.toNat) 112) (wtF σ i.toNat 23 i)) 32) (wtF σ i.toNat 3 (wtF σ i.toNat 23 i))) 32 4 = wtF σ i.toNat 4 from by rw [wl_o _ _ _ (by decide), wn_o _ _ _ (by decide), wl_o _ _ _ (by decide), wn_o _ _ _ (by decide), wl_o _ _ _ (by decide)]]
        refine w_cvV (q0 := 2) hc hw (k_F_writeNumber _ _ (by have := hI.2.2.2.2.1 (wtF σ i.toNat 23 i); rw [wtF_o σ _ 4 (by decide)]; omega) hb5) yw_F_writeNumber yi_F_writeNumber lk_F_119 d_F_writeText_63 rfl rfl rfl rfl hl.1 (Nat.le_of_ble_eq_true rfl) ⟨Nat.le_of_ble_eq_true rfl, Nat.le_of_ble_eq_true rfl⟩ ⟨Nat.zero_le _, Nat.zero_le _⟩ (fun τ63 H locs hτ63 hw => ?_)
        subst hτ63
        refine lv_aload_n hx hb d_F_writeText_66 rfl (lv_at hl 2 rfl) ?_
        refine z_bi hx hb d_F_writeText_67 (by decide) ?_
        refine w_cvV (q0 := 2) hc hw (k_F_writeLetter _ _ (by decide) hb6) yw_F_writeLetter yi_F_writeLetter lk_F_115 d_F_writeText_69 rfl rfl rfl rfl hl.1 (Nat.le_of_ble_eq_true rfl) ⟨Nat.le_of_ble_eq_true rfl, Nat.le_of_ble_eq_true rfl⟩ ⟨Nat.zero_le _, Nat.zero_le _⟩ (fun τ69 H locs hτ69 hw => ?_)
        subst hτ69
        refine z_iinc (k := 1) hx hb d_F_writeText_72 hl rfl (by decide) (fun x2_72 ex2_72 ls (hl : lv_has ls 4 [(2, .int (zI x2_72)), (3, .int (zI (wtF σ i.toNat 23 i))), (0, .ref (ad 102)), (1, .ref (ad 101))]) => ?_)
        refine lv_goto (tgt := 7) hx hb d_F_writeText_75 (by decide) ?_
        exact ih7 x2_72 _ _ _ (by omega) (by rw [show x2_72.toNat = i.toNat + 1 from (by omega)]; simp only [wtF, ei]; rfl) (by omega) hw ls (lv_sub hl [0, 2, 3] rfl)
  exact L7 _ x2_6 _ _ _ (by omega) (by rw [ex2_6]; rfl) (Nat.lt_succ_self _) hw ls (lv_sub hl [0, 1, 2] rfl)
