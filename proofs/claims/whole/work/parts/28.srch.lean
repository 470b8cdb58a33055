set_option maxHeartbeats 400000 in
set_option maxRecDepth 100000 in
theorem k_S_endOf {l : Launch} {D : va_G} {ad : Nat → Nat} {ca : Nat → ClassId} (σ : St) (i : Int) (hi : 0 ≤ i ∧ i < 8) : Cw l D cl7 (tyX ca) (wX ad ca) y_S_endOf c_S_endOf 2 (some .int) 0 [.ref (ad 105), .int (zI i)] σ (RW (.int (zI (i * 3 + σ 11 i))) (σ = ·)) := by
  refine Cw.enter (by decide) (Nat.le_of_ble_eq_true rfl) ?_
  intro A p e s m below meth c hc ls hl hw
  have hl : lv_has ls 2 [(0, .ref (ad 105)), (1, .int (zI i))] := hl
  obtain ⟨hx, hb, hml, hown, hTB, hK, hr, hlk⟩ := id hc
  refine lv_iload_n hx hb d_S_endOf_0 rfl (lv_at hl 1 rfl) ?_
  refine z_ic hx hb d_S_endOf_1 ?_
  refine z_imul hx hb d_S_endOf_2 ?_
  refine lv_aload_n hx hb d_S_endOf_3 rfl (lv_at hl 0 rfl) ?_
  refine gX_S_sizes hc hw lk_S_15 d_S_endOf_4 ?_
  refine lv_iload_n hx hb d_S_endOf_7 rfl (lv_at hl 1 rfl) ?_
  refine ldX_S_sizes hc hw d_S_endOf_8 (by omega) ?_
  refine z_iadd hx hb d_S_endOf_9 ?_
  exact w_iret hc hw (⟨rfl, rfl⟩) d_S_endOf_10
set_option maxHeartbeats 400000 in
set_option maxRecDepth 100000 in
theorem k_S_bestSlot {l : Launch} {D : va_G} {ad : Nat → Nat} {ca : Nat → ClassId} (σ : St) (i bl : Int) (hi : 0 ≤ i ∧ i < 8) (hbl : 0 ≤ bl ∧ bl < 16777216) (hS : IS σ) : Cw l D cl7 (tyX ca) (wX ad ca) y_S_bestSlot c_S_bestSlot 5 (some .int) 1 [.ref (ad 105), .int (zI i), .int (zI bl)] σ (RW (.int (zI (bs σ i bl))) (σ = ·)) := by
  have h11 := hS.2.1 i
  refine Cw.enter (by decide) (Nat.le_of_ble_eq_true rfl) ?_
  intro A p e s m below meth c hc ls hl hw
  have hl : lv_has ls 5 [(0, .ref (ad 105)), (1, .int (zI i)), (2, .int (zI bl))] := hl
  obtain ⟨hx, hb, hml, hown, hTB, hK, hr, hlk⟩ := id hc
  refine z_ic hx hb d_S_bestSlot_0 ?_
  refine z_ist_n hx hb d_S_bestSlot_1 rfl hl (by decide) (fun x3_1 ex3_1 ls (hl : lv_has ls 5 [(3, .int (zI x3_1)), (0, .ref (ad 105)), (1, .int (zI i)), (2, .int (zI bl))]) => ?_)
  refine lv_iload_n hx hb d_S_bestSlot_2 rfl (lv_at hl 2 rfl) ?_
  refine z_ic hx hb d_S_bestSlot_3 ?_
  refine z_imul hx hb d_S_bestSlot_4 ?_
  refine z_ist hx hb d_S_bestSlot_5 hl (by decide) (fun x4_5 ex4_5 ls (hl : lv_has ls 5 [(4, .int (zI x4_5)), (3, .int (zI x3_1)), (0, .ref (ad 105)), (1, .int (zI i)), (2, .int (zI bl))]) => ?_)
  have L7 : ∀ (n : Nat) (t : Int) (fd : Int) (H : Heap) (locs : List Loc), (i * 3 ≤ t ∧ t ≤ i * 3 + σ 11 i) → (fd = -1 ∨ (i * 3 ≤ fd ∧ fd < t)) → (bs σ i bl = bsF σ bl (i * 3 + σ 11 i - t).toNat t fd) → (i * 3 + σ 11 i - t).toNat < n → Wd D cl7 (wX ad ca) A s.heap σ H locs → ∀ ls : Array Slot, lv_has ls 5 [(4, .int (zI t)), (3, .int (zI fd)), (0, .ref (ad 105)), (1, .int (zI i)), (2, .int (zI bl))] → W p l e (Rmh 1) s m ([.ref (ad 105), .int (zI i), .int (zI bl)] : List Value).toArray below meth c H locs 0 0 (MQ below (Qw D cl7 (wX ad ca) A (RW (.int (zI (bs σ i bl))) (σ = ·))) ([.ref (ad 105), .int (zI i), .int (zI bl)] : List Value).toArray s 0 0 A) (F0 m 7 ls []) := by
    intro n
    induction n with
    | zero => intro t fd  H locs ht hf hN hm; exact absurd hm (Nat.not_lt_zero _)
    | succ n ih7 =>
      intro t fd  H locs ht hf hN hm7 hw ls hl
      refine lv_iload hx hb d_S_bestSlot_7 (lv_at hl 0 rfl) ?_
      refine lv_aload_n hx hb d_S_bestSlot_9 rfl (lv_at hl 2 rfl) ?_
      refine lv_iload_n hx hb d_S_bestSlot_10 rfl (lv_at hl 3 rfl) ?_
      refine w_cvR (q0 := 5) hc hw (k_S_endOf _ _ (by omega)) yw_S_endOf yi_S_endOf lk_S_82 d_S_bestSlot_11 rfl rfl rfl rfl hl.1 (Nat.le_of_ble_eq_true rfl) ⟨Nat.le_of_ble_eq_true rfl, Nat.le_of_ble_eq_true rfl⟩ ⟨Nat.zero_le _, Nat.zero_le _⟩ (fun τ11 H locs hτ11 hw => ?_)
      subst hτ11
      refine z_icmp_ge hx hb 57 d_S_bestSlot_14 (by omega) (by omega) (by decide) (fun c14 => ?_) (fun c14 => ?_)
      · refine lv_iload_n hx hb d_S_bestSlot_57 rfl (lv_at hl 1 rfl) ?_
        exact w_iret hc hw (⟨by rw [hN, show (i * 3 + σ 11 i - t).toNat = 0 by omega]; rfl, rfl⟩) d_S_bestSlot_58
      · have q : (i * 3 + σ 11 i - t).toNat = (i * 3 + σ 11 i - (t + 1)).toNat + 1 := by omega
        rw [q, bsF_s] at hN
        have h13t := hS.2.2.2.1 t
        have h13f := hS.2.2.2.1 fd
        refine lv_iload_n hx hb d_S_bestSlot_17 rfl (lv_at hl 4 rfl) ?_
        refine lv_iload hx hb d_S_bestSlot_18 (lv_at hl 0 rfl) ?_
        refine w_csNR hc hw (k_X_hasBit _ _ _ (by omega) (by omega)) yw_X_hasBit yi_X_hasBit lk_S_98 d_S_bestSlot_20 rfl rfl hl.1 (Nat.le_of_ble_eq_true rfl) ⟨Nat.le_of_ble_eq_true rfl, Nat.le_of_ble_eq_true rfl⟩ ⟨Nat.zero_le _, Nat.zero_le _⟩ (fun τ20 H locs hτ20 hw => ?_)
        subst hτ20
        refine z_ifb_ne hx hb 51 d_S_bestSlot_23 (by decide) (fun c23 => ?_) (fun c23 => ?_)
        · refine z_iinc (k := 0) hx hb d_S_bestSlot_51 hl rfl (by decide) (fun x4_51 ex4_51 ls (hl : lv_has ls 5 [(4, .int (zI x4_51)), (3, .int (zI fd)), (0, .ref (ad 105)), (1, .int (zI i)), (2, .int (zI bl))]) => ?_)
          refine lv_goto (tgt := 7) hx hb d_S_bestSlot_54 (by decide) ?_
          exact ih7 x4_51 fd _ _ (by omega) (by omega) (by rw [hN, ex4_51]; first | (rw [if_neg (fun q => q.1 c23)]; done) | (rw [if_pos ⟨c23, by omega⟩, ex3_50]; done) | (rw [if_neg (fun q => by omega)]; done)) (by omega) hw ls (lv_sub hl [0, 1, 2, 3, 4] rfl)
        · refine lv_iload_n hx hb d_S_bestSlot_26 rfl (lv_at hl 1 rfl) ?_
          refine z_ic hx hb d_S_bestSlot_27 ?_
          refine z_icmp_eq hx hb 48 d_S_bestSlot_28 (by omega) (by omega) (by decide) (fun c28 => ?_) (fun c28 => ?_)
          · refine lv_iload hx hb d_S_bestSlot_48 (lv_at hl 0 rfl) ?_
            refine z_ist_n hx hb d_S_bestSlot_50 rfl hl (by decide) (fun x3_50 ex3_50 ls (hl : lv_has ls 5 [(3, .int (zI x3_50)), (4, .int (zI t)), (0, .ref (ad 105)), (1, .int (zI i)), (2, .int (zI bl))]) => ?_)
            refine z_iinc (k := 1) hx hb d_S_bestSlot_51 hl rfl (by decide) (fun x4_51 ex4_51 ls (hl : lv_has ls 5 [(4, .int (zI x4_51)), (3, .int (zI x3_50)), (0, .ref (ad 105)), (1, .int (zI i)), (2, .int (zI bl))]) => ?_)
            refine lv_goto (tgt := 7) hx hb d_S_bestSlot_54 (by decide) ?_
            exact ih7 x4_51 x3_50 _ _ (by omega) (by omega) (by rw [hN, ex4_51]; first | (rw [if_neg (fun q => q.1 c23)]; done) | (rw [if_pos ⟨c23, by omega⟩, ex3_50]; done) | (rw [if_neg (fun q => by omega)]; done)) (by omega) hw ls (lv_sub hl [0, 1, 2, 3, 4] rfl)
          · refine lv_aload_n hx hb d_S_bestSlot_31 rfl (lv_at hl 2 rfl) ?_
            refine gX_S_worths hc hw lk_S_21 d_S_bestSlot_32 ?_
            refine lv_iload hx hb d_S_bestSlot_35 (lv_at hl 0 rfl) ?_
            refine ldX_S_worths hc hw d_S_bestSlot_37 (by omega) ?_
            refine lv_aload_n hx hb d_S_bestSlot_38 rfl (lv_at hl 2 rfl) ?_
            refine gX_S_worths hc hw lk_S_21 d_S_bestSlot_39 ?_
            refine lv_iload_n hx hb d_S_bestSlot_42 rfl (lv_at hl 1 rfl) ?_
            refine ldX_S_worths hc hw d_S_bestSlot_43 (by omega) ?_
            refine z_lcmp_le hx hb 51 d_S_bestSlot_44 d_S_bestSlot_45 (by omega) (by omega) (by decide) (fun c44 => ?_) (fun c44 => ?_)
            · refine z_iinc (k := 0) hx hb d_S_bestSlot_51 hl rfl (by decide) (fun x4_51 ex4_51 ls (hl : lv_has ls 5 [(4, .int (zI x4_51)), (3, .int (zI fd)), (0, .ref (ad 105)), (1, .int (zI i)), (2, .int (zI bl))]) => ?_)
              refine lv_goto (tgt := 7) hx hb d_S_bestSlot_54 (by decide) ?_
              exact ih7 x4_51 fd _ _ (by omega) (by omega) (by rw [hN, ex4_51]; first | (rw [if_neg (fun q => q.1 c23)]; done) | (rw [if_pos ⟨c23, by omega⟩, ex3_50]; done) | (rw [if_neg (fun q => by omega)]; done)) (by omega) hw ls (lv_sub hl [0, 1, 2, 3, 4] rfl)
            · refine lv_iload hx hb d_S_bestSlot_48 (lv_at hl 0 rfl) ?_
              refine z_ist_n hx hb d_S_bestSlot_50 rfl hl (by decide) (fun x3_50 ex3_50 ls (hl : lv_has ls 5 [(3, .int (zI x3_50)), (4, .int (zI t)), (0, .ref (ad 105)), (1, .int (zI i)), (2, .int (zI bl))]) => ?_)
              refine z_iinc (k := 1) hx hb d_S_bestSlot_51 hl rfl (by decide) (fun x4_51 ex4_51 ls (hl : lv_has ls 5 [(4, .int (zI x4_51)), (3, .int (zI x3_50)), (0, .ref (ad 105)), (1, .int (zI i)), (2, .int (zI bl))]) => ?_)
              refine lv_goto (tgt := 7) hx hb d_S_bestSlot_54 (by decide) ?_
              exact ih7 x4_51 x3_50 _ _ (by omega) (by omega) (by rw [hN, ex4_51]; first | (rw [if_neg (fun q => q.1 c23)]; done) | (rw [if_pos ⟨c23, by omega⟩, ex3_50]; done) | (rw [if_neg (fun q => by omega)]; done)) (by omega) hw ls (lv_sub hl [0, 1, 2, 3, 4] rfl)
  exact L7 _ x4_5 x3_1 _ _ (by omega) (by omega) (by rw [ex4_5, ex3_1, show (i * 3 + σ 11 i - i * 3).toNat = (σ 11 i).toNat from (by omega)]; rfl) (Nat.lt_succ_self _) hw ls (lv_sub hl [0, 1, 2, 3, 4] rfl)
set_option maxHeartbeats 400000 in
set_option maxRecDepth 100000 in
theorem k_S_mostWorthFrom {l : Launch} {D : va_G} {ad : Nat → Nat} {ca : Nat → ClassId} (σ : St) (d bl : Int) (hd : 0 ≤ d ∧ d ≤ 8) (hbl : 0 ≤ bl ∧ bl < 16777216) (hS : IS σ) : Cw l D cl7 (tyX ca) (wX ad ca) y_S_mostWorthFrom c_S_mostWorthFrom 7 (some .long) 2 [.ref (ad 105), .int (zI d), .int (zI bl)] σ (RW (.long (zL (mw σ d bl))) (σ = ·)) := by
  have h17 := hS.1
  refine Cw.enter (by decide) (Nat.le_of_ble_eq_true rfl) ?_
  intro A p e s m below meth c hc ls hl hw
  have hl : lv_has ls 7 [(0, .ref (ad 105)), (1, .int (zI d)), (2, .int (zI bl))] := hl
  obtain ⟨hx, hb, hml, hown, hTB, hK, hr, hlk⟩ := id hc
  refine z_lc0 hx hb d_S_mostWorthFrom_0 ?_
  refine z_lst_n hx hb d_S_mostWorthFrom_1 rfl hl (by decide) (fun x3_1 ex3_1 ls (hl : lv_has ls 7 [(3, .long (zL x3_1)), (0, .ref (ad 105)), (1, .int (zI d)), (2, .int (zI bl))]) => ?_)
  refine lv_iload_n hx hb d_S_mostWorthFrom_2 rfl (lv_at hl 2 rfl) ?_
  refine z_ist hx hb d_S_mostWorthFrom_3 hl (by decide) (fun x5_3 ex5_3 ls (hl : lv_has ls 7 [(5, .int (zI x5_3)), (3, .long (zL x3_1)), (0, .ref (ad 105)), (1, .int (zI d)), (2, .int (zI bl))]) => ?_)
  have L5 : ∀ (n : Nat) (k : Int) (t : Int) (H : Heap) (locs : List Loc), (d ≤ k ∧ (k ≤ σ 17 0 ∨ k = d)) → (mw σ d bl = mwF σ bl (σ 17 0 - k).toNat k t) → (σ 17 0 - k).toNat < n → Wd D cl7 (wX ad ca) A s.heap σ H locs → ∀ ls : Array Slot, lv_has ls 7 [(5, .int (zI k)), (3, .long (zL t)), (0, .ref (ad 105)), (1, .int (zI d)), (2, .int (zI bl))] → W p l e (Rmh 2) s m ([.ref (ad 105), .int (zI d), .int (zI bl)] : List Value).toArray below meth c H locs 0 0 (MQ below (Qw D cl7 (wX ad ca) A (RW (.long (zL (mw σ d bl))) (σ = ·))) ([.ref (ad 105), .int (zI d), .int (zI bl)] : List Value).toArray s 0 0 A) (F0 m 5 ls []) := by
    intro n
    induction n with
    | zero => intro k t  H locs hk hN hm; exact absurd hm (Nat.not_lt_zero _)
    | succ n ih5 =>
      intro k t  H locs hk hN hm5 hw ls hl
      refine lv_iload hx hb d_S_mostWorthFrom_5 (lv_at hl 0 rfl) ?_
      refine lv_aload_n hx hb d_S_mostWorthFrom_7 rfl (lv_at hl 2 rfl) ?_
      refine gX_S_looked hc hw lk_S_54 d_S_mostWorthFrom_8 ?_
      refine z_icmp_ge hx hb 45 d_S_mostWorthFrom_11 (by omega) (by omega) (by decide) (fun c11 => ?_) (fun c11 => ?_)
      · refine lv_lload_n hx hb d_S_mostWorthFrom_45 rfl (lv_at hl 1 rfl) ?_
        exact w_lret hc hw (⟨by rw [hN, show (σ 17 0 - k).toNat = 0 by omega]; rfl, rfl⟩) d_S_mostWorthFrom_46
      · have q : (σ 17 0 - k).toNat = (σ 17 0 - (k + 1)).toNat + 1 := by omega
        rw [q, mwF_s] at hN
        have hbb := bs_bd hS k bl (by omega)
        have h11 := hS.2.1 k
        refine lv_aload_n hx hb d_S_mostWorthFrom_14 rfl (lv_at hl 2 rfl) ?_
        refine lv_iload hx hb d_S_mostWorthFrom_15 (lv_at hl 0 rfl) ?_
        refine lv_iload_n hx hb d_S_mostWorthFrom_17 rfl (lv_at hl 4 rfl) ?_
        refine w_cvR (q0 := 5) hc hw (k_S_bestSlot _ _ _ (by omega) hbl hS) yw_S_bestSlot yi_S_bestSlot lk_S_94 d_S_mostWorthFrom_18 rfl rfl rfl rfl hl.1 (Nat.le_of_ble_eq_true rfl) ⟨Nat.le_of_ble_eq_true rfl, Nat.le_of_ble_eq_true rfl⟩ ⟨Nat.zero_le _, Nat.zero_le _⟩ (fun τ18 H locs hτ18 hw => ?_)
        subst hτ18
        refine z_ist hx hb d_S_mostWorthFrom_21 hl (by decide) (fun x6_21 ex6_21 ls (hl : lv_has ls 7 [(6, .int (zI x6_21)), (5, .int (zI k)), (3, .long (zL t)), (0, .ref (ad 105)), (1, .int (zI d)), (2, .int (zI bl))]) => ?_)
        refine lv_iload hx hb d_S_mostWorthFrom_23 (lv_at hl 0 rfl) ?_
        refine z_ic hx hb d_S_mostWorthFrom_25 ?_
        refine z_icmp_eq hx hb 39 d_S_mostWorthFrom_26 (by omega) (by omega) (by decide) (fun c26 => ?_) (fun c26 => ?_)
        · refine z_iinc (k := 1) hx hb d_S_mostWorthFrom_39 hl rfl (by decide) (fun x5_39 ex5_39 ls (hl : lv_has ls 7 [(5, .int (zI x5_39)), (6, .int (zI x6_21)), (3, .long (zL t)), (0, .ref (ad 105)), (1, .int (zI d)), (2, .int (zI bl))]) => ?_)
          refine lv_goto (tgt := 5) hx hb d_S_mostWorthFrom_42 (by decide) ?_
          exact ih5 x5_39 t _ _ (by omega) (by rw [hN, ex5_39]; first | (rw [if_pos (by omega)]; done) | (rw [if_neg (by omega), ex3_38, ex6_21])) (by omega) hw ls (lv_sub hl [0, 2, 3, 4, 5] rfl)
        · refine lv_lload_n hx hb d_S_mostWorthFrom_29 rfl (lv_at hl 2 rfl) ?_
          refine lv_aload_n hx hb d_S_mostWorthFrom_30 rfl (lv_at hl 3 rfl) ?_
          refine gX_S_worths hc hw lk_S_21 d_S_mostWorthFrom_31 ?_
          refine lv_iload hx hb d_S_mostWorthFrom_34 (lv_at hl 0 rfl) ?_
          refine ldX_S_worths hc hw d_S_mostWorthFrom_36 (by omega) ?_
          refine z_ladd hx hb d_S_mostWorthFrom_37 ?_
          refine z_lst_n hx hb d_S_mostWorthFrom_38 rfl hl (by decide) (fun x3_38 ex3_38 ls (hl : lv_has ls 7 [(3, .long (zL x3_38)), (6, .int (zI x6_21)), (5, .int (zI k)), (0, .ref (ad 105)), (1, .int (zI d)), (2, .int (zI bl))]) => ?_)
          refine z_iinc (k := 2) hx hb d_S_mostWorthFrom_39 hl rfl (by decide) (fun x5_39 ex5_39 ls (hl : lv_has ls 7 [(5, .int (zI x5_39)), (3, .long (zL x3_38)), (6, .int (zI x6_21)), (0, .ref (ad 105)), (1, .int (zI d)), (2, .int (zI bl))]) => ?_)
          refine lv_goto (tgt := 5) hx hb d_S_mostWorthFrom_42 (by decide) ?_
          exact ih5 x5_39 x3_38 _ _ (by omega) (by rw [hN, ex5_39]; first | (rw [if_pos (by omega)]; done) | (rw [if_neg (by omega), ex3_38, ex6_21])) (by omega) hw ls (lv_sub hl [0, 1, 3, 4, 5] rfl)
  exact L5 _ x5_3 x3_1 _ _ (by omega) (by rw [ex5_3, ex3_1]; rfl) (Nat.lt_succ_self _) hw ls (lv_sub hl [0, 1, 2, 3, 4] rfl)
set_option maxHeartbeats 400000 in
set_option maxRecDepth 100000 in
theorem k_S_worthOfPlainChoice {l : Launch} {D : va_G} {ad : Nat → Nat} {ca : Nat → ClassId} (σ : St) (hS : IS σ) : Cw l D cl7 (tyX ca) (wX ad ca) y_S_worthOfPlainChoice c_S_worthOfPlainChoice 6 (some .long) 2 [.ref (ad 105)] σ (RW (.long (zL (wp0 σ))) (σ = ·)) := by
  have h17 := hS.1
  refine Cw.enter (by decide) (Nat.le_of_ble_eq_true rfl) ?_
  intro A p e s m below meth c hc ls hl hw
  have hl : lv_has ls 6 [(0, .ref (ad 105))] := hl
  obtain ⟨hx, hb, hml, hown, hTB, hK, hr, hlk⟩ := id hc
  refine z_lc0 hx hb d_S_worthOfPlainChoice_0 ?_
  refine z_lst_n hx hb d_S_worthOfPlainChoice_1 rfl hl (by decide) (fun x1_1 ex1_1 ls (hl : lv_has ls 6 [(1, .long (zL x1_1)), (0, .ref (ad 105))]) => ?_)
  refine z_ic hx hb d_S_worthOfPlainChoice_2 ?_
  refine z_ist_n hx hb d_S_worthOfPlainChoice_3 rfl hl (by decide) (fun x3_3 ex3_3 ls (hl : lv_has ls 6 [(3, .int (zI x3_3)), (1, .long (zL x1_1)), (0, .ref (ad 105))]) => ?_)
  refine z_ic hx hb d_S_worthOfPlainChoice_4 ?_
  refine z_ist hx hb d_S_worthOfPlainChoice_5 hl (by decide) (fun x4_5 ex4_5 ls (hl : lv_has ls 6 [(4, .int (zI x4_5)), (3, .int (zI x3_3)), (1, .long (zL x1_1)), (0, .ref (ad 105))]) => ?_)
  have L7 : ∀ (n : Nat) (k : Int) (t : Int) (bl : Int) (H : Heap) (locs : List Loc), (0 ≤ k ∧ k ≤ σ 17 0) → (0 ≤ bl ∧ bl < 16777216) → (wp0 σ = wpF σ (σ 17 0 - k).toNat k t bl) → (σ 17 0 - k).toNat < n → Wd D cl7 (wX ad ca) A s.heap σ H locs → ∀ ls : Array Slot, lv_has ls 6 [(4, .int (zI k)), (1, .long (zL t)), (3, .int (zI bl)), (0, .ref (ad 105))] → W p l e (Rmh 2) s m ([.ref (ad 105)] : List Value).toArray below meth c H locs 0 0 (MQ below (Qw D cl7 (wX ad ca) A (RW (.long (zL (wp0 σ))) (σ = ·))) ([.ref (ad 105)] : List Value).toArray s 0 0 A) (F0 m 7 ls []) := by
    intro n
    induction n with
    | zero => intro k t bl  H locs hk hbl hN hm; exact absurd hm (Nat.not_lt_zero _)
    | succ n ih7 =>
      intro k t bl  H locs hk hbl hN hm7 hw ls hl
      refine lv_iload hx hb d_S_worthOfPlainChoice_7 (lv_at hl 0 rfl) ?_
      refine lv_aload_n hx hb d_S_worthOfPlainChoice_9 rfl (lv_at hl 3 rfl) ?_
      refine gX_S_looked hc hw lk_S_54 d_S_worthOfPlainChoice_10 ?_
      refine z_icmp_ge hx hb 57 d_S_worthOfPlainChoice_13 (by omega) (by omega) (by decide) (fun c13 => ?_) (fun c13 => ?_)
      · refine lv_lload_n hx hb d_S_worthOfPlainChoice_57 rfl (lv_at hl 1 rfl) ?_
        exact w_lret hc hw (⟨by rw [hN, show (σ 17 0 - k).toNat = 0 by omega]; rfl, rfl⟩) d_S_worthOfPlainChoice_58
      · have q : (σ 17 0 - k).toNat = (σ 17 0 - (k + 1)).toNat + 1 := by omega
        rw [q, wpF_s] at hN
        have hbb := bs_bd hS k bl (by omega)
        have h11 := hS.2.1 k
        refine lv_aload_n hx hb d_S_worthOfPlainChoice_16 rfl (lv_at hl 3 rfl) ?_
        refine lv_iload hx hb d_S_worthOfPlainChoice_17 (lv_at hl 0 rfl) ?_
        refine lv_iload_n hx hb d_S_worthOfPlainChoice_19 rfl (lv_at hl 2 rfl) ?_
        refine w_cvR (q0 := 5) hc hw (k_S_bestSlot _ _ _ (by omega) hbl hS) yw_S_bestSlot yi_S_bestSlot lk_S_94 d_S_worthOfPlainChoice_20 rfl rfl rfl rfl hl.1 (Nat.le_of_ble_eq_true rfl) ⟨Nat.le_of_ble_eq_true rfl, Nat.le_of_ble_eq_true rfl⟩ ⟨Nat.zero_le _, Nat.zero_le _⟩ (fun τ20 H locs hτ20 hw => ?_)
        subst hτ20
        refine z_ist hx hb d_S_worthOfPlainChoice_23 hl (by decide) (fun x5_23 ex5_23 ls (hl : lv_has ls 6 [(5, .int (zI x5_23)), (4, .int (zI k)), (1, .long (zL t)), (3, .int (zI bl)), (0, .ref (ad 105))]) => ?_)
        refine lv_iload hx hb d_S_worthOfPlainChoice_25 (lv_at hl 0 rfl) ?_
        refine z_ic hx hb d_S_worthOfPlainChoice_27 ?_
        refine z_icmp_eq hx hb 51 d_S_worthOfPlainChoice_28 (by omega) (by omega) (by decide) (fun c28 => ?_) (fun c28 => ?_)
        · refine z_iinc (k := 1) hx hb d_S_worthOfPlainChoice_51 hl rfl (by decide) (fun x4_51 ex4_51 ls (hl : lv_has ls 6 [(4, .int (zI x4_51)), (5, .int (zI x5_23)), (1, .long (zL t)), (3, .int (zI bl)), (0, .ref (ad 105))]) => ?_)
          refine lv_goto (tgt := 7) hx hb d_S_worthOfPlainChoice_54 (by decide) ?_
          exact ih7 x4_51 t bl _ _ (by omega) (by first | exact hbl | (rw [ex3_50, ex5_23]; exact zOr_bd (k := 24) hbl (hS.2.2.2.2 _))) (by rw [hN, ex4_51]; first | (rw [if_pos (by omega)]; done) | (rw [if_neg (by omega), ex1_40, ex3_50, ex5_23])) (by omega) hw ls (lv_sub hl [0, 2, 3, 4] rfl)
        · refine lv_lload_n hx hb d_S_worthOfPlainChoice_31 rfl (lv_at hl 2 rfl) ?_
          refine lv_aload_n hx hb d_S_worthOfPlainChoice_32 rfl (lv_at hl 4 rfl) ?_
          refine gX_S_worths hc hw lk_S_21 d_S_worthOfPlainChoice_33 ?_
          refine lv_iload hx hb d_S_worthOfPlainChoice_36 (lv_at hl 0 rfl) ?_
          refine ldX_S_worths hc hw d_S_worthOfPlainChoice_38 (by omega) ?_
          refine z_ladd hx hb d_S_worthOfPlainChoice_39 ?_
          refine z_lst_n hx hb d_S_worthOfPlainChoice_40 rfl hl (by decide) (fun x1_40 ex1_40 ls (hl : lv_has ls 6 [(1, .long (zL x1_40)), (5, .int (zI x5_23)), (4, .int (zI k)), (3, .int (zI bl)), (0, .ref (ad 105))]) => ?_)
          refine lv_iload_n hx hb d_S_worthOfPlainChoice_41 rfl (lv_at hl 3 rfl) ?_
          refine lv_aload_n hx hb d_S_worthOfPlainChoice_42 rfl (lv_at hl 4 rfl) ?_
          refine gX_S_clashes hc hw lk_S_25 d_S_worthOfPlainChoice_43 ?_
          refine lv_iload hx hb d_S_worthOfPlainChoice_46 (lv_at hl 1 rfl) ?_
          refine ldX_S_clashes hc hw d_S_worthOfPlainChoice_48 (by omega) ?_
          refine z_ior hx hb d_S_worthOfPlainChoice_49 (⟨hbl.1, (hS.2.2.2.2 _).1⟩) ?_
          refine z_ist_n hx hb d_S_worthOfPlainChoice_50 rfl hl (by decide) (fun x3_50 ex3_50 ls (hl : lv_has ls 6 [(3, .int (zI x3_50)), (1, .long (zL x1_40)), (5, .int (zI x5_23)), (4, .int (zI k)), (0, .ref (ad 105))]) => ?_)
          refine z_iinc (k := 3) hx hb d_S_worthOfPlainChoice_51 hl rfl (by decide) (fun x4_51 ex4_51 ls (hl : lv_has ls 6 [(4, .int (zI x4_51)), (3, .int (zI x3_50)), (1, .long (zL x1_40)), (5, .int (zI x5_23)), (0, .ref (ad 105))]) => ?_)
          refine lv_goto (tgt := 7) hx hb d_S_worthOfPlainChoice_54 (by decide) ?_
          exact ih7 x4_51 x1_40 x3_50 _ _ (by omega) (by first | exact hbl | (rw [ex3_50, ex5_23]; exact zOr_bd (k := 24) hbl (hS.2.2.2.2 _))) (by rw [hN, ex4_51]; first | (rw [if_pos (by omega)]; done) | (rw [if_neg (by omega), ex1_40, ex3_50, ex5_23])) (by omega) hw ls (lv_sub hl [0, 2, 1, 4] rfl)
  exact L7 _ x4_5 x1_1 x3_3 _ _ (by omega) (by omega) (by rw [ex4_5, ex1_1, ex3_3, show (σ 17 0 - 0).toNat = (σ 17 0).toNat from (by omega)]; rfl) (Nat.lt_succ_self _) hw ls (lv_sub hl [0, 2, 1, 3] rfl)
set_option maxHeartbeats 400000 in
set_option maxRecDepth 100000 in
theorem k_S_keep {l : Launch} {D : va_G} {ad : Nat → Nat} {ca : Nat → ClassId} (σ : St) (w : Int) : Cw l D cl7 (tyX ca) (wX ad ca) y_S_keep c_S_keep 3 none 1 [.ref (ad 105), .long (zL w)] σ (VW (kp σ w = ·)) := by
  refine Cw.enter (by decide) (Nat.le_of_ble_eq_true rfl) ?_
  intro A p e s m below meth c hc ls hl hw
  have hl : lv_has ls 3 [(0, .ref (ad 105)), (1, .long (zL w))] := hl
  obtain ⟨hx, hb, hml, hown, hTB, hK, hr, hlk⟩ := id hc
  refine lv_aload_n hx hb d_S_keep_0 rfl (lv_at hl 0 rfl) ?_
  refine lv_lload_n hx hb d_S_keep_1 rfl (lv_at hl 1 rfl) ?_
  refine pX_S_bestWorth hc hw lk_S_46 d_S_keep_2 (fun H locs hw => ?_)
  refine lv_aload_n hx hb d_S_keep_5 rfl (lv_at hl 0 rfl) ?_
  refine gX_S_tried hc hw lk_S_28 d_S_keep_6 ?_
  refine z_ic hx hb d_S_keep_9 ?_
  refine lv_aload_n hx hb d_S_keep_10 rfl (lv_at hl 0 rfl) ?_
  refine gX_S_best hc hw lk_S_31 d_S_keep_11 ?_
  refine z_ic hx hb d_S_keep_14 ?_
  refine z_bi hx hb d_S_keep_15 (by decide) ?_
  refine cpX_15_16 hc hw hl.1 lk_S_109 d_S_keep_17 (by decide) (Nat.le_of_ble_eq_true rfl) (Nat.le_of_ble_eq_true rfl) (fun H locs hw => ?_)
  exact w_vret hc hw (⟨rfl, rfl⟩) d_S_keep_20
set_option maxHeartbeats 400000 in
set_option maxRecDepth 100000 in
theorem k_S_markClashesWithNet {l : Launch} {D : va_G} {ad : Nat → Nat} {ca : Nat → ClassId} (σ : St) (t i : Int) (ht : 0 ≤ t ∧ t < 24) (hi : 0 ≤ i ∧ i < 8) (hI : IB σ) (hS : IS σ) : Cw l D cl7 (tyX ca) (wX ad ca) y_S_markClashesWithNet c_S_markClashesWithNet 5 none 2 [.ref (ad 105), .ref (ad 101), .int (zI t), .int (zI i)] σ (VW (fun τ => mcN t (σ 11 i).toNat (i * 3) σ = τ ∧ IS τ ∧ ∀ g, g ≠ 14 → τ g = σ g)) := by
  have h11 := hS.2.1 i
  refine Cw.enter (by decide) (Nat.le_of_ble_eq_true rfl) ?_
  intro A p e s m below meth c hc ls hl hw
  have hl : lv_has ls 5 [(0, .ref (ad 105)), (1, .ref (ad 101)), (2, .int (zI t)), (3, .int (zI i))] := hl
  obtain ⟨hx, hb, hml, hown, hTB, hK, hr, hlk⟩ := id hc
  refine lv_iload_n hx hb d_S_markClashesWithNet_0 rfl (lv_at hl 3 rfl) ?_
  refine z_ic hx hb d_S_markClashesWithNet_1 ?_
  refine z_imul hx hb d_S_markClashesWithNet_2 ?_
  refine z_ist hx hb d_S_markClashesWithNet_3 hl (by decide) (fun x4_3 ex4_3 ls (hl : lv_has ls 5 [(4, .int (zI x4_3)), (0, .ref (ad 105)), (1, .ref (ad 101)), (2, .int (zI t)), (3, .int (zI i))]) => ?_)
  have L5 : ∀ (n : Nat) (u : Int) (τ : St) (H : Heap) (locs : List Loc), (i * 3 ≤ u ∧ u ≤ i * 3 + σ 11 i) → (mcN t (σ 11 i).toNat (i * 3) σ = mcN t (i * 3 + σ 11 i - u).toNat u τ) → (IS τ) → (∀ g, g ≠ 14 → τ g = σ g) → (i * 3 + σ 11 i - u).toNat < n → Wd D cl7 (wX ad ca) A s.heap τ H locs → ∀ ls : Array Slot, lv_has ls 5 [(4, .int (zI u)), (0, .ref (ad 105)), (1, .ref (ad 101)), (2, .int (zI t)), (3, .int (zI i))] → W p l e (Rmh 2) s m ([.ref (ad 105), .ref (ad 101), .int (zI t), .int (zI i)] : List Value).toArray below meth c H locs 0 0 (MQ below (Qw D cl7 (wX ad ca) A (VW (fun τ => mcN t (σ 11 i).toNat (i * 3) σ = τ ∧ IS τ ∧ ∀ g, g ≠ 14 → τ g = σ g))) ([.ref (ad 105), .ref (ad 101), .int (zI t), .int (zI i)] : List Value).toArray s 0 0 A) (F0 m 5 ls []) := by
    intro n
    induction n with
    | zero => intro u τ H locs hu hN hSτ ho hm; exact absurd hm (Nat.not_lt_zero _)
    | succ n ih5 =>
      intro u τ H locs hu hN hSτ ho hm5 hw ls hl
      have hIτ : IB τ := IB_of (fun g hg => ho g (by omega)) hI
      have e11 : τ 11 i = σ 11 i := by rw [ho 11 (by decide)]
      have h12t := hSτ.2.2.1 t
      have h12u := hSτ.2.2.1 u
      have h14t := hSτ.2.2.2.2 t
      refine lv_iload hx hb d_S_markClashesWithNet_5 (lv_at hl 0 rfl) ?_
      refine lv_aload_n hx hb d_S_markClashesWithNet_7 rfl (lv_at hl 1 rfl) ?_
      refine lv_iload_n hx hb d_S_markClashesWithNet_8 rfl (lv_at hl 4 rfl) ?_
      refine w_cvR (q0 := 5) hc hw (k_S_endOf _ _ (by omega)) yw_S_endOf yi_S_endOf lk_S_82 d_S_markClashesWithNet_9 rfl rfl rfl rfl hl.1 (Nat.le_of_ble_eq_true rfl) ⟨Nat.le_of_ble_eq_true rfl, Nat.le_of_ble_eq_true rfl⟩ ⟨Nat.zero_le _, Nat.zero_le _⟩ (fun τ9 H locs hτ9 hw => ?_)
      subst hτ9
      refine z_icmp_ge hx hb 54 d_S_markClashesWithNet_12 (by omega) (by omega) (by decide) (fun c12 => ?_) (fun c12 => ?_)
      · exact w_vret hc hw (⟨rfl, by rw [hN, show (i * 3 + σ 11 i - u).toNat = 0 by omega]; rfl, hSτ, ho⟩) d_S_markClashesWithNet_54
      · have q : (i * 3 + σ 11 i - u).toNat = (i * 3 + σ 11 i - (u + 1)).toNat + 1 := by omega
        rw [q, mcN_s] at hN
        have hpu := p2_bd (b := u) (k := 24) (by omega)
        have hSn : IS (up τ 14 t (zOr (τ 14 t) ((2 ^ u.toNat : Nat) : Int))) := ⟨by rw [up_f _ _ _ (by decide)]; exact hSτ.1, by rw [up_f _ _ _ (by decide)]; exact hSτ.2.1, by rw [up_f _ _ _ (by decide)]; exact hSτ.2.2.1, by rw [up_f _ _ _ (by decide)]; exact hSτ.2.2.2.1, fun j => by unfold up; split; exact zOr_bd (k := 24) h14t hpu; exact hSτ.2.2.2.2 j⟩
        refine lv_aload_n hx hb d_S_markClashesWithNet_15 rfl (lv_at hl 2 rfl) ?_
        refine lv_aload_n hx hb d_S_markClashesWithNet_16 rfl (lv_at hl 1 rfl) ?_
        refine gX_S_points hc hw lk_S_18 d_S_markClashesWithNet_17 ?_
        refine lv_iload_n hx hb d_S_markClashesWithNet_20 rfl (lv_at hl 3 rfl) ?_
        refine ldX_S_points hc hw d_S_markClashesWithNet_21 (by omega) ?_
        refine lv_aload_n hx hb d_S_markClashesWithNet_22 rfl (lv_at hl 1 rfl) ?_
        refine gX_S_points hc hw lk_S_18 d_S_markClashesWithNet_23 ?_
        refine lv_iload hx hb d_S_markClashesWithNet_26 (lv_at hl 0 rfl) ?_
        refine ldX_S_points hc hw d_S_markClashesWithNet_28 (by omega) ?_
        refine w_cvR (q0 := 1) hc hw (k_B_canBothBeProbes _ _ _ (by omega) (by omega) hIτ) yw_B_canBothBeProbes yi_B_canBothBeProbes lk_S_90 d_S_markClashesWithNet_29 rfl rfl rfl rfl hl.1 (Nat.le_of_ble_eq_true rfl) ⟨Nat.le_of_ble_eq_true rfl, Nat.le_of_ble_eq_true rfl⟩ ⟨Nat.zero_le _, Nat.zero_le _⟩ (fun τ29 H locs hτ29 hw => ?_)
        subst hτ29
        refine z_ifb_ne hx hb 48 d_S_markClashesWithNet_32 (by decide) (fun c32 => ?_) (fun c32 => ?_)
        · refine z_iinc (k := 0) hx hb d_S_markClashesWithNet_48 hl rfl (by decide) (fun x4_48 ex4_48 ls (hl : lv_has ls 5 [(4, .int (zI x4_48)), (0, .ref (ad 105)), (1, .ref (ad 101)), (2, .int (zI t)), (3, .int (zI i))]) => ?_)
          refine lv_goto (tgt := 5) hx hb d_S_markClashesWithNet_51 (by decide) ?_
          exact ih5 x4_48 _ _ _ (by omega) (by rw [hN, ex4_48]; first | (rw [if_pos c32]; done) | (rw [if_neg c32]; done)) (by first | exact hSτ | exact hSn) (by first | exact ho | exact (fun g h => by rw [up_f _ _ _ h]; exact ho g h)) (by omega) hw ls (lv_sub hl [0, 1, 2, 3, 4] rfl)
        · refine lv_aload_n hx hb d_S_markClashesWithNet_35 rfl (lv_at hl 1 rfl) ?_
          refine gX_S_clashes hc hw lk_S_25 d_S_markClashesWithNet_36 ?_
          refine lv_iload_n hx hb d_S_markClashesWithNet_39 rfl (lv_at hl 3 rfl) ?_
          refine lv_dup2_11 hx hb d_S_markClashesWithNet_40 rfl rfl ?_
          refine ldX_S_clashes hc hw d_S_markClashesWithNet_41 (by omega) ?_
          refine z_ic hx hb d_S_markClashesWithNet_42 ?_
          refine lv_iload hx hb d_S_markClashesWithNet_43 (lv_at hl 0 rfl) ?_
          refine z_shl1 hx hb d_S_markClashesWithNet_45 (by omega) ?_
          refine z_ior hx hb d_S_markClashesWithNet_46 (⟨h14t.1, hpu.1⟩) ?_
          refine stX_S_clashes hc hw d_S_markClashesWithNet_47 (by omega) (fun H locs hw => ?_)
          refine z_iinc (k := 0) hx hb d_S_markClashesWithNet_48 hl rfl (by decide) (fun x4_48 ex4_48 ls (hl : lv_has ls 5 [(4, .int (zI x4_48)), (0, .ref (ad 105)), (1, .ref (ad 101)), (2, .int (zI t)), (3, .int (zI i))]) => ?_)
          refine lv_goto (tgt := 5) hx hb d_S_markClashesWithNet_51 (by decide) ?_
          exact ih5 x4_48 _ _ _ (by omega) (by rw [hN, ex4_48]; first | (rw [if_pos c32]; done) | (rw [if_neg c32]; done)) (by first | exact hSτ | exact hSn) (by first | exact ho | exact (fun g h => by rw [up_f _ _ _ h]; exact ho g h)) (by omega) hw ls (lv_sub hl [0, 1, 2, 3, 4] rfl)
  exact L5 _ x4_3 _ _ _ (by omega) (by rw [ex4_3, show (i * 3 + σ 11 i - i * 3).toNat = (σ 11 i).toNat from (by omega)]) (hS) (fun g h => rfl) (Nat.lt_succ_self _) hw ls (lv_sub hl [0, 1, 2, 3, 4] rfl)
