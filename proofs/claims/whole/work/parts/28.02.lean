set_option maxHeartbeats 400000 in
set_option maxRecDepth 100000 in
theorem k_S_mostWorthFrom {l : Launch} {D : va_G} {ad : Nat → Nat} {ca : Nat → ClassId} (σ : St) (d bl : Int) (hd : 0 ≤ d ∧ d ≤ 8) (hbl : 0 ≤ bl ∧ bl < 16777216) (hS : IS σ) : Cw l D cl7 (tyX ca) (wX ad ca) y_S_mostWorthFrom c_S_mostWorthFrom 7 (some .long) 2 [.ref (ad 105), .int (zI d), .int (zI bl)] σ (RW (.long (zL (mw σ d bl))) (σ = ·)) := by
  have h17 := hS.1
  refine Cw.enter (by decide) (Nat.le_of_ble_eq_true rfl) ?_
  intro A p e s m below meth c hc ls hl hw
  have hl : lv_has ls 7 [(0, .ref (ad 105)), (1, .int (zI d)), (2, .int (zI bl))] := hl
  obtain ⟨hx, hb, hml, hown, hTB, hK, hr, hlk⟩ := id hc
  refine z_lc0 hx hb d_S_mostWorthFrom_0 ?_
  refine z_lst_n hx hb d_S_mostWorthFrom_1 rfl hl (by decide) (fun x3_1 ex3_1 ls (hl : lv_has ls 7 [(3, .long (zL x3_1)), (0, .ref (ad 105)), (1, .int (zI d)), (2, .int (zI bl))]) => ?_)
  refine lv_iload_n hx hb d_S_mostWorthFrom_2 rfl (lv_at hl 2 rfl) ?_
  refine z_ist hx hb d_S_mostWorthFrom_3 hl (by decide) (fun x5_3 ex5_3 ls (hl : lv_has ls 7 [(5, .int (zI x5_3)), (3, .long (zL x3_1)), (0, .ref (ad 105)), (1, .int (zI d)), (2, .int (zI bl))]) => ?_)
  have L5 : ∀ (n : Nat) (k : Int) (t : Int) (H : Heap) (locs : List Loc), (d ≤ k ∧ (k ≤ σ 17 0 ∨ k = d)) → (mw σ d bl = mwF σ bl (σ 17 0 - k).toNat k t) → (σ 17 0 - k).toNat < n → Wd D cl7 (wX ad ca) A s.heap σ H locs → ∀ ls : Array Slot, lv_has ls 7 [(5, .int (zI k)), (3, .long (zL t)), (0, .ref (ad 105)), (1, .int (zI d)), (2, .int (zI bl))] → W p l e (Rmh 2) s m ([.ref (ad 105), .int (zI d), .int (zI bl)] : List Value).toArray below meth c H locs 0 0 (MQ below (Qw D cl7 (wX ad ca) A (RW (.long (zL (mw σ d bl))) (σ = ·))) ([.ref (ad 105), .int (zI d), .int (zI bl)] : List Value).toArray s 0 0 A) (F0 m 5 ls []) := by
    intro n
    induction n with
    | zero => intro k t  H locs hk hN hm; exact absurd hm (Nat.not_lt_zero _)
    | succ n ih5 =>
      intro k t  H locs hk hN hm5 hw ls hl
      refine lv_iload hx hb d_S_mostWorthFrom_5 (lv_at hl 0 rfl) ?_
      refine lv_aload_n hx hb d_S_mostWorthFrom_7 rfl (lv_at hl 2 rfl) ?_
      refine gX_S_looked hc hw lk_S_54 d_S_mostWorthFrom_8 ?_
      refine z_icmp_ge hx hb 45 d_S_mostWorthFrom_11 (by omega) (by omega) (by decide) (fun c11 => ?_) (fun c11 => ?_)
      · refine lv_lload_n hx hb d_S_mostWorthFrom_45 rfl (lv_at hl 1 rfl) ?_
        exact w_lret hc hw (⟨by rw [hN, show (σ 17 0 - k).toNat = 0 by omega]; rfl, rfl⟩) d_S_mostWorthFrom_46
      · have q : (σ 17 0 - k).toNat = (σ 17 0 - (k + 1)).toNat + 1 := by omega
        rw [q, mwF_s] at hN
        have hbb := bs_bd hS k bl (by omega)
        have h11 := hS.2.1 k
        refine lv_aload_n hx hb d_S_mostWorthFrom_14 rfl (lv_at hl 2 rfl) ?_
        refine lv_iload hx hb d_S_mostWorthFrom_15 (lv_at hl 0 rfl) ?_
        refine lv_iload_n hx hb d_S_mostWorthFrom_17 rfl (lv_at hl 4 rfl) ?_
        refine w_cvR (q0 := 5) hc hw (k_S_bestSlot _ _ _ (by omega) hbl hS) yw_S_bestSlot yi_S_bestSlot lk_S_94 d_S_mostWorthFrom_18 rfl rfl rfl rfl hl.1 (Nat.le_of_ble_eq_true rfl) ⟨Nat.le_of_ble_eq_true rfl, Nat.le_of_ble_eq_true rfl⟩ ⟨Nat.zero_le _, Nat.zero_le _⟩ (fun τ18 H locs hτ18 hw => ?_)
        subst hτ18
        refine z_ist hx hb d_S_mostWorthFrom_21 hl (by decide) (fun x6_21 ex6_21 ls (hl : lv_has ls 7 [(6, .int (zI x6_21)), (5, .int (zI k)), (3, .long (zL t)), (0, .ref (ad 105)), (1, .int (zI d)), (2, .int (zI bl))]) => ?_)
        refine lv_iload hx hb d_S_mostWorthFrom_23 (lv_at hl 0 rfl) ?_
        refine z_ic hx hb d_S_mostWorthFrom_25 ?_
        refine z_icmp_eq hx hb 39 d_S_mostWorthFrom_26 (by omega) (by omega) (by decide) (fun c26 => ?_) (fun c26 => ?_)
        · refine z_iinc (k := 1) hx hb d_S_mostWorthFrom_39 hl rfl (by decide) (fun x5_39 ex5_39 ls (hl : lv_has ls 7 [(5, .int (zI x5_39)), (6, .int (zI x6_21)), (3, .long (zL t)), (0, .ref (ad 105)), (1, .int (zI d)), (2, .int (zI bl))]) => ?_)
          refine lv_goto (tgt := 5) hx hb d_S_mostWorthFrom_42 (by decide) ?_
          exact ih5 x5_39 t _ _ (by omega) (by rw [hN, ex5_39]; first | (rw [if_pos (by omega)]; done) | (rw [if_neg (by omega), ex3_38, ex6_21])) (by omega) hw ls (lv_sub hl [0, 2, 3, 4, 5] rfl)
        · refine lv_lload_n hx hb d_S_mostWorthFrom_29 rfl (lv_at hl 2 rfl) ?_
          refine lv_aload_n hx hb d_S_mostWorthFrom_30 rfl (lv_at hl 3 rfl) ?_
          refine gX_S_worths hc hw lk_S_21 d_S_mostWorthFrom_31 ?_
          refine lv_iload hx hb d_S_mostWorthFrom_34 (lv_at hl 0 rfl) ?_
          refine ldX_S_worths hc hw d_S_mostWorthFrom_36 (by omega) ?_
          refine z_ladd hx hb d_S_mostWorthFrom_37 ?_
          refine z_lst_n hx hb d_S_mostWorthFrom_38 rfl hl (by decide) (fun x3_38 ex3_38 ls (hl : lv_has ls 7 [(3, .long (zL x3_38)), (6, .int (zI x6_21)), (5, .int (zI k)), (0, .ref (ad 105)), (1, .int (zI d)), (2, .int (zI bl))]) => ?_)
          refine z_iinc (k := 2) hx hb d_S_mostWorthFrom_39 hl rfl (by decide) (fun x5_39 ex5_39 ls (hl : lv_has ls 7 [(5, .int (zI x5_39)), (3, .long (zL x3_38)), (6, .int (zI x6_21)), (0, .ref (ad 105)), (1, .int (zI d)), (2, .int (zI bl))]) => ?_)
          refine lv_goto (tgt := 5) hx hb d_S_mostWorthFrom_42 (by decide) ?_
          exact ih5 x5_39 x3_38 _ _ (by omega) (by rw [hN, ex5_39]; first | (rw [if_pos (by omega)]; done) | (rw [if_neg (by omega), ex3_38, ex6_21])) (by omega) hw ls (lv_sub hl [0, 1, 3, 4, 5] rfl)
  exact L5 _ x5_3 x3_1 _ _ (by omega) (by rw [ex5_3, ex3_1]; rfl) (Nat.lt_succ_self _) hw ls (lv_sub hl [0, 1, 2, 3, 4] rfl)
