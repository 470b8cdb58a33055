set_option maxHeartbeats 400000 in
set_option maxRecDepth 100000 in
theorem k_S_worthOfPlainChoice {l : Launch} {D : va_G} {ad : Nat → Nat} {ca : Nat → ClassId} (σ : St) (hS : IS σ) : Cw l D cl7 (tyX ca) (wX ad ca) y_S_worthOfPlainChoice c_S_worthOfPlainChoice 6 (some .long) 2 [.ref (ad 105)] σ (RW (.long (zL (wp0 σ))) (σ = ·)) := by
  have h17 := hS.1
  refine Cw.enter (by decide) (Nat.le_of_ble_eq_true rfl) ?_
  intro A p e s m below meth c hc ls hl hw
  have hl : lv_has ls 6 [(0, .ref (ad 105))] := hl
  obtain ⟨hx, hb, hml, hown, hTB, hK, hr, hlk⟩ := id hc
  refine z_lc0 hx hb d_S_worthOfPlainChoice_0 ?_
  refine z_lst_n hx hb d_S_worthOfPlainChoice_1 rfl hl (by decide) (fun x1_1 ex1_1 ls (hl : lv_has ls 6 [(1, .long (zL x1_1)), (0, .ref (ad 105))]) => ?_)
  refine z_ic hx hb d_S_worthOfPlainChoice_2 ?_
  refine z_ist_n hx hb d_S_worthOfPlainChoice_3 rfl hl (by decide) (fun x3_3 ex3_3 ls (hl : lv_has ls 6 [(3, .int (zI x3_3)), (1, .long (zL x1_1)), (0, .ref (ad 105))]) => ?_)
  refine z_ic hx hb d_S_worthOfPlainChoice_4 ?_
  refine z_ist hx hb d_S_worthOfPlainChoice_5 hl (by decide) (fun x4_5 ex4_5 ls (hl : lv_has ls 6 [(4, .int (zI x4_5)), (3, .int (zI x3_3)), (1, .long (zL x1_1)), (0, .ref (ad 105))]) => ?_)
  have L7 : ∀ (n : Nat) (k : Int) (t : Int) (bl : Int) (H : Heap) (locs : List Loc), (0 ≤ k ∧ k ≤ σ 17 0) → (0 ≤ bl ∧ bl < 16777216) → (wp0 σ = wpF σ (σ 17 0 - k).toNat k t bl) → (σ 17 0 - k).toNat < n → Wd D cl7 (wX ad ca) A s.heap σ H locs → ∀ ls : Array Slot, lv_has ls 6 [(4, .int (zI k)), (1, .long (zL t)), (3, .int (zI bl)), (0, .ref (ad 105))] → W p l e (Rmh 2) s m ([.ref (ad 105)] : List Value).toArray below meth c H locs 0 0 (MQ below (Qw D cl7 (wX ad ca) A (RW (.long (zL (wp0 σ))) (σ = ·))) ([.ref (ad 105)] : List Value).toArray s 0 0 A) (F0 m 7 ls []) := by
    intro n
    induction n with
    | zero => intro k t bl  H locs hk hbl hN hm; exact absurd hm (Nat.not_lt_zero _)
    | succ n ih7 =>
      intro k t bl  H locs hk hbl hN hm7 hw ls hl
      refine lv_iload hx hb d_S_worthOfPlainChoice_7 (lv_at hl 0 rfl) ?_
      refine lv_aload_n hx hb d_S_worthOfPlainChoice_9 rfl (lv_at hl 3 rfl) ?_
      refine gX_S_looked hc hw lk_S_54 d_S_worthOfPlainChoice_10 ?_
      refine z_icmp_ge hx hb 57 d_S_worthOfPlainChoice_13 (by omega) (by omega) (by decide) (fun c13 => ?_) (fun c13 => ?_)
      · refine lv_lload_n hx hb d_S_worthOfPlainChoice_57 rfl (lv_at hl 1 rfl) ?_
        exact w_lret hc hw (⟨by rw [hN, show (σ 17 0 - k).toNat = 0 by omega]; rfl, rfl⟩) d_S_worthOfPlainChoice_58
      · have q : (σ 17 0 - k).toNat = (σ 17 0 - (k + 1)).toNat + 1 := by omega
        rw [q, wpF_s] at hN
        have hbb := bs_bd hS k bl (by omega)
        have h11 := hS.2.1 k
        refine lv_aload_n hx hb d_S_worthOfPlainChoice_16 rfl (lv_at hl 3 rfl) ?_
        refine lv_iload hx hb d_S_worthOfPlainChoice_17 (lv_at hl 0 rfl) ?_
        refine lv_iload_n hx hb d_S_worthOfPlainChoice_19 rfl (lv_at hl 2 rfl) ?_
        refine w_cvR (q0 := 5) hc hw (k_S_bestSlot _ _ _ (by omega) hbl hS) yw_S_bestSlot yi_S_bestSlot lk_S_94 d_S_worthOfPlainChoice_20 rfl rfl rfl rfl hl.1 (Nat.le_of_ble_eq_true rfl) ⟨Nat.le_of_ble_eq_true rfl, Nat.le_of_ble_eq_true rfl⟩ ⟨Nat.zero_le _, Nat.zero_le _⟩ (fun τ20 H locs hτ20 hw => ?_)
        subst hτ20
        refine z_ist hx hb d_S_worthOfPlainChoice_23 hl (by decide) (fun x5_23 ex5_23 ls (hl : lv_has ls 6 [(5, .int (zI x5_23)), (4, .int (zI k)), (1, .long (zL t)), (3, .int (zI bl)), (0, .ref (ad 105))]) => ?_)
        refine lv_iload hx hb d_S_worthOfPlainChoice_25 (lv_at hl 0 rfl) ?_
        refine z_ic hx hb d_S_worthOfPlainChoice_27 ?_
        refine z_icmp_eq hx hb 51 d_S_worthOfPlainChoice_28 (by omega) (by omega) (by decide) (fun c28 => ?_) (fun c28 => ?_)
        · refine z_iinc (k := 1) hx hb d_S_worthOfPlainChoice_51 hl rfl (by decide) (fun x4_51 ex4_51 ls (hl : lv_has ls 6 [(4, .int (zI x4_51)), (5, .int (zI x5_23)), (1, .long (zL t)), (3, .int (zI bl)), (0, .ref (ad 105))]) => ?_)
          refine lv_goto (tgt := 7) hx hb d_S_worthOfPlainChoice_54 (by decide) ?_
          exact ih7 x4_51 t bl _ _ (by omega) (by first | exact hbl | (rw [ex3_50, ex5_23]; exact zOr_bd (k := 24) hbl (hS.2.2.2.2 _))) (by rw [hN, ex4_51]; first | (rw [if_pos (by omega)]; done) | (rw [if_neg (by omega), ex1_40, ex3_50, ex5_23])) (by omega) hw ls (lv_sub hl [0, 2, 3, 4] rfl)
        · refine lv_lload_n hx hb d_S_worthOfPlainChoice_31 rfl (lv_at hl 2 rfl) ?_
          refine lv_aload_n hx hb d_S_worthOfPlainChoice_32 rfl (lv_at hl 4 rfl) ?_
          refine gX_S_worths hc hw lk_S_21 d_S_worthOfPlainChoice_33 ?_
          refine lv_iload hx hb d_S_worthOfPlainChoice_36 (lv_at hl 0 rfl) ?_
          refine ldX_S_worths hc hw d_S_worthOfPlainChoice_38 (by omega) ?_
          refine z_ladd hx hb d_S_worthOfPlainChoice_39 ?_
          refine z_lst_n hx hb d_S_worthOfPlainChoice_40 rfl hl (by decide) (fun x1_40 ex1_40 ls (hl : lv_has ls 6 [(1, .long (zL x1_40)), (5, .int (zI x5_23)), (4, .int (zI k)), (3, .int (zI bl)), (0, .ref (ad 105))]) => ?_)
          refine lv_iload_n hx hb d_S_worthOfPlainChoice_41 rfl (lv_at hl 3 rfl) ?_
          refine lv_aload_n hx hb d_S_worthOfPlainChoice_42 rfl (lv_at hl 4 rfl) ?_
          refine gX_S_clashes hc hw lk_S_25 d_S_worthOfPlainChoice_43 ?_
          refine lv_iload hx hb d_S_worthOfPlainChoice_46 (lv_at hl 1 rfl) ?_
          refine ldX_S_clashes hc hw d_S_worthOfPlainChoice_48 (by omega) ?_
          refine z_ior hx hb d_S_worthOfPlainChoice_49 (⟨hbl.1, (hS.2.2.2.2 _).1⟩) ?_
          refine z_ist_n hx hb d_S_worthOfPlainChoice_50 rfl hl (by decide) (fun x3_50 ex3_50 ls (hl : lv_has ls 6 [(3, .int (zI x3_50)), (1, .long (zL x1_40)), (5, .int (zI x5_23)), (4, .int (zI k)), (0, .ref (ad 105))]) => ?_)
          refine z_iinc (k := 3) hx hb d_S_worthOfPlainChoice_51 hl rfl (by decide) (fun x4_51 ex4_51 ls (hl : lv_has ls 6 [(4, .int (zI x4_51)), (3, .int (zI x3_50)), (1, .long (zL x1_40)), (5, .int (zI x5_23)), (0, .ref (ad 105))]) => ?_)
          refine lv_goto (tgt := 7) hx hb d_S_worthOfPlainChoice_54 (by decide) ?_
          exact ih7 x4_51 x1_40 x3_50 _ _ (by omega) (by first | exact hbl | (rw [ex3_50, ex5_23]; exact zOr_bd (k := 24) hbl (hS.2.2.2.2 _))) (by rw [hN, ex4_51]; first | (rw [if_pos (by omega)]; done) | (rw [if_neg (by omega), ex1_40, ex3_50, ex5_23])) (by omega) hw ls (lv_sub hl [0, 2, 1, 4] rfl)
  exact L7 _ x4_5 x1_1 x3_3 _ _ (by omega) (by omega) (by rw [ex4_5, ex1_1, ex3_3, show (σ 17 0 - 0).toNat = (σ 17 0).toNat from (by omega)]; rfl) (Nat.lt_succ_self _) hw ls (lv_sub hl [0, 2, 1, 3] rfl)
