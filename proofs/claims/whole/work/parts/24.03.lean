set_option maxHeartbeats 400000 in
set_option maxRecDepth 100000 in
theorem k_F_placeOfNearest {l : Launch} {D : va_G} {ad : Nat → Nat} {ca : Nat → ClassId} (σ : St) (fr x y : Int) (hI : IB σ) (hn : 0 ≤ σ 25 0 ∧ σ 25 0 ≤ 8) (hfr : 0 ≤ fr ∧ fr < σ 25 0) (hP : ∀ i, 0 ≤ i → i < σ 25 0 → 0 ≤ σ 22 i ∧ σ 22 i < 36) (hx2 : -1000000 ≤ x ∧ x ≤ 1000000) (hy2 : -1000000 ≤ y ∧ y ≤ 1000000) : Cw l D cl7 (tyX ca) (wX ad ca) y_F_placeOfNearest c_F_placeOfNearest 13 (some .int) 1 [.ref (ad 102), .ref (ad 101), .int (zI fr), .long (zL x), .long (zL y)] σ (RW (.int (zI (pnF σ x y (σ 25 0 - (fr + 1)).toNat (fr + 1) fr))) (σ = ·)) := by
  generalize hN0 : pnF σ x y (σ 25 0 - (fr + 1)).toNat (fr + 1) fr = N0
  refine Cw.enter (by decide) (Nat.le_of_ble_eq_true rfl) ?_
  intro A p e s m below meth c hc ls hl hw
  have hl : lv_has ls 13 [(0, .ref (ad 102)), (1, .ref (ad 101)), (2, .int (zI fr)), (3, .long (zL x)), (5, .long (zL y))] := hl
  obtain ⟨hx, hb, hml, hown, hTB, hK, hr, hlk⟩ := id hc
  refine lv_iload_n hx hb d_F_placeOfNearest_0 rfl (lv_at hl 2 rfl) ?_
  refine z_ist hx hb d_F_placeOfNearest_1 hl (by decide) (fun x7_1 ex7_1 ls (hl : lv_has ls 13 [(7, .int (zI x7_1)), (0, .ref (ad 102)), (1, .ref (ad 101)), (2, .int (zI fr)), (3, .long (zL x)), (5, .long (zL y))]) => ?_)
  refine lv_iload_n hx hb d_F_placeOfNearest_3 rfl (lv_at hl 3 rfl) ?_
  refine z_ic hx hb d_F_placeOfNearest_4 ?_
  refine z_iadd hx hb d_F_placeOfNearest_5 ?_
  refine z_ist hx hb d_F_placeOfNearest_6 hl (by decide) (fun x8_6 ex8_6 ls (hl : lv_has ls 13 [(8, .int (zI x8_6)), (7, .int (zI x7_1)), (0, .ref (ad 102)), (1, .ref (ad 101)), (2, .int (zI fr)), (3, .long (zL x)), (5, .long (zL y))]) => ?_)
  have L8 : ∀ (n : Nat) (i : Int) (fd : Int) (H : Heap) (locs : List Loc), (fr < i ∧ i ≤ σ 25 0) → (fr ≤ fd ∧ fd < i) → (N0 = pnF σ x y (σ 25 0 - i).toNat i fd) → (σ 25 0 - i).toNat < n → Wd D cl7 (wX ad ca) A s.heap σ H locs → ∀ ls : Array Slot, lv_has ls 13 [(8, .int (zI i)), (7, .int (zI fd)), (0, .ref (ad 102)), (1, .ref (ad 101)), (2, .int (zI fr)), (3, .long (zL x)), (5, .long (zL y))] → W p l e (Rmh 1) s m ([.ref (ad 102), .ref (ad 101), .int (zI fr), .long (zL x), .long (zL y)] : List Value).toArray below meth c H locs 0 0 (MQ below (Qw D cl7 (wX ad ca) A (RW (.int (zI N0)) (σ = ·))) ([.ref (ad 102), .ref (ad 101), .int (zI fr), .long (zL x), .long (zL y)] : List Value).toArray s 0 0 A) (F0 m 8 ls []) := by
    intro n
    induction n with
    | zero => intro i fd  H locs hi hf hN hm; exact absurd hm (Nat.not_lt_zero _)
    | succ n ih8 =>
      intro i fd  H locs hi hf hN hm8 hw ls hl
      have hPf := hP fd (by omega) (by omega)
      have hq2 := sqW_bd hI (σ 22 fd) hx2 hy2
      refine lv_iload hx hb d_F_placeOfNearest_8 (lv_at hl 0 rfl) ?_
      refine lv_aload_n hx hb d_F_placeOfNearest_10 rfl (lv_at hl 2 rfl) ?_
      refine gX_F_probeCount hc hw lk_F_58 d_F_placeOfNearest_11 ?_
      refine z_icmp_ge hx hb 92 d_F_placeOfNearest_14 (by omega) (by omega) (by decide) (fun c14 => ?_) (fun c14 => ?_)
      · refine lv_iload hx hb d_F_placeOfNearest_92 (lv_at hl 1 rfl) ?_
        exact w_iret hc hw (⟨by rw [hN, show (σ 25 0 - i).toNat = 0 by omega]; rfl, rfl⟩) d_F_placeOfNearest_94
      · have hPi := hP i (by omega) (by omega)
        have hq1 := sqW_bd hI (σ 22 i) hx2 hy2
        have q : (σ 25 0 - i).toNat = (σ 25 0 - (i + 1)).toNat + 1 := by omega
        rw [q, pnF_s] at hN
        refine lv_aload_n hx hb d_F_placeOfNearest_17 rfl (lv_at hl 3 rfl) ?_
        refine lv_aload_n hx hb d_F_placeOfNearest_18 rfl (lv_at hl 2 rfl) ?_
        refine gX_F_flown hc hw lk_F_18 d_F_placeOfNearest_19 ?_
        refine lv_iload hx hb d_F_placeOfNearest_22 (lv_at hl 0 rfl) ?_
        refine ldX_F_flown hc hw d_F_placeOfNearest_24 (by omega) ?_
        refine lv_lload_n hx hb d_F_placeOfNearest_25 rfl (lv_at hl 5 rfl) ?_
        refine lv_lload hx hb d_F_placeOfNearest_26 (lv_at hl 6 rfl) ?_
        refine w_cvR (q0 := 1) hc hw (k_B_squareOfWay _ _ _ _ (by omega)) yw_B_squareOfWay yi_B_squareOfWay lk_F_107 d_F_placeOfNearest_28 rfl rfl rfl rfl hl.1 (Nat.le_of_ble_eq_true rfl) ⟨Nat.le_of_ble_eq_true rfl, Nat.le_of_ble_eq_true rfl⟩ ⟨Nat.zero_le _, Nat.zero_le _⟩ (fun τ28 H locs hτ28 hw => ?_)
        subst hτ28
        refine z_lst hx hb d_F_placeOfNearest_31 hl (by decide) (fun x9_31 ex9_31 ls (hl : lv_has ls 13 [(9, .long (zL x9_31)), (8, .int (zI i)), (7, .int (zI fd)), (0, .ref (ad 102)), (1, .ref (ad 101)), (2, .int (zI fr)), (3, .long (zL x)), (5, .long (zL y))]) => ?_)
        refine lv_aload_n hx hb d_F_placeOfNearest_33 rfl (lv_at hl 4 rfl) ?_
        refine lv_aload_n hx hb d_F_placeOfNearest_34 rfl (lv_at hl 3 rfl) ?_
        refine gX_F_flown hc hw lk_F_18 d_F_placeOfNearest_35 ?_
        refine lv_iload hx hb d_F_placeOfNearest_38 (lv_at hl 2 rfl) ?_
        refine ldX_F_flown hc hw d_F_placeOfNearest_40 (by omega) ?_
        refine lv_lload_n hx hb d_F_placeOfNearest_41 rfl (lv_at hl 6 rfl) ?_
        refine lv_lload hx hb d_F_placeOfNearest_42 (lv_at hl 7 rfl) ?_
        refine w_cvR (q0 := 1) hc hw (k_B_squareOfWay _ _ _ _ (by omega)) yw_B_squareOfWay yi_B_squareOfWay lk_F_107 d_F_placeOfNearest_44 rfl rfl rfl rfl hl.1 (Nat.le_of_ble_eq_true rfl) ⟨Nat.le_of_ble_eq_true rfl, Nat.le_of_ble_eq_true rfl⟩ ⟨Nat.zero_le _, Nat.zero_le _⟩ (fun τ44 H locs hτ44 hw => ?_)
        subst hτ44
        refine z_lst hx hb d_F_placeOfNearest_47 hl (by decide) (fun x11_47 ex11_47 ls (hl : lv_has ls 13 [(11, .long (zL x11_47)), (9, .long (zL x9_31)), (8, .int (zI i)), (7, .int (zI fd)), (0, .ref (ad 102)), (1, .ref (ad 101)), (2, .int (zI fr)), (3, .long (zL x)), (5, .long (zL y))]) => ?_)
        refine lv_lload hx hb d_F_placeOfNearest_49 (lv_at hl 1 rfl) ?_
        refine lv_lload hx hb d_F_placeOfNearest_51 (lv_at hl 0 rfl) ?_
        refine z_lcmp_lt hx hb 82 d_F_placeOfNearest_53 d_F_placeOfNearest_54 (by omega) (by omega) (by decide) (fun c53 => ?_) (fun c53 => ?_)
        · refine lv_iload hx hb d_F_placeOfNearest_82 (lv_at hl 2 rfl) ?_
          refine z_ist hx hb d_F_placeOfNearest_84 hl (by decide) (fun x7_84 ex7_84 ls (hl : lv_has ls 13 [(7, .int (zI x7_84)), (11, .long (zL x11_47)), (9, .long (zL x9_31)), (8, .int (zI i)), (0, .ref (ad 102)), (1, .ref (ad 101)), (2, .int (zI fr)), (3, .long (zL x)), (5, .long (zL y))]) => ?_)
          refine z_iinc (k := 3) hx hb d_F_placeOfNearest_86 hl rfl (by decide) (fun x8_86 ex8_86 ls (hl : lv_has ls 13 [(8, .int (zI x8_86)), (7, .int (zI x7_84)), (11, .long (zL x11_47)), (9, .long (zL x9_31)), (0, .ref (ad 102)), (1, .ref (ad 101)), (2, .int (zI fr)), (3, .long (zL x)), (5, .long (zL y))]) => ?_)
          refine lv_goto (tgt := 8) hx hb d_F_placeOfNearest_89 (by decide) ?_
          exact ih8 x8_86 x7_84 _ _ (by omega) (by omega) (by rw [hN, ex8_86]; first | (rw [if_pos (by omega), ex7_84]) | (rw [if_neg (by omega)])) (by omega) hw ls (lv_sub hl [0, 1, 4, 5, 6, 7, 8] rfl)
        · refine lv_lload hx hb d_F_placeOfNearest_57 (lv_at hl 1 rfl) ?_
          refine lv_lload hx hb d_F_placeOfNearest_59 (lv_at hl 0 rfl) ?_
          refine z_lcmp_ne hx hb 86 d_F_placeOfNearest_61 d_F_placeOfNearest_62 (by omega) (by omega) (by decide) (fun c61 => ?_) (fun c61 => ?_)
          · refine z_iinc (k := 2) hx hb d_F_placeOfNearest_86 hl rfl (by decide) (fun x8_86 ex8_86 ls (hl : lv_has ls 13 [(8, .int (zI x8_86)), (11, .long (zL x11_47)), (9, .long (zL x9_31)), (7, .int (zI fd)), (0, .ref (ad 102)), (1, .ref (ad 101)), (2, .int (zI fr)), (3, .long (zL x)), (5, .long (zL y))]) => ?_)
            refine lv_goto (tgt := 8) hx hb d_F_placeOfNearest_89 (by decide) ?_
            exact ih8 x8_86 fd _ _ (by omega) (by omega) (by rw [hN, ex8_86]; first | (rw [if_pos (by omega), ex7_84]) | (rw [if_neg (by omega)])) (by omega) hw ls (lv_sub hl [0, 3, 4, 5, 6, 7, 8] rfl)
          · refine lv_aload_n hx hb d_F_placeOfNearest_65 rfl (lv_at hl 4 rfl) ?_
            refine gX_F_flown hc hw lk_F_18 d_F_placeOfNearest_66 ?_
            refine lv_iload hx hb d_F_placeOfNearest_69 (lv_at hl 2 rfl) ?_
            refine ldX_F_flown hc hw d_F_placeOfNearest_71 (by omega) ?_
            refine lv_aload_n hx hb d_F_placeOfNearest_72 rfl (lv_at hl 4 rfl) ?_
            refine gX_F_flown hc hw lk_F_18 d_F_placeOfNearest_73 ?_
            refine lv_iload hx hb d_F_placeOfNearest_76 (lv_at hl 3 rfl) ?_
            refine ldX_F_flown hc hw d_F_placeOfNearest_78 (by omega) ?_
            refine z_icmp_ge hx hb 86 d_F_placeOfNearest_79 (by omega) (by omega) (by decide) (fun c79 => ?_) (fun c79 => ?_)
            · refine z_iinc (k := 2) hx hb d_F_placeOfNearest_86 hl rfl (by decide) (fun x8_86 ex8_86 ls (hl : lv_has ls 13 [(8, .int (zI x8_86)), (11, .long (zL x11_47)), (9, .long (zL x9_31)), (7, .int (zI fd)), (0, .ref (ad 102)), (1, .ref (ad 101)), (2, .int (zI fr)), (3, .long (zL x)), (5, .long (zL y))]) => ?_)
              refine lv_goto (tgt := 8) hx hb d_F_placeOfNearest_89 (by decide) ?_
              exact ih8 x8_86 fd _ _ (by omega) (by omega) (by rw [hN, ex8_86]; first | (rw [if_pos (by omega), ex7_84]) | (rw [if_neg (by omega)])) (by omega) hw ls (lv_sub hl [0, 3, 4, 5, 6, 7, 8] rfl)
            · refine lv_iload hx hb d_F_placeOfNearest_82 (lv_at hl 2 rfl) ?_
              refine z_ist hx hb d_F_placeOfNearest_84 hl (by decide) (fun x7_84 ex7_84 ls (hl : lv_has ls 13 [(7, .int (zI x7_84)), (11, .long (zL x11_47)), (9, .long (zL x9_31)), (8, .int (zI i)), (0, .ref (ad 102)), (1, .ref (ad 101)), (2, .int (zI fr)), (3, .long (zL x)), (5, .long (zL y))]) => ?_)
              refine z_iinc (k := 3) hx hb d_F_placeOfNearest_86 hl rfl (by decide) (fun x8_86 ex8_86 ls (hl : lv_has ls 13 [(8, .int (zI x8_86)), (7, .int (zI x7_84)), (11, .long (zL x11_47)), (9, .long (zL x9_31)), (0, .ref (ad 102)), (1, .ref (ad 101)), (2, .int (zI fr)), (3, .long (zL x)), (5, .long (zL y))]) => ?_)
              refine lv_goto (tgt := 8) hx hb d_F_placeOfNearest_89 (by decide) ?_
              exact ih8 x8_86 x7_84 _ _ (by omega) (by omega) (by rw [hN, ex8_86]; first | (rw [if_pos (by omega), ex7_84]) | (rw [if_neg (by omega)])) (by omega) hw ls (lv_sub hl [0, 1, 4, 5, 6, 7, 8] rfl)
  exact L8 _ x8_6 x7_1 _ _ (by omega) (by omega) (by rw [ex8_6, ex7_1]; exact hN0.symm) (Nat.lt_succ_self _) hw ls (lv_sub hl [0, 1, 2, 3, 4, 5, 6] rfl)
