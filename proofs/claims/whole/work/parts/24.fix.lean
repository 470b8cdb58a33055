set_option maxHeartbeats 400000 in
set_option maxRecDepth 100000 in
theorem k_F_letterAt {l : Launch} {D : va_G} {ad : Nat → Nat} {ca : Nat → ClassId} (σ : St) (i : Int) (h0 : 0 ≤ i ∧ i < 2147483648) (hL : 0 ≤ σ 27 0 ∧ σ 27 0 ≤ 176) : Cw l D cl7 (tyX ca) (wX ad ca) y_F_letterAt c_F_letterAt 2 (some .int) 0 [.ref (ad 102), .int (zI i)] σ (RW (.int (zI (ltrA σ i))) (σ = ·)) := by
  refine Cw.enter (by decide) (Nat.le_of_ble_eq_true rfl) ?_
  intro A p e s m below meth c hc ls hl hw
  have hl : lv_has ls 2 [(0, .ref (ad 102)), (1, .int (zI i))] := hl
  obtain ⟨hx, hb, hml, hown, hTB, hK, hr, hlk⟩ := id hc
  refine lv_iload_n hx hb d_F_letterAt_0 rfl (lv_at hl 1 rfl) ?_
  refine lv_aload_n hx hb d_F_letterAt_1 rfl (lv_at hl 0 rfl) ?_
  refine gX_F_length hc hw lk_F_65 d_F_letterAt_2 ?_
  refine z_icmp_ge hx hb 15 d_F_letterAt_5 (by omega) (by omega) (by decide) (fun c5 => ?_) (fun c5 => ?_)
  · refine z_ic hx hb d_F_letterAt_15 ?_
    exact w_iret hc hw (⟨by unfold ltrA; first | (exfalso; omega) | rw [if_pos (by omega)] | rw [if_neg (by omega)], rfl⟩) d_F_letterAt_16
  · refine lv_iload_n hx hb d_F_letterAt_8 rfl (lv_at hl 1 rfl) ?_
    refine z_si hx hb d_F_letterAt_9 (by decide) ?_
    refine z_icmp_lt hx hb 17 d_F_letterAt_12 (by omega) (by omega) (by decide) (fun c12 => ?_) (fun c12 => ?_)
    · refine lv_aload_n hx hb d_F_letterAt_17 rfl (lv_at hl 0 rfl) ?_
      refine gX_F_letters hc hw lk_F_24 d_F_letterAt_18 ?_
      refine lv_iload_n hx hb d_F_letterAt_21 rfl (lv_at hl 1 rfl) ?_
      refine ldX_F_letters hc hw d_F_letterAt_22 (by omega) ?_
      exact w_iret hc hw (⟨by unfold ltrA; first | (exfalso; omega) | rw [if_pos (by omega)] | rw [if_neg (by omega)], rfl⟩) d_F_letterAt_23
    · refine z_ic hx hb d_F_letterAt_15 ?_
      exact w_iret hc hw (⟨by unfold ltrA; first | (exfalso; omega) | rw [if_pos (by omega)] | rw [if_neg (by omega)], rfl⟩) d_F_letterAt_16
set_option maxHeartbeats 400000 in
set_option maxRecDepth 100000 in
theorem k_F_sumOfForces {l : Launch} {D : va_G} {ad : Nat → Nat} {ca : Nat → ClassId} (σ : St) (hn : 0 ≤ σ 25 0 ∧ σ 25 0 ≤ 8) (hP : ∀ i, 0 ≤ i → i < σ 25 0 → 0 ≤ σ 20 i ∧ σ 20 i < 36) : Cw l D cl7 (tyX ca) (wX ad ca) y_F_sumOfForces c_F_sumOfForces 5 (some .long) 0 [.ref (ad 102), .ref (ad 101)] σ (RW (.long (zL (sumF σ (σ 25 0).toNat))) (σ = ·)) := by
  refine Cw.enter (by decide) (Nat.le_of_ble_eq_true rfl) ?_
  intro A p e s m below meth c hc ls hl hw
  have hl : lv_has ls 5 [(0, .ref (ad 102)), (1, .ref (ad 101))] := hl
  obtain ⟨hx, hb, hml, hown, hTB, hK, hr, hlk⟩ := id hc
  refine z_lc0 hx hb d_F_sumOfForces_0 ?_
  refine z_lst_n hx hb d_F_sumOfForces_1 rfl hl (by decide) (fun x2_1 ex2_1 ls (hl : lv_has ls 5 [(2, .long (zL x2_1)), (0, .ref (ad 102)), (1, .ref (ad 101))]) => ?_)
  refine z_ic hx hb d_F_sumOfForces_2 ?_
  refine z_ist hx hb d_F_sumOfForces_3 hl (by decide) (fun x4_3 ex4_3 ls (hl : lv_has ls 5 [(4, .int (zI x4_3)), (2, .long (zL x2_1)), (0, .ref (ad 102)), (1, .ref (ad 101))]) => ?_)
  have L5 : ∀ (n : Nat) (i : Int) (t : Int) (H : Heap) (locs : List Loc), (0 ≤ i ∧ i ≤ σ 25 0) → (t = sumF σ i.toNat) → (σ 25 0 - i).toNat < n → Wd D cl7 (wX ad ca) A s.heap σ H locs → ∀ ls : Array Slot, lv_has ls 5 [(4, .int (zI i)), (2, .long (zL t)), (0, .ref (ad 102)), (1, .ref (ad 101))] → W p l e (Rmh 0) s m ([.ref (ad 102), .ref (ad 101)] : List Value).toArray below meth c H locs 0 0 (MQ below (Qw D cl7 (wX ad ca) A (RW (.long (zL (sumF σ (σ 25 0).toNat))) (σ = ·))) ([.ref (ad 102), .ref (ad 101)] : List Value).toArray s 0 0 A) (F0 m 5 ls []) := by
    intro n
    induction n with
    | zero => intro i t  H locs hi ht hm; exact absurd hm (Nat.not_lt_zero _)
    | succ n ih5 =>
      intro i t  H locs hi ht hm5 hw ls hl
      refine lv_iload hx hb d_F_sumOfForces_5 (lv_at hl 0 rfl) ?_
      refine lv_aload_n hx hb d_F_sumOfForces_7 rfl (lv_at hl 2 rfl) ?_
      refine gX_F_probeCount hc hw lk_F_58 d_F_sumOfForces_8 ?_
      refine z_icmp_ge hx hb 35 d_F_sumOfForces_11 (by omega) (by omega) (by decide) (fun c11 => ?_) (fun c11 => ?_)
      · refine lv_lload_n hx hb d_F_sumOfForces_35 rfl (lv_at hl 1 rfl) ?_
        exact w_lret hc hw (⟨by rw [ht, show i = σ 25 0 by omega], rfl⟩) d_F_sumOfForces_36
      · refine lv_lload_n hx hb d_F_sumOfForces_14 rfl (lv_at hl 1 rfl) ?_
        refine lv_aload_n hx hb d_F_sumOfForces_15 rfl (lv_at hl 3 rfl) ?_
        refine gnX_B_weights hc hw lk_F_61 d_F_sumOfForces_16 ?_
        refine lv_aload_n hx hb d_F_sumOfForces_19 rfl (lv_at hl 2 rfl) ?_
        refine gX_F_probes hc hw lk_F_9 d_F_sumOfForces_20 ?_
        refine lv_iload hx hb d_F_sumOfForces_23 (lv_at hl 0 rfl) ?_
        refine ldX_F_probes hc hw d_F_sumOfForces_25 (by omega) ?_
        refine ldX_B_weights hc hw d_F_sumOfForces_26 (hP i hi.1 c11) ?_
        refine z_ladd hx hb d_F_sumOfForces_27 ?_
        refine z_lst_n hx hb d_F_sumOfForces_28 rfl hl (by decide) (fun x2_28 ex2_28 ls (hl : lv_has ls 5 [(2, .long (zL x2_28)), (4, .int (zI i)), (0, .ref (ad 102)), (1, .ref (ad 101))]) => ?_)
        refine z_iinc (k := 1) hx hb d_F_sumOfForces_29 hl rfl (by decide) (fun x4_29 ex4_29 ls (hl : lv_has ls 5 [(4, .int (zI x4_29)), (2, .long (zL x2_28)), (0, .ref (ad 102)), (1, .ref (ad 101))]) => ?_)
        refine lv_goto (tgt := 5) hx hb d_F_sumOfForces_32 (by decide) ?_
        exact ih5 x4_29 x2_28 _ _ (by omega) (by rw [ex2_28, ht, show x4_29.toNat = i.toNat + 1 from (by omega)]; simp only [sumF]; rw [Int.toNat_of_nonneg hi.1]) (by omega) hw ls (lv_sub hl [0, 1, 2, 3] rfl)
  exact L5 _ x4_3 x2_1 _ _ (by omega) (by rw [ex2_1, ex4_3]; rfl) (Nat.lt_succ_self _) hw ls (lv_sub hl [0, 1, 2, 3] rfl)
set_option maxHeartbeats 400000 in
set_option maxRecDepth 100000 in
theorem k_F_takeProbes {l : Launch} {D : va_G} {ad : Nat → Nat} {ca : Nat → ClassId} (σ : St) (hn : 0 ≤ σ 17 0 ∧ σ 17 0 ≤ 8) (hB : ∀ i, 0 ≤ i → i < σ 17 0 → r32 (σ 16 i)) : Cw l D cl7 (tyX ca) (wX ad ca) y_F_takeProbes c_F_takeProbes 3 none 0 [.ref (ad 102), .ref (ad 105)] σ (VW (tk σ (σ 17 0).toNat = ·)) := by
  refine Cw.enter (by decide) (Nat.le_of_ble_eq_true rfl) ?_
  intro A p e s m below meth c hc ls hl hw
  have hl : lv_has ls 3 [(0, .ref (ad 102)), (1, .ref (ad 105))] := hl
  obtain ⟨hx, hb, hml, hown, hTB, hK, hr, hlk⟩ := id hc
  refine lv_aload_n hx hb d_F_takeProbes_0 rfl (lv_at hl 0 rfl) ?_
  refine z_ic hx hb d_F_takeProbes_1 ?_
  refine pX_F_probeCount hc hw lk_F_58 d_F_takeProbes_2 (fun H locs hw => ?_)
  refine lv_aload_n hx hb d_F_takeProbes_5 rfl (lv_at hl 0 rfl) ?_
  refine z_ic hx hb d_F_takeProbes_6 ?_
  refine pX_F_leftCount hc hw lk_F_68 d_F_takeProbes_7 (fun H locs hw => ?_)
  refine z_ic hx hb d_F_takeProbes_10 ?_
  refine z_ist_n hx hb d_F_takeProbes_11 rfl hl (by decide) (fun x2_11 ex2_11 ls (hl : lv_has ls 3 [(2, .int (zI x2_11)), (0, .ref (ad 102)), (1, .ref (ad 105))]) => ?_)
  have L12 : ∀ (n : Nat) (i : Int) (τ : St) (H : Heap) (locs : List Loc), (0 ≤ i ∧ i ≤ σ 17 0) → (τ = tk σ i.toNat) → (σ 17 0 - i).toNat < n → Wd D cl7 (wX ad ca) A s.heap τ H locs → ∀ ls : Array Slot, lv_has ls 3 [(2, .int (zI i)), (0, .ref (ad 102)), (1, .ref (ad 105))] → W p l e (Rmh 0) s m ([.ref (ad 102), .ref (ad 105)] : List Value).toArray below meth c H locs 0 0 (MQ below (Qw D cl7 (wX ad ca) A (VW (tk σ (σ 17 0).toNat = ·))) ([.ref (ad 102), .ref (ad 105)] : List Value).toArray s 0 0 A) (F0 m 12 ls []) := by
    intro n
    induction n with
    | zero => intro i τ H locs hi hτ hm; exact absurd hm (Nat.not_lt_zero _)
    | succ n ih12 =>
      intro i τ H locs hi hτ hm12 hw ls hl
      subst hτ
      have ei : ((i.toNat : Nat) : Int) = i := Int.toNat_of_nonneg hi.1
      have e17 : tk σ i.toNat 17 0 = σ 17 0 := by rw [tk_o σ _ 17 (by decide)]
      have e16 : tk σ i.toNat 16 i = σ 16 i := by rw [tk_o σ _ 16 (by decide)]
      have hbd := tk_bd σ i.toNat
      refine lv_iload_n hx hb d_F_takeProbes_12 rfl (lv_at hl 0 rfl) ?_
      refine lv_aload_n hx hb d_F_takeProbes_13 rfl (lv_at hl 2 rfl) ?_
      refine gnX_S_looked hc hw lk_F_28 d_F_takeProbes_14 ?_
      refine z_icmp_ge hx hb 89 d_F_takeProbes_17 (by omega) (by omega) (by decide) (fun c17 => ?_) (fun c17 => ?_)
      · exact w_vret hc hw (⟨rfl, by rw [show i = σ 17 0 by omega]⟩) d_F_takeProbes_89
      · have hb16 := hB i hi.1 (by omega)
        refine lv_aload_n hx hb d_F_takeProbes_20 rfl (lv_at hl 2 rfl) ?_
        refine gnX_S_best hc hw lk_F_71 d_F_takeProbes_21 ?_
        refine lv_iload_n hx hb d_F_takeProbes_24 rfl (lv_at hl 0 rfl) ?_
        refine ldX_S_best hc hw d_F_takeProbes_25 (by omega) ?_
        refine z_ic hx hb d_F_takeProbes_26 ?_
        refine z_icmp_ne hx hb 58 d_F_takeProbes_27 (by omega) (by omega) (by decide) (fun c27 => ?_) (fun c27 => ?_)
        · refine lv_aload_n hx hb d_F_takeProbes_58 rfl (lv_at hl 1 rfl) ?_
          refine gX_F_probes hc hw lk_F_9 d_F_takeProbes_59 ?_
          refine lv_aload_n hx hb d_F_takeProbes_62 rfl (lv_at hl 1 rfl) ?_
          refine gX_F_probeCount hc hw lk_F_58 d_F_takeProbes_63 ?_
          refine lv_aload_n hx hb d_F_takeProbes_66 rfl (lv_at hl 2 rfl) ?_
          refine gnX_S_best hc hw lk_F_71 d_F_takeProbes_67 ?_
          refine lv_iload_n hx hb d_F_takeProbes_70 rfl (lv_at hl 0 rfl) ?_
          refine ldX_S_best hc hw d_F_takeProbes_71 (by omega) ?_
          refine stX_F_probes hc hw d_F_takeProbes_72 (by omega) (fun H locs hw => ?_)
          refine lv_aload_n hx hb d_F_takeProbes_73 rfl (lv_at hl 1 rfl) ?_
          refine lv_dup hx hb d_F_takeProbes_74 rfl ?_
          refine gX_F_probeCount hc hw lk_F_58 d_F_takeProbes_75 ?_
          refine z_ic hx hb d_F_takeProbes_78 ?_
          refine z_iadd hx hb d_F_takeProbes_79 ?_
          refine pX_F_probeCount hc hw lk_F_58 d_F_takeProbes_80 (fun H locs hw => ?_)
          refine z_iinc (k := 0) hx hb d_F_takeProbes_83 hl rfl (by decide) (fun x2_83 ex2_83 ls (hl : lv_has ls 3 [(2, .int (zI x2_83)), (0, .ref (ad 102)), (1, .ref (ad 105))]) => ?_)
          refine lv_goto (tgt := 12) hx hb d_F_takeProbes_86 (by decide) ?_
          exact ih12 x2_83 _ _ _ (by omega) (by rw [show x2_83.toNat = i.toNat + 1 from (by omega)]; simp only [tk, ei]; first | (rw [if_pos c27]; rfl) | (rw [if_neg c27]; rfl)) (by omega) hw ls (lv_sub hl [0, 1, 2] rfl)
        · refine lv_aload_n hx hb d_F_takeProbes_30 rfl (lv_at hl 1 rfl) ?_
          refine gX_F_left hc hw lk_F_15 d_F_takeProbes_31 ?_
          refine lv_aload_n hx hb d_F_takeProbes_34 rfl (lv_at hl 1 rfl) ?_
          refine gX_F_leftCount hc hw lk_F_68 d_F_takeProbes_35 ?_
          refine lv_aload_n hx hb d_F_takeProbes_38 rfl (lv_at hl 2 rfl) ?_
          refine gnX_S_nets hc hw lk_F_74 d_F_takeProbes_39 ?_
          refine lv_iload_n hx hb d_F_takeProbes_42 rfl (lv_at hl 0 rfl) ?_
          refine ldX_S_nets hc hw d_F_takeProbes_43 (by omega) ?_
          refine stX_F_left hc hw d_F_takeProbes_44 (by omega) (fun H locs hw => ?_)
          refine lv_aload_n hx hb d_F_takeProbes_45 rfl (lv_at hl 1 rfl) ?_
          refine lv_dup hx hb d_F_takeProbes_46 rfl ?_
          refine gX_F_leftCount hc hw lk_F_68 d_F_takeProbes_47 ?_
          refine z_ic hx hb d_F_takeProbes_50 ?_
          refine z_iadd hx hb d_F_takeProbes_51 ?_
          refine pX_F_leftCount hc hw lk_F_68 d_F_takeProbes_52 (fun H locs hw => ?_)
          refine lv_goto (tgt := 83) hx hb d_F_takeProbes_55 (by decide) ?_
          refine z_iinc (k := 0) hx hb d_F_takeProbes_83 hl rfl (by decide) (fun x2_83 ex2_83 ls (hl : lv_has ls 3 [(2, .int (zI x2_83)), (0, .ref (ad 102)), (1, .ref (ad 105))]) => ?_)
          refine lv_goto (tgt := 12) hx hb d_F_takeProbes_86 (by decide) ?_
          exact ih12 x2_83 _ _ _ (by omega) (by rw [show x2_83.toNat = i.toNat + 1 from (by omega)]; simp only [tk, ei]; first | (rw [if_pos c27]; rfl) | (rw [if_neg c27]; rfl)) (by omega) hw ls (lv_sub hl [0, 1, 2] rfl)
  exact L12 _ x2_11 _ _ _ (by omega) (by rw [ex2_11]; rfl) (Nat.lt_succ_self _) hw ls (lv_sub hl [0, 1, 2] rfl)
set_option maxHeartbeats 400000 in
set_option maxRecDepth 100000 in
theorem k_F_placeOfNearest {l : Launch} {D : va_G} {ad : Nat → Nat} {ca : Nat → ClassId} (σ : St) (fr x y : Int) (hI : IB σ) (hn : 0 ≤ σ 25 0 ∧ σ 25 0 ≤ 8) (hfr : 0 ≤ fr ∧ fr < σ 25 0) (hP : ∀ i, 0 ≤ i → i < σ 25 0 → 0 ≤ σ 22 i ∧ σ 22 i < 36) (hx2 : -1000000 ≤ x ∧ x ≤ 1000000) (hy2 : -1000000 ≤ y ∧ y ≤ 1000000) : Cw l D cl7 (tyX ca) (wX ad ca) y_F_placeOfNearest c_F_placeOfNearest 13 (some .int) 1 [.ref (ad 102), .ref (ad 101), .int (zI fr), .long (zL x), .long (zL y)] σ (RW (.int (zI (pnF σ x y (σ 25 0 - (fr + 1)).toNat (fr + 1) fr))) (σ = ·)) := by
  generalize hN0 : pnF σ x y (σ 25 0 - (fr + 1)).toNat (fr + 1) fr = N0
  refine Cw.enter (by decide) (Nat.le_of_ble_eq_true rfl) ?_
  intro A p e s m below meth c hc ls hl hw
  have hl : lv_has ls 13 [(0, .ref (ad 102)), (1, .ref (ad 101)), (2, .int (zI fr)), (3, .long (zL x)), (5, .long (zL y))] := hl
  obtain ⟨hx, hb, hml, hown, hTB, hK, hr, hlk⟩ := id hc
  refine lv_iload_n hx hb d_F_placeOfNearest_0 rfl (lv_at hl 2 rfl) ?_
  refine z_ist hx hb d_F_placeOfNearest_1 hl (by decide) (fun x7_1 ex7_1 ls (hl : lv_has ls 13 [(7, .int (zI x7_1)), (0, .ref (ad 102)), (1, .ref (ad 101)), (2, .int (zI fr)), (3, .long (zL x)), (5, .long (zL y))]) => ?_)
  refine lv_iload_n hx hb d_F_placeOfNearest_3 rfl (lv_at hl 3 rfl) ?_
  refine z_ic hx hb d_F_placeOfNearest_4 ?_
  refine z_iadd hx hb d_F_placeOfNearest_5 ?_
  refine z_ist hx hb d_F_placeOfNearest_6 hl (by decide) (fun x8_6 ex8_6 ls (hl : lv_has ls 13 [(8, .int (zI x8_6)), (7, .int (zI x7_1)), (0, .ref (ad 102)), (1, .ref (ad 101)), (2, .int (zI fr)), (3, .long (zL x)), (5, .long (zL y))]) => ?_)
  have L8 : ∀ (n : Nat) (i : Int) (fd : Int) (H : Heap) (locs : List Loc), (fr < i ∧ i ≤ σ 25 0) → (fr ≤ fd ∧ fd < i) → (N0 = pnF σ x y (σ 25 0 - i).toNat i fd) → (σ 25 0 - i).toNat < n → Wd D cl7 (wX ad ca) A s.heap σ H locs → ∀ ls : Array Slot, lv_has ls 13 [(8, .int (zI i)), (7, .int (zI fd)), (0, .ref (ad 102)), (1, .ref (ad 101)), (2, .int (zI fr)), (3, .long (zL x)), (5, .long (zL y))] → W p l e (Rmh 1) s m ([.ref (ad 102), .ref (ad 101), .int (zI fr), .long (zL x), .long (zL y)] : List Value).toArray below meth c H locs 0 0 (MQ below (Qw D cl7 (wX ad ca) A (RW (.int (zI N0)) (σ = ·))) ([.ref (ad 102), .ref (ad 101), .int (zI fr), .long (zL x), .long (zL y)] : List Value).toArray s 0 0 A) (F0 m 8 ls []) := by
    intro n
    induction n with
    | zero => intro i fd  H locs hi hf hN hm; exact absurd hm (Nat.not_lt_zero _)
    | succ n ih8 =>
      intro i fd  H locs hi hf hN hm8 hw ls hl
      have hPf := hP fd (by omega) (by omega)
      have hq2 := sqW_bd hI (σ 22 fd) hx2 hy2
      refine lv_iload hx hb d_F_placeOfNearest_8 (lv_at hl 0 rfl) ?_
      refine lv_aload_n hx hb d_F_placeOfNearest_10 rfl (lv_at hl 2 rfl) ?_
      refine gX_F_probeCount hc hw lk_F_58 d_F_placeOfNearest_11 ?_
      refine z_icmp_ge hx hb 92 d_F_placeOfNearest_14 (by omega) (by omega) (by decide) (fun c14 => ?_) (fun c14 => ?_)
      · refine lv_iload hx hb d_F_placeOfNearest_92 (lv_at hl 1 rfl) ?_
        exact w_iret hc hw (⟨by rw [hN, show (σ 25 0 - i).toNat = 0 by omega]; rfl, rfl⟩) d_F_placeOfNearest_94
      · have hPi := hP i (by omega) (by omega)
        have hq1 := sqW_bd hI (σ 22 i) hx2 hy2
        have q : (σ 25 0 - i).toNat = (σ 25 0 - (i + 1)).toNat + 1 := by omega
        rw [q, pnF_s] at hN
        refine lv_aload_n hx hb d_F_placeOfNearest_17 rfl (lv_at hl 3 rfl) ?_
        refine lv_aload_n hx hb d_F_placeOfNearest_18 rfl (lv_at hl 2 rfl) ?_
        refine gX_F_flown hc hw lk_F_18 d_F_placeOfNearest_19 ?_
        refine lv_iload hx hb d_F_placeOfNearest_22 (lv_at hl 0 rfl) ?_
        refine ldX_F_flown hc hw d_F_placeOfNearest_24 (by omega) ?_
        refine lv_lload_n hx hb d_F_placeOfNearest_25 rfl (lv_at hl 5 rfl) ?_
        refine lv_lload hx hb d_F_placeOfNearest_26 (lv_at hl 6 rfl) ?_
        refine w_cvR (q0 := 1) hc hw (k_B_squareOfWay _ _ _ _ (by omega)) yw_B_squareOfWay yi_B_squareOfWay lk_F_107 d_F_placeOfNearest_28 rfl rfl rfl rfl hl.1 (Nat.le_of_ble_eq_true rfl) ⟨Nat.le_of_ble_eq_true rfl, Nat.le_of_ble_eq_true rfl⟩ ⟨Nat.zero_le _, Nat.zero_le _⟩ (fun τ28 H locs hτ28 hw => ?_)
        subst hτ28
        refine z_lst hx hb d_F_placeOfNearest_31 hl (by decide) (fun x9_31 ex9_31 ls (hl : lv_has ls 13 [(9, .long (zL x9_31)), (8, .int (zI i)), (7, .int (zI fd)), (0, .ref (ad 102)), (1, .ref (ad 101)), (2, .int (zI fr)), (3, .long (zL x)), (5, .long (zL y))]) => ?_)
        refine lv_aload_n hx hb d_F_placeOfNearest_33 rfl (lv_at hl 4 rfl) ?_
        refine lv_aload_n hx hb d_F_placeOfNearest_34 rfl (lv_at hl 3 rfl) ?_
        refine gX_F_flown hc hw lk_F_18 d_F_placeOfNearest_35 ?_
        refine lv_iload hx hb d_F_placeOfNearest_38 (lv_at hl 2 rfl) ?_
        refine ldX_F_flown hc hw d_F_placeOfNearest_40 (by omega) ?_
        refine lv_lload_n hx hb d_F_placeOfNearest_41 rfl (lv_at hl 6 rfl) ?_
        refine lv_lload hx hb d_F_placeOfNearest_42 (lv_at hl 7 rfl) ?_
        refine w_cvR (q0 := 1) hc hw (k_B_squareOfWay _ _ _ _ (by omega)) yw_B_squareOfWay yi_B_squareOfWay lk_F_107 d_F_placeOfNearest_44 rfl rfl rfl rfl hl.1 (Nat.le_of_ble_eq_true rfl) ⟨Nat.le_of_ble_eq_true rfl, Nat.le_of_ble_eq_true rfl⟩ ⟨Nat.zero_le _, Nat.zero_le _⟩ (fun τ44 H locs hτ44 hw => ?_)
        subst hτ44
        refine z_lst hx hb d_F_placeOfNearest_47 hl (by decide) (fun x11_47 ex11_47 ls (hl : lv_has ls 13 [(11, .long (zL x11_47)), (9, .long (zL x9_31)), (8, .int (zI i)), (7, .int (zI fd)), (0, .ref (ad 102)), (1, .ref (ad 101)), (2, .int (zI fr)), (3, .long (zL x)), (5, .long (zL y))]) => ?_)
        refine lv_lload hx hb d_F_placeOfNearest_49 (lv_at hl 1 rfl) ?_
        refine lv_lload hx hb d_F_placeOfNearest_51 (lv_at hl 0 rfl) ?_
        refine z_lcmp_lt hx hb 82 d_F_placeOfNearest_53 d_F_placeOfNearest_54 (by omega) (by omega) (by decide) (fun c53 => ?_) (fun c53 => ?_)
        · refine lv_iload hx hb d_F_placeOfNearest_82 (lv_at hl 2 rfl) ?_
          refine z_ist hx hb d_F_placeOfNearest_84 hl (by decide) (fun x7_84 ex7_84 ls (hl : lv_has ls 13 [(7, .int (zI x7_84)), (11, .long (zL x11_47)), (9, .long (zL x9_31)), (8, .int (zI i)), (0, .ref (ad 102)), (1, .ref (ad 101)), (2, .int (zI fr)), (3, .long (zL x)), (5, .long (zL y))]) => ?_)
          refine z_iinc (k := 3) hx hb d_F_placeOfNearest_86 hl rfl (by decide) (fun x8_86 ex8_86 ls (hl : lv_has ls 13 [(8, .int (zI x8_86)), (7, .int (zI x7_84)), (11, .long (zL x11_47)), (9, .long (zL x9_31)), (0, .ref (ad 102)), (1, .ref (ad 101)), (2, .int (zI fr)), (3, .long (zL x)), (5, .long (zL y))]) => ?_)
          refine lv_goto (tgt := 8) hx hb d_F_placeOfNearest_89 (by decide) ?_
          exact ih8 x8_86 x7_84 _ _ (by omega) (by omega) (by rw [hN, ex8_86]; first | (rw [if_pos (by omega), ex7_84]) | (rw [if_neg (by omega)])) (by omega) hw ls (lv_sub hl [0, 1, 4, 5, 6, 7, 8] rfl)
        · refine lv_lload hx hb d_F_placeOfNearest_57 (lv_at hl 1 rfl) ?_
          refine lv_lload hx hb d_F_placeOfNearest_59 (lv_at hl 0 rfl) ?_
          refine z_lcmp_ne hx hb 86 d_F_placeOfNearest_61 d_F_placeOfNearest_62 (by omega) (by omega) (by decide) (fun c61 => ?_) (fun c61 => ?_)
          · refine z_iinc (k := 2) hx hb d_F_placeOfNearest_86 hl rfl (by decide) (fun x8_86 ex8_86 ls (hl : lv_has ls 13 [(8, .int (zI x8_86)), (11, .long (zL x11_47)), (9, .long (zL x9_31)), (7, .int (zI fd)), (0, .ref (ad 102)), (1, .ref (ad 101)), (2, .int (zI fr)), (3, .long (zL x)), (5, .long (zL y))]) => ?_)
            refine lv_goto (tgt := 8) hx hb d_F_placeOfNearest_89 (by decide) ?_
            exact ih8 x8_86 fd _ _ (by omega) (by omega) (by rw [hN, ex8_86]; first | (rw [if_pos (by omega), ex7_84]) | (rw [if_neg (by omega)])) (by omega) hw ls (lv_sub hl [0, 3, 4, 5, 6, 7, 8] rfl)
          · refine lv_aload_n hx hb d_F_placeOfNearest_65 rfl (lv_at hl 4 rfl) ?_
            refine gX_F_flown hc hw lk_F_18 d_F_placeOfNearest_66 ?_
            refine lv_iload hx hb d_F_placeOfNearest_69 (lv_at hl 2 rfl) ?_
            refine ldX_F_flown hc hw d_F_placeOfNearest_71 (by omega) ?_
            refine lv_aload_n hx hb d_F_placeOfNearest_72 rfl (lv_at hl 4 rfl) ?_
            refine gX_F_flown hc hw lk_F_18 d_F_placeOfNearest_73 ?_
            refine lv_iload hx hb d_F_placeOfNearest_76 (lv_at hl 3 rfl) ?_
            refine ldX_F_flown hc hw d_F_placeOfNearest_78 (by omega) ?_
            refine z_icmp_ge hx hb 86 d_F_placeOfNearest_79 (by omega) (by omega) (by decide) (fun c79 => ?_) (fun c79 => ?_)
            · refine z_iinc (k := 2) hx hb d_F_placeOfNearest_86 hl rfl (by decide) (fun x8_86 ex8_86 ls (hl : lv_has ls 13 [(8, .int (zI x8_86)), (11, .long (zL x11_47)), (9, .long (zL x9_31)), (7, .int (zI fd)), (0, .ref (ad 102)), (1, .ref (ad 101)), (2, .int (zI fr)), (3, .long (zL x)), (5, .long (zL y))]) => ?_)
              refine lv_goto (tgt := 8) hx hb d_F_placeOfNearest_89 (by decide) ?_
              exact ih8 x8_86 fd _ _ (by omega) (by omega) (by rw [hN, ex8_86]; first | (rw [if_pos (by omega), ex7_84]) | (rw [if_neg (by omega)])) (by omega) hw ls (lv_sub hl [0, 3, 4, 5, 6, 7, 8] rfl)
            · refine lv_iload hx hb d_F_placeOfNearest_82 (lv_at hl 2 rfl) ?_
              refine z_ist hx hb d_F_placeOfNearest_84 hl (by decide) (fun x7_84 ex7_84 ls (hl : lv_has ls 13 [(7, .int (zI x7_84)), (11, .long (zL x11_47)), (9, .long (zL x9_31)), (8, .int (zI i)), (0, .ref (ad 102)), (1, .ref (ad 101)), (2, .int (zI fr)), (3, .long (zL x)), (5, .long (zL y))]) => ?_)
              refine z_iinc (k := 3) hx hb d_F_placeOfNearest_86 hl rfl (by decide) (fun x8_86 ex8_86 ls (hl : lv_has ls 13 [(8, .int (zI x8_86)), (7, .int (zI x7_84)), (11, .long (zL x11_47)), (9, .long (zL x9_31)), (0, .ref (ad 102)), (1, .ref (ad 101)), (2, .int (zI fr)), (3, .long (zL x)), (5, .long (zL y))]) => ?_)
              refine lv_goto (tgt := 8) hx hb d_F_placeOfNearest_89 (by decide) ?_
              exact ih8 x8_86 x7_84 _ _ (by omega) (by omega) (by rw [hN, ex8_86]; first | (rw [if_pos (by omega), ex7_84]) | (rw [if_neg (by omega)])) (by omega) hw ls (lv_sub hl [0, 1, 4, 5, 6, 7, 8] rfl)
  exact L8 _ x8_6 x7_1 _ _ (by omega) (by omega) (by rw [ex8_6, ex7_1]; exact hN0.symm) (Nat.lt_succ_self _) hw ls (lv_sub hl [0, 1, 2, 3, 4, 5, 6] rfl)
set_option maxHeartbeats 400000 in
set_option maxRecDepth 100000 in
theorem k_F_writeLetter {l : Launch} {D : va_G} {ad : Nat → Nat} {ca : Nat → ClassId} (σ : St) (ch : Int) (hc2 : 0 ≤ ch ∧ ch < 65536) (hL : 0 ≤ σ 27 0 ∧ σ 27 0 ≤ 176) : Cw l D cl7 (tyX ca) (wX ad ca) y_F_writeLetter c_F_writeLetter 2 none 0 [.ref (ad 102), .int (zI ch)] σ (VW (wl σ ch = ·)) := by
  refine Cw.enter (by decide) (Nat.le_of_ble_eq_true rfl) ?_
  intro A p e s m below meth c hc ls hl hw
  have hl : lv_has ls 2 [(0, .ref (ad 102)), (1, .int (zI ch))] := hl
  obtain ⟨hx, hb, hml, hown, hTB, hK, hr, hlk⟩ := id hc
  refine lv_aload_n hx hb d_F_writeLetter_0 rfl (lv_at hl 0 rfl) ?_
  refine gX_F_length hc hw lk_F_65 d_F_writeLetter_1 ?_
  refine z_si hx hb d_F_writeLetter_4 (by decide) ?_
  refine z_icmp_ge hx hb 30 d_F_writeLetter_7 (by omega) (by omega) (by decide) (fun c7 => ?_) (fun c7 => ?_)
  · exact w_vret hc hw (⟨rfl, by unfold wl; first | (rw [if_neg (by omega)]; done) | (rw [if_pos (by omega)]; rfl)⟩) d_F_writeLetter_30
  · refine lv_aload_n hx hb d_F_writeLetter_10 rfl (lv_at hl 0 rfl) ?_
    refine gX_F_letters hc hw lk_F_24 d_F_writeLetter_11 ?_
    refine lv_aload_n hx hb d_F_writeLetter_14 rfl (lv_at hl 0 rfl) ?_
    refine gX_F_length hc hw lk_F_65 d_F_writeLetter_15 ?_
    refine lv_iload_n hx hb d_F_writeLetter_18 rfl (lv_at hl 1 rfl) ?_
    refine stX_F_letters hc hw d_F_writeLetter_19 (by omega) (by omega) (fun H locs hw => ?_)
    refine lv_aload_n hx hb d_F_writeLetter_20 rfl (lv_at hl 0 rfl) ?_
    refine lv_dup hx hb d_F_writeLetter_21 rfl ?_
    refine gX_F_length hc hw lk_F_65 d_F_writeLetter_22 ?_
    refine z_ic hx hb d_F_writeLetter_25 ?_
    refine z_iadd hx hb d_F_writeLetter_26 ?_
    refine pX_F_length hc hw lk_F_65 d_F_writeLetter_27 (fun H locs hw => ?_)
    exact w_vret hc hw (⟨rfl, by unfold wl; first | (rw [if_neg (by omega)]; done) | (rw [if_pos (by omega)]; rfl)⟩) d_F_writeLetter_30
set_option maxHeartbeats 400000 in
set_option maxRecDepth 100000 in
theorem k_F_writeNumber {l : Launch} {D : va_G} {ad : Nat → Nat} {ca : Nat → ClassId} (σ : St) (z : Int) (hz : -1000000 ≤ z ∧ z ≤ 1000000) (hL : 0 ≤ σ 27 0 ∧ σ 27 0 ≤ 176) : Cw l D cl7 (tyX ca) (wX ad ca) y_F_writeNumber c_F_writeNumber 8 none 1 [.ref (ad 102), .long (zL z)] σ (VW (wn σ z = ·)) := by
  have hnz : ((z.natAbs : Nat) : Int) ≤ 1000000 := by omega
  have hnz0 : 0 ≤ ((z.natAbs : Nat) : Int) := Int.natCast_nonneg _
  have hwl := wl_bd 45 hL
  obtain ⟨U0, hU0⟩ : ∃ u, u = unF 6 1 ((z.natAbs : Nat) : Int) := ⟨_, rfl⟩
  refine Cw.enter (by decide) (Nat.le_of_ble_eq_true rfl) ?_
  intro A p e s m below meth c hc ls hl hw
  have hl : lv_has ls 8 [(0, .ref (ad 102)), (1, .long (zL z))] := hl
  obtain ⟨hx, hb, hml, hown, hTB, hK, hr, hlk⟩ := id hc
  refine lv_lload_n hx hb d_F_writeNumber_0 rfl (lv_at hl 1 rfl) ?_
  refine z_lc0 hx hb d_F_writeNumber_1 ?_
  refine z_lcmp_ge hx hb 12 d_F_writeNumber_2 d_F_writeNumber_3 (by omega) (by omega) (by decide) (fun c2 => ?_) (fun c2 => ?_)
  · refine lv_lload_n hx hb d_F_writeNumber_12 rfl (lv_at hl 1 rfl) ?_
    refine w_csR hc hw (k_JM_absL _ _ (by omega)) yw_JM_absL yi_JM_absL lk_F_94 d_F_writeNumber_13 rfl rfl hl.1 (Nat.le_of_ble_eq_true rfl) ⟨Nat.le_of_ble_eq_true rfl, Nat.le_of_ble_eq_true rfl⟩ ⟨Nat.zero_le _, Nat.zero_le _⟩ (fun τ13 H locs hτ13 hw => ?_)
    subst hτ13
    refine z_lst_n hx hb d_F_writeNumber_16 rfl hl (by decide) (fun x3_16 ex3_16 ls (hl : lv_has ls 8 [(3, .long (zL x3_16)), (0, .ref (ad 102)), (1, .long (zL z))]) => ?_)
    subst ex3_16
    refine z_lc1 hx hb d_F_writeNumber_17 ?_
    refine z_lst hx hb d_F_writeNumber_18 hl (by decide) (fun x5_18 ex5_18 ls (hl : lv_has ls 8 [(5, .long (zL x5_18)), (3, .long (zL ((z.natAbs : Nat) : Int))), (0, .ref (ad 102)), (1, .long (zL z))]) => ?_)
    refine z_ic hx hb d_F_writeNumber_20 ?_
    refine z_ist hx hb d_F_writeNumber_21 hl (by decide) (fun x7_21 ex7_21 ls (hl : lv_has ls 8 [(7, .int (zI x7_21)), (5, .long (zL x5_18)), (3, .long (zL ((z.natAbs : Nat) : Int))), (0, .ref (ad 102)), (1, .long (zL z))]) => ?_)
    have L23 : ∀ (n : Nat) (i : Int) (u : Int) (ρ : St) (H : Heap) (locs : List Loc), (1 ≤ i ∧ i ≤ 7) → (1 ≤ u ∧ u ≤ 10000000) → (U0 = unF (7 - i).toNat u ((z.natAbs : Nat) : Int)) → (ρ = (if z < 0 then wl σ 45 else σ)) → (7 - i).toNat < n → Wd D cl7 (wX ad ca) A s.heap ρ H locs → ∀ ls : Array Slot, lv_has ls 8 [(7, .int (zI i)), (5, .long (zL u)), (3, .long (zL ((z.natAbs : Nat) : Int))), (0, .ref (ad 102)), (1, .long (zL z))] → W p l e (Rmh 1) s m ([.ref (ad 102), .long (zL z)] : List Value).toArray below meth c H locs 0 0 (MQ below (Qw D cl7 (wX ad ca) A (VW (wn σ z = ·))) ([.ref (ad 102), .long (zL z)] : List Value).toArray s 0 0 A) (F0 m 23 ls []) := by
      intro n
      induction n with
      | zero => intro i u ρ H locs hi hu hN hρ hm; exact absurd hm (Nat.not_lt_zero _)
      | succ n ih23 =>
        intro i u ρ H locs hi hu hN hρ hm23 hw ls hl
        refine lv_iload hx hb d_F_writeNumber_23 (lv_at hl 0 rfl) ?_
        refine z_bi hx hb d_F_writeNumber_25 (by decide) ?_
        refine z_icmp_ge hx hb 55 d_F_writeNumber_27 (by omega) (by omega) (by decide) (fun c27 => ?_) (fun c27 => ?_)
        · have hU : U0 = u := by first | (rw [hN, show (7 - i).toNat = 0 by omega]; rfl) | (rw [hN, if_neg (by omega)])
          refine z_ic hx hb d_F_writeNumber_55 ?_
          refine z_ist hx hb d_F_writeNumber_56 hl (by decide) (fun x7_56 ex7_56 ls (hl : lv_has ls 8 [(7, .int (zI x7_56)), (5, .long (zL u)), (3, .long (zL ((z.natAbs : Nat) : Int))), (0, .ref (ad 102)), (1, .long (zL z))]) => ?_)
          have L58 : ∀ (n : Nat) (j : Int) (v : Int) (τ : St) (H : Heap) (locs : List Loc), (0 ≤ j ∧ j ≤ 7) → (0 ≤ v ∧ v ≤ 10000000) → (wn σ z = wnF (7 - j).toNat τ ((z.natAbs : Nat) : Int) v) → (0 ≤ τ 27 0 ∧ τ 27 0 ≤ 176) → (7 - j).toNat < n → Wd D cl7 (wX ad ca) A s.heap τ H locs → ∀ ls : Array Slot, lv_has ls 8 [(7, .int (zI j)), (5, .long (zL v)), (3, .long (zL ((z.natAbs : Nat) : Int))), (0, .ref (ad 102)), (1, .long (zL z))] → W p l e (Rmh 1) s m ([.ref (ad 102), .long (zL z)] : List Value).toArray below meth c H locs 0 0 (MQ below (Qw D cl7 (wX ad ca) A (VW (wn σ z = ·))) ([.ref (ad 102), .long (zL z)] : List Value).toArray s 0 0 A) (F0 m 58 ls []) := by
            intro n
            induction n with
            | zero => intro j v τ H locs hj hv hτ hτL hm; exact absurd hm (Nat.not_lt_zero _)
            | succ n ih58 =>
              intro j v τ H locs hj hv hτ hτL hm58 hw ls hl
              refine lv_iload hx hb d_F_writeNumber_58 (lv_at hl 0 rfl) ?_
              refine z_bi hx hb d_F_writeNumber_60 (by decide) ?_
              refine z_icmp_ge hx hb 104 d_F_writeNumber_62 (by omega) (by omega) (by decide) (fun c62 => ?_) (fun c62 => ?_)
              · exact w_vret hc hw (⟨rfl, by rw [hτ]; first | (rw [if_neg (by omega)]; done) | (rw [show (7 - j).toNat = 0 by omega]; rfl)⟩) d_F_writeNumber_104
              · have q : (7 - j).toNat = (7 - (j + 1)).toNat + 1 := by omega
                rw [q, wnF_s] at hτ
                have hdq : 0 ≤ ((z.natAbs : Nat) : Int) / v := Int.ediv_nonneg hnz0 hv.1
                refine lv_lload hx hb d_F_writeNumber_65 (lv_at hl 1 rfl) ?_
                refine z_lc0 hx hb d_F_writeNumber_67 ?_
                refine z_lcmp_le hx hb 104 d_F_writeNumber_68 d_F_writeNumber_69 (by omega) (by omega) (by decide) (fun c68 => ?_) (fun c68 => ?_)
                · exact w_vret hc hw (⟨rfl, by rw [hτ]; first | (rw [if_neg (by omega)]; done) | (rw [show (7 - j).toNat = 0 by omega]; rfl)⟩) d_F_writeNumber_104
                · refine lv_aload_n hx hb d_F_writeNumber_72 rfl (lv_at hl 3 rfl) ?_
                  refine z_ldc2 (n := 48) hc lk_F_125 d_F_writeNumber_73 (by decide) ?_
                  refine lv_lload_n hx hb d_F_writeNumber_76 rfl (lv_at hl 2 rfl) ?_
                  refine lv_lload hx hb d_F_writeNumber_77 (lv_at hl 1 rfl) ?_
                  refine z_ldiv hx hb d_F_writeNumber_79 (⟨⟨hnz0, by omega⟩, by omega, by omega⟩) ?_
                  refine z_ldc2 (n := 10) hc lk_F_123 d_F_writeNumber_80 (by decide) ?_
                  refine z_lrem hx hb d_F_writeNumber_83 (⟨⟨hdq, by have := Int.ediv_le_self v hnz0; omega⟩, by decide, by decide⟩) ?_
                  refine z_ladd hx hb d_F_writeNumber_84 ?_
                  refine z_l2i hx hb d_F_writeNumber_85 ?_
                  refine z_i2c hx hb d_F_writeNumber_86 (by have := Int.emod_nonneg (((z.natAbs : Nat) : Int) / v) (show (10 : Int) ≠ 0 by decide); have := Int.emod_lt_of_pos (((z.natAbs : Nat) : Int) / v) (show (0 : Int) < 10 by decide); omega) ?_
                  refine w_cvV (q0 := 2) hc hw (k_F_writeLetter _ _ (by have := Int.emod_nonneg (((z.natAbs : Nat) : Int) / v) (show (10 : Int) ≠ 0 by decide); have := Int.emod_lt_of_pos (((z.natAbs : Nat) : Int) / v) (show (0 : Int) < 10 by decide); omega) hτL) yw_F_writeLetter yi_F_writeLetter lk_F_115 d_F_writeNumber_87 rfl rfl rfl rfl hl.1 (Nat.le_of_ble_eq_true rfl) ⟨Nat.le_of_ble_eq_true rfl, Nat.le_of_ble_eq_true rfl⟩ ⟨Nat.zero_le _, Nat.zero_le _⟩ (fun τ87 H locs hτ87 hw => ?_)
                  subst hτ87
                  refine lv_lload hx hb d_F_writeNumber_90 (lv_at hl 1 rfl) ?_
                  refine z_ldc2 (n := 10) hc lk_F_123 d_F_writeNumber_92 (by decide) ?_
                  refine z_ldiv hx hb d_F_writeNumber_95 (by omega) ?_
                  refine z_lst hx hb d_F_writeNumber_96 hl (by decide) (fun x5_96 ex5_96 ls (hl : lv_has ls 8 [(5, .long (zL x5_96)), (7, .int (zI j)), (3, .long (zL ((z.natAbs : Nat) : Int))), (0, .ref (ad 102)), (1, .long (zL z))]) => ?_)
                  refine z_iinc (k := 1) hx hb d_F_writeNumber_98 hl rfl (by decide) (fun x7_98 ex7_98 ls (hl : lv_has ls 8 [(7, .int (zI x7_98)), (5, .long (zL x5_96)), (3, .long (zL ((z.natAbs : Nat) : Int))), (0, .ref (ad 102)), (1, .long (zL z))]) => ?_)
                  refine lv_goto (tgt := 58) hx hb d_F_writeNumber_101 (by decide) ?_
                  exact ih58 x7_98 x5_96 _ _ _ (by omega) (by rw [ex5_96]; omega) (by rw [hτ, if_pos c68, ex7_98, ex5_96]) (wl_bd _ hτL) (by omega) hw ls (lv_sub hl [0, 1, 2, 3, 4] rfl)
          exact L58 _ x7_56 u _ _ _ (by omega) (by omega) (by rw [ex7_56, show ((7 : Int) - 0).toNat = 7 from (by decide), ← hU, hU0, hρ]; rfl) (by rw [hρ]; first | (rw [if_pos (by omega)]; exact hwl) | (rw [if_neg (by omega)]; exact hL)) (Nat.lt_succ_self _) hw ls (lv_sub hl [0, 1, 2, 3, 4] rfl)
        · have q : (7 - i).toNat = (7 - (i + 1)).toNat + 1 := by omega
          rw [q, unF_s] at hN
          refine lv_lload hx hb d_F_writeNumber_30 (lv_at hl 1 rfl) ?_
          refine z_ldc2 (n := 10) hc lk_F_123 d_F_writeNumber_32 (by decide) ?_
          refine z_lmul hx hb d_F_writeNumber_35 ?_
          refine lv_lload_n hx hb d_F_writeNumber_36 rfl (lv_at hl 2 rfl) ?_
          refine z_lcmp_gt hx hb 55 d_F_writeNumber_37 d_F_writeNumber_38 (by omega) (by omega) (by decide) (fun c37 => ?_) (fun c37 => ?_)
          · have hU : U0 = u := by first | (rw [hN, show (7 - i).toNat = 0 by omega]; rfl) | (rw [hN, if_neg (by omega)])
            refine z_ic hx hb d_F_writeNumber_55 ?_
            refine z_ist hx hb d_F_writeNumber_56 hl (by decide) (fun x7_56 ex7_56 ls (hl : lv_has ls 8 [(7, .int (zI x7_56)), (5, .long (zL u)), (3, .long (zL ((z.natAbs : Nat) : Int))), (0, .ref (ad 102)), (1, .long (zL z))]) => ?_)
            have L58 : ∀ (n : Nat) (j : Int) (v : Int) (τ : St) (H : Heap) (locs : List Loc), (0 ≤ j ∧ j ≤ 7) → (0 ≤ v ∧ v ≤ 10000000) → (wn σ z = wnF (7 - j).toNat τ ((z.natAbs : Nat) : Int) v) → (0 ≤ τ 27 0 ∧ τ 27 0 ≤ 176) → (7 - j).toNat < n → Wd D cl7 (wX ad ca) A s.heap τ H locs → ∀ ls : Array Slot, lv_has ls 8 [(7, .int (zI j)), (5, .long (zL v)), (3, .long (zL ((z.natAbs : Nat) : Int))), (0, .ref (ad 102)), (1, .long (zL z))] → W p l e (Rmh 1) s m ([.ref (ad 102), .long (zL z)] : List Value).toArray below meth c H locs 0 0 (MQ below (Qw D cl7 (wX ad ca) A (VW (wn σ z = ·))) ([.ref (ad 102), .long (zL z)] : List Value).toArray s 0 0 A) (F0 m 58 ls []) := by
              intro n
              induction n with
              | zero => intro j v τ H locs hj hv hτ hτL hm; exact absurd hm (Nat.not_lt_zero _)
              | succ n ih58 =>
                intro j v τ H locs hj hv hτ hτL hm58 hw ls hl
                refine lv_iload hx hb d_F_writeNumber_58 (lv_at hl 0 rfl) ?_
                refine z_bi hx hb d_F_writeNumber_60 (by decide) ?_
                refine z_icmp_ge hx hb 104 d_F_writeNumber_62 (by omega) (by omega) (by decide) (fun c62 => ?_) (fun c62 => ?_)
                · exact w_vret hc hw (⟨rfl, by rw [hτ]; first | (rw [if_neg (by omega)]; done) | (rw [show (7 - j).toNat = 0 by omega]; rfl)⟩) d_F_writeNumber_104
                · have q : (7 - j).toNat = (7 - (j + 1)).toNat + 1 := by omega
                  rw [q, wnF_s] at hτ
                  have hdq : 0 ≤ ((z.natAbs : Nat) : Int) / v := Int.ediv_nonneg hnz0 hv.1
                  refine lv_lload hx hb d_F_writeNumber_65 (lv_at hl 1 rfl) ?_
                  refine z_lc0 hx hb d_F_writeNumber_67 ?_
                  refine z_lcmp_le hx hb 104 d_F_writeNumber_68 d_F_writeNumber_69 (by omega) (by omega) (by decide) (fun c68 => ?_) (fun c68 => ?_)
                  · exact w_vret hc hw (⟨rfl, by rw [hτ]; first | (rw [if_neg (by omega)]; done) | (rw [show (7 - j).toNat = 0 by omega]; rfl)⟩) d_F_writeNumber_104
                  · refine lv_aload_n hx hb d_F_writeNumber_72 rfl (lv_at hl 3 rfl) ?_
                    refine z_ldc2 (n := 48) hc lk_F_125 d_F_writeNumber_73 (by decide) ?_
                    refine lv_lload_n hx hb d_F_writeNumber_76 rfl (lv_at hl 2 rfl) ?_
                    refine lv_lload hx hb d_F_writeNumber_77 (lv_at hl 1 rfl) ?_
                    refine z_ldiv hx hb d_F_writeNumber_79 (⟨⟨hnz0, by omega⟩, by omega, by omega⟩) ?_
                    refine z_ldc2 (n := 10) hc lk_F_123 d_F_writeNumber_80 (by decide) ?_
                    refine z_lrem hx hb d_F_writeNumber_83 (⟨⟨hdq, by have := Int.ediv_le_self v hnz0; omega⟩, by decide, by decide⟩) ?_
                    refine z_ladd hx hb d_F_writeNumber_84 ?_
                    refine z_l2i hx hb d_F_writeNumber_85 ?_
                    refine z_i2c hx hb d_F_writeNumber_86 (by have := Int.emod_nonneg (((z.natAbs : Nat) : Int) / v) (show (10 : Int) ≠ 0 by decide); have := Int.emod_lt_of_pos (((z.natAbs : Nat) : Int) / v) (show (0 : Int) < 10 by decide); omega) ?_
                    refine w_cvV (q0 := 2) hc hw (k_F_writeLetter _ _ (by have := Int.emod_nonneg (((z.natAbs : Nat) : Int) / v) (show (10 : Int) ≠ 0 by decide); have := Int.emod_lt_of_pos (((z.natAbs : Nat) : Int) / v) (show (0 : Int) < 10 by decide); omega) hτL) yw_F_writeLetter yi_F_writeLetter lk_F_115 d_F_writeNumber_87 rfl rfl rfl rfl hl.1 (Nat.le_of_ble_eq_true rfl) ⟨Nat.le_of_ble_eq_true rfl, Nat.le_of_ble_eq_true rfl⟩ ⟨Nat.zero_le _, Nat.zero_le _⟩ (fun τ87 H locs hτ87 hw => ?_)
                    subst hτ87
                    refine lv_lload hx hb d_F_writeNumber_90 (lv_at hl 1 rfl) ?_
                    refine z_ldc2 (n := 10) hc lk_F_123 d_F_writeNumber_92 (by decide) ?_
                    refine z_ldiv hx hb d_F_writeNumber_95 (by omega) ?_
                    refine z_lst hx hb d_F_writeNumber_96 hl (by decide) (fun x5_96 ex5_96 ls (hl : lv_has ls 8 [(5, .long (zL x5_96)), (7, .int (zI j)), (3, .long (zL ((z.natAbs : Nat) : Int))), (0, .ref (ad 102)), (1, .long (zL z))]) => ?_)
                    refine z_iinc (k := 1) hx hb d_F_writeNumber_98 hl rfl (by decide) (fun x7_98 ex7_98 ls (hl : lv_has ls 8 [(7, .int (zI x7_98)), (5, .long (zL x5_96)), (3, .long (zL ((z.natAbs : Nat) : Int))), (0, .ref (ad 102)), (1, .long (zL z))]) => ?_)
                    refine lv_goto (tgt := 58) hx hb d_F_writeNumber_101 (by decide) ?_
                    exact ih58 x7_98 x5_96 _ _ _ (by omega) (by rw [ex5_96]; omega) (by rw [hτ, if_pos c68, ex7_98, ex5_96]) (wl_bd _ hτL) (by omega) hw ls (lv_sub hl [0, 1, 2, 3, 4] rfl)
            exact L58 _ x7_56 u _ _ _ (by omega) (by omega) (by rw [ex7_56, show ((7 : Int) - 0).toNat = 7 from (by decide), ← hU, hU0, hρ]; rfl) (by rw [hρ]; first | (rw [if_pos (by omega)]; exact hwl) | (rw [if_neg (by omega)]; exact hL)) (Nat.lt_succ_self _) hw ls (lv_sub hl [0, 1, 2, 3, 4] rfl)
          · refine lv_lload hx hb d_F_writeNumber_41 (lv_at hl 1 rfl) ?_
            refine z_ldc2 (n := 10) hc lk_F_123 d_F_writeNumber_43 (by decide) ?_
            refine z_lmul hx hb d_F_writeNumber_46 ?_
            refine z_lst hx hb d_F_writeNumber_47 hl (by decide) (fun x5_47 ex5_47 ls (hl : lv_has ls 8 [(5, .long (zL x5_47)), (7, .int (zI i)), (3, .long (zL ((z.natAbs : Nat) : Int))), (0, .ref (ad 102)), (1, .long (zL z))]) => ?_)
            refine z_iinc (k := 1) hx hb d_F_writeNumber_49 hl rfl (by decide) (fun x7_49 ex7_49 ls (hl : lv_has ls 8 [(7, .int (zI x7_49)), (5, .long (zL x5_47)), (3, .long (zL ((z.natAbs : Nat) : Int))), (0, .ref (ad 102)), (1, .long (zL z))]) => ?_)
            refine lv_goto (tgt := 23) hx hb d_F_writeNumber_52 (by decide) ?_
            exact ih23 x7_49 x5_47 _ _ _ (by omega) (by omega) (by rw [hN, if_pos (by omega), ex7_49, ex5_47]) (hρ) (by omega) hw ls (lv_sub hl [0, 1, 2, 3, 4] rfl)
    exact L23 _ x7_21 x5_18 _ _ _ (by omega) (by omega) (by rw [ex7_21, ex5_18, show ((7 : Int) - 1).toNat = 6 from (by decide)]; exact hU0) (by first | (rw [if_pos (by omega)]; done) | (rw [if_neg (by omega)]; done)) (Nat.lt_succ_self _) hw ls (lv_sub hl [0, 1, 2, 3, 4] rfl)
  · refine lv_aload_n hx hb d_F_writeNumber_6 rfl (lv_at hl 0 rfl) ?_
    refine z_bi hx hb d_F_writeNumber_7 (by decide) ?_
    refine w_cvV (q0 := 2) hc hw (k_F_writeLetter _ _ (by decide) hL) yw_F_writeLetter yi_F_writeLetter lk_F_115 d_F_writeNumber_9 rfl rfl rfl rfl hl.1 (Nat.le_of_ble_eq_true rfl) ⟨Nat.le_of_ble_eq_true rfl, Nat.le_of_ble_eq_true rfl⟩ ⟨Nat.zero_le _, Nat.zero_le _⟩ (fun τ9 H locs hτ9 hw => ?_)
    subst hτ9
    refine lv_lload_n hx hb d_F_writeNumber_12 rfl (lv_at hl 1 rfl) ?_
    refine w_csR hc hw (k_JM_absL _ _ (by omega)) yw_JM_absL yi_JM_absL lk_F_94 d_F_writeNumber_13 rfl rfl hl.1 (Nat.le_of_ble_eq_true rfl) ⟨Nat.le_of_ble_eq_true rfl, Nat.le_of_ble_eq_true rfl⟩ ⟨Nat.zero_le _, Nat.zero_le _⟩ (fun τ13 H locs hτ13 hw => ?_)
    subst hτ13
    refine z_lst_n hx hb d_F_writeNumber_16 rfl hl (by decide) (fun x3_16 ex3_16 ls (hl : lv_has ls 8 [(3, .long (zL x3_16)), (0, .ref (ad 102)), (1, .long (zL z))]) => ?_)
    subst ex3_16
    refine z_lc1 hx hb d_F_writeNumber_17 ?_
    refine z_lst hx hb d_F_writeNumber_18 hl (by decide) (fun x5_18 ex5_18 ls (hl : lv_has ls 8 [(5, .long (zL x5_18)), (3, .long (zL ((z.natAbs : Nat) : Int))), (0, .ref (ad 102)), (1, .long (zL z))]) => ?_)
    refine z_ic hx hb d_F_writeNumber_20 ?_
    refine z_ist hx hb d_F_writeNumber_21 hl (by decide) (fun x7_21 ex7_21 ls (hl : lv_has ls 8 [(7, .int (zI x7_21)), (5, .long (zL x5_18)), (3, .long (zL ((z.natAbs : Nat) : Int))), (0, .ref (ad 102)), (1, .long (zL z))]) => ?_)
    have L23 : ∀ (n : Nat) (i : Int) (u : Int) (ρ : St) (H : Heap) (locs : List Loc), (1 ≤ i ∧ i ≤ 7) → (1 ≤ u ∧ u ≤ 10000000) → (U0 = unF (7 - i).toNat u ((z.natAbs : Nat) : Int)) → (ρ = (if z < 0 then wl σ 45 else σ)) → (7 - i).toNat < n → Wd D cl7 (wX ad ca) A s.heap ρ H locs → ∀ ls : Array Slot, lv_has ls 8 [(7, .int (zI i)), (5, .long (zL u)), (3, .long (zL ((z.natAbs : Nat) : Int))), (0, .ref (ad 102)), (1, .long (zL z))] → W p l e (Rmh 1) s m ([.ref (ad 102), .long (zL z)] : List Value).toArray below meth c H locs 0 0 (MQ below (Qw D cl7 (wX ad ca) A (VW (wn σ z = ·))) ([.ref (ad 102), .long (zL z)] : List Value).toArray s 0 0 A) (F0 m 23 ls []) := by
      intro n
      induction n with
      | zero => intro i u ρ H locs hi hu hN hρ hm; exact absurd hm (Nat.not_lt_zero _)
      | succ n ih23 =>
        intro i u ρ H locs hi hu hN hρ hm23 hw ls hl
        refine lv_iload hx hb d_F_writeNumber_23 (lv_at hl 0 rfl) ?_
        refine z_bi hx hb d_F_writeNumber_25 (by decide) ?_
        refine z_icmp_ge hx hb 55 d_F_writeNumber_27 (by omega) (by omega) (by decide) (fun c27 => ?_) (fun c27 => ?_)
        · have hU : U0 = u := by first | (rw [hN, show (7 - i).toNat = 0 by omega]; rfl) | (rw [hN, if_neg (by omega)])
          refine z_ic hx hb d_F_writeNumber_55 ?_
          refine z_ist hx hb d_F_writeNumber_56 hl (by decide) (fun x7_56 ex7_56 ls (hl : lv_has ls 8 [(7, .int (zI x7_56)), (5, .long (zL u)), (3, .long (zL ((z.natAbs : Nat) : Int))), (0, .ref (ad 102)), (1, .long (zL z))]) => ?_)
          have L58 : ∀ (n : Nat) (j : Int) (v : Int) (τ : St) (H : Heap) (locs : List Loc), (0 ≤ j ∧ j ≤ 7) → (0 ≤ v ∧ v ≤ 10000000) → (wn σ z = wnF (7 - j).toNat τ ((z.natAbs : Nat) : Int) v) → (0 ≤ τ 27 0 ∧ τ 27 0 ≤ 176) → (7 - j).toNat < n → Wd D cl7 (wX ad ca) A s.heap τ H locs → ∀ ls : Array Slot, lv_has ls 8 [(7, .int (zI j)), (5, .long (zL v)), (3, .long (zL ((z.natAbs : Nat) : Int))), (0, .ref (ad 102)), (1, .long (zL z))] → W p l e (Rmh 1) s m ([.ref (ad 102), .long (zL z)] : List Value).toArray below meth c H locs 0 0 (MQ below (Qw D cl7 (wX ad ca) A (VW (wn σ z = ·))) ([.ref (ad 102), .long (zL z)] : List Value).toArray s 0 0 A) (F0 m 58 ls []) := by
            intro n
            induction n with
            | zero => intro j v τ H locs hj hv hτ hτL hm; exact absurd hm (Nat.not_lt_zero _)
            | succ n ih58 =>
              intro j v τ H locs hj hv hτ hτL hm58 hw ls hl
              refine lv_iload hx hb d_F_writeNumber_58 (lv_at hl 0 rfl) ?_
              refine z_bi hx hb d_F_writeNumber_60 (by decide) ?_
              refine z_icmp_ge hx hb 104 d_F_writeNumber_62 (by omega) (by omega) (by decide) (fun c62 => ?_) (fun c62 => ?_)
              · exact w_vret hc hw (⟨rfl, by rw [hτ]; first | (rw [if_neg (by omega)]; done) | (rw [show (7 - j).toNat = 0 by omega]; rfl)⟩) d_F_writeNumber_104
              · have q : (7 - j).toNat = (7 - (j + 1)).toNat + 1 := by omega
                rw [q, wnF_s] at hτ
                have hdq : 0 ≤ ((z.natAbs : Nat) : Int) / v := Int.ediv_nonneg hnz0 hv.1
                refine lv_lload hx hb d_F_writeNumber_65 (lv_at hl 1 rfl) ?_
                refine z_lc0 hx hb d_F_writeNumber_67 ?_
                refine z_lcmp_le hx hb 104 d_F_writeNumber_68 d_F_writeNumber_69 (by omega) (by omega) (by decide) (fun c68 => ?_) (fun c68 => ?_)
                · exact w_vret hc hw (⟨rfl, by rw [hτ]; first | (rw [if_neg (by omega)]; done) | (rw [show (7 - j).toNat = 0 by omega]; rfl)⟩) d_F_writeNumber_104
                · refine lv_aload_n hx hb d_F_writeNumber_72 rfl (lv_at hl 3 rfl) ?_
                  refine z_ldc2 (n := 48) hc lk_F_125 d_F_writeNumber_73 (by decide) ?_
                  refine lv_lload_n hx hb d_F_writeNumber_76 rfl (lv_at hl 2 rfl) ?_
                  refine lv_lload hx hb d_F_writeNumber_77 (lv_at hl 1 rfl) ?_
                  refine z_ldiv hx hb d_F_writeNumber_79 (⟨⟨hnz0, by omega⟩, by omega, by omega⟩) ?_
                  refine z_ldc2 (n := 10) hc lk_F_123 d_F_writeNumber_80 (by decide) ?_
                  refine z_lrem hx hb d_F_writeNumber_83 (⟨⟨hdq, by have := Int.ediv_le_self v hnz0; omega⟩, by decide, by decide⟩) ?_
                  refine z_ladd hx hb d_F_writeNumber_84 ?_
                  refine z_l2i hx hb d_F_writeNumber_85 ?_
                  refine z_i2c hx hb d_F_writeNumber_86 (by have := Int.emod_nonneg (((z.natAbs : Nat) : Int) / v) (show (10 : Int) ≠ 0 by decide); have := Int.emod_lt_of_pos (((z.natAbs : Nat) : Int) / v) (show (0 : Int) < 10 by decide); omega) ?_
                  refine w_cvV (q0 := 2) hc hw (k_F_writeLetter _ _ (by have := Int.emod_nonneg (((z.natAbs : Nat) : Int) / v) (show (10 : Int) ≠ 0 by decide); have := Int.emod_lt_of_pos (((z.natAbs : Nat) : Int) / v) (show (0 : Int) < 10 by decide); omega) hτL) yw_F_writeLetter yi_F_writeLetter lk_F_115 d_F_writeNumber_87 rfl rfl rfl rfl hl.1 (Nat.le_of_ble_eq_true rfl) ⟨Nat.le_of_ble_eq_true rfl, Nat.le_of_ble_eq_true rfl⟩ ⟨Nat.zero_le _, Nat.zero_le _⟩ (fun τ87 H locs hτ87 hw => ?_)
                  subst hτ87
                  refine lv_lload hx hb d_F_writeNumber_90 (lv_at hl 1 rfl) ?_
                  refine z_ldc2 (n := 10) hc lk_F_123 d_F_writeNumber_92 (by decide) ?_
                  refine z_ldiv hx hb d_F_writeNumber_95 (by omega) ?_
                  refine z_lst hx hb d_F_writeNumber_96 hl (by decide) (fun x5_96 ex5_96 ls (hl : lv_has ls 8 [(5, .long (zL x5_96)), (7, .int (zI j)), (3, .long (zL ((z.natAbs : Nat) : Int))), (0, .ref (ad 102)), (1, .long (zL z))]) => ?_)
                  refine z_iinc (k := 1) hx hb d_F_writeNumber_98 hl rfl (by decide) (fun x7_98 ex7_98 ls (hl : lv_has ls 8 [(7, .int (zI x7_98)), (5, .long (zL x5_96)), (3, .long (zL ((z.natAbs : Nat) : Int))), (0, .ref (ad 102)), (1, .long (zL z))]) => ?_)
                  refine lv_goto (tgt := 58) hx hb d_F_writeNumber_101 (by decide) ?_
                  exact ih58 x7_98 x5_96 _ _ _ (by omega) (by rw [ex5_96]; omega) (by rw [hτ, if_pos c68, ex7_98, ex5_96]) (wl_bd _ hτL) (by omega) hw ls (lv_sub hl [0, 1, 2, 3, 4] rfl)
          exact L58 _ x7_56 u _ _ _ (by omega) (by omega) (by rw [ex7_56, show ((7 : Int) - 0).toNat = 7 from (by decide), ← hU, hU0, hρ]; rfl) (by rw [hρ]; first | (rw [if_pos (by omega)]; exact hwl) | (rw [if_neg (by omega)]; exact hL)) (Nat.lt_succ_self _) hw ls (lv_sub hl [0, 1, 2, 3, 4] rfl)
        · have q : (7 - i).toNat = (7 - (i + 1)).toNat + 1 := by omega
          rw [q, unF_s] at hN
          refine lv_lload hx hb d_F_writeNumber_30 (lv_at hl 1 rfl) ?_
          refine z_ldc2 (n := 10) hc lk_F_123 d_F_writeNumber_32 (by decide) ?_
          refine z_lmul hx hb d_F_writeNumber_35 ?_
          refine lv_lload_n hx hb d_F_writeNumber_36 rfl (lv_at hl 2 rfl) ?_
          refine z_lcmp_gt hx hb 55 d_F_writeNumber_37 d_F_writeNumber_38 (by omega) (by omega) (by decide) (fun c37 => ?_) (fun c37 => ?_)
          · have hU : U0 = u := by first | (rw [hN, show (7 - i).toNat = 0 by omega]; rfl) | (rw [hN, if_neg (by omega)])
            refine z_ic hx hb d_F_writeNumber_55 ?_
            refine z_ist hx hb d_F_writeNumber_56 hl (by decide) (fun x7_56 ex7_56 ls (hl : lv_has ls 8 [(7, .int (zI x7_56)), (5, .long (zL u)), (3, .long (zL ((z.natAbs : Nat) : Int))), (0, .ref (ad 102)), (1, .long (zL z))]) => ?_)
            have L58 : ∀ (n : Nat) (j : Int) (v : Int) (τ : St) (H : Heap) (locs : List Loc), (0 ≤ j ∧ j ≤ 7) → (0 ≤ v ∧ v ≤ 10000000) → (wn σ z = wnF (7 - j).toNat τ ((z.natAbs : Nat) : Int) v) → (0 ≤ τ 27 0 ∧ τ 27 0 ≤ 176) → (7 - j).toNat < n → Wd D cl7 (wX ad ca) A s.heap τ H locs → ∀ ls : Array Slot, lv_has ls 8 [(7, .int (zI j)), (5, .long (zL v)), (3, .long (zL ((z.natAbs : Nat) : Int))), (0, .ref (ad 102)), (1, .long (zL z))] → W p l e (Rmh 1) s m ([.ref (ad 102), .long (zL z)] : List Value).toArray below meth c H locs 0 0 (MQ below (Qw D cl7 (wX ad ca) A (VW (wn σ z = ·))) ([.ref (ad 102), .long (zL z)] : List Value).toArray s 0 0 A) (F0 m 58 ls []) := by
              intro n
              induction n with
              | zero => intro j v τ H locs hj hv hτ hτL hm; exact absurd hm (Nat.not_lt_zero _)
              | succ n ih58 =>
                intro j v τ H locs hj hv hτ hτL hm58 hw ls hl
                refine lv_iload hx hb d_F_writeNumber_58 (lv_at hl 0 rfl) ?_
                refine z_bi hx hb d_F_writeNumber_60 (by decide) ?_
                refine z_icmp_ge hx hb 104 d_F_writeNumber_62 (by omega) (by omega) (by decide) (fun c62 => ?_) (fun c62 => ?_)
                · exact w_vret hc hw (⟨rfl, by rw [hτ]; first | (rw [if_neg (by omega)]; done) | (rw [show (7 - j).toNat = 0 by omega]; rfl)⟩) d_F_writeNumber_104
                · have q : (7 - j).toNat = (7 - (j + 1)).toNat + 1 := by omega
                  rw [q, wnF_s] at hτ
                  have hdq : 0 ≤ ((z.natAbs : Nat) : Int) / v := Int.ediv_nonneg hnz0 hv.1
                  refine lv_lload hx hb d_F_writeNumber_65 (lv_at hl 1 rfl) ?_
                  refine z_lc0 hx hb d_F_writeNumber_67 ?_
                  refine z_lcmp_le hx hb 104 d_F_writeNumber_68 d_F_writeNumber_69 (by omega) (by omega) (by decide) (fun c68 => ?_) (fun c68 => ?_)
                  · exact w_vret hc hw (⟨rfl, by rw [hτ]; first | (rw [if_neg (by omega)]; done) | (rw [show (7 - j).toNat = 0 by omega]; rfl)⟩) d_F_writeNumber_104
                  · refine lv_aload_n hx hb d_F_writeNumber_72 rfl (lv_at hl 3 rfl) ?_
                    refine z_ldc2 (n := 48) hc lk_F_125 d_F_writeNumber_73 (by decide) ?_
                    refine lv_lload_n hx hb d_F_writeNumber_76 rfl (lv_at hl 2 rfl) ?_
                    refine lv_lload hx hb d_F_writeNumber_77 (lv_at hl 1 rfl) ?_
                    refine z_ldiv hx hb d_F_writeNumber_79 (⟨⟨hnz0, by omega⟩, by omega, by omega⟩) ?_
                    refine z_ldc2 (n := 10) hc lk_F_123 d_F_writeNumber_80 (by decide) ?_
                    refine z_lrem hx hb d_F_writeNumber_83 (⟨⟨hdq, by have := Int.ediv_le_self v hnz0; omega⟩, by decide, by decide⟩) ?_
                    refine z_ladd hx hb d_F_writeNumber_84 ?_
                    refine z_l2i hx hb d_F_writeNumber_85 ?_
                    refine z_i2c hx hb d_F_writeNumber_86 (by have := Int.emod_nonneg (((z.natAbs : Nat) : Int) / v) (show (10 : Int) ≠ 0 by decide); have := Int.emod_lt_of_pos (((z.natAbs : Nat) : Int) / v) (show (0 : Int) < 10 by decide); omega) ?_
                    refine w_cvV (q0 := 2) hc hw (k_F_writeLetter _ _ (by have := Int.emod_nonneg (((z.natAbs : Nat) : Int) / v) (show (10 : Int) ≠ 0 by decide); have := Int.emod_lt_of_pos (((z.natAbs : Nat) : Int) / v) (show (0 : Int) < 10 by decide); omega) hτL) yw_F_writeLetter yi_F_writeLetter lk_F_115 d_F_writeNumber_87 rfl rfl rfl rfl hl.1 (Nat.le_of_ble_eq_true rfl) ⟨Nat.le_of_ble_eq_true rfl, Nat.le_of_ble_eq_true rfl⟩ ⟨Nat.zero_le _, Nat.zero_le _⟩ (fun τ87 H locs hτ87 hw => ?_)
                    subst hτ87
                    refine lv_lload hx hb d_F_writeNumber_90 (lv_at hl 1 rfl) ?_
                    refine z_ldc2 (n := 10) hc lk_F_123 d_F_writeNumber_92 (by decide) ?_
                    refine z_ldiv hx hb d_F_writeNumber_95 (by omega) ?_
                    refine z_lst hx hb d_F_writeNumber_96 hl (by decide) (fun x5_96 ex5_96 ls (hl : lv_has ls 8 [(5, .long (zL x5_96)), (7, .int (zI j)), (3, .long (zL ((z.natAbs : Nat) : Int))), (0, .ref (ad 102)), (1, .long (zL z))]) => ?_)
                    refine z_iinc (k := 1) hx hb d_F_writeNumber_98 hl rfl (by decide) (fun x7_98 ex7_98 ls (hl : lv_has ls 8 [(7, .int (zI x7_98)), (5, .long (zL x5_96)), (3, .long (zL ((z.natAbs : Nat) : Int))), (0, .ref (ad 102)), (1, .long (zL z))]) => ?_)
                    refine lv_goto (tgt := 58) hx hb d_F_writeNumber_101 (by decide) ?_
                    exact ih58 x7_98 x5_96 _ _ _ (by omega) (by rw [ex5_96]; omega) (by rw [hτ, if_pos c68, ex7_98, ex5_96]) (wl_bd _ hτL) (by omega) hw ls (lv_sub hl [0, 1, 2, 3, 4] rfl)
            exact L58 _ x7_56 u _ _ _ (by omega) (by omega) (by rw [ex7_56, show ((7 : Int) - 0).toNat = 7 from (by decide), ← hU, hU0, hρ]; rfl) (by rw [hρ]; first | (rw [if_pos (by omega)]; exact hwl) | (rw [if_neg (by omega)]; exact hL)) (Nat.lt_succ_self _) hw ls (lv_sub hl [0, 1, 2, 3, 4] rfl)
          · refine lv_lload hx hb d_F_writeNumber_41 (lv_at hl 1 rfl) ?_
            refine z_ldc2 (n := 10) hc lk_F_123 d_F_writeNumber_43 (by decide) ?_
            refine z_lmul hx hb d_F_writeNumber_46 ?_
            refine z_lst hx hb d_F_writeNumber_47 hl (by decide) (fun x5_47 ex5_47 ls (hl : lv_has ls 8 [(5, .long (zL x5_47)), (7, .int (zI i)), (3, .long (zL ((z.natAbs : Nat) : Int))), (0, .ref (ad 102)), (1, .long (zL z))]) => ?_)
            refine z_iinc (k := 1) hx hb d_F_writeNumber_49 hl rfl (by decide) (fun x7_49 ex7_49 ls (hl : lv_has ls 8 [(7, .int (zI x7_49)), (5, .long (zL x5_47)), (3, .long (zL ((z.natAbs : Nat) : Int))), (0, .ref (ad 102)), (1, .long (zL z))]) => ?_)
            refine lv_goto (tgt := 23) hx hb d_F_writeNumber_52 (by decide) ?_
            exact ih23 x7_49 x5_47 _ _ _ (by omega) (by omega) (by rw [hN, if_pos (by omega), ex7_49, ex5_47]) (hρ) (by omega) hw ls (lv_sub hl [0, 1, 2, 3, 4] rfl)
    exact L23 _ x7_21 x5_18 _ _ _ (by omega) (by omega) (by rw [ex7_21, ex5_18, show ((7 : Int) - 1).toNat = 6 from (by decide)]; exact hU0) (by first | (rw [if_pos (by omega)]; done) | (rw [if_neg (by omega)]; done)) (Nat.lt_succ_self _) hw ls (lv_sub hl [0, 1, 2, 3, 4] rfl)
set_option maxHeartbeats 400000 in
set_option maxRecDepth 100000 in
theorem k_F_writeText {l : Launch} {D : va_G} {ad : Nat → Nat} {ca : Nat → ClassId} (σ : St) (hI : IB σ) (hn : 0 ≤ σ 25 0 ∧ σ 25 0 ≤ 8) (hP : ∀ i, 0 ≤ i → i < σ 25 0 → 0 ≤ σ 23 i ∧ σ 23 i < 36) : Cw l D cl7 (tyX ca) (wX ad ca) y_F_writeText c_F_writeText 4 none 2 [.ref (ad 102), .ref (ad 101)] σ (VW (wtF σ (σ 25 0).toNat = ·)) := by
  refine Cw.enter (by decide) (Nat.le_of_ble_eq_true rfl) ?_
  intro A p e s m below meth c hc ls hl hw
  have hl : lv_has ls 4 [(0, .ref (ad 102)), (1, .ref (ad 101))] := hl
  obtain ⟨hx, hb, hml, hown, hTB, hK, hr, hlk⟩ := id hc
  refine lv_aload_n hx hb d_F_writeText_0 rfl (lv_at hl 0 rfl) ?_
  refine z_ic hx hb d_F_writeText_1 ?_
  refine pX_F_length hc hw lk_F_65 d_F_writeText_2 (fun H locs hw => ?_)
  refine z_ic hx hb d_F_writeText_5 ?_
  refine z_ist_n hx hb d_F_writeText_6 rfl hl (by decide) (fun x2_6 ex2_6 ls (hl : lv_has ls 4 [(2, .int (zI x2_6)), (0, .ref (ad 102)), (1, .ref (ad 101))]) => ?_)
  have L7 : ∀ (n : Nat) (i : Int) (τ : St) (H : Heap) (locs : List Loc), (0 ≤ i ∧ i ≤ σ 25 0) → (τ = wtF σ i.toNat) → (σ 25 0 - i).toNat < n → Wd D cl7 (wX ad ca) A s.heap τ H locs → ∀ ls : Array Slot, lv_has ls 4 [(2, .int (zI i)), (0, .ref (ad 102)), (1, .ref (ad 101))] → W p l e (Rmh 2) s m ([.ref (ad 102), .ref (ad 101)] : List Value).toArray below meth c H locs 0 0 (MQ below (Qw D cl7 (wX ad ca) A (VW (wtF σ (σ 25 0).toNat = ·))) ([.ref (ad 102), .ref (ad 101)] : List Value).toArray s 0 0 A) (F0 m 7 ls []) := by
    intro n
    induction n with
    | zero => intro i τ H locs hi hτ hm; exact absurd hm (Nat.not_lt_zero _)
    | succ n ih7 =>
      intro i τ H locs hi hτ hm7 hw ls hl
      subst hτ
      have ei : ((i.toNat : Nat) : Int) = i := Int.toNat_of_nonneg hi.1
      have e25 : wtF σ i.toNat 25 0 = σ 25 0 := by rw [wtF_o σ _ 25 (by decide)]
      have e23 : wtF σ i.toNat 23 i = σ 23 i := by rw [wtF_o σ _ 23 (by decide)]
      have hb0 := wtF_bd σ i.toNat
      have hb1 := wl_bd 112 hb0
      have hb2 := wn_bd (wtF σ i.toNat 23 i) hb1
      have hb3 := wl_bd 32 hb2
      have hb4 := wn_bd (wtF σ i.toNat 3 (wtF σ i.toNat 23 i)) hb3
      have hb5 := wl_bd 32 hb4
      have hb6 := wn_bd (wtF σ i.toNat 4 (wtF σ i.toNat 23 i)) hb5
      refine lv_iload_n hx hb d_F_writeText_7 rfl (lv_at hl 0 rfl) ?_
      refine lv_aload_n hx hb d_F_writeText_8 rfl (lv_at hl 1 rfl) ?_
      refine gX_F_probeCount hc hw lk_F_58 d_F_writeText_9 ?_
      refine z_icmp_ge hx hb 78 d_F_writeText_12 (by omega) (by omega) (by decide) (fun c12 => ?_) (fun c12 => ?_)
      · exact w_vret hc hw (⟨rfl, by rw [show i = σ 25 0 by omega]⟩) d_F_writeText_78
      · have hPi := hP i hi.1 (by omega)
        refine lv_aload_n hx hb d_F_writeText_15 rfl (lv_at hl 1 rfl) ?_
        refine gX_F_sorted hc hw lk_F_21 d_F_writeText_16 ?_
        refine lv_iload_n hx hb d_F_writeText_19 rfl (lv_at hl 0 rfl) ?_
        refine ldX_F_sorted hc hw d_F_writeText_20 (by omega) ?_
        refine z_ist_n hx hb d_F_writeText_21 rfl hl (by decide) (fun x3_21 ex3_21 ls (hl : lv_has ls 4 [(3, .int (zI x3_21)), (2, .int (zI i)), (0, .ref (ad 102)), (1, .ref (ad 101))]) => ?_)
        subst ex3_21
        refine lv_aload_n hx hb d_F_writeText_22 rfl (lv_at hl 2 rfl) ?_
        refine z_bi hx hb d_F_writeText_23 (by decide) ?_
        refine w_cvV (q0 := 2) hc hw (k_F_writeLetter _ _ (by decide) hb0) yw_F_writeLetter yi_F_writeLetter lk_F_115 d_F_writeText_25 rfl rfl rfl rfl hl.1 (Nat.le_of_ble_eq_true rfl) ⟨Nat.le_of_ble_eq_true rfl, Nat.le_of_ble_eq_true rfl⟩ ⟨Nat.zero_le _, Nat.zero_le _⟩ (fun τ25 H locs hτ25 hw => ?_)
        subst hτ25
        refine lv_aload_n hx hb d_F_writeText_28 rfl (lv_at hl 2 rfl) ?_
        refine lv_iload_n hx hb d_F_writeText_29 rfl (lv_at hl 0 rfl) ?_
        refine z_i2l hx hb d_F_writeText_30 (by omega) ?_
        refine w_cvV (q0 := 2) hc hw (k_F_writeNumber _ _ (by omega) hb1) yw_F_writeNumber yi_F_writeNumber lk_F_119 d_F_writeText_31 rfl rfl rfl rfl hl.1 (Nat.le_of_ble_eq_true rfl) ⟨Nat.le_of_ble_eq_true rfl, Nat.le_of_ble_eq_true rfl⟩ ⟨Nat.zero_le _, Nat.zero_le _⟩ (fun τ31 H locs hτ31 hw => ?_)
        subst hτ31
        refine lv_aload_n hx hb d_F_writeText_34 rfl (lv_at hl 2 rfl) ?_
        refine z_bi hx hb d_F_writeText_35 (by decide) ?_
        refine w_cvV (q0 := 2) hc hw (k_F_writeLetter _ _ (by decide) hb2) yw_F_writeLetter yi_F_writeLetter lk_F_115 d_F_writeText_37 rfl rfl rfl rfl hl.1 (Nat.le_of_ble_eq_true rfl) ⟨Nat.le_of_ble_eq_true rfl, Nat.le_of_ble_eq_true rfl⟩ ⟨Nat.zero_le _, Nat.zero_le _⟩ (fun τ37 H locs hτ37 hw => ?_)
        subst hτ37
        refine lv_aload_n hx hb d_F_writeText_40 rfl (lv_at hl 2 rfl) ?_
        refine lv_aload_n hx hb d_F_writeText_41 rfl (lv_at hl 3 rfl) ?_
        refine gnX_B_xs hc hw lk_F_91 d_F_writeText_42 ?_
        refine lv_iload_n hx hb d_F_writeText_45 rfl (lv_at hl 0 rfl) ?_
        refine ldX_B_xs hc hw d_F_writeText_46 (by omega) ?_
        have ex3 : ∀ j, (wl (wn (wl (wtF σ i.toNat) 112) (wtF σ i.toNat 23 i)) 32) 3 j = σ 3 j := fun j => by rw [wl_o _ _ _ (by decide), wn_o _ _ _ (by decide), wl_o _ _ _ (by decide), wtF_o σ _ 3 (by decide)]
        rw [show wl (wn (wl (wtF σ i.toNat) 112) (wtF σ i.toNat 23 i)) 32 3 = wtF σ i.toNat 3 from by rw [wl_o _ _ _ (by decide), wn_o _ _ _ (by decide), wl_o _ _ _ (by decide)]]
        refine w_cvV (q0 := 2) hc hw (k_F_writeNumber _ _ (by have := hI.2.2.2.1 (wtF σ i.toNat 23 i); rw [wtF_o σ _ 3 (by decide)]; omega) hb3) yw_F_writeNumber yi_F_writeNumber lk_F_119 d_F_writeText_47 rfl rfl rfl rfl hl.1 (Nat.le_of_ble_eq_true rfl) ⟨Nat.le_of_ble_eq_true rfl, Nat.le_of_ble_eq_true rfl⟩ ⟨Nat.zero_le _, Nat.zero_le _⟩ (fun τ47 H locs hτ47 hw => ?_)
        subst hτ47
        refine lv_aload_n hx hb d_F_writeText_50 rfl (lv_at hl 2 rfl) ?_
        refine z_bi hx hb d_F_writeText_51 (by decide) ?_
        refine w_cvV (q0 := 2) hc hw (k_F_writeLetter _ _ (by decide) hb4) yw_F_writeLetter yi_F_writeLetter lk_F_115 d_F_writeText_53 rfl rfl rfl rfl hl.1 (Nat.le_of_ble_eq_true rfl) ⟨Nat.le_of_ble_eq_true rfl, Nat.le_of_ble_eq_true rfl⟩ ⟨Nat.zero_le _, Nat.zero_le _⟩ (fun τ53 H locs hτ53 hw => ?_)
        subst hτ53
        refine lv_aload_n hx hb d_F_writeText_56 rfl (lv_at hl 2 rfl) ?_
        refine lv_aload_n hx hb d_F_writeText_57 rfl (lv_at hl 3 rfl) ?_
        refine gnX_B_ys hc hw lk_F_100 d_F_writeText_58 ?_
        refine lv_iload_n hx hb d_F_writeText_61 rfl (lv_at hl 0 rfl) ?_
        refine ldX_B_ys hc hw d_F_writeText_62 (by omega) ?_
        rw [show wl (wn (wl (wn (wl (wtF σ i.toNat) 112) (wtF σ i.toNat 23 i)) 32) (wtF σ i.toNat 3 (wtF σ i.toNat 23 i))) 32 4 = wtF σ i.toNat 4 from by rw [wl_o _ _ _ (by decide), wn_o _ _ _ (by decide), wl_o _ _ _ (by decide), wn_o _ _ _ (by decide), wl_o _ _ _ (by decide)]]
        refine w_cvV (q0 := 2) hc hw (k_F_writeNumber _ _ (by have := hI.2.2.2.2.1 (wtF σ i.toNat 23 i); rw [wtF_o σ _ 4 (by decide)]; omega) hb5) yw_F_writeNumber yi_F_writeNumber lk_F_119 d_F_writeText_63 rfl rfl rfl rfl hl.1 (Nat.le_of_ble_eq_true rfl) ⟨Nat.le_of_ble_eq_true rfl, Nat.le_of_ble_eq_true rfl⟩ ⟨Nat.zero_le _, Nat.zero_le _⟩ (fun τ63 H locs hτ63 hw => ?_)
        subst hτ63
        refine lv_aload_n hx hb d_F_writeText_66 rfl (lv_at hl 2 rfl) ?_
        refine z_bi hx hb d_F_writeText_67 (by decide) ?_
        refine w_cvV (q0 := 2) hc hw (k_F_writeLetter _ _ (by decide) hb6) yw_F_writeLetter yi_F_writeLetter lk_F_115 d_F_writeText_69 rfl rfl rfl rfl hl.1 (Nat.le_of_ble_eq_true rfl) ⟨Nat.le_of_ble_eq_true rfl, Nat.le_of_ble_eq_true rfl⟩ ⟨Nat.zero_le _, Nat.zero_le _⟩ (fun τ69 H locs hτ69 hw => ?_)
        subst hτ69
        refine z_iinc (k := 1) hx hb d_F_writeText_72 hl rfl (by decide) (fun x2_72 ex2_72 ls (hl : lv_has ls 4 [(2, .int (zI x2_72)), (3, .int (zI (wtF σ i.toNat 23 i))), (0, .ref (ad 102)), (1, .ref (ad 101))]) => ?_)
        refine lv_goto (tgt := 7) hx hb d_F_writeText_75 (by decide) ?_
        exact ih7 x2_72 _ _ _ (by omega) (by rw [show x2_72.toNat = i.toNat + 1 from (by omega)]; simp only [wtF, ei]; rfl) (by omega) hw ls (lv_sub hl [0, 2, 3] rfl)
  exact L7 _ x2_6 _ _ _ (by omega) (by rw [ex2_6]; rfl) (Nat.lt_succ_self _) hw ls (lv_sub hl [0, 1, 2] rfl)
