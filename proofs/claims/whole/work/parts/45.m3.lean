set_option maxHeartbeats 400000 in
set_option maxRecDepth 100000 in
theorem k_M_out {l : Launch} {D : va_G} {ad : Nat → Nat} {ca : Nat → ClassId} (μ : St) (k : Int) (hk : r32 k) (hn : 0 ≤ μ 12 0 ∧ μ 12 0 ≤ 8) (h15 : ∀ i, 0 ≤ i → i < μ 12 0 → r32 (μ 15 i)) : Cw l D cl7 (tyM ca) (wM ad ca) y_M_out c_M_out 4 (some .int) 0 [.ref (ad 100), .int (zI k)] μ (RW (.int (zI (mOut μ k))) (up μ 0 0 0 = ·)) := by
  refine Cw.enter (by decide) (Nat.le_of_ble_eq_true rfl) ?_
  intro A p e s m below meth c hc ls hl hw
  have hl : lv_has ls 4 [(0, .ref (ad 100)), (1, .int (zI k))] := hl
  obtain ⟨hx, hb, hml, hown, hTB, hK, hr, hlk⟩ := id hc
  refine lv_aload_n hx hb d_M_out_0 rfl (lv_at hl 0 rfl) ?_
  refine z_ic hx hb d_M_out_1 ?_
  refine pM_M_thrown hc hw lk_M_60 d_M_out_2 (fun H locs hw => ?_)
  refine lv_iload_n hx hb d_M_out_5 rfl (lv_at hl 1 rfl) ?_
  refine z_ist_n hx hb d_M_out_6 rfl hl (by decide) (fun x2_6 ex2_6 ls (hl : lv_has ls 4 [(2, .int (zI x2_6)), (0, .ref (ad 100)), (1, .int (zI k))]) => ?_)
  refine z_ic hx hb d_M_out_7 ?_
  refine z_ist_n hx hb d_M_out_8 rfl hl (by decide) (fun x3_8 ex3_8 ls (hl : lv_has ls 4 [(3, .int (zI x3_8)), (2, .int (zI x2_6)), (0, .ref (ad 100)), (1, .int (zI k))]) => ?_)
  have L9 : ∀ (nf : Nat) (i : Int) (lf : Int) (ν : St) (H : Heap) (locs : List Loc), (0 ≤ i ∧ i ≤ μ 12 0) → (k - i ≤ lf ∧ lf ≤ k) → (mOut μ k = if 0 ≤ k then moF μ (μ 12 0 - i).toNat i lf else -1) → (ν = up μ 0 0 0) → (μ 12 0 - i).toNat < nf → Wd D cl7 (wM ad ca) A s.heap ν H locs → ∀ ls : Array Slot, lv_has ls 4 [(3, .int (zI i)), (2, .int (zI lf)), (0, .ref (ad 100)), (1, .int (zI k))] → W p l e (Rmh 0) s m ([.ref (ad 100), .int (zI k)] : List Value).toArray below meth c H locs 0 0 (MQ below (Qw D cl7 (wM ad ca) A (RW (.int (zI (mOut μ k))) (up μ 0 0 0 = ·))) ([.ref (ad 100), .int (zI k)] : List Value).toArray s 0 0 A) (F0 m 9 ls []) := by
    intro nf
    induction nf with
    | zero => intro i lf ν H locs hi hlf hN hν hm; exact absurd hm (Nat.not_lt_zero _)
    | succ nf ih9 =>
      intro i lf ν H locs hi hlf hN hν hm9 hw ls hl
      subst hν
      have e12 : up μ 0 0 0 12 0 = μ 12 0 := up_o _ _ _ _ (by decide)
      have e15 : up μ 0 0 0 15 i = μ 15 i := up_o _ _ _ _ (by decide)
      refine lv_iload_n hx hb d_M_out_9 rfl (lv_at hl 0 rfl) ?_
      refine lv_aload_n hx hb d_M_out_10 rfl (lv_at hl 2 rfl) ?_
      refine gM_M_looked hc hw lk_M_91 d_M_out_11 ?_
      refine z_icmp_ge hx hb 54 d_M_out_14 (by omega) (by omega) (by decide) (fun c14 => ?_) (fun c14 => ?_)
      · refine z_ic hx hb d_M_out_54 ?_
        exact w_iret hc hw (⟨by rw [hN]; first | (rw [if_neg (by omega)]; done) | (rw [show (μ 12 0 - i).toNat = 0 by omega]; unfold moF; split <;> rfl), rfl⟩) d_M_out_55
      · refine lv_iload_n hx hb d_M_out_17 rfl (lv_at hl 3 rfl) ?_
        refine z_if_lt hx hb 54 d_M_out_18 (by omega) (by decide) (fun c18 => ?_) (fun c18 => ?_)
        · refine z_ic hx hb d_M_out_54 ?_
          exact w_iret hc hw (⟨by rw [hN]; first | (rw [if_neg (by omega)]; done) | (rw [show (μ 12 0 - i).toNat = 0 by omega]; unfold moF; split <;> rfl), rfl⟩) d_M_out_55
        · have q : (μ 12 0 - i).toNat = (μ 12 0 - (i + 1)).toNat + 1 := by omega
          have h15i := h15 i hi.1 (by omega)
          rw [q, moF_s, if_pos (by omega)] at hN
          refine lv_aload_n hx hb d_M_out_21 rfl (lv_at hl 2 rfl) ?_
          refine gM_M_best hc hw lk_M_39 d_M_out_22 ?_
          refine lv_iload_n hx hb d_M_out_25 rfl (lv_at hl 0 rfl) ?_
          refine ldM_M_best hc hw d_M_out_26 (by omega) ?_
          refine z_ic hx hb d_M_out_27 ?_
          refine z_icmp_ge hx hb 34 d_M_out_28 (by omega) (by omega) (by decide) (fun c28 => ?_) (fun c28 => ?_)
          · refine lv_iload_n hx hb d_M_out_34 rfl (lv_at hl 1 rfl) ?_
            refine z_if_ne hx hb 45 d_M_out_35 (by omega) (by decide) (fun c35 => ?_) (fun c35 => ?_)
            · refine z_iinc (k := 1) hx hb d_M_out_45 hl rfl (by decide) (fun x2_45 ex2_45 ls (hl : lv_has ls 4 [(2, .int (zI x2_45)), (3, .int (zI i)), (0, .ref (ad 100)), (1, .int (zI k))]) => ?_)
              refine z_iinc (k := 1) hx hb d_M_out_48 hl rfl (by decide) (fun x3_48 ex3_48 ls (hl : lv_has ls 4 [(3, .int (zI x3_48)), (2, .int (zI x2_45)), (0, .ref (ad 100)), (1, .int (zI k))]) => ?_)
              refine lv_goto (tgt := 9) hx hb d_M_out_51 (by decide) ?_
              exact ih9 x3_48 x2_45 _ _ _ (by omega) (by omega) (by rw [hN, ex3_48, if_pos c18]; first | (rw [if_pos (show μ 15 i < 3 by omega)]; done) | (rw [if_neg (show ¬ μ 15 i < 3 by omega), if_neg c35, ex2_45]; rfl)) (rfl) (by omega) hw ls (lv_sub hl [0, 1, 2, 3] rfl)
            · refine lv_aload_n hx hb d_M_out_38 rfl (lv_at hl 2 rfl) ?_
              refine gM_M_netAt hc hw lk_M_33 d_M_out_39 ?_
              refine lv_iload_n hx hb d_M_out_42 rfl (lv_at hl 0 rfl) ?_
              refine ldM_M_netAt hc hw d_M_out_43 (by omega) ?_
              exact w_iret hc hw (⟨by rw [hN, if_neg (by omega), if_pos c35]; rfl, rfl⟩) d_M_out_44
          · refine lv_goto (tgt := 48) hx hb d_M_out_31 (by decide) ?_
            refine z_iinc (k := 0) hx hb d_M_out_48 hl rfl (by decide) (fun x3_48 ex3_48 ls (hl : lv_has ls 4 [(3, .int (zI x3_48)), (2, .int (zI lf)), (0, .ref (ad 100)), (1, .int (zI k))]) => ?_)
            refine lv_goto (tgt := 9) hx hb d_M_out_51 (by decide) ?_
            exact ih9 x3_48 lf _ _ _ (by omega) (by omega) (by rw [hN, ex3_48, if_pos c18]; first | (rw [if_pos (show μ 15 i < 3 by omega)]; done) | (rw [if_neg (show ¬ μ 15 i < 3 by omega), if_neg c35, ex2_45]; rfl)) (rfl) (by omega) hw ls (lv_sub hl [0, 1, 2, 3] rfl)
  exact L9 _ x3_8 x2_6 _ _ _ (by omega) (by omega) (by rw [ex3_8, ex2_6, show (μ 12 0 - 0).toNat = (μ 12 0).toNat from (by omega)]; rfl) (rfl) (Nat.lt_succ_self _) hw ls (lv_sub hl [0, 1, 2, 3] rfl)
set_option maxHeartbeats 400000 in
set_option maxRecDepth 100000 in
theorem k_M_part {l : Launch} {D : va_G} {ad : Nat → Nat} {ca : Nat → ClassId} (μ : St) (a b lo hi : Int) (ha : r32 a) (hb2 : r32 b) (hlo : r64 lo) (hhi : r64 hi) (hI : 0 ≤ μ 1 0 ∧ μ 1 0 ≤ 12) (hC : ∀ i, 0 ≤ μ 19 i ∧ μ 19 i ≤ 4) : Cw l D cl7 (tyM ca) (wM ad ca) y_M_part c_M_part 9 (some .boolean) 1 [.ref (ad 100), .int (zI a), .int (zI b), .long (zL lo), .long (zL hi)] μ (RW (.int (zI (bI (mPaY μ a b lo hi)))) (mPart μ a b lo hi = ·)) := by
  have hCp := hC (mPr a b)
  refine Cw.enter (by decide) (Nat.le_of_ble_eq_true rfl) ?_
  intro A p e s m below meth c hc ls hl hw
  have hl : lv_has ls 9 [(0, .ref (ad 100)), (1, .int (zI a)), (2, .int (zI b)), (3, .long (zL lo)), (5, .long (zL hi))] := hl
  obtain ⟨hx, hb, hml, hown, hTB, hK, hr, hlk⟩ := id hc
  refine lv_lload_n hx hb d_M_part_0 rfl (lv_at hl 3 rfl) ?_
  refine z_lc1 hx hb d_M_part_1 ?_
  refine z_lcmp_lt hx hb 26 d_M_part_2 d_M_part_3 (by omega) (by omega) (by decide) (fun c2 => ?_) (fun c2 => ?_)
  · refine z_ic hx hb d_M_part_26 ?_
    refine z_ist hx hb d_M_part_27 hl (by decide) (fun x7_27 ex7_27 ls (hl : lv_has ls 9 [(7, .int (zI x7_27)), (0, .ref (ad 100)), (1, .int (zI a)), (2, .int (zI b)), (3, .long (zL lo)), (5, .long (zL hi))]) => ?_)
    refine lv_aload_n hx hb d_M_part_29 rfl (lv_at hl 1 rfl) ?_
    refine lv_aload_n hx hb d_M_part_30 rfl (lv_at hl 1 rfl) ?_
    refine lv_iload_n hx hb d_M_part_31 rfl (lv_at hl 2 rfl) ?_
    refine w_cvR (q0 := 0) hc hw (k_M_isNet _ _ (by omega) hI) yw_M_isNet yi_M_isNet lk_M_80 d_M_part_32 rfl rfl rfl rfl hl.1 (Nat.le_of_ble_eq_true rfl) ⟨Nat.le_of_ble_eq_true rfl, Nat.le_of_ble_eq_true rfl⟩ ⟨Nat.zero_le _, Nat.zero_le _⟩ (fun τ32 H locs hτ32 hw => ?_)
    subst hτ32
    refine z_ifb_eq hx hb 46 d_M_part_35 (by decide) (fun c35 => ?_) (fun c35 => ?_)
    · refine z_ic hx hb d_M_part_46 ?_
      refine lv_goto (tgt := 60) hx hb d_M_part_47 (by decide) ?_
      refine pM_M_thrown hc hw lk_M_60 d_M_part_60 (fun H locs hw => ?_)
      refine lv_aload_n hx hb d_M_part_63 rfl (lv_at hl 1 rfl) ?_
      refine gM_M_thrown hc hw lk_M_60 d_M_part_64 ?_
      simp only [up_s]
      refine z_if_ne hx hb 75 d_M_part_67 (by omega) (by decide) (fun c67 => ?_) (fun c67 => ?_)
      · refine z_ic hx hb d_M_part_75 ?_
        exact w_zret hc hw (by omega) (by (first | (have g : mPaT μ a b lo hi = 1 := (by unfold mPaT; rw [if_pos (by omega)])) | (have g : mPaT μ a b lo hi = 2 := (by unfold mPaT; rw [if_neg (fun z => z ⟨by omega, by omega⟩), if_neg (by omega)])) | (have g : mPaT μ a b lo hi = 0 := (by unfold mPaT; rw [if_neg (fun z => z ⟨by omega, by omega⟩), if_pos (by omega)]))); have z : ¬ mPaY μ a b lo hi := (fun q => by omega); unfold mPart; rw [bI_f z, if_neg z, g]; exact ⟨rfl, rfl⟩) d_M_part_76
      · exact absurd c67 (by omega)
    · refine lv_aload_n hx hb d_M_part_38 rfl (lv_at hl 1 rfl) ?_
      refine lv_iload_n hx hb d_M_part_39 rfl (lv_at hl 3 rfl) ?_
      refine w_cvR (q0 := 0) hc hw (k_M_isNet _ _ (by omega) hI) yw_M_isNet yi_M_isNet lk_M_80 d_M_part_40 rfl rfl rfl rfl hl.1 (Nat.le_of_ble_eq_true rfl) ⟨Nat.le_of_ble_eq_true rfl, Nat.le_of_ble_eq_true rfl⟩ ⟨Nat.zero_le _, Nat.zero_le _⟩ (fun τ40 H locs hτ40 hw => ?_)
      subst hτ40
      refine z_ifb_ne hx hb 50 d_M_part_43 (by decide) (fun c43 => ?_) (fun c43 => ?_)
      · refine lv_iload hx hb d_M_part_50 (lv_at hl 0 rfl) ?_
        refine z_if_eq hx hb 59 d_M_part_52 (by omega) (by decide) (fun c52 => ?_) (fun c52 => ?_)
        · refine z_ic hx hb d_M_part_59 ?_
          refine pM_M_thrown hc hw lk_M_60 d_M_part_60 (fun H locs hw => ?_)
          refine lv_aload_n hx hb d_M_part_63 rfl (lv_at hl 1 rfl) ?_
          refine gM_M_thrown hc hw lk_M_60 d_M_part_64 ?_
          simp only [up_s]
          refine z_if_ne hx hb 75 d_M_part_67 (by omega) (by decide) (fun c67 => ?_) (fun c67 => ?_)
          · refine z_ic hx hb d_M_part_75 ?_
            exact w_zret hc hw (by omega) (by (first | (have g : mPaT μ a b lo hi = 1 := (by unfold mPaT; rw [if_pos (by omega)])) | (have g : mPaT μ a b lo hi = 2 := (by unfold mPaT; rw [if_neg (fun z => z ⟨by omega, by omega⟩), if_neg (by omega)])) | (have g : mPaT μ a b lo hi = 0 := (by unfold mPaT; rw [if_neg (fun z => z ⟨by omega, by omega⟩), if_pos (by omega)]))); have z : ¬ mPaY μ a b lo hi := (fun q => by omega); unfold mPart; rw [bI_f z, if_neg z, g]; exact ⟨rfl, rfl⟩) d_M_part_76
          · exact absurd c67 (by omega)
        · exact absurd c52 (by omega)
      · refine z_ic hx hb d_M_part_46 ?_
        refine lv_goto (tgt := 60) hx hb d_M_part_47 (by decide) ?_
        refine pM_M_thrown hc hw lk_M_60 d_M_part_60 (fun H locs hw => ?_)
        refine lv_aload_n hx hb d_M_part_63 rfl (lv_at hl 1 rfl) ?_
        refine gM_M_thrown hc hw lk_M_60 d_M_part_64 ?_
        simp only [up_s]
        refine z_if_ne hx hb 75 d_M_part_67 (by omega) (by decide) (fun c67 => ?_) (fun c67 => ?_)
        · refine z_ic hx hb d_M_part_75 ?_
          exact w_zret hc hw (by omega) (by (first | (have g : mPaT μ a b lo hi = 1 := (by unfold mPaT; rw [if_pos (by omega)])) | (have g : mPaT μ a b lo hi = 2 := (by unfold mPaT; rw [if_neg (fun z => z ⟨by omega, by omega⟩), if_neg (by omega)])) | (have g : mPaT μ a b lo hi = 0 := (by unfold mPaT; rw [if_neg (fun z => z ⟨by omega, by omega⟩), if_pos (by omega)]))); have z : ¬ mPaY μ a b lo hi := (fun q => by omega); unfold mPart; rw [bI_f z, if_neg z, g]; exact ⟨rfl, rfl⟩) d_M_part_76
        · exact absurd c67 (by omega)
  · refine lv_lload_n hx hb d_M_part_6 rfl (lv_at hl 3 rfl) ?_
    refine lv_lload hx hb d_M_part_7 (lv_at hl 4 rfl) ?_
    refine z_lcmp_gt hx hb 26 d_M_part_9 d_M_part_10 (by omega) (by omega) (by decide) (fun c9 => ?_) (fun c9 => ?_)
    · refine z_ic hx hb d_M_part_26 ?_
      refine z_ist hx hb d_M_part_27 hl (by decide) (fun x7_27 ex7_27 ls (hl : lv_has ls 9 [(7, .int (zI x7_27)), (0, .ref (ad 100)), (1, .int (zI a)), (2, .int (zI b)), (3, .long (zL lo)), (5, .long (zL hi))]) => ?_)
      refine lv_aload_n hx hb d_M_part_29 rfl (lv_at hl 1 rfl) ?_
      refine lv_aload_n hx hb d_M_part_30 rfl (lv_at hl 1 rfl) ?_
      refine lv_iload_n hx hb d_M_part_31 rfl (lv_at hl 2 rfl) ?_
      refine w_cvR (q0 := 0) hc hw (k_M_isNet _ _ (by omega) hI) yw_M_isNet yi_M_isNet lk_M_80 d_M_part_32 rfl rfl rfl rfl hl.1 (Nat.le_of_ble_eq_true rfl) ⟨Nat.le_of_ble_eq_true rfl, Nat.le_of_ble_eq_true rfl⟩ ⟨Nat.zero_le _, Nat.zero_le _⟩ (fun τ32 H locs hτ32 hw => ?_)
      subst hτ32
      refine z_ifb_eq hx hb 46 d_M_part_35 (by decide) (fun c35 => ?_) (fun c35 => ?_)
      · refine z_ic hx hb d_M_part_46 ?_
        refine lv_goto (tgt := 60) hx hb d_M_part_47 (by decide) ?_
        refine pM_M_thrown hc hw lk_M_60 d_M_part_60 (fun H locs hw => ?_)
        refine lv_aload_n hx hb d_M_part_63 rfl (lv_at hl 1 rfl) ?_
        refine gM_M_thrown hc hw lk_M_60 d_M_part_64 ?_
        simp only [up_s]
        refine z_if_ne hx hb 75 d_M_part_67 (by omega) (by decide) (fun c67 => ?_) (fun c67 => ?_)
        · refine z_ic hx hb d_M_part_75 ?_
          exact w_zret hc hw (by omega) (by (first | (have g : mPaT μ a b lo hi = 1 := (by unfold mPaT; rw [if_pos (by omega)])) | (have g : mPaT μ a b lo hi = 2 := (by unfold mPaT; rw [if_neg (fun z => z ⟨by omega, by omega⟩), if_neg (by omega)])) | (have g : mPaT μ a b lo hi = 0 := (by unfold mPaT; rw [if_neg (fun z => z ⟨by omega, by omega⟩), if_pos (by omega)]))); have z : ¬ mPaY μ a b lo hi := (fun q => by omega); unfold mPart; rw [bI_f z, if_neg z, g]; exact ⟨rfl, rfl⟩) d_M_part_76
        · exact absurd c67 (by omega)
      · refine lv_aload_n hx hb d_M_part_38 rfl (lv_at hl 1 rfl) ?_
        refine lv_iload_n hx hb d_M_part_39 rfl (lv_at hl 3 rfl) ?_
        refine w_cvR (q0 := 0) hc hw (k_M_isNet _ _ (by omega) hI) yw_M_isNet yi_M_isNet lk_M_80 d_M_part_40 rfl rfl rfl rfl hl.1 (Nat.le_of_ble_eq_true rfl) ⟨Nat.le_of_ble_eq_true rfl, Nat.le_of_ble_eq_true rfl⟩ ⟨Nat.zero_le _, Nat.zero_le _⟩ (fun τ40 H locs hτ40 hw => ?_)
        subst hτ40
        refine z_ifb_ne hx hb 50 d_M_part_43 (by decide) (fun c43 => ?_) (fun c43 => ?_)
        · refine lv_iload hx hb d_M_part_50 (lv_at hl 0 rfl) ?_
          refine z_if_eq hx hb 59 d_M_part_52 (by omega) (by decide) (fun c52 => ?_) (fun c52 => ?_)
          · refine z_ic hx hb d_M_part_59 ?_
            refine pM_M_thrown hc hw lk_M_60 d_M_part_60 (fun H locs hw => ?_)
            refine lv_aload_n hx hb d_M_part_63 rfl (lv_at hl 1 rfl) ?_
            refine gM_M_thrown hc hw lk_M_60 d_M_part_64 ?_
            simp only [up_s]
            refine z_if_ne hx hb 75 d_M_part_67 (by omega) (by decide) (fun c67 => ?_) (fun c67 => ?_)
            · refine z_ic hx hb d_M_part_75 ?_
              exact w_zret hc hw (by omega) (by (first | (have g : mPaT μ a b lo hi = 1 := (by unfold mPaT; rw [if_pos (by omega)])) | (have g : mPaT μ a b lo hi = 2 := (by unfold mPaT; rw [if_neg (fun z => z ⟨by omega, by omega⟩), if_neg (by omega)])) | (have g : mPaT μ a b lo hi = 0 := (by unfold mPaT; rw [if_neg (fun z => z ⟨by omega, by omega⟩), if_pos (by omega)]))); have z : ¬ mPaY μ a b lo hi := (fun q => by omega); unfold mPart; rw [bI_f z, if_neg z, g]; exact ⟨rfl, rfl⟩) d_M_part_76
            · exact absurd c67 (by omega)
          · exact absurd c52 (by omega)
        · refine z_ic hx hb d_M_part_46 ?_
          refine lv_goto (tgt := 60) hx hb d_M_part_47 (by decide) ?_
          refine pM_M_thrown hc hw lk_M_60 d_M_part_60 (fun H locs hw => ?_)
          refine lv_aload_n hx hb d_M_part_63 rfl (lv_at hl 1 rfl) ?_
          refine gM_M_thrown hc hw lk_M_60 d_M_part_64 ?_
          simp only [up_s]
          refine z_if_ne hx hb 75 d_M_part_67 (by omega) (by decide) (fun c67 => ?_) (fun c67 => ?_)
          · refine z_ic hx hb d_M_part_75 ?_
            exact w_zret hc hw (by omega) (by (first | (have g : mPaT μ a b lo hi = 1 := (by unfold mPaT; rw [if_pos (by omega)])) | (have g : mPaT μ a b lo hi = 2 := (by unfold mPaT; rw [if_neg (fun z => z ⟨by omega, by omega⟩), if_neg (by omega)])) | (have g : mPaT μ a b lo hi = 0 := (by unfold mPaT; rw [if_neg (fun z => z ⟨by omega, by omega⟩), if_pos (by omega)]))); have z : ¬ mPaY μ a b lo hi := (fun q => by omega); unfold mPart; rw [bI_f z, if_neg z, g]; exact ⟨rfl, rfl⟩) d_M_part_76
          · exact absurd c67 (by omega)
    · refine lv_lload hx hb d_M_part_13 (lv_at hl 4 rfl) ?_
      refine z_ldc2 (n := 1000) hc lk_M_124 d_M_part_15 (by decide) ?_
      refine z_lcmp_gt hx hb 26 d_M_part_18 d_M_part_19 (by omega) (by omega) (by decide) (fun c18 => ?_) (fun c18 => ?_)
      · refine z_ic hx hb d_M_part_26 ?_
        refine z_ist hx hb d_M_part_27 hl (by decide) (fun x7_27 ex7_27 ls (hl : lv_has ls 9 [(7, .int (zI x7_27)), (0, .ref (ad 100)), (1, .int (zI a)), (2, .int (zI b)), (3, .long (zL lo)), (5, .long (zL hi))]) => ?_)
        refine lv_aload_n hx hb d_M_part_29 rfl (lv_at hl 1 rfl) ?_
        refine lv_aload_n hx hb d_M_part_30 rfl (lv_at hl 1 rfl) ?_
        refine lv_iload_n hx hb d_M_part_31 rfl (lv_at hl 2 rfl) ?_
        refine w_cvR (q0 := 0) hc hw (k_M_isNet _ _ (by omega) hI) yw_M_isNet yi_M_isNet lk_M_80 d_M_part_32 rfl rfl rfl rfl hl.1 (Nat.le_of_ble_eq_true rfl) ⟨Nat.le_of_ble_eq_true rfl, Nat.le_of_ble_eq_true rfl⟩ ⟨Nat.zero_le _, Nat.zero_le _⟩ (fun τ32 H locs hτ32 hw => ?_)
        subst hτ32
        refine z_ifb_eq hx hb 46 d_M_part_35 (by decide) (fun c35 => ?_) (fun c35 => ?_)
        · refine z_ic hx hb d_M_part_46 ?_
          refine lv_goto (tgt := 60) hx hb d_M_part_47 (by decide) ?_
          refine pM_M_thrown hc hw lk_M_60 d_M_part_60 (fun H locs hw => ?_)
          refine lv_aload_n hx hb d_M_part_63 rfl (lv_at hl 1 rfl) ?_
          refine gM_M_thrown hc hw lk_M_60 d_M_part_64 ?_
          simp only [up_s]
          refine z_if_ne hx hb 75 d_M_part_67 (by omega) (by decide) (fun c67 => ?_) (fun c67 => ?_)
          · refine z_ic hx hb d_M_part_75 ?_
            exact w_zret hc hw (by omega) (by (first | (have g : mPaT μ a b lo hi = 1 := (by unfold mPaT; rw [if_pos (by omega)])) | (have g : mPaT μ a b lo hi = 2 := (by unfold mPaT; rw [if_neg (fun z => z ⟨by omega, by omega⟩), if_neg (by omega)])) | (have g : mPaT μ a b lo hi = 0 := (by unfold mPaT; rw [if_neg (fun z => z ⟨by omega, by omega⟩), if_pos (by omega)]))); have z : ¬ mPaY μ a b lo hi := (fun q => by omega); unfold mPart; rw [bI_f z, if_neg z, g]; exact ⟨rfl, rfl⟩) d_M_part_76
          · exact absurd c67 (by omega)
        · refine lv_aload_n hx hb d_M_part_38 rfl (lv_at hl 1 rfl) ?_
          refine lv_iload_n hx hb d_M_part_39 rfl (lv_at hl 3 rfl) ?_
          refine w_cvR (q0 := 0) hc hw (k_M_isNet _ _ (by omega) hI) yw_M_isNet yi_M_isNet lk_M_80 d_M_part_40 rfl rfl rfl rfl hl.1 (Nat.le_of_ble_eq_true rfl) ⟨Nat.le_of_ble_eq_true rfl, Nat.le_of_ble_eq_true rfl⟩ ⟨Nat.zero_le _, Nat.zero_le _⟩ (fun τ40 H locs hτ40 hw => ?_)
          subst hτ40
          refine z_ifb_ne hx hb 50 d_M_part_43 (by decide) (fun c43 => ?_) (fun c43 => ?_)
          · refine lv_iload hx hb d_M_part_50 (lv_at hl 0 rfl) ?_
            refine z_if_eq hx hb 59 d_M_part_52 (by omega) (by decide) (fun c52 => ?_) (fun c52 => ?_)
            · refine z_ic hx hb d_M_part_59 ?_
              refine pM_M_thrown hc hw lk_M_60 d_M_part_60 (fun H locs hw => ?_)
              refine lv_aload_n hx hb d_M_part_63 rfl (lv_at hl 1 rfl) ?_
              refine gM_M_thrown hc hw lk_M_60 d_M_part_64 ?_
              simp only [up_s]
              refine z_if_ne hx hb 75 d_M_part_67 (by omega) (by decide) (fun c67 => ?_) (fun c67 => ?_)
              · refine z_ic hx hb d_M_part_75 ?_
                exact w_zret hc hw (by omega) (by (first | (have g : mPaT μ a b lo hi = 1 := (by unfold mPaT; rw [if_pos (by omega)])) | (have g : mPaT μ a b lo hi = 2 := (by unfold mPaT; rw [if_neg (fun z => z ⟨by omega, by omega⟩), if_neg (by omega)])) | (have g : mPaT μ a b lo hi = 0 := (by unfold mPaT; rw [if_neg (fun z => z ⟨by omega, by omega⟩), if_pos (by omega)]))); have z : ¬ mPaY μ a b lo hi := (fun q => by omega); unfold mPart; rw [bI_f z, if_neg z, g]; exact ⟨rfl, rfl⟩) d_M_part_76
              · exact absurd c67 (by omega)
            · exact absurd c52 (by omega)
          · refine z_ic hx hb d_M_part_46 ?_
            refine lv_goto (tgt := 60) hx hb d_M_part_47 (by decide) ?_
            refine pM_M_thrown hc hw lk_M_60 d_M_part_60 (fun H locs hw => ?_)
            refine lv_aload_n hx hb d_M_part_63 rfl (lv_at hl 1 rfl) ?_
            refine gM_M_thrown hc hw lk_M_60 d_M_part_64 ?_
            simp only [up_s]
            refine z_if_ne hx hb 75 d_M_part_67 (by omega) (by decide) (fun c67 => ?_) (fun c67 => ?_)
            · refine z_ic hx hb d_M_part_75 ?_
              exact w_zret hc hw (by omega) (by (first | (have g : mPaT μ a b lo hi = 1 := (by unfold mPaT; rw [if_pos (by omega)])) | (have g : mPaT μ a b lo hi = 2 := (by unfold mPaT; rw [if_neg (fun z => z ⟨by omega, by omega⟩), if_neg (by omega)])) | (have g : mPaT μ a b lo hi = 0 := (by unfold mPaT; rw [if_neg (fun z => z ⟨by omega, by omega⟩), if_pos (by omega)]))); have z : ¬ mPaY μ a b lo hi := (fun q => by omega); unfold mPart; rw [bI_f z, if_neg z, g]; exact ⟨rfl, rfl⟩) d_M_part_76
            · exact absurd c67 (by omega)
      · refine z_ic hx hb d_M_part_22 ?_
        refine lv_goto (tgt := 27) hx hb d_M_part_23 (by decide) ?_
        refine z_ist hx hb d_M_part_27 hl (by decide) (fun x7_27 ex7_27 ls (hl : lv_has ls 9 [(7, .int (zI x7_27)), (0, .ref (ad 100)), (1, .int (zI a)), (2, .int (zI b)), (3, .long (zL lo)), (5, .long (zL hi))]) => ?_)
        refine lv_aload_n hx hb d_M_part_29 rfl (lv_at hl 1 rfl) ?_
        refine lv_aload_n hx hb d_M_part_30 rfl (lv_at hl 1 rfl) ?_
        refine lv_iload_n hx hb d_M_part_31 rfl (lv_at hl 2 rfl) ?_
        refine w_cvR (q0 := 0) hc hw (k_M_isNet _ _ (by omega) hI) yw_M_isNet yi_M_isNet lk_M_80 d_M_part_32 rfl rfl rfl rfl hl.1 (Nat.le_of_ble_eq_true rfl) ⟨Nat.le_of_ble_eq_true rfl, Nat.le_of_ble_eq_true rfl⟩ ⟨Nat.zero_le _, Nat.zero_le _⟩ (fun τ32 H locs hτ32 hw => ?_)
        subst hτ32
        refine z_ifb_eq hx hb 46 d_M_part_35 (by decide) (fun c35 => ?_) (fun c35 => ?_)
        · refine z_ic hx hb d_M_part_46 ?_
          refine lv_goto (tgt := 60) hx hb d_M_part_47 (by decide) ?_
          refine pM_M_thrown hc hw lk_M_60 d_M_part_60 (fun H locs hw => ?_)
          refine lv_aload_n hx hb d_M_part_63 rfl (lv_at hl 1 rfl) ?_
          refine gM_M_thrown hc hw lk_M_60 d_M_part_64 ?_
          simp only [up_s]
          refine z_if_ne hx hb 75 d_M_part_67 (by omega) (by decide) (fun c67 => ?_) (fun c67 => ?_)
          · refine z_ic hx hb d_M_part_75 ?_
            exact w_zret hc hw (by omega) (by (first | (have g : mPaT μ a b lo hi = 1 := (by unfold mPaT; rw [if_pos (by omega)])) | (have g : mPaT μ a b lo hi = 2 := (by unfold mPaT; rw [if_neg (fun z => z ⟨by omega, by omega⟩), if_neg (by omega)])) | (have g : mPaT μ a b lo hi = 0 := (by unfold mPaT; rw [if_neg (fun z => z ⟨by omega, by omega⟩), if_pos (by omega)]))); have z : ¬ mPaY μ a b lo hi := (fun q => by omega); unfold mPart; rw [bI_f z, if_neg z, g]; exact ⟨rfl, rfl⟩) d_M_part_76
          · exact absurd c67 (by omega)
        · refine lv_aload_n hx hb d_M_part_38 rfl (lv_at hl 1 rfl) ?_
          refine lv_iload_n hx hb d_M_part_39 rfl (lv_at hl 3 rfl) ?_
          refine w_cvR (q0 := 0) hc hw (k_M_isNet _ _ (by omega) hI) yw_M_isNet yi_M_isNet lk_M_80 d_M_part_40 rfl rfl rfl rfl hl.1 (Nat.le_of_ble_eq_true rfl) ⟨Nat.le_of_ble_eq_true rfl, Nat.le_of_ble_eq_true rfl⟩ ⟨Nat.zero_le _, Nat.zero_le _⟩ (fun τ40 H locs hτ40 hw => ?_)
          subst hτ40
          refine z_ifb_ne hx hb 50 d_M_part_43 (by decide) (fun c43 => ?_) (fun c43 => ?_)
          · refine lv_iload hx hb d_M_part_50 (lv_at hl 0 rfl) ?_
            refine z_if_eq hx hb 59 d_M_part_52 (by omega) (by decide) (fun c52 => ?_) (fun c52 => ?_)
            · exact absurd c52 (by omega)
            · refine z_ic hx hb d_M_part_55 ?_
              refine lv_goto (tgt := 60) hx hb d_M_part_56 (by decide) ?_
              refine pM_M_thrown hc hw lk_M_60 d_M_part_60 (fun H locs hw => ?_)
              refine lv_aload_n hx hb d_M_part_63 rfl (lv_at hl 1 rfl) ?_
              refine gM_M_thrown hc hw lk_M_60 d_M_part_64 ?_
              simp only [up_s]
              refine z_if_ne hx hb 75 d_M_part_67 (by omega) (by decide) (fun c67 => ?_) (fun c67 => ?_)
              · exact absurd c67 (by omega)
              · refine lv_iload_n hx hb d_M_part_70 rfl (lv_at hl 2 rfl) ?_
                refine lv_iload_n hx hb d_M_part_71 rfl (lv_at hl 3 rfl) ?_
                refine z_icmp_ne hx hb 77 d_M_part_72 (by omega) (by omega) (by decide) (fun c72 => ?_) (fun c72 => ?_)
                · have g : mPaT μ a b lo hi = 0 := by unfold mPaT; rw [if_neg (fun z => z ⟨by omega, by omega⟩), if_pos (by omega)]
                  have hpr := mPr_bd (a := a) (b := b) (by omega) (by omega)
                  refine lv_iload_n hx hb d_M_part_77 rfl (lv_at hl 2 rfl) ?_
                  refine lv_iload_n hx hb d_M_part_78 rfl (lv_at hl 3 rfl) ?_
                  refine w_csR hc hw (k_M_pairOf _ _ _ ha hb2) yw_M_pairOf yi_M_pairOf lk_M_126 d_M_part_79 rfl rfl hl.1 (Nat.le_of_ble_eq_true rfl) ⟨Nat.le_of_ble_eq_true rfl, Nat.le_of_ble_eq_true rfl⟩ ⟨Nat.zero_le _, Nat.zero_le _⟩ (fun τ79 H locs hτ79 hw => ?_)
                  subst hτ79
                  refine z_ist hx hb d_M_part_82 hl (by decide) (fun x8_82 ex8_82 ls (hl : lv_has ls 9 [(8, .int (zI x8_82)), (7, .int (zI x7_27)), (0, .ref (ad 100)), (1, .int (zI a)), (2, .int (zI b)), (3, .long (zL lo)), (5, .long (zL hi))]) => ?_)
                  subst ex8_82
                  have e19 : up μ 0 0 0 19 (mPr a b) = μ 19 (mPr a b) := up_o _ _ _ _ (by decide)
                  refine lv_aload_n hx hb d_M_part_84 rfl (lv_at hl 2 rfl) ?_
                  refine gM_M_partCount hc hw lk_M_45 d_M_part_85 ?_
                  refine lv_iload hx hb d_M_part_88 (lv_at hl 0 rfl) ?_
                  refine ldM_M_partCount hc hw d_M_part_90 (by omega) ?_
                  refine z_ic hx hb d_M_part_91 ?_
                  refine z_icmp_ne hx hb 97 d_M_part_92 (by omega) (by omega) (by decide) (fun c92 => ?_) (fun c92 => ?_)
                  · refine lv_aload_n hx hb d_M_part_97 rfl (lv_at hl 2 rfl) ?_
                    refine gM_M_parts hc hw lk_M_48 d_M_part_98 ?_
                    refine z_bi hx hb d_M_part_101 (by decide) ?_
                    refine lv_iload hx hb d_M_part_103 (lv_at hl 0 rfl) ?_
                    refine z_imul hx hb d_M_part_105 ?_
                    refine z_ic hx hb d_M_part_106 ?_
                    refine lv_aload_n hx hb d_M_part_107 rfl (lv_at hl 2 rfl) ?_
                    refine gM_M_partCount hc hw lk_M_45 d_M_part_108 ?_
                    refine lv_iload hx hb d_M_part_111 (lv_at hl 0 rfl) ?_
                    refine ldM_M_partCount hc hw d_M_part_113 (by omega) ?_
                    refine z_imul hx hb d_M_part_114 ?_
                    refine z_iadd hx hb d_M_part_115 ?_
                    refine lv_lload_n hx hb d_M_part_116 rfl (lv_at hl 5 rfl) ?_
                    refine stM_M_parts hc hw d_M_part_117 (by show 0 ≤ 8 * mPr a b + 2 * μ 19 (mPr a b) ∧ 8 * mPr a b + 2 * μ 19 (mPr a b) < 1152; omega) (fun H locs hw => ?_)
                    refine lv_aload_n hx hb d_M_part_118 rfl (lv_at hl 2 rfl) ?_
                    refine gM_M_parts hc hw lk_M_48 d_M_part_119 ?_
                    refine z_bi hx hb d_M_part_122 (by decide) ?_
                    refine lv_iload hx hb d_M_part_124 (lv_at hl 0 rfl) ?_
                    refine z_imul hx hb d_M_part_126 ?_
                    refine z_ic hx hb d_M_part_127 ?_
                    refine lv_aload_n hx hb d_M_part_128 rfl (lv_at hl 2 rfl) ?_
                    refine gM_M_partCount hc hw lk_M_45 d_M_part_129 ?_
                    refine lv_iload hx hb d_M_part_132 (lv_at hl 0 rfl) ?_
                    refine ldM_M_partCount hc hw d_M_part_134 (by omega) ?_
                    refine z_imul hx hb d_M_part_135 ?_
                    refine z_iadd hx hb d_M_part_136 ?_
                    refine z_ic hx hb d_M_part_137 ?_
                    refine z_iadd hx hb d_M_part_138 ?_
                    refine lv_lload hx hb d_M_part_139 (lv_at hl 6 rfl) ?_
                    refine stM_M_parts hc hw d_M_part_141 (by show 0 ≤ 8 * mPr a b + 2 * μ 19 (mPr a b) + 1 ∧ 8 * mPr a b + 2 * μ 19 (mPr a b) + 1 < 1152; omega) (fun H locs hw => ?_)
                    refine lv_aload_n hx hb d_M_part_142 rfl (lv_at hl 2 rfl) ?_
                    refine gM_M_partCount hc hw lk_M_45 d_M_part_143 ?_
                    refine lv_iload hx hb d_M_part_146 (lv_at hl 0 rfl) ?_
                    refine lv_dup2_11 hx hb d_M_part_148 rfl rfl ?_
                    refine ldM_M_partCount hc hw d_M_part_149 (by omega) ?_
                    refine z_ic hx hb d_M_part_150 ?_
                    refine z_iadd hx hb d_M_part_151 ?_
                    refine stM_M_partCount hc hw d_M_part_152 (by omega) (fun H locs hw => ?_)
                    refine z_ic hx hb d_M_part_153 ?_
                    exact w_zret hc hw (by omega) (by have z : mPaY μ a b lo hi := ⟨g, c72, by omega⟩; unfold mPart; rw [bI_t z, if_pos z]; exact ⟨rfl, rfl⟩) d_M_part_154
                  · refine z_ic hx hb d_M_part_95 ?_
                    exact w_zret hc hw (by omega) (by have z : ¬ mPaY μ a b lo hi := (fun q => q.2.2 (by omega)); unfold mPart; rw [bI_f z, if_neg z, g]; exact ⟨rfl, rfl⟩) d_M_part_96
                · refine z_ic hx hb d_M_part_75 ?_
                  exact w_zret hc hw (by omega) (by (first | (have g : mPaT μ a b lo hi = 1 := (by unfold mPaT; rw [if_pos (by omega)])) | (have g : mPaT μ a b lo hi = 2 := (by unfold mPaT; rw [if_neg (fun z => z ⟨by omega, by omega⟩), if_neg (by omega)])) | (have g : mPaT μ a b lo hi = 0 := (by unfold mPaT; rw [if_neg (fun z => z ⟨by omega, by omega⟩), if_pos (by omega)]))); have z : ¬ mPaY μ a b lo hi := (fun q => by omega); unfold mPart; rw [bI_f z, if_neg z, g]; exact ⟨rfl, rfl⟩) d_M_part_76
          · refine z_ic hx hb d_M_part_46 ?_
            refine lv_goto (tgt := 60) hx hb d_M_part_47 (by decide) ?_
            refine pM_M_thrown hc hw lk_M_60 d_M_part_60 (fun H locs hw => ?_)
            refine lv_aload_n hx hb d_M_part_63 rfl (lv_at hl 1 rfl) ?_
            refine gM_M_thrown hc hw lk_M_60 d_M_part_64 ?_
            simp only [up_s]
            refine z_if_ne hx hb 75 d_M_part_67 (by omega) (by decide) (fun c67 => ?_) (fun c67 => ?_)
            · refine z_ic hx hb d_M_part_75 ?_
              exact w_zret hc hw (by omega) (by (first | (have g : mPaT μ a b lo hi = 1 := (by unfold mPaT; rw [if_pos (by omega)])) | (have g : mPaT μ a b lo hi = 2 := (by unfold mPaT; rw [if_neg (fun z => z ⟨by omega, by omega⟩), if_neg (by omega)])) | (have g : mPaT μ a b lo hi = 0 := (by unfold mPaT; rw [if_neg (fun z => z ⟨by omega, by omega⟩), if_pos (by omega)]))); have z : ¬ mPaY μ a b lo hi := (fun q => by omega); unfold mPart; rw [bI_f z, if_neg z, g]; exact ⟨rfl, rfl⟩) d_M_part_76
            · exact absurd c67 (by omega)
set_option maxHeartbeats 400000 in
set_option maxRecDepth 100000 in
theorem k_M_guard {l : Launch} {D : va_G} {ad : Nat → Nat} {ca : Nat → ClassId} (μ : St) (a b k : Int) (ha : r32 a) (hb2 : r32 b) (hk : r32 k) (hI : 0 ≤ μ 1 0 ∧ μ 1 0 ≤ 12) (hC : ∀ i, 0 ≤ μ 19 i ∧ μ 19 i ≤ 4) : Cw l D cl7 (tyM ca) (wM ad ca) y_M_guard c_M_guard 6 (some .int) 2 [.ref (ad 100), .int (zI a), .int (zI b), .int (zI k)] μ (RW (.int (zI (mGdR μ a b k))) (up μ 0 0 (if twoN μ a b then 0 else 1) = ·)) := by
  refine Cw.enter (by decide) (Nat.le_of_ble_eq_true rfl) ?_
  intro A p e s m below meth c hc ls hl hw
  have hl : lv_has ls 6 [(0, .ref (ad 100)), (1, .int (zI a)), (2, .int (zI b)), (3, .int (zI k))] := hl
  obtain ⟨hx, hb, hml, hown, hTB, hK, hr, hlk⟩ := id hc
  refine lv_aload_n hx hb d_M_guard_0 rfl (lv_at hl 0 rfl) ?_
  refine lv_aload_n hx hb d_M_guard_1 rfl (lv_at hl 0 rfl) ?_
  refine lv_iload_n hx hb d_M_guard_2 rfl (lv_at hl 1 rfl) ?_
  refine w_cvR (q0 := 0) hc hw (k_M_isNet _ _ (by omega) hI) yw_M_isNet yi_M_isNet lk_M_80 d_M_guard_3 rfl rfl rfl rfl hl.1 (Nat.le_of_ble_eq_true rfl) ⟨Nat.le_of_ble_eq_true rfl, Nat.le_of_ble_eq_true rfl⟩ ⟨Nat.zero_le _, Nat.zero_le _⟩ (fun τ3 H locs hτ3 hw => ?_)
  subst hτ3
  refine z_ifb_eq hx hb 21 d_M_guard_6 (by decide) (fun c6 => ?_) (fun c6 => ?_)
  · refine z_ic hx hb d_M_guard_21 ?_
    refine pM_M_thrown hc hw lk_M_60 d_M_guard_22 (fun H locs hw => ?_)
    refine lv_aload_n hx hb d_M_guard_25 rfl (lv_at hl 0 rfl) ?_
    refine gM_M_thrown hc hw lk_M_60 d_M_guard_26 ?_
    simp only [up_s]
    refine z_if_eq hx hb 34 d_M_guard_29 (by omega) (by decide) (fun c29 => ?_) (fun c29 => ?_)
    · exact absurd c29 (by omega)
    · refine z_ic hx hb d_M_guard_32 ?_
      exact w_iret hc hw (by have z : ¬ twoN μ a b := (fun q => by omega); unfold mGdR; rw [if_pos z, if_neg z]; exact ⟨rfl, rfl⟩) d_M_guard_33
  · refine lv_aload_n hx hb d_M_guard_9 rfl (lv_at hl 0 rfl) ?_
    refine lv_iload_n hx hb d_M_guard_10 rfl (lv_at hl 2 rfl) ?_
    refine w_cvR (q0 := 0) hc hw (k_M_isNet _ _ (by omega) hI) yw_M_isNet yi_M_isNet lk_M_80 d_M_guard_11 rfl rfl rfl rfl hl.1 (Nat.le_of_ble_eq_true rfl) ⟨Nat.le_of_ble_eq_true rfl, Nat.le_of_ble_eq_true rfl⟩ ⟨Nat.zero_le _, Nat.zero_le _⟩ (fun τ11 H locs hτ11 hw => ?_)
    subst hτ11
    refine z_ifb_eq hx hb 21 d_M_guard_14 (by decide) (fun c14 => ?_) (fun c14 => ?_)
    · refine z_ic hx hb d_M_guard_21 ?_
      refine pM_M_thrown hc hw lk_M_60 d_M_guard_22 (fun H locs hw => ?_)
      refine lv_aload_n hx hb d_M_guard_25 rfl (lv_at hl 0 rfl) ?_
      refine gM_M_thrown hc hw lk_M_60 d_M_guard_26 ?_
      simp only [up_s]
      refine z_if_eq hx hb 34 d_M_guard_29 (by omega) (by decide) (fun c29 => ?_) (fun c29 => ?_)
      · exact absurd c29 (by omega)
      · refine z_ic hx hb d_M_guard_32 ?_
        exact w_iret hc hw (by have z : ¬ twoN μ a b := (fun q => by omega); unfold mGdR; rw [if_pos z, if_neg z]; exact ⟨rfl, rfl⟩) d_M_guard_33
    · refine z_ic hx hb d_M_guard_17 ?_
      refine lv_goto (tgt := 22) hx hb d_M_guard_18 (by decide) ?_
      refine pM_M_thrown hc hw lk_M_60 d_M_guard_22 (fun H locs hw => ?_)
      refine lv_aload_n hx hb d_M_guard_25 rfl (lv_at hl 0 rfl) ?_
      refine gM_M_thrown hc hw lk_M_60 d_M_guard_26 ?_
      simp only [up_s]
      refine z_if_eq hx hb 34 d_M_guard_29 (by omega) (by decide) (fun c29 => ?_) (fun c29 => ?_)
      · refine lv_iload_n hx hb d_M_guard_34 rfl (lv_at hl 3 rfl) ?_
        refine z_ist hx hb d_M_guard_35 hl (by decide) (fun x4_35 ex4_35 ls (hl : lv_has ls 6 [(4, .int (zI x4_35)), (0, .ref (ad 100)), (1, .int (zI a)), (2, .int (zI b)), (3, .int (zI k))]) => ?_)
        refine z_ic hx hb d_M_guard_37 ?_
        refine z_ist hx hb d_M_guard_38 hl (by decide) (fun x5_38 ex5_38 ls (hl : lv_has ls 6 [(5, .int (zI x5_38)), (4, .int (zI x4_35)), (0, .ref (ad 100)), (1, .int (zI a)), (2, .int (zI b)), (3, .int (zI k))]) => ?_)
        have L40 : ∀ (nf : Nat) (n : Int) (lf : Int) (ν : St) (H : Heap) (locs : List Loc), (0 ≤ n ∧ n ≤ μ 1 0) → (k - n ≤ lf ∧ lf ≤ k) → (mGdR μ a b k = if 0 ≤ k then gdF μ a b (μ 1 0 - n).toNat n lf else -1) → (ν = up μ 0 0 0) → (μ 1 0 - n).toNat < nf → Wd D cl7 (wM ad ca) A s.heap ν H locs → ∀ ls : Array Slot, lv_has ls 6 [(5, .int (zI n)), (4, .int (zI lf)), (0, .ref (ad 100)), (1, .int (zI a)), (2, .int (zI b)), (3, .int (zI k))] → W p l e (Rmh 2) s m ([.ref (ad 100), .int (zI a), .int (zI b), .int (zI k)] : List Value).toArray below meth c H locs 0 0 (MQ below (Qw D cl7 (wM ad ca) A (RW (.int (zI (mGdR μ a b k))) (up μ 0 0 (if twoN μ a b then 0 else 1) = ·))) ([.ref (ad 100), .int (zI a), .int (zI b), .int (zI k)] : List Value).toArray s 0 0 A) (F0 m 40 ls []) := by
          intro nf
          induction nf with
          | zero => intro n lf ν H locs hn hlf hN hν hm; exact absurd hm (Nat.not_lt_zero _)
          | succ nf ih40 =>
            intro n lf ν H locs hn hlf hN hν hm40 hw ls hl
            subst hν
            have e1 : up μ 0 0 0 1 0 = μ 1 0 := up_o _ _ _ _ (by decide)
            refine lv_iload hx hb d_M_guard_40 (lv_at hl 0 rfl) ?_
            refine lv_aload_n hx hb d_M_guard_42 rfl (lv_at hl 2 rfl) ?_
            refine gM_M_nets hc hw lk_M_64 d_M_guard_43 ?_
            refine z_icmp_ge hx hb 105 d_M_guard_46 (by omega) (by omega) (by decide) (fun c46 => ?_) (fun c46 => ?_)
            · refine z_ic hx hb d_M_guard_105 ?_
              exact w_iret hc hw (⟨by rw [hN]; first | (rw [if_neg (by omega)]; done) | (rw [show (μ 1 0 - n).toNat = 0 by omega]; unfold gdF; split <;> rfl), by rw [if_pos ⟨c6, c14⟩]⟩) d_M_guard_106
            · refine lv_iload_n hx hb d_M_guard_49 rfl (lv_at hl 5 rfl) ?_
              refine z_if_lt hx hb 105 d_M_guard_50 (by omega) (by decide) (fun c50 => ?_) (fun c50 => ?_)
              · refine z_ic hx hb d_M_guard_105 ?_
                exact w_iret hc hw (⟨by rw [hN]; first | (rw [if_neg (by omega)]; done) | (rw [show (μ 1 0 - n).toNat = 0 by omega]; unfold gdF; split <;> rfl), by rw [if_pos ⟨c6, c14⟩]⟩) d_M_guard_106
              · have q : (μ 1 0 - n).toNat = (μ 1 0 - (n + 1)).toNat + 1 := by omega
                rw [q, gdF_s, if_pos (by omega)] at hN
                refine lv_iload hx hb d_M_guard_53 (lv_at hl 0 rfl) ?_
                refine lv_iload_n hx hb d_M_guard_55 rfl (lv_at hl 3 rfl) ?_
                refine z_icmp_eq hx hb 99 d_M_guard_56 (by omega) (by omega) (by decide) (fun c56 => ?_) (fun c56 => ?_)
                · refine z_iinc (k := 0) hx hb d_M_guard_99 hl rfl (by decide) (fun x5_99 ex5_99 ls (hl : lv_has ls 6 [(5, .int (zI x5_99)), (4, .int (zI lf)), (0, .ref (ad 100)), (1, .int (zI a)), (2, .int (zI b)), (3, .int (zI k))]) => ?_)
                  refine lv_goto (tgt := 40) hx hb d_M_guard_102 (by decide) ?_
                  exact ih40 x5_99 lf _ _ _ (by omega) (by omega) (by rw [hN, ex5_99, if_pos c50]; first | (rw [if_pos (fun z => z.1 c56)]; done) | (rw [if_pos (fun z => z.2.1 c62)]; done) | (rw [if_pos (fun z => c72 z.2.2.1)]; done) | (rw [if_pos (fun z => c82 z.2.2.2)]; done) | (rw [if_neg (fun z => z ⟨c56, c62, c72, c82⟩), if_neg c90, ex4_96]; rfl)) (rfl) (by omega) hw ls (lv_sub hl [0, 1, 2, 3, 4, 5] rfl)
                · refine lv_iload hx hb d_M_guard_59 (lv_at hl 0 rfl) ?_
                  refine lv_iload_n hx hb d_M_guard_61 rfl (lv_at hl 4 rfl) ?_
                  refine z_icmp_eq hx hb 99 d_M_guard_62 (by omega) (by omega) (by decide) (fun c62 => ?_) (fun c62 => ?_)
                  · refine z_iinc (k := 0) hx hb d_M_guard_99 hl rfl (by decide) (fun x5_99 ex5_99 ls (hl : lv_has ls 6 [(5, .int (zI x5_99)), (4, .int (zI lf)), (0, .ref (ad 100)), (1, .int (zI a)), (2, .int (zI b)), (3, .int (zI k))]) => ?_)
                    refine lv_goto (tgt := 40) hx hb d_M_guard_102 (by decide) ?_
                    exact ih40 x5_99 lf _ _ _ (by omega) (by omega) (by rw [hN, ex5_99, if_pos c50]; first | (rw [if_pos (fun z => z.1 c56)]; done) | (rw [if_pos (fun z => z.2.1 c62)]; done) | (rw [if_pos (fun z => c72 z.2.2.1)]; done) | (rw [if_pos (fun z => c82 z.2.2.2)]; done) | (rw [if_neg (fun z => z ⟨c56, c62, c72, c82⟩), if_neg c90, ex4_96]; rfl)) (rfl) (by omega) hw ls (lv_sub hl [0, 1, 2, 3, 4, 5] rfl)
                  · refine lv_aload_n hx hb d_M_guard_65 rfl (lv_at hl 2 rfl) ?_
                    refine lv_iload hx hb d_M_guard_66 (lv_at hl 0 rfl) ?_
                    refine lv_iload_n hx hb d_M_guard_68 rfl (lv_at hl 3 rfl) ?_
                    refine w_cvR (q0 := 0) hc hw (k_M_haveParts (up μ 0 0 0) _ _ (by omega) (by omega) hC) yw_M_haveParts yi_M_haveParts lk_M_129 d_M_guard_69 rfl rfl rfl rfl hl.1 (Nat.le_of_ble_eq_true rfl) ⟨Nat.le_of_ble_eq_true rfl, Nat.le_of_ble_eq_true rfl⟩ ⟨Nat.zero_le _, Nat.zero_le _⟩ (fun τ69 H locs hτ69 hw => ?_)
                    subst hτ69
                    refine z_ifb_eq hx hb 99 d_M_guard_72 (by decide) (fun c72 => ?_) (fun c72 => ?_)
                    · refine z_iinc (k := 0) hx hb d_M_guard_99 hl rfl (by decide) (fun x5_99 ex5_99 ls (hl : lv_has ls 6 [(5, .int (zI x5_99)), (4, .int (zI lf)), (0, .ref (ad 100)), (1, .int (zI a)), (2, .int (zI b)), (3, .int (zI k))]) => ?_)
                      refine lv_goto (tgt := 40) hx hb d_M_guard_102 (by decide) ?_
                      exact ih40 x5_99 lf _ _ _ (by omega) (by omega) (by rw [hN, ex5_99, if_pos c50]; first | (rw [if_pos (fun z => z.1 c56)]; done) | (rw [if_pos (fun z => z.2.1 c62)]; done) | (rw [if_pos (fun z => c72 z.2.2.1)]; done) | (rw [if_pos (fun z => c82 z.2.2.2)]; done) | (rw [if_neg (fun z => z ⟨c56, c62, c72, c82⟩), if_neg c90, ex4_96]; rfl)) (rfl) (by omega) hw ls (lv_sub hl [0, 1, 2, 3, 4, 5] rfl)
                    · refine lv_aload_n hx hb d_M_guard_75 rfl (lv_at hl 2 rfl) ?_
                      refine lv_iload hx hb d_M_guard_76 (lv_at hl 0 rfl) ?_
                      refine lv_iload_n hx hb d_M_guard_78 rfl (lv_at hl 4 rfl) ?_
                      refine w_cvR (q0 := 0) hc hw (k_M_haveParts (up μ 0 0 0) _ _ (by omega) (by omega) hC) yw_M_haveParts yi_M_haveParts lk_M_129 d_M_guard_79 rfl rfl rfl rfl hl.1 (Nat.le_of_ble_eq_true rfl) ⟨Nat.le_of_ble_eq_true rfl, Nat.le_of_ble_eq_true rfl⟩ ⟨Nat.zero_le _, Nat.zero_le _⟩ (fun τ79 H locs hτ79 hw => ?_)
                      subst hτ79
                      refine z_ifb_ne hx hb 88 d_M_guard_82 (by decide) (fun c82 => ?_) (fun c82 => ?_)
                      · refine lv_iload hx hb d_M_guard_88 (lv_at hl 1 rfl) ?_
                        refine z_if_ne hx hb 96 d_M_guard_90 (by omega) (by decide) (fun c90 => ?_) (fun c90 => ?_)
                        · refine z_iinc (k := 1) hx hb d_M_guard_96 hl rfl (by decide) (fun x4_96 ex4_96 ls (hl : lv_has ls 6 [(4, .int (zI x4_96)), (5, .int (zI n)), (0, .ref (ad 100)), (1, .int (zI a)), (2, .int (zI b)), (3, .int (zI k))]) => ?_)
                          refine z_iinc (k := 1) hx hb d_M_guard_99 hl rfl (by decide) (fun x5_99 ex5_99 ls (hl : lv_has ls 6 [(5, .int (zI x5_99)), (4, .int (zI x4_96)), (0, .ref (ad 100)), (1, .int (zI a)), (2, .int (zI b)), (3, .int (zI k))]) => ?_)
                          refine lv_goto (tgt := 40) hx hb d_M_guard_102 (by decide) ?_
                          exact ih40 x5_99 x4_96 _ _ _ (by omega) (by omega) (by rw [hN, ex5_99, if_pos c50]; first | (rw [if_pos (fun z => z.1 c56)]; done) | (rw [if_pos (fun z => z.2.1 c62)]; done) | (rw [if_pos (fun z => c72 z.2.2.1)]; done) | (rw [if_pos (fun z => c82 z.2.2.2)]; done) | (rw [if_neg (fun z => z ⟨c56, c62, c72, c82⟩), if_neg c90, ex4_96]; rfl)) (rfl) (by omega) hw ls (lv_sub hl [0, 1, 2, 3, 4, 5] rfl)
                        · refine lv_iload hx hb d_M_guard_93 (lv_at hl 0 rfl) ?_
                          exact w_iret hc hw (⟨by rw [hN, if_neg (fun z => z ⟨c56, c62, c72, c82⟩), if_pos c90], by rw [if_pos ⟨c6, c14⟩]⟩) d_M_guard_95
                      · refine lv_goto (tgt := 99) hx hb d_M_guard_85 (by decide) ?_
                        refine z_iinc (k := 0) hx hb d_M_guard_99 hl rfl (by decide) (fun x5_99 ex5_99 ls (hl : lv_has ls 6 [(5, .int (zI x5_99)), (4, .int (zI lf)), (0, .ref (ad 100)), (1, .int (zI a)), (2, .int (zI b)), (3, .int (zI k))]) => ?_)
                        refine lv_goto (tgt := 40) hx hb d_M_guard_102 (by decide) ?_
                        exact ih40 x5_99 lf _ _ _ (by omega) (by omega) (by rw [hN, ex5_99, if_pos c50]; first | (rw [if_pos (fun z => z.1 c56)]; done) | (rw [if_pos (fun z => z.2.1 c62)]; done) | (rw [if_pos (fun z => c72 z.2.2.1)]; done) | (rw [if_pos (fun z => c82 z.2.2.2)]; done) | (rw [if_neg (fun z => z ⟨c56, c62, c72, c82⟩), if_neg c90, ex4_96]; rfl)) (rfl) (by omega) hw ls (lv_sub hl [0, 1, 2, 3, 4, 5] rfl)
        exact L40 _ x5_38 x4_35 _ _ _ (by omega) (by omega) (by rw [ex5_38, ex4_35, show (μ 1 0 - 0).toNat = (μ 1 0).toNat from (by omega)]; unfold mGdR; rw [if_neg (fun z => z ⟨c6, c14⟩)]) (rfl) (Nat.lt_succ_self _) hw ls (lv_sub hl [0, 1, 2, 3, 4, 5] rfl)
      · exact absurd c29 (by omega)
set_option maxHeartbeats 400000 in
set_option maxRecDepth 100000 in
theorem k_M_placed {l : Launch} {D : va_G} {ad : Nat → Nat} {ca : Nat → ClassId} (μ : St) (k : Int) (hk : r32 k) (hI : IMB μ) (hn : 0 ≤ μ 17 0 ∧ μ 17 0 ≤ 8) (hP : ∀ i, 0 ≤ i → i < μ 17 0 → 0 ≤ μ 18 i ∧ μ 18 i < 36) : Cw l D cl7 (tyM ca) (wM ad ca) y_M_placed c_M_placed 5 (some .int) 1 [.ref (ad 100), .int (zI k)] μ (RW (.int (zI (plc μ k))) (μ = ·)) := by
  refine Cw.enter (by decide) (Nat.le_of_ble_eq_true rfl) ?_
  intro A p e s m below meth c hc ls hl hw
  have hl : lv_has ls 5 [(0, .ref (ad 100)), (1, .int (zI k))] := hl
  obtain ⟨hx, hb, hml, hown, hTB, hK, hr, hlk⟩ := id hc
  refine z_ic hx hb d_M_placed_0 ?_
  refine z_ist_n hx hb d_M_placed_1 rfl hl (by decide) (fun x2_1 ex2_1 ls (hl : lv_has ls 5 [(2, .int (zI x2_1)), (0, .ref (ad 100)), (1, .int (zI k))]) => ?_)
  have L2 : ∀ (nf : Nat) (i : Int) (H : Heap) (locs : List Loc), (0 ≤ i ∧ i ≤ μ 17 0) → (plc μ k = plF μ k (μ 17 0 - i).toNat i) → (μ 17 0 - i).toNat < nf → Wd D cl7 (wM ad ca) A s.heap μ H locs → ∀ ls : Array Slot, lv_has ls 5 [(2, .int (zI i)), (0, .ref (ad 100)), (1, .int (zI k))] → W p l e (Rmh 1) s m ([.ref (ad 100), .int (zI k)] : List Value).toArray below meth c H locs 0 0 (MQ below (Qw D cl7 (wM ad ca) A (RW (.int (zI (plc μ k))) (μ = ·))) ([.ref (ad 100), .int (zI k)] : List Value).toArray s 0 0 A) (F0 m 2 ls []) := by
    intro nf
    induction nf with
    | zero => intro i  H locs hi hN hm; exact absurd hm (Nat.not_lt_zero _)
    | succ nf ih2 =>
      intro i  H locs hi hN hm2 hw ls hl
      refine lv_iload_n hx hb d_M_placed_2 rfl (lv_at hl 0 rfl) ?_
      refine lv_aload_n hx hb d_M_placed_3 rfl (lv_at hl 1 rfl) ?_
      refine gM_M_probes hc hw lk_M_121 d_M_placed_4 ?_
      refine z_icmp_ge hx hb 82 d_M_placed_7 (by omega) (by omega) (by decide) (fun c7 => ?_) (fun c7 => ?_)
      · refine z_ic hx hb d_M_placed_82 ?_
        exact w_iret hc hw (⟨by rw [hN, show (μ 17 0 - i).toNat = 0 by omega]; rfl, rfl⟩) d_M_placed_83
      · have q : (μ 17 0 - i).toNat = (μ 17 0 - (i + 1)).toNat + 1 := by omega
        rw [q, plF_s] at hN
        have hPi := hP i hi.1 (by omega)
        refine z_ic hx hb d_M_placed_10 ?_
        refine z_ist_n hx hb d_M_placed_11 rfl hl (by decide) (fun x3_11 ex3_11 ls (hl : lv_has ls 5 [(3, .int (zI x3_11)), (2, .int (zI i)), (0, .ref (ad 100)), (1, .int (zI k))]) => ?_)
        refine z_ic hx hb d_M_placed_12 ?_
        refine z_ist hx hb d_M_placed_13 hl (by decide) (fun x4_13 ex4_13 ls (hl : lv_has ls 5 [(4, .int (zI x4_13)), (3, .int (zI x3_11)), (2, .int (zI i)), (0, .ref (ad 100)), (1, .int (zI k))]) => ?_)
        have L15 : ∀ (nf : Nat) (j : Int) (t : Int) (H : Heap) (locs : List Loc), (0 ≤ j ∧ j ≤ μ 17 0) → (0 ≤ t ∧ t ≤ j) → (ahd μ i = ahF μ i (μ 17 0 - j).toNat j t) → (μ 17 0 - j).toNat < nf → Wd D cl7 (wM ad ca) A s.heap μ H locs → ∀ ls : Array Slot, lv_has ls 5 [(4, .int (zI j)), (3, .int (zI t)), (2, .int (zI i)), (0, .ref (ad 100)), (1, .int (zI k))] → W p l e (Rmh 1) s m ([.ref (ad 100), .int (zI k)] : List Value).toArray below meth c H locs 0 0 (MQ below (Qw D cl7 (wM ad ca) A (RW (.int (zI (plc μ k))) (μ = ·))) ([.ref (ad 100), .int (zI k)] : List Value).toArray s 0 0 A) (F0 m 15 ls []) := by
          intro nf
          induction nf with
          | zero => intro j t  H locs hj ht hM hm; exact absurd hm (Nat.not_lt_zero _)
          | succ nf ih15 =>
            intro j t  H locs hj ht hM hm15 hw ls hl
            refine lv_iload hx hb d_M_placed_15 (lv_at hl 0 rfl) ?_
            refine lv_aload_n hx hb d_M_placed_17 rfl (lv_at hl 3 rfl) ?_
            refine gM_M_probes hc hw lk_M_121 d_M_placed_18 ?_
            refine z_icmp_ge hx hb 64 d_M_placed_21 (by omega) (by omega) (by decide) (fun c21 => ?_) (fun c21 => ?_)
            · have hA : ahd μ i = t := by rw [hM, show (μ 17 0 - j).toNat = 0 by omega]; rfl
              refine lv_iload_n hx hb d_M_placed_64 rfl (lv_at hl 1 rfl) ?_
              refine lv_iload_n hx hb d_M_placed_65 rfl (lv_at hl 4 rfl) ?_
              refine z_icmp_ne hx hb 76 d_M_placed_66 (by omega) (by omega) (by decide) (fun c66 => ?_) (fun c66 => ?_)
              · refine z_iinc (k := 2) hx hb d_M_placed_76 hl rfl (by decide) (fun x2_76 ex2_76 ls (hl : lv_has ls 5 [(2, .int (zI x2_76)), (4, .int (zI j)), (3, .int (zI t)), (0, .ref (ad 100)), (1, .int (zI k))]) => ?_)
                refine lv_goto (tgt := 2) hx hb d_M_placed_79 (by decide) ?_
                exact ih2 x2_76 _ _ (by omega) (by rw [hN, hA, if_neg c66, ex2_76]) (by omega) hw ls (lv_sub hl [0, 3, 4] rfl)
              · refine lv_aload_n hx hb d_M_placed_69 rfl (lv_at hl 3 rfl) ?_
                refine gM_M_probe hc hw lk_M_42 d_M_placed_70 ?_
                refine lv_iload_n hx hb d_M_placed_73 rfl (lv_at hl 2 rfl) ?_
                refine ldM_M_probe hc hw d_M_placed_74 (by omega) ?_
                exact w_iret hc hw (⟨by rw [hN, hA, if_pos c66], rfl⟩) d_M_placed_75
            · have q2 : (μ 17 0 - j).toNat = (μ 17 0 - (j + 1)).toNat + 1 := by omega
              rw [q2, ahF_s] at hM
              have hPj := hP j hj.1 (by omega)
              refine lv_iload_n hx hb d_M_placed_24 rfl (lv_at hl 1 rfl) ?_
              refine lv_iload_n hx hb d_M_placed_25 rfl (lv_at hl 2 rfl) ?_
              refine lv_iload hx hb d_M_placed_26 (lv_at hl 0 rfl) ?_
              refine z_icmp_eq hx hb 55 d_M_placed_28 (by omega) (by omega) (by decide) (fun c28 => ?_) (fun c28 => ?_)
              · refine z_ic hx hb d_M_placed_55 ?_
                refine z_iadd hx hb d_M_placed_56 ?_
                refine z_ist_n hx hb d_M_placed_57 rfl hl (by decide) (fun x3_57 ex3_57 ls (hl : lv_has ls 5 [(3, .int (zI x3_57)), (4, .int (zI j)), (2, .int (zI i)), (0, .ref (ad 100)), (1, .int (zI k))]) => ?_)
                refine z_iinc (k := 1) hx hb d_M_placed_58 hl rfl (by decide) (fun x4_58 ex4_58 ls (hl : lv_has ls 5 [(4, .int (zI x4_58)), (3, .int (zI x3_57)), (2, .int (zI i)), (0, .ref (ad 100)), (1, .int (zI k))]) => ?_)
                refine lv_goto (tgt := 15) hx hb d_M_placed_61 (by decide) ?_
                exact ih15 x4_58 x3_57 _ _ (by omega) (by omega) (by rw [hM, ex4_58, ex3_57]; first | (rw [bI_f (fun z => z.1 c28), Int.add_zero]; done) | (rw [bI_t ⟨c28, c48⟩]; done) | (rw [bI_f (fun z => c48 z.2), Int.add_zero]; done)) (by omega) hw ls (lv_sub hl [0, 1, 2, 3, 4] rfl)
              · refine lv_aload_n hx hb d_M_placed_31 rfl (lv_at hl 3 rfl) ?_
                refine lv_aload_n hx hb d_M_placed_32 rfl (lv_at hl 3 rfl) ?_
                refine gM_M_probe hc hw lk_M_42 d_M_placed_33 ?_
                refine lv_iload hx hb d_M_placed_36 (lv_at hl 0 rfl) ?_
                refine ldM_M_probe hc hw d_M_placed_38 (by omega) ?_
                refine lv_aload_n hx hb d_M_placed_39 rfl (lv_at hl 3 rfl) ?_
                refine gM_M_probe hc hw lk_M_42 d_M_placed_40 ?_
                refine lv_iload_n hx hb d_M_placed_43 rfl (lv_at hl 2 rfl) ?_
                refine ldM_M_probe hc hw d_M_placed_44 (by omega) ?_
                refine w_cvR (q0 := 0) hc hw (k_M_isAhead _ _ _ (by omega) (by omega) hI) yw_M_isAhead yi_M_isAhead lk_M_160 d_M_placed_45 rfl rfl rfl rfl hl.1 (Nat.le_of_ble_eq_true rfl) ⟨Nat.le_of_ble_eq_true rfl, Nat.le_of_ble_eq_true rfl⟩ ⟨Nat.zero_le _, Nat.zero_le _⟩ (fun τ45 H locs hτ45 hw => ?_)
                subst hτ45
                refine z_ifb_eq hx hb 55 d_M_placed_48 (by decide) (fun c48 => ?_) (fun c48 => ?_)
                · refine z_ic hx hb d_M_placed_55 ?_
                  refine z_iadd hx hb d_M_placed_56 ?_
                  refine z_ist_n hx hb d_M_placed_57 rfl hl (by decide) (fun x3_57 ex3_57 ls (hl : lv_has ls 5 [(3, .int (zI x3_57)), (4, .int (zI j)), (2, .int (zI i)), (0, .ref (ad 100)), (1, .int (zI k))]) => ?_)
                  refine z_iinc (k := 1) hx hb d_M_placed_58 hl rfl (by decide) (fun x4_58 ex4_58 ls (hl : lv_has ls 5 [(4, .int (zI x4_58)), (3, .int (zI x3_57)), (2, .int (zI i)), (0, .ref (ad 100)), (1, .int (zI k))]) => ?_)
                  refine lv_goto (tgt := 15) hx hb d_M_placed_61 (by decide) ?_
                  exact ih15 x4_58 x3_57 _ _ (by omega) (by omega) (by rw [hM, ex4_58, ex3_57]; first | (rw [bI_f (fun z => z.1 c28), Int.add_zero]; done) | (rw [bI_t ⟨c28, c48⟩]; done) | (rw [bI_f (fun z => c48 z.2), Int.add_zero]; done)) (by omega) hw ls (lv_sub hl [0, 1, 2, 3, 4] rfl)
                · refine z_ic hx hb d_M_placed_51 ?_
                  refine lv_goto (tgt := 56) hx hb d_M_placed_52 (by decide) ?_
                  refine z_iadd hx hb d_M_placed_56 ?_
                  refine z_ist_n hx hb d_M_placed_57 rfl hl (by decide) (fun x3_57 ex3_57 ls (hl : lv_has ls 5 [(3, .int (zI x3_57)), (4, .int (zI j)), (2, .int (zI i)), (0, .ref (ad 100)), (1, .int (zI k))]) => ?_)
                  refine z_iinc (k := 1) hx hb d_M_placed_58 hl rfl (by decide) (fun x4_58 ex4_58 ls (hl : lv_has ls 5 [(4, .int (zI x4_58)), (3, .int (zI x3_57)), (2, .int (zI i)), (0, .ref (ad 100)), (1, .int (zI k))]) => ?_)
                  refine lv_goto (tgt := 15) hx hb d_M_placed_61 (by decide) ?_
                  exact ih15 x4_58 x3_57 _ _ (by omega) (by omega) (by rw [hM, ex4_58, ex3_57]; first | (rw [bI_f (fun z => z.1 c28), Int.add_zero]; done) | (rw [bI_t ⟨c28, c48⟩]; done) | (rw [bI_f (fun z => c48 z.2), Int.add_zero]; done)) (by omega) hw ls (lv_sub hl [0, 1, 2, 3, 4] rfl)
        exact L15 _ x4_13 x3_11 _ _ (by omega) (by omega) (by rw [ex4_13, ex3_11, show (μ 17 0 - 0).toNat = (μ 17 0).toNat from (by omega)]; rfl) (Nat.lt_succ_self _) hw ls (lv_sub hl [0, 1, 2, 3, 4] rfl)
  exact L2 _ x2_1 _ _ (by omega) (by rw [ex2_1, show (μ 17 0 - 0).toNat = (μ 17 0).toNat from (by omega)]; rfl) (Nat.lt_succ_self _) hw ls (lv_sub hl [0, 1, 2] rfl)
set_option maxHeartbeats 400000 in
set_option maxRecDepth 100000 in
theorem k_M_order {l : Launch} {D : va_G} {ad : Nat → Nat} {ca : Nat → ClassId} (μ : St) (k : Int) (hk : r32 k) (hI : IMB μ) (hn : 0 ≤ μ 17 0 ∧ μ 17 0 ≤ 8) (hP : ∀ i, 0 ≤ i → i < μ 17 0 → 0 ≤ μ 18 i ∧ μ 18 i < 36) : Cw l D cl7 (tyM ca) (wM ad ca) y_M_order c_M_order 2 (some .int) 2 [.ref (ad 100), .int (zI k)] μ (RW (.int (zI (plc (up μ 0 0 0) k))) (up μ 0 0 0 = ·)) := by
  refine Cw.enter (by decide) (Nat.le_of_ble_eq_true rfl) ?_
  intro A p e s m below meth c hc ls hl hw
  have hl : lv_has ls 2 [(0, .ref (ad 100)), (1, .int (zI k))] := hl
  obtain ⟨hx, hb, hml, hown, hTB, hK, hr, hlk⟩ := id hc
  refine lv_aload_n hx hb d_M_order_0 rfl (lv_at hl 0 rfl) ?_
  refine z_ic hx hb d_M_order_1 ?_
  refine pM_M_thrown hc hw lk_M_60 d_M_order_2 (fun H locs hw => ?_)
  refine lv_aload_n hx hb d_M_order_5 rfl (lv_at hl 0 rfl) ?_
  refine lv_iload_n hx hb d_M_order_6 rfl (lv_at hl 1 rfl) ?_
  refine w_cvR (q0 := 0) hc hw (k_M_placed (up μ 0 0 0) _ hk (IMB_of (fun g hg => up_f _ _ _ (by omega)) hI) hn hP) yw_M_placed yi_M_placed lk_M_163 d_M_order_7 rfl rfl rfl rfl hl.1 (Nat.le_of_ble_eq_true rfl) ⟨Nat.le_of_ble_eq_true rfl, Nat.le_of_ble_eq_true rfl⟩ ⟨Nat.zero_le _, Nat.zero_le _⟩ (fun τ7 H locs hτ7 hw => ?_)
  subst hτ7
  exact w_iret hc hw (⟨rfl, rfl⟩) d_M_order_10
set_option maxHeartbeats 400000 in
set_option maxRecDepth 100000 in
theorem k_M_sayNumber {l : Launch} {D : va_G} {ad : Nat → Nat} {ca : Nat → ClassId} (μ : St) (z : Int) (hz : -1000000 ≤ z ∧ z ≤ 1000000) (hL : 0 ≤ μ 24 0 ∧ μ 24 0 ≤ 380) : Cw l D cl7 (tyM ca) (wM ad ca) y_M_sayNumber c_M_sayNumber 7 none 1 [.ref (ad 100), .long (zL z)] μ (VW (sn μ z = ·)) := by
  have hnz : ((z.natAbs : Nat) : Int) ≤ 1000000 := by omega
  have hnz0 : 0 ≤ ((z.natAbs : Nat) : Int) := Int.natCast_nonneg _
  obtain ⟨U0, hU0⟩ : ∃ u, u = scF 6 1 ((z.natAbs : Nat) : Int) := ⟨_, rfl⟩
  have h45 := mSay_24 μ 45
  refine Cw.enter (by decide) (Nat.le_of_ble_eq_true rfl) ?_
  intro A p e s m below meth c hc ls hl hw
  have hl : lv_has ls 7 [(0, .ref (ad 100)), (1, .long (zL z))] := hl
  obtain ⟨hx, hb, hml, hown, hTB, hK, hr, hlk⟩ := id hc
  refine lv_lload_n hx hb d_M_sayNumber_0 rfl (lv_at hl 1 rfl) ?_
  refine z_lc0 hx hb d_M_sayNumber_1 ?_
  refine z_lcmp_ge hx hb 12 d_M_sayNumber_2 d_M_sayNumber_3 (by omega) (by omega) (by decide) (fun c2 => ?_) (fun c2 => ?_)
  · refine lv_lload_n hx hb d_M_sayNumber_12 rfl (lv_at hl 1 rfl) ?_
    refine w_csR hc hw (k_M_size _ _ (by omega)) yw_M_size yi_M_size lk_M_153 d_M_sayNumber_13 rfl rfl hl.1 (Nat.le_of_ble_eq_true rfl) ⟨Nat.le_of_ble_eq_true rfl, Nat.le_of_ble_eq_true rfl⟩ ⟨Nat.zero_le _, Nat.zero_le _⟩ (fun τ13 H locs hτ13 hw => ?_)
    subst hτ13
    refine z_lst_n hx hb d_M_sayNumber_16 rfl hl (by decide) (fun x3_16 ex3_16 ls (hl : lv_has ls 7 [(3, .long (zL x3_16)), (0, .ref (ad 100)), (1, .long (zL z))]) => ?_)
    subst ex3_16
    refine z_lc1 hx hb d_M_sayNumber_17 ?_
    refine z_lst hx hb d_M_sayNumber_18 hl (by decide) (fun x5_18 ex5_18 ls (hl : lv_has ls 7 [(5, .long (zL x5_18)), (3, .long (zL ((z.natAbs : Nat) : Int))), (0, .ref (ad 100)), (1, .long (zL z))]) => ?_)
    have L20 : ∀ (nf : Nat) (u : Int) (ρ : St) (H : Heap) (locs : List Loc), (∃ g : Nat, g ≤ 6 ∧ u = 10 ^ (6 - g) ∧ U0 = scF g u ((z.natAbs : Nat) : Int)) → (ρ = (if z < 0 then mSay μ 45 else μ)) → (10000000 - u).toNat < nf → Wd D cl7 (wM ad ca) A s.heap ρ H locs → ∀ ls : Array Slot, lv_has ls 7 [(5, .long (zL u)), (3, .long (zL ((z.natAbs : Nat) : Int))), (0, .ref (ad 100)), (1, .long (zL z))] → W p l e (Rmh 1) s m ([.ref (ad 100), .long (zL z)] : List Value).toArray below meth c H locs 0 0 (MQ below (Qw D cl7 (wM ad ca) A (VW (sn μ z = ·))) ([.ref (ad 100), .long (zL z)] : List Value).toArray s 0 0 A) (F0 m 20 ls []) := by
      intro nf
      induction nf with
      | zero => intro u ρ H locs hu hρ hm; exact absurd hm (Nat.not_lt_zero _)
      | succ nf ih20 =>
        intro u ρ H locs hu hρ hm20 hw ls hl
        obtain ⟨g, hg, hu1, hN⟩ := hu
        have hub : 1 ≤ u ∧ u ≤ 1000000 := by rcases (show g = 0 ∨ g = 1 ∨ g = 2 ∨ g = 3 ∨ g = 4 ∨ g = 5 ∨ g = 6 by omega) with q | q | q | q | q | q | q <;> subst q <;> omega
        have hdq : 0 ≤ ((z.natAbs : Nat) : Int) / u := Int.ediv_nonneg hnz0 (by omega)
        have hdl := Int.ediv_le_self u hnz0
        refine lv_lload_n hx hb d_M_sayNumber_20 rfl (lv_at hl 1 rfl) ?_
        refine lv_lload hx hb d_M_sayNumber_21 (lv_at hl 0 rfl) ?_
        refine z_ldiv hx hb d_M_sayNumber_23 (⟨⟨hnz0, by omega⟩, by omega, by omega⟩) ?_
        refine z_ldc2 (n := 10) hc lk_M_173 d_M_sayNumber_24 (by decide) ?_
        refine z_lcmp_lt hx hb 42 d_M_sayNumber_27 d_M_sayNumber_28 (by omega) (by omega) (by decide) (fun c27 => ?_) (fun c27 => ?_)
        · have L42 : ∀ (nf : Nat) (v : Int) (τ : St) (H : Heap) (locs : List Loc), (0 ≤ v ∧ v ≤ 1000000) → (∃ g : Nat, g ≤ 7 ∧ v < 10 ^ g ∧ sn μ z = snF g τ ((z.natAbs : Nat) : Int) v ∧ 0 ≤ τ 24 0 ∧ τ 24 0 + g ≤ 390) → (v).toNat < nf → Wd D cl7 (wM ad ca) A s.heap τ H locs → ∀ ls : Array Slot, lv_has ls 7 [(5, .long (zL v)), (3, .long (zL ((z.natAbs : Nat) : Int))), (0, .ref (ad 100)), (1, .long (zL z))] → W p l e (Rmh 1) s m ([.ref (ad 100), .long (zL z)] : List Value).toArray below meth c H locs 0 0 (MQ below (Qw D cl7 (wM ad ca) A (VW (sn μ z = ·))) ([.ref (ad 100), .long (zL z)] : List Value).toArray s 0 0 A) (F0 m 42 ls []) := by
            intro nf
            induction nf with
            | zero => intro v τ H locs hv hτ hm; exact absurd hm (Nat.not_lt_zero _)
            | succ nf ih42 =>
              intro v τ H locs hv hτ hm42 hw ls hl
              obtain ⟨g, hg, hvg, hN, h24⟩ := hτ
              refine lv_lload hx hb d_M_sayNumber_42 (lv_at hl 0 rfl) ?_
              refine z_lc0 hx hb d_M_sayNumber_44 ?_
              refine z_lcmp_le hx hb 76 d_M_sayNumber_45 d_M_sayNumber_46 (by omega) (by omega) (by decide) (fun c45 => ?_) (fun c45 => ?_)
              · exact w_vret hc hw (⟨rfl, by rw [hN]; rcases Nat.eq_zero_or_pos g with q | q; (subst q; rfl); rw [show g = (g - 1) + 1 by omega, snF_s, if_neg (by omega)]⟩) d_M_sayNumber_76
              · have hdq : 0 ≤ ((z.natAbs : Nat) : Int) / v := Int.ediv_nonneg hnz0 hv.1
                have hdl := Int.ediv_le_self v hnz0
                refine lv_aload_n hx hb d_M_sayNumber_49 rfl (lv_at hl 2 rfl) ?_
                refine lv_lload_n hx hb d_M_sayNumber_50 rfl (lv_at hl 1 rfl) ?_
                refine lv_lload hx hb d_M_sayNumber_51 (lv_at hl 0 rfl) ?_
                refine z_ldiv hx hb d_M_sayNumber_53 (⟨⟨hnz0, by omega⟩, by omega, by omega⟩) ?_
                refine z_ldc2 (n := 10) hc lk_M_173 d_M_sayNumber_54 (by decide) ?_
                refine z_lrem hx hb d_M_sayNumber_57 (⟨⟨hdq, by omega⟩, by decide, by decide⟩) ?_
                refine z_l2i hx hb d_M_sayNumber_58 ?_
                refine z_bi hx hb d_M_sayNumber_59 (by decide) ?_
                refine z_iadd hx hb d_M_sayNumber_61 ?_
                refine w_cvV (q0 := 0) hc hw (k_M_say _ _ (by rcases Nat.eq_zero_or_pos g with q | q; (subst q; exfalso; have : (10 : Int) ^ 0 = 1 := (by decide); omega); omega)) yw_M_say yi_M_say lk_M_169 d_M_sayNumber_62 rfl rfl rfl rfl hl.1 (Nat.le_of_ble_eq_true rfl) ⟨Nat.le_of_ble_eq_true rfl, Nat.le_of_ble_eq_true rfl⟩ ⟨Nat.zero_le _, Nat.zero_le _⟩ (fun τ62 H locs hτ62 hw => ?_)
                subst hτ62
                refine lv_lload hx hb d_M_sayNumber_65 (lv_at hl 0 rfl) ?_
                refine z_ldc2 (n := 10) hc lk_M_173 d_M_sayNumber_67 (by decide) ?_
                refine z_ldiv hx hb d_M_sayNumber_70 (by omega) ?_
                refine z_lst hx hb d_M_sayNumber_71 hl (by decide) (fun x5_71 ex5_71 ls (hl : lv_has ls 7 [(5, .long (zL x5_71)), (3, .long (zL ((z.natAbs : Nat) : Int))), (0, .ref (ad 100)), (1, .long (zL z))]) => ?_)
                refine lv_goto (tgt := 42) hx hb d_M_sayNumber_73 (by decide) ?_
                exact ih42 x5_71 _ _ _ (by rw [ex5_71]; omega) (by rcases Nat.eq_zero_or_pos g with q | q; (subst q; exfalso; have : (10 : Int) ^ 0 = 1 := (by decide); omega); exact ⟨g - 1, by omega, by rw [ex5_71]; have e : (10 : Int) ^ g = 10 ^ (g - 1) * 10 := (by rw [← Int.pow_succ, show (g - 1).succ = g by omega]); omega, by rw [hN, show g = (g - 1) + 1 by omega, snF_s, if_pos c45, ex5_71]; rfl, by rw [mSay_24]; omega⟩) (by rw [ex5_71]; omega) hw ls (lv_sub hl [0, 1, 2, 3] rfl)
          have hU : U0 = u := by rw [hN]; rcases Nat.eq_zero_or_pos g with q | q; (subst q; rfl); rw [show g = (g - 1) + 1 by omega, scF_s, if_neg (by omega)]
          exact L42 _ u _ _ _ (by omega) (⟨7, by decide, by have : (10 : Int) ^ 7 = 10000000 := (by decide); omega, by rw [← hU, hU0, hρ]; rfl, by rw [hρ]; split <;> omega⟩) (Nat.lt_succ_self _) hw ls (lv_sub hl [0, 1, 2, 3] rfl)
        · refine z_ldc2 (n := 10) hc lk_M_173 d_M_sayNumber_31 (by decide) ?_
          refine lv_lload hx hb d_M_sayNumber_34 (lv_at hl 0 rfl) ?_
          refine z_lmul hx hb d_M_sayNumber_36 ?_
          refine z_lst hx hb d_M_sayNumber_37 hl (by decide) (fun x5_37 ex5_37 ls (hl : lv_has ls 7 [(5, .long (zL x5_37)), (3, .long (zL ((z.natAbs : Nat) : Int))), (0, .ref (ad 100)), (1, .long (zL z))]) => ?_)
          refine lv_goto (tgt := 20) hx hb d_M_sayNumber_39 (by decide) ?_
          exact ih20 x5_37 _ _ _ (by rcases Nat.eq_zero_or_pos g with q | q; (subst q; exfalso; rw [hu1] at c27; have := Int.ediv_lt_of_lt_mul (show (0:Int) < 10 ^ (6 - 0) by decide) (show ((z.natAbs : Nat) : Int) < 10 * 10 ^ (6 - 0) by omega); omega); exact ⟨g - 1, by omega, by rw [ex5_37, hu1, show 6 - (g - 1) = (6 - g) + 1 by omega, Int.pow_succ, Int.mul_comm], by rw [hN, show g = (g - 1) + 1 by omega, scF_s, if_pos c27, ex5_37]; rfl⟩) (hρ) (by rw [ex5_37]; omega) hw ls (lv_sub hl [0, 1, 2, 3] rfl)
    exact L20 _ x5_18 _ _ _ (⟨6, by decide, by rw [ex5_18]; decide, by rw [ex5_18]; exact hU0⟩) (by first | (rw [if_pos (by omega)]; done) | (rw [if_neg (by omega)]; done)) (Nat.lt_succ_self _) hw ls (lv_sub hl [0, 1, 2, 3] rfl)
  · refine lv_aload_n hx hb d_M_sayNumber_6 rfl (lv_at hl 0 rfl) ?_
    refine z_bi hx hb d_M_sayNumber_7 (by decide) ?_
    refine w_cvV (q0 := 0) hc hw (k_M_say _ _ (by omega)) yw_M_say yi_M_say lk_M_169 d_M_sayNumber_9 rfl rfl rfl rfl hl.1 (Nat.le_of_ble_eq_true rfl) ⟨Nat.le_of_ble_eq_true rfl, Nat.le_of_ble_eq_true rfl⟩ ⟨Nat.zero_le _, Nat.zero_le _⟩ (fun τ9 H locs hτ9 hw => ?_)
    subst hτ9
    refine lv_lload_n hx hb d_M_sayNumber_12 rfl (lv_at hl 1 rfl) ?_
    refine w_csR hc hw (k_M_size _ _ (by omega)) yw_M_size yi_M_size lk_M_153 d_M_sayNumber_13 rfl rfl hl.1 (Nat.le_of_ble_eq_true rfl) ⟨Nat.le_of_ble_eq_true rfl, Nat.le_of_ble_eq_true rfl⟩ ⟨Nat.zero_le _, Nat.zero_le _⟩ (fun τ13 H locs hτ13 hw => ?_)
    subst hτ13
    refine z_lst_n hx hb d_M_sayNumber_16 rfl hl (by decide) (fun x3_16 ex3_16 ls (hl : lv_has ls 7 [(3, .long (zL x3_16)), (0, .ref (ad 100)), (1, .long (zL z))]) => ?_)
    subst ex3_16
    refine z_lc1 hx hb d_M_sayNumber_17 ?_
    refine z_lst hx hb d_M_sayNumber_18 hl (by decide) (fun x5_18 ex5_18 ls (hl : lv_has ls 7 [(5, .long (zL x5_18)), (3, .long (zL ((z.natAbs : Nat) : Int))), (0, .ref (ad 100)), (1, .long (zL z))]) => ?_)
    have L20 : ∀ (nf : Nat) (u : Int) (ρ : St) (H : Heap) (locs : List Loc), (∃ g : Nat, g ≤ 6 ∧ u = 10 ^ (6 - g) ∧ U0 = scF g u ((z.natAbs : Nat) : Int)) → (ρ = (if z < 0 then mSay μ 45 else μ)) → (10000000 - u).toNat < nf → Wd D cl7 (wM ad ca) A s.heap ρ H locs → ∀ ls : Array Slot, lv_has ls 7 [(5, .long (zL u)), (3, .long (zL ((z.natAbs : Nat) : Int))), (0, .ref (ad 100)), (1, .long (zL z))] → W p l e (Rmh 1) s m ([.ref (ad 100), .long (zL z)] : List Value).toArray below meth c H locs 0 0 (MQ below (Qw D cl7 (wM ad ca) A (VW (sn μ z = ·))) ([.ref (ad 100), .long (zL z)] : List Value).toArray s 0 0 A) (F0 m 20 ls []) := by
      intro nf
      induction nf with
      | zero => intro u ρ H locs hu hρ hm; exact absurd hm (Nat.not_lt_zero _)
      | succ nf ih20 =>
        intro u ρ H locs hu hρ hm20 hw ls hl
        obtain ⟨g, hg, hu1, hN⟩ := hu
        have hub : 1 ≤ u ∧ u ≤ 1000000 := by rcases (show g = 0 ∨ g = 1 ∨ g = 2 ∨ g = 3 ∨ g = 4 ∨ g = 5 ∨ g = 6 by omega) with q | q | q | q | q | q | q <;> subst q <;> omega
        have hdq : 0 ≤ ((z.natAbs : Nat) : Int) / u := Int.ediv_nonneg hnz0 (by omega)
        have hdl := Int.ediv_le_self u hnz0
        refine lv_lload_n hx hb d_M_sayNumber_20 rfl (lv_at hl 1 rfl) ?_
        refine lv_lload hx hb d_M_sayNumber_21 (lv_at hl 0 rfl) ?_
        refine z_ldiv hx hb d_M_sayNumber_23 (⟨⟨hnz0, by omega⟩, by omega, by omega⟩) ?_
        refine z_ldc2 (n := 10) hc lk_M_173 d_M_sayNumber_24 (by decide) ?_
        refine z_lcmp_lt hx hb 42 d_M_sayNumber_27 d_M_sayNumber_28 (by omega) (by omega) (by decide) (fun c27 => ?_) (fun c27 => ?_)
        · have L42 : ∀ (nf : Nat) (v : Int) (τ : St) (H : Heap) (locs : List Loc), (0 ≤ v ∧ v ≤ 1000000) → (∃ g : Nat, g ≤ 7 ∧ v < 10 ^ g ∧ sn μ z = snF g τ ((z.natAbs : Nat) : Int) v ∧ 0 ≤ τ 24 0 ∧ τ 24 0 + g ≤ 390) → (v).toNat < nf → Wd D cl7 (wM ad ca) A s.heap τ H locs → ∀ ls : Array Slot, lv_has ls 7 [(5, .long (zL v)), (3, .long (zL ((z.natAbs : Nat) : Int))), (0, .ref (ad 100)), (1, .long (zL z))] → W p l e (Rmh 1) s m ([.ref (ad 100), .long (zL z)] : List Value).toArray below meth c H locs 0 0 (MQ below (Qw D cl7 (wM ad ca) A (VW (sn μ z = ·))) ([.ref (ad 100), .long (zL z)] : List Value).toArray s 0 0 A) (F0 m 42 ls []) := by
            intro nf
            induction nf with
            | zero => intro v τ H locs hv hτ hm; exact absurd hm (Nat.not_lt_zero _)
            | succ nf ih42 =>
              intro v τ H locs hv hτ hm42 hw ls hl
              obtain ⟨g, hg, hvg, hN, h24⟩ := hτ
              refine lv_lload hx hb d_M_sayNumber_42 (lv_at hl 0 rfl) ?_
              refine z_lc0 hx hb d_M_sayNumber_44 ?_
              refine z_lcmp_le hx hb 76 d_M_sayNumber_45 d_M_sayNumber_46 (by omega) (by omega) (by decide) (fun c45 => ?_) (fun c45 => ?_)
              · exact w_vret hc hw (⟨rfl, by rw [hN]; rcases Nat.eq_zero_or_pos g with q | q; (subst q; rfl); rw [show g = (g - 1) + 1 by omega, snF_s, if_neg (by omega)]⟩) d_M_sayNumber_76
              · have hdq : 0 ≤ ((z.natAbs : Nat) : Int) / v := Int.ediv_nonneg hnz0 hv.1
                have hdl := Int.ediv_le_self v hnz0
                refine lv_aload_n hx hb d_M_sayNumber_49 rfl (lv_at hl 2 rfl) ?_
                refine lv_lload_n hx hb d_M_sayNumber_50 rfl (lv_at hl 1 rfl) ?_
                refine lv_lload hx hb d_M_sayNumber_51 (lv_at hl 0 rfl) ?_
                refine z_ldiv hx hb d_M_sayNumber_53 (⟨⟨hnz0, by omega⟩, by omega, by omega⟩) ?_
                refine z_ldc2 (n := 10) hc lk_M_173 d_M_sayNumber_54 (by decide) ?_
                refine z_lrem hx hb d_M_sayNumber_57 (⟨⟨hdq, by omega⟩, by decide, by decide⟩) ?_
                refine z_l2i hx hb d_M_sayNumber_58 ?_
                refine z_bi hx hb d_M_sayNumber_59 (by decide) ?_
                refine z_iadd hx hb d_M_sayNumber_61 ?_
                refine w_cvV (q0 := 0) hc hw (k_M_say _ _ (by rcases Nat.eq_zero_or_pos g with q | q; (subst q; exfalso; have : (10 : Int) ^ 0 = 1 := (by decide); omega); omega)) yw_M_say yi_M_say lk_M_169 d_M_sayNumber_62 rfl rfl rfl rfl hl.1 (Nat.le_of_ble_eq_true rfl) ⟨Nat.le_of_ble_eq_true rfl, Nat.le_of_ble_eq_true rfl⟩ ⟨Nat.zero_le _, Nat.zero_le _⟩ (fun τ62 H locs hτ62 hw => ?_)
                subst hτ62
                refine lv_lload hx hb d_M_sayNumber_65 (lv_at hl 0 rfl) ?_
                refine z_ldc2 (n := 10) hc lk_M_173 d_M_sayNumber_67 (by decide) ?_
                refine z_ldiv hx hb d_M_sayNumber_70 (by omega) ?_
                refine z_lst hx hb d_M_sayNumber_71 hl (by decide) (fun x5_71 ex5_71 ls (hl : lv_has ls 7 [(5, .long (zL x5_71)), (3, .long (zL ((z.natAbs : Nat) : Int))), (0, .ref (ad 100)), (1, .long (zL z))]) => ?_)
                refine lv_goto (tgt := 42) hx hb d_M_sayNumber_73 (by decide) ?_
                exact ih42 x5_71 _ _ _ (by rw [ex5_71]; omega) (by rcases Nat.eq_zero_or_pos g with q | q; (subst q; exfalso; have : (10 : Int) ^ 0 = 1 := (by decide); omega); exact ⟨g - 1, by omega, by rw [ex5_71]; have e : (10 : Int) ^ g = 10 ^ (g - 1) * 10 := (by rw [← Int.pow_succ, show (g - 1).succ = g by omega]); omega, by rw [hN, show g = (g - 1) + 1 by omega, snF_s, if_pos c45, ex5_71]; rfl, by rw [mSay_24]; omega⟩) (by rw [ex5_71]; omega) hw ls (lv_sub hl [0, 1, 2, 3] rfl)
          have hU : U0 = u := by rw [hN]; rcases Nat.eq_zero_or_pos g with q | q; (subst q; rfl); rw [show g = (g - 1) + 1 by omega, scF_s, if_neg (by omega)]
          exact L42 _ u _ _ _ (by omega) (⟨7, by decide, by have : (10 : Int) ^ 7 = 10000000 := (by decide); omega, by rw [← hU, hU0, hρ]; rfl, by rw [hρ]; split <;> omega⟩) (Nat.lt_succ_self _) hw ls (lv_sub hl [0, 1, 2, 3] rfl)
        · refine z_ldc2 (n := 10) hc lk_M_173 d_M_sayNumber_31 (by decide) ?_
          refine lv_lload hx hb d_M_sayNumber_34 (lv_at hl 0 rfl) ?_
          refine z_lmul hx hb d_M_sayNumber_36 ?_
          refine z_lst hx hb d_M_sayNumber_37 hl (by decide) (fun x5_37 ex5_37 ls (hl : lv_has ls 7 [(5, .long (zL x5_37)), (3, .long (zL ((z.natAbs : Nat) : Int))), (0, .ref (ad 100)), (1, .long (zL z))]) => ?_)
          refine lv_goto (tgt := 20) hx hb d_M_sayNumber_39 (by decide) ?_
          exact ih20 x5_37 _ _ _ (by rcases Nat.eq_zero_or_pos g with q | q; (subst q; exfalso; rw [hu1] at c27; have := Int.ediv_lt_of_lt_mul (show (0:Int) < 10 ^ (6 - 0) by decide) (show ((z.natAbs : Nat) : Int) < 10 * 10 ^ (6 - 0) by omega); omega); exact ⟨g - 1, by omega, by rw [ex5_37, hu1, show 6 - (g - 1) = (6 - g) + 1 by omega, Int.pow_succ, Int.mul_comm], by rw [hN, show g = (g - 1) + 1 by omega, scF_s, if_pos c27, ex5_37]; rfl⟩) (hρ) (by rw [ex5_37]; omega) hw ls (lv_sub hl [0, 1, 2, 3] rfl)
    exact L20 _ x5_18 _ _ _ (⟨6, by decide, by rw [ex5_18]; decide, by rw [ex5_18]; exact hU0⟩) (by first | (rw [if_pos (by omega)]; done) | (rw [if_neg (by omega)]; done)) (Nat.lt_succ_self _) hw ls (lv_sub hl [0, 1, 2, 3] rfl)
set_option maxHeartbeats 400000 in
set_option maxRecDepth 100000 in
theorem k_M_text {l : Launch} {D : va_G} {ad : Nat → Nat} {ca : Nat → ClassId} (μ : St) (i : Int) (hi2 : r32 i) (hI : IMB μ) (hn : 0 ≤ μ 17 0 ∧ μ 17 0 ≤ 8) (hP : ∀ i, 0 ≤ i → i < μ 17 0 → 0 ≤ μ 18 i ∧ μ 18 i < 36) (hR : ∀ ν : St, (∀ g, g ≠ 0 ∧ g ≠ 23 ∧ g ≠ 24 → ν g = μ g) → ∀ k, 0 ≤ k → k < μ 17 0 → 0 ≤ plc ν k ∧ plc ν k < 36) : Cw l D cl7 (tyM ca) (wM ad ca) y_M_text c_M_text 4 (some .int) 2 [.ref (ad 100), .int (zI i)] μ (RW (.int (zI (mTxR μ i))) (mTxS μ i = ·)) := by
  refine Cw.enter (by decide) (Nat.le_of_ble_eq_true rfl) ?_
  intro A p e s m below meth c hc ls hl hw
  have hl : lv_has ls 4 [(0, .ref (ad 100)), (1, .int (zI i))] := hl
  obtain ⟨hx, hb, hml, hown, hTB, hK, hr, hlk⟩ := id hc
  refine lv_aload_n hx hb d_M_text_0 rfl (lv_at hl 0 rfl) ?_
  refine lv_iload_n hx hb d_M_text_1 rfl (lv_at hl 1 rfl) ?_
  refine z_if_ge hx hb 9 d_M_text_2 (by omega) (by decide) (fun c2 => ?_) (fun c2 => ?_)
  · refine z_ic hx hb d_M_text_9 ?_
    refine pM_M_thrown hc hw lk_M_60 d_M_text_10 (fun H locs hw => ?_)
    refine lv_aload_n hx hb d_M_text_13 rfl (lv_at hl 0 rfl) ?_
    refine gM_M_thrown hc hw lk_M_60 d_M_text_14 ?_
    simp only [up_s]
    refine z_if_eq hx hb 22 d_M_text_17 (by omega) (by decide) (fun c17 => ?_) (fun c17 => ?_)
    · refine lv_aload_n hx hb d_M_text_22 rfl (lv_at hl 0 rfl) ?_
      refine z_ic hx hb d_M_text_23 ?_
      refine pM_M_written hc hw lk_M_166 d_M_text_24 (fun H locs hw => ?_)
      refine z_ic hx hb d_M_text_27 ?_
      refine z_ist_n hx hb d_M_text_28 rfl hl (by decide) (fun x2_28 ex2_28 ls (hl : lv_has ls 4 [(2, .int (zI x2_28)), (0, .ref (ad 100)), (1, .int (zI i))]) => ?_)
      have L29 : ∀ (nf : Nat) (k : Int) (ν : St) (H : Heap) (locs : List Loc), (0 ≤ k ∧ k ≤ μ 17 0) → (ν = mtF μ k.toNat) → (μ 17 0 - k).toNat < nf → Wd D cl7 (wM ad ca) A s.heap ν H locs → ∀ ls : Array Slot, lv_has ls 4 [(2, .int (zI k)), (0, .ref (ad 100)), (1, .int (zI i))] → W p l e (Rmh 2) s m ([.ref (ad 100), .int (zI i)] : List Value).toArray below meth c H locs 0 0 (MQ below (Qw D cl7 (wM ad ca) A (RW (.int (zI (mTxR μ i))) (mTxS μ i = ·))) ([.ref (ad 100), .int (zI i)] : List Value).toArray s 0 0 A) (F0 m 29 ls []) := by
        intro nf
        induction nf with
        | zero => intro k ν H locs hk hτ hm; exact absurd hm (Nat.not_lt_zero _)
        | succ nf ih29 =>
          intro k ν H locs hk hτ hm29 hw ls hl
          have ek : ((k.toNat : Nat) : Int) = k := Int.toNat_of_nonneg hk.1
          have ho : ∀ g, g ≠ 0 ∧ g ≠ 23 ∧ g ≠ 24 → ν g = μ g := fun g h => by rw [hτ]; exact mtF_o μ _ g h
          have e17 : ν 17 0 = μ 17 0 := by rw [ho 17 (by decide)]
          have hIν : IMB ν := IMB_of (fun g hg => ho g (by omega)) hI
          have hPν : ∀ j, 0 ≤ j → j < ν 17 0 → 0 ≤ ν 18 j ∧ ν 18 j < 36 := by rw [e17, ho 18 (by decide)]; exact hP
          have hb0 : 0 ≤ ν 24 0 ∧ ν 24 0 ≤ k * 28 := by rw [hτ]; have := mtF_bd μ k.toNat; omega
          have hb1 := mSay_24 ν 112
          have hb2 := sn_bd (mSay ν 112) (plc ν k)
          have hb3 := mSay_24 (sn (mSay ν 112) (plc ν k)) 32
          have hb4 := sn_bd (mSay (sn (mSay ν 112) (plc ν k)) 32) (ν 6 (plc ν k))
          have hb5 := mSay_24 (sn (mSay (sn (mSay ν 112) (plc ν k)) 32) (ν 6 (plc ν k))) 32
          have hb6 := sn_bd (mSay (sn (mSay (sn (mSay ν 112) (plc ν k)) 32) (ν 6 (plc ν k))) 32) (ν 7 (plc ν k))
          refine lv_iload_n hx hb d_M_text_29 rfl (lv_at hl 0 rfl) ?_
          refine lv_aload_n hx hb d_M_text_30 rfl (lv_at hl 1 rfl) ?_
          refine gM_M_probes hc hw lk_M_121 d_M_text_31 ?_
          refine z_icmp_ge hx hb 99 d_M_text_34 (by omega) (by omega) (by decide) (fun c34 => ?_) (fun c34 => ?_)
          · have hfin : mTx μ = ν := by unfold mTx; rw [hτ, show k = μ 17 0 by omega]
            refine lv_iload_n hx hb d_M_text_99 rfl (lv_at hl 2 rfl) ?_
            refine lv_aload_n hx hb d_M_text_100 rfl (lv_at hl 1 rfl) ?_
            refine gM_M_written hc hw lk_M_166 d_M_text_101 ?_
            refine z_icmp_ge hx hb 116 d_M_text_104 (by omega) (by omega) (by decide) (fun c104 => ?_) (fun c104 => ?_)
            · refine z_ic hx hb d_M_text_116 ?_
              exact w_iret hc hw (by have z : ¬ i < 0 := (by omega); unfold mTxR mTxS; rw [if_neg z, if_neg z, hfin]; first | (rw [if_pos (show i < ν 24 0 by omega)]; exact ⟨rfl, rfl⟩) | (rw [if_neg (show ¬ i < ν 24 0 by omega)]; exact ⟨rfl, rfl⟩)) d_M_text_117
            · refine lv_aload_n hx hb d_M_text_107 rfl (lv_at hl 1 rfl) ?_
              refine gM_M_out hc hw lk_M_57 d_M_text_108 ?_
              refine lv_iload_n hx hb d_M_text_111 rfl (lv_at hl 2 rfl) ?_
              refine ldM_M_out hc hw d_M_text_112 (by omega) ?_
              refine lv_goto (tgt := 117) hx hb d_M_text_113 (by decide) ?_
              exact w_iret hc hw (by have z : ¬ i < 0 := (by omega); unfold mTxR mTxS; rw [if_neg z, if_neg z, hfin]; first | (rw [if_pos (show i < ν 24 0 by omega)]; exact ⟨rfl, rfl⟩) | (rw [if_neg (show ¬ i < ν 24 0 by omega)]; exact ⟨rfl, rfl⟩)) d_M_text_117
          · have hpl := hR ν ho k hk.1 (by omega)
            have hx6 := hIν.2.2.2.1 (plc ν k)
            have hy7 := hIν.2.2.2.2.1 (plc ν k)
            refine lv_aload_n hx hb d_M_text_37 rfl (lv_at hl 1 rfl) ?_
            refine lv_iload_n hx hb d_M_text_38 rfl (lv_at hl 0 rfl) ?_
            refine w_cvR (q0 := 0) hc hw (k_M_placed _ _ (by omega) hIν (by omega) hPν) yw_M_placed yi_M_placed lk_M_163 d_M_text_39 rfl rfl rfl rfl hl.1 (Nat.le_of_ble_eq_true rfl) ⟨Nat.le_of_ble_eq_true rfl, Nat.le_of_ble_eq_true rfl⟩ ⟨Nat.zero_le _, Nat.zero_le _⟩ (fun τ39 H locs hτ39 hw => ?_)
            subst hτ39
            refine z_ist_n hx hb d_M_text_42 rfl hl (by decide) (fun x3_42 ex3_42 ls (hl : lv_has ls 4 [(3, .int (zI x3_42)), (2, .int (zI k)), (0, .ref (ad 100)), (1, .int (zI i))]) => ?_)
            subst ex3_42
            refine lv_aload_n hx hb d_M_text_43 rfl (lv_at hl 2 rfl) ?_
            refine z_bi hx hb d_M_text_44 (by decide) ?_
            refine w_cvV (q0 := 0) hc hw (k_M_say _ _ (by omega)) yw_M_say yi_M_say lk_M_169 d_M_text_46 rfl rfl rfl rfl hl.1 (Nat.le_of_ble_eq_true rfl) ⟨Nat.le_of_ble_eq_true rfl, Nat.le_of_ble_eq_true rfl⟩ ⟨Nat.zero_le _, Nat.zero_le _⟩ (fun τ46 H locs hτ46 hw => ?_)
            subst hτ46
            refine lv_aload_n hx hb d_M_text_49 rfl (lv_at hl 2 rfl) ?_
            refine lv_iload_n hx hb d_M_text_50 rfl (lv_at hl 0 rfl) ?_
            refine z_i2l hx hb d_M_text_51 (by omega) ?_
            refine w_cvV (q0 := 0) hc hw (k_M_sayNumber _ _ (by omega) (by omega)) yw_M_sayNumber yi_M_sayNumber lk_M_175 d_M_text_52 rfl rfl rfl rfl hl.1 (Nat.le_of_ble_eq_true rfl) ⟨Nat.le_of_ble_eq_true rfl, Nat.le_of_ble_eq_true rfl⟩ ⟨Nat.zero_le _, Nat.zero_le _⟩ (fun τ52 H locs hτ52 hw => ?_)
            subst hτ52
            refine lv_aload_n hx hb d_M_text_55 rfl (lv_at hl 2 rfl) ?_
            refine z_bi hx hb d_M_text_56 (by decide) ?_
            refine w_cvV (q0 := 0) hc hw (k_M_say _ _ (by omega)) yw_M_say yi_M_say lk_M_169 d_M_text_58 rfl rfl rfl rfl hl.1 (Nat.le_of_ble_eq_true rfl) ⟨Nat.le_of_ble_eq_true rfl, Nat.le_of_ble_eq_true rfl⟩ ⟨Nat.zero_le _, Nat.zero_le _⟩ (fun τ58 H locs hτ58 hw => ?_)
            subst hτ58
            refine lv_aload_n hx hb d_M_text_61 rfl (lv_at hl 2 rfl) ?_
            refine lv_aload_n hx hb d_M_text_62 rfl (lv_at hl 2 rfl) ?_
            refine gM_M_x hc hw lk_M_20 d_M_text_63 ?_
            refine lv_iload_n hx hb d_M_text_66 rfl (lv_at hl 0 rfl) ?_
            refine ldM_M_x hc hw d_M_text_67 (by omega) ?_
            rw [show mSay (sn (mSay ν 112) (plc ν k)) 32 6 = ν 6 from by rw [mSay_o _ _ _ (by decide), sn_o _ _ _ (by decide), mSay_o _ _ _ (by decide)]]
            refine w_cvV (q0 := 0) hc hw (k_M_sayNumber _ _ (by omega) (by omega)) yw_M_sayNumber yi_M_sayNumber lk_M_175 d_M_text_68 rfl rfl rfl rfl hl.1 (Nat.le_of_ble_eq_true rfl) ⟨Nat.le_of_ble_eq_true rfl, Nat.le_of_ble_eq_true rfl⟩ ⟨Nat.zero_le _, Nat.zero_le _⟩ (fun τ68 H locs hτ68 hw => ?_)
            subst hτ68
            refine lv_aload_n hx hb d_M_text_71 rfl (lv_at hl 2 rfl) ?_
            refine z_bi hx hb d_M_text_72 (by decide) ?_
            refine w_cvV (q0 := 0) hc hw (k_M_say _ _ (by omega)) yw_M_say yi_M_say lk_M_169 d_M_text_74 rfl rfl rfl rfl hl.1 (Nat.le_of_ble_eq_true rfl) ⟨Nat.le_of_ble_eq_true rfl, Nat.le_of_ble_eq_true rfl⟩ ⟨Nat.zero_le _, Nat.zero_le _⟩ (fun τ74 H locs hτ74 hw => ?_)
            subst hτ74
            refine lv_aload_n hx hb d_M_text_77 rfl (lv_at hl 2 rfl) ?_
            refine lv_aload_n hx hb d_M_text_78 rfl (lv_at hl 2 rfl) ?_
            refine gM_M_y hc hw lk_M_24 d_M_text_79 ?_
            refine lv_iload_n hx hb d_M_text_82 rfl (lv_at hl 0 rfl) ?_
            refine ldM_M_y hc hw d_M_text_83 (by omega) ?_
            rw [show mSay (sn (mSay (sn (mSay ν 112) (plc ν k)) 32) (ν 6 (plc ν k))) 32 7 = ν 7 from by rw [mSay_o _ _ _ (by decide), sn_o _ _ _ (by decide), mSay_o _ _ _ (by decide), sn_o _ _ _ (by decide), mSay_o _ _ _ (by decide)]]
            refine w_cvV (q0 := 0) hc hw (k_M_sayNumber _ _ (by omega) (by omega)) yw_M_sayNumber yi_M_sayNumber lk_M_175 d_M_text_84 rfl rfl rfl rfl hl.1 (Nat.le_of_ble_eq_true rfl) ⟨Nat.le_of_ble_eq_true rfl, Nat.le_of_ble_eq_true rfl⟩ ⟨Nat.zero_le _, Nat.zero_le _⟩ (fun τ84 H locs hτ84 hw => ?_)
            subst hτ84
            refine lv_aload_n hx hb d_M_text_87 rfl (lv_at hl 2 rfl) ?_
            refine z_bi hx hb d_M_text_88 (by decide) ?_
            refine w_cvV (q0 := 0) hc hw (k_M_say _ _ (by omega)) yw_M_say yi_M_say lk_M_169 d_M_text_90 rfl rfl rfl rfl hl.1 (Nat.le_of_ble_eq_true rfl) ⟨Nat.le_of_ble_eq_true rfl, Nat.le_of_ble_eq_true rfl⟩ ⟨Nat.zero_le _, Nat.zero_le _⟩ (fun τ90 H locs hτ90 hw => ?_)
            subst hτ90
            refine z_iinc (k := 1) hx hb d_M_text_93 hl rfl (by decide) (fun x2_93 ex2_93 ls (hl : lv_has ls 4 [(2, .int (zI x2_93)), (3, .int (zI (plc ν k))), (0, .ref (ad 100)), (1, .int (zI i))]) => ?_)
            refine lv_goto (tgt := 29) hx hb d_M_text_96 (by decide) ?_
            exact ih29 x2_93 _ _ _ (by omega) (by rw [show x2_93.toNat = k.toNat + 1 from (by omega)]; simp only [mtF, ek]; rw [← hτ]; rfl) (by omega) hw ls (lv_sub hl [0, 2, 3] rfl)
      exact L29 _ x2_28 _ _ _ (by omega) (by rw [ex2_28]; rfl) (Nat.lt_succ_self _) hw ls (lv_sub hl [0, 1, 2] rfl)
    · exact absurd c17 (by omega)
  · refine z_ic hx hb d_M_text_5 ?_
    refine lv_goto (tgt := 10) hx hb d_M_text_6 (by decide) ?_
    refine pM_M_thrown hc hw lk_M_60 d_M_text_10 (fun H locs hw => ?_)
    refine lv_aload_n hx hb d_M_text_13 rfl (lv_at hl 0 rfl) ?_
    refine gM_M_thrown hc hw lk_M_60 d_M_text_14 ?_
    simp only [up_s]
    refine z_if_eq hx hb 22 d_M_text_17 (by omega) (by decide) (fun c17 => ?_) (fun c17 => ?_)
    · exact absurd c17 (by omega)
    · refine z_ic hx hb d_M_text_20 ?_
      exact w_iret hc hw (by unfold mTxR mTxS; rw [if_pos (by omega), if_pos (by omega)]; exact ⟨rfl, rfl⟩) d_M_text_21
