set_option maxHeartbeats 400000 in
set_option maxRecDepth 100000 in
theorem k_M_suspect {l : Launch} {D : va_G} {ad : Nat → Nat} {ca : Nat → ClassId} (μ : St) (k w : Int) (hk : r32 k) (hw2 : r32 w) (hI : 0 ≤ μ 1 0 ∧ μ 1 0 ≤ 12) (hO : ∀ i, 0 ≤ μ 21 i ∧ μ 21 i < 4096) : Cw l D cl7 (tyM ca) (wM ad ca) y_M_suspect c_M_suspect 6 (some .int) 2 [.ref (ad 100), .int (zI k), .int (zI w)] μ (RW (.int (zI (mSuR μ k w))) (up μ 0 0 (if suOk μ k w then 0 else 1) = ·)) := by
  have hsb := suS_bd hI
  have hpb := popc_bd (suS μ)
  obtain ⟨N0, hN0⟩ : ∃ z, z = suN μ k := ⟨_, rfl⟩
  refine Cw.enter (by decide) (Nat.le_of_ble_eq_true rfl) ?_
  intro A p e s m below meth c hc ls hl hw
  have hl : lv_has ls 6 [(0, .ref (ad 100)), (1, .int (zI k)), (2, .int (zI w))] := hl
  obtain ⟨hx, hb, hml, hown, hTB, hK, hr, hlk⟩ := id hc
  refine lv_aload_n hx hb d_M_suspect_0 rfl (lv_at hl 0 rfl) ?_
  refine w_cvR (q0 := 0) hc hw (k_M_suspectSet _ hI hO) yw_M_suspectSet yi_M_suspectSet lk_M_142 d_M_suspect_1 rfl rfl rfl rfl hl.1 (Nat.le_of_ble_eq_true rfl) ⟨Nat.le_of_ble_eq_true rfl, Nat.le_of_ble_eq_true rfl⟩ ⟨Nat.zero_le _, Nat.zero_le _⟩ (fun τ1 H locs hτ1 hw => ?_)
  subst hτ1
  refine z_ist_n hx hb d_M_suspect_4 rfl hl (by decide) (fun x3_4 ex3_4 ls (hl : lv_has ls 6 [(3, .int (zI x3_4)), (0, .ref (ad 100)), (1, .int (zI k)), (2, .int (zI w))]) => ?_)
  subst ex3_4
  refine lv_aload_n hx hb d_M_suspect_5 rfl (lv_at hl 1 rfl) ?_
  refine lv_iload_n hx hb d_M_suspect_6 rfl (lv_at hl 2 rfl) ?_
  refine z_if_lt hx hb 31 d_M_suspect_7 (by omega) (by decide) (fun c7 => ?_) (fun c7 => ?_)
  · refine z_ic hx hb d_M_suspect_31 ?_
    refine pM_M_thrown hc hw lk_M_60 d_M_suspect_32 (fun H locs hw => ?_)
    refine lv_aload_n hx hb d_M_suspect_35 rfl (lv_at hl 1 rfl) ?_
    refine gM_M_thrown hc hw lk_M_60 d_M_suspect_36 ?_
    simp only [up_s]
    refine z_if_eq hx hb 44 d_M_suspect_39 (by omega) (by decide) (fun c39 => ?_) (fun c39 => ?_)
    · exact absurd c39 (by omega)
    · refine z_ic hx hb d_M_suspect_42 ?_
      exact w_iret hc hw (by have z : ¬ suOk μ k w := (fun q => by omega); unfold mSuR; rw [if_neg z, if_neg z]; exact ⟨rfl, rfl⟩) d_M_suspect_43
  · refine lv_iload_n hx hb d_M_suspect_10 rfl (lv_at hl 2 rfl) ?_
    refine lv_iload_n hx hb d_M_suspect_11 rfl (lv_at hl 0 rfl) ?_
    refine w_csR hc hw (k_M_bits _ _ hsb) yw_M_bits yi_M_bits lk_M_135 d_M_suspect_12 rfl rfl hl.1 (Nat.le_of_ble_eq_true rfl) ⟨Nat.le_of_ble_eq_true rfl, Nat.le_of_ble_eq_true rfl⟩ ⟨Nat.zero_le _, Nat.zero_le _⟩ (fun τ12 H locs hτ12 hw => ?_)
    subst hτ12
    refine z_icmp_ge hx hb 31 d_M_suspect_15 (by omega) (by omega) (by decide) (fun c15 => ?_) (fun c15 => ?_)
    · refine z_ic hx hb d_M_suspect_31 ?_
      refine pM_M_thrown hc hw lk_M_60 d_M_suspect_32 (fun H locs hw => ?_)
      refine lv_aload_n hx hb d_M_suspect_35 rfl (lv_at hl 1 rfl) ?_
      refine gM_M_thrown hc hw lk_M_60 d_M_suspect_36 ?_
      simp only [up_s]
      refine z_if_eq hx hb 44 d_M_suspect_39 (by omega) (by decide) (fun c39 => ?_) (fun c39 => ?_)
      · exact absurd c39 (by omega)
      · refine z_ic hx hb d_M_suspect_42 ?_
        exact w_iret hc hw (by have z : ¬ suOk μ k w := (fun q => by omega); unfold mSuR; rw [if_neg z, if_neg z]; exact ⟨rfl, rfl⟩) d_M_suspect_43
    · refine lv_iload_n hx hb d_M_suspect_18 rfl (lv_at hl 3 rfl) ?_
      refine z_if_lt hx hb 31 d_M_suspect_19 (by omega) (by decide) (fun c19 => ?_) (fun c19 => ?_)
      · refine z_ic hx hb d_M_suspect_31 ?_
        refine pM_M_thrown hc hw lk_M_60 d_M_suspect_32 (fun H locs hw => ?_)
        refine lv_aload_n hx hb d_M_suspect_35 rfl (lv_at hl 1 rfl) ?_
        refine gM_M_thrown hc hw lk_M_60 d_M_suspect_36 ?_
        simp only [up_s]
        refine z_if_eq hx hb 44 d_M_suspect_39 (by omega) (by decide) (fun c39 => ?_) (fun c39 => ?_)
        · exact absurd c39 (by omega)
        · refine z_ic hx hb d_M_suspect_42 ?_
          exact w_iret hc hw (by have z : ¬ suOk μ k w := (fun q => by omega); unfold mSuR; rw [if_neg z, if_neg z]; exact ⟨rfl, rfl⟩) d_M_suspect_43
      · refine lv_iload_n hx hb d_M_suspect_22 rfl (lv_at hl 3 rfl) ?_
        refine z_ic hx hb d_M_suspect_23 ?_
        refine z_icmp_ge hx hb 31 d_M_suspect_24 (by omega) (by omega) (by decide) (fun c24 => ?_) (fun c24 => ?_)
        · refine z_ic hx hb d_M_suspect_31 ?_
          refine pM_M_thrown hc hw lk_M_60 d_M_suspect_32 (fun H locs hw => ?_)
          refine lv_aload_n hx hb d_M_suspect_35 rfl (lv_at hl 1 rfl) ?_
          refine gM_M_thrown hc hw lk_M_60 d_M_suspect_36 ?_
          simp only [up_s]
          refine z_if_eq hx hb 44 d_M_suspect_39 (by omega) (by decide) (fun c39 => ?_) (fun c39 => ?_)
          · exact absurd c39 (by omega)
          · refine z_ic hx hb d_M_suspect_42 ?_
            exact w_iret hc hw (by have z : ¬ suOk μ k w := (fun q => by omega); unfold mSuR; rw [if_neg z, if_neg z]; exact ⟨rfl, rfl⟩) d_M_suspect_43
        · refine z_ic hx hb d_M_suspect_27 ?_
          refine lv_goto (tgt := 32) hx hb d_M_suspect_28 (by decide) ?_
          refine pM_M_thrown hc hw lk_M_60 d_M_suspect_32 (fun H locs hw => ?_)
          refine lv_aload_n hx hb d_M_suspect_35 rfl (lv_at hl 1 rfl) ?_
          refine gM_M_thrown hc hw lk_M_60 d_M_suspect_36 ?_
          simp only [up_s]
          refine z_if_eq hx hb 44 d_M_suspect_39 (by omega) (by decide) (fun c39 => ?_) (fun c39 => ?_)
          · refine lv_iload_n hx hb d_M_suspect_44 rfl (lv_at hl 2 rfl) ?_
            refine z_ist hx hb d_M_suspect_45 hl (by decide) (fun x4_45 ex4_45 ls (hl : lv_has ls 6 [(4, .int (zI x4_45)), (3, .int (zI (suS μ))), (0, .ref (ad 100)), (1, .int (zI k)), (2, .int (zI w))]) => ?_)
            refine z_ic hx hb d_M_suspect_47 ?_
            refine z_ist hx hb d_M_suspect_48 hl (by decide) (fun x5_48 ex5_48 ls (hl : lv_has ls 6 [(5, .int (zI x5_48)), (4, .int (zI x4_45)), (3, .int (zI (suS μ))), (0, .ref (ad 100)), (1, .int (zI k)), (2, .int (zI w))]) => ?_)
            have L50 : ∀ (nf : Nat) (n : Int) (lf : Int) (ν : St) (H : Heap) (locs : List Loc), (0 ≤ n ∧ n ≤ 12) → (0 ≤ lf ∧ lf < pR (suS μ) n) → (N0 = kbF (suS μ) (12 - n).toNat lf n) → (ν = up μ 0 0 0) → (12 - n).toNat < nf → Wd D cl7 (wM ad ca) A s.heap ν H locs → ∀ ls : Array Slot, lv_has ls 6 [(5, .int (zI n)), (4, .int (zI lf)), (3, .int (zI (suS μ))), (0, .ref (ad 100)), (1, .int (zI k)), (2, .int (zI w))] → W p l e (Rmh 2) s m ([.ref (ad 100), .int (zI k), .int (zI w)] : List Value).toArray below meth c H locs 0 0 (MQ below (Qw D cl7 (wM ad ca) A (RW (.int (zI (mSuR μ k w))) (up μ 0 0 (if suOk μ k w then 0 else 1) = ·))) ([.ref (ad 100), .int (zI k), .int (zI w)] : List Value).toArray s 0 0 A) (F0 m 50 ls []) := by
              intro nf
              induction nf with
              | zero => intro n lf ν H locs hn hlf hN hν hm; exact absurd hm (Nat.not_lt_zero _)
              | succ nf ih50 =>
                intro n lf ν H locs hn hlf hN hν hm50 hw ls hl
                subst hν
                have hn12 : n < 12 := by rcases Int.lt_or_le n 12 with q | q; exact q; exfalso; rw [show n = 12 by omega, pR_12 hsb] at hlf; omega
                have q : (12 - n).toNat = (12 - (n + 1)).toNat + 1 := by omega
                rw [q, kbF_s] at hN
                have hps := pR_s (n := n) hsb hn.1
                have hbr := bI_r (zB (suS μ) n)
                have hpR : pR (suS μ) n ≤ 12 := (popc_bd _).2
                refine lv_iload_n hx hb d_M_suspect_50 rfl (lv_at hl 2 rfl) ?_
                refine lv_iload hx hb d_M_suspect_51 (lv_at hl 0 rfl) ?_
                refine z_ishr hx hb d_M_suspect_53 (by omega) ?_
                refine z_ic hx hb d_M_suspect_54 ?_
                refine z_iand hx hb d_M_suspect_55 (⟨Int.natCast_nonneg _, by decide⟩) ?_
                rw [zAnd1 (suS μ) n hsb.1]
                refine z_ifb_eq hx hb 64 d_M_suspect_56 (by decide) (fun c56 => ?_) (fun c56 => ?_)
                · refine lv_iload hx hb d_M_suspect_64 (lv_at hl 1 rfl) ?_
                  refine lv_iload_n hx hb d_M_suspect_66 rfl (lv_at hl 2 rfl) ?_
                  refine lv_iload hx hb d_M_suspect_67 (lv_at hl 0 rfl) ?_
                  refine z_ishr hx hb d_M_suspect_69 (by omega) ?_
                  refine z_ic hx hb d_M_suspect_70 ?_
                  refine z_iand hx hb d_M_suspect_71 (⟨Int.natCast_nonneg _, by decide⟩) ?_
                  rw [zAnd1 (suS μ) n hsb.1]
                  refine z_isub hx hb d_M_suspect_72 ?_
                  refine z_ist hx hb d_M_suspect_73 hl (by decide) (fun x4_73 ex4_73 ls (hl : lv_has ls 6 [(4, .int (zI x4_73)), (5, .int (zI n)), (3, .int (zI (suS μ))), (0, .ref (ad 100)), (1, .int (zI k)), (2, .int (zI w))]) => ?_)
                  refine z_iinc (k := 1) hx hb d_M_suspect_75 hl rfl (by decide) (fun x5_75 ex5_75 ls (hl : lv_has ls 6 [(5, .int (zI x5_75)), (4, .int (zI x4_73)), (3, .int (zI (suS μ))), (0, .ref (ad 100)), (1, .int (zI k)), (2, .int (zI w))]) => ?_)
                  refine lv_goto (tgt := 50) hx hb d_M_suspect_78 (by decide) ?_
                  exact ih50 x5_75 x4_73 _ _ _ (by omega) (by rw [ex4_73, ex5_75]; first | (have z := bI_f c56; omega) | (have z := bI_t c56; omega)) (by rw [hN, ex5_75, ex4_73]; first | (rw [if_pos (Or.inl c56)]; done) | (rw [if_pos (Or.inr (by omega))]; done)) (rfl) (by omega) hw ls (lv_sub hl [0, 1, 2, 3, 4, 5] rfl)
                · refine lv_iload hx hb d_M_suspect_59 (lv_at hl 1 rfl) ?_
                  refine z_if_le hx hb 81 d_M_suspect_61 (by omega) (by decide) (fun c61 => ?_) (fun c61 => ?_)
                  · rw [if_neg (fun z => z.elim (fun z => z c56) (fun z => by omega))] at hN
                    have hok : suOk μ k w := ⟨by omega, by omega, by omega, by omega⟩
                    have e21 : up μ 0 0 0 21 n = μ 21 n := up_o _ _ _ _ (by decide)
                    refine lv_iload_n hx hb d_M_suspect_81 rfl (lv_at hl 5 rfl) ?_
                    refine z_if_ne hx hb 90 d_M_suspect_82 (by omega) (by decide) (fun c82 => ?_) (fun c82 => ?_)
                    · refine lv_aload_n hx hb d_M_suspect_90 rfl (lv_at hl 3 rfl) ?_
                      refine gM_M_failed hc hw lk_M_51 d_M_suspect_91 ?_
                      refine lv_iload hx hb d_M_suspect_94 (lv_at hl 0 rfl) ?_
                      refine ldM_M_failed hc hw d_M_suspect_96 (by omega) ?_
                      refine w_csR hc hw (k_M_bits _ _ (by rw [e21]; exact hO n)) yw_M_bits yi_M_bits lk_M_135 d_M_suspect_97 rfl rfl hl.1 (Nat.le_of_ble_eq_true rfl) ⟨Nat.le_of_ble_eq_true rfl, Nat.le_of_ble_eq_true rfl⟩ ⟨Nat.zero_le _, Nat.zero_le _⟩ (fun τ97 H locs hτ97 hw => ?_)
                      subst hτ97
                      exact w_iret hc hw (by unfold mSuR; rw [if_pos hok, if_pos hok, ← hN0, hN]; first | (rw [if_pos c82]; exact ⟨rfl, rfl⟩) | (rw [if_neg c82]; exact ⟨by rw [e21], rfl⟩)) d_M_suspect_100
                    · refine lv_iload hx hb d_M_suspect_85 (lv_at hl 0 rfl) ?_
                      refine lv_goto (tgt := 100) hx hb d_M_suspect_87 (by decide) ?_
                      exact w_iret hc hw (by unfold mSuR; rw [if_pos hok, if_pos hok, ← hN0, hN]; first | (rw [if_pos c82]; exact ⟨rfl, rfl⟩) | (rw [if_neg c82]; exact ⟨by rw [e21], rfl⟩)) d_M_suspect_100
                  · refine lv_iload hx hb d_M_suspect_64 (lv_at hl 1 rfl) ?_
                    refine lv_iload_n hx hb d_M_suspect_66 rfl (lv_at hl 2 rfl) ?_
                    refine lv_iload hx hb d_M_suspect_67 (lv_at hl 0 rfl) ?_
                    refine z_ishr hx hb d_M_suspect_69 (by omega) ?_
                    refine z_ic hx hb d_M_suspect_70 ?_
                    refine z_iand hx hb d_M_suspect_71 (⟨Int.natCast_nonneg _, by decide⟩) ?_
                    rw [zAnd1 (suS μ) n hsb.1]
                    refine z_isub hx hb d_M_suspect_72 ?_
                    refine z_ist hx hb d_M_suspect_73 hl (by decide) (fun x4_73 ex4_73 ls (hl : lv_has ls 6 [(4, .int (zI x4_73)), (5, .int (zI n)), (3, .int (zI (suS μ))), (0, .ref (ad 100)), (1, .int (zI k)), (2, .int (zI w))]) => ?_)
                    refine z_iinc (k := 1) hx hb d_M_suspect_75 hl rfl (by decide) (fun x5_75 ex5_75 ls (hl : lv_has ls 6 [(5, .int (zI x5_75)), (4, .int (zI x4_73)), (3, .int (zI (suS μ))), (0, .ref (ad 100)), (1, .int (zI k)), (2, .int (zI w))]) => ?_)
                    refine lv_goto (tgt := 50) hx hb d_M_suspect_78 (by decide) ?_
                    exact ih50 x5_75 x4_73 _ _ _ (by omega) (by rw [ex4_73, ex5_75]; first | (have z := bI_f c56; omega) | (have z := bI_t c56; omega)) (by rw [hN, ex5_75, ex4_73]; first | (rw [if_pos (Or.inl c56)]; done) | (rw [if_pos (Or.inr (by omega))]; done)) (rfl) (by omega) hw ls (lv_sub hl [0, 1, 2, 3, 4, 5] rfl)
            exact L50 _ x5_48 x4_45 _ _ _ (by omega) (by rw [ex5_48, pR_0 _ hsb.1]; omega) (by rw [ex5_48, ex4_45, show ((12 : Int) - 0).toNat = 12 from (by decide)]; exact hN0) (rfl) (Nat.lt_succ_self _) hw ls (lv_sub hl [0, 1, 2, 3, 4, 5] rfl)
          · exact absurd c39 (by omega)
set_option maxHeartbeats 400000 in
set_option maxRecDepth 100000 in
theorem k_M_span {l : Launch} {D : va_G} {ad : Nat → Nat} {ca : Nat → ClassId} (μ : St) (a b en pt : Int) (ha : r32 a) (hb2 : r32 b) (hen : r32 en) (hpt : r32 pt) (hI : 0 ≤ μ 1 0 ∧ μ 1 0 ≤ 12) (hC : ∀ i, 0 ≤ μ 19 i ∧ μ 19 i ≤ 4) (hP : twoN μ a b → (0 ≤ en ∧ en < 2) → ∀ k, 0 ≤ k → k < μ 19 (mPr a b) → 1 ≤ μ 20 (8 * mPr a b + 2 * k + en) ∧ μ 20 (8 * mPr a b + 2 * k + en) ≤ 1000) : Cw l D cl7 (tyM ca) (wM ad ca) y_M_span c_M_span 17 (some .long) 1 [.ref (ad 100), .int (zI a), .int (zI b), .int (zI en), .int (zI pt)] μ (RW (.long (zL (mSpR μ a b en pt))) (up μ 0 0 (mSpT μ a b en pt) = ·)) := by
  have hCp := hC (mPr a b)
  refine Cw.enter (by decide) (Nat.le_of_ble_eq_true rfl) ?_
  intro A p e s m below meth c hc ls hl hw
  have hl : lv_has ls 17 [(0, .ref (ad 100)), (1, .int (zI a)), (2, .int (zI b)), (3, .int (zI en)), (4, .int (zI pt))] := hl
  obtain ⟨hx, hb, hml, hown, hTB, hK, hr, hlk⟩ := id hc
  refine lv_aload_n hx hb d_M_span_0 rfl (lv_at hl 0 rfl) ?_
  refine lv_iload_n hx hb d_M_span_1 rfl (lv_at hl 1 rfl) ?_
  refine w_cvR (q0 := 0) hc hw (k_M_isNet _ _ (by omega) hI) yw_M_isNet yi_M_isNet lk_M_80 d_M_span_2 rfl rfl rfl rfl hl.1 (Nat.le_of_ble_eq_true rfl) ⟨Nat.le_of_ble_eq_true rfl, Nat.le_of_ble_eq_true rfl⟩ ⟨Nat.zero_le _, Nat.zero_le _⟩ (fun τ2 H locs hτ2 hw => ?_)
  subst hτ2
  refine z_ifb_eq hx hb 40 d_M_span_5 (by decide) (fun c5 => ?_) (fun c5 => ?_)
  · refine z_ic hx hb d_M_span_40 ?_
    refine z_ist hx hb d_M_span_41 hl (by decide) (fun x5_41 ex5_41 ls (hl : lv_has ls 17 [(5, .int (zI x5_41)), (0, .ref (ad 100)), (1, .int (zI a)), (2, .int (zI b)), (3, .int (zI en)), (4, .int (zI pt))]) => ?_)
    refine lv_aload_n hx hb d_M_span_43 rfl (lv_at hl 1 rfl) ?_
    refine lv_iload hx hb d_M_span_44 (lv_at hl 0 rfl) ?_
    refine z_if_ne hx hb 53 d_M_span_46 (by omega) (by decide) (fun c46 => ?_) (fun c46 => ?_)
    · exact absurd c46 (by omega)
    · refine z_ic hx hb d_M_span_49 ?_
      refine lv_goto (tgt := 76) hx hb d_M_span_50 (by decide) ?_
      refine pM_M_thrown hc hw lk_M_60 d_M_span_76 (fun H locs hw => ?_)
      refine lv_aload_n hx hb d_M_span_79 rfl (lv_at hl 1 rfl) ?_
      refine gM_M_thrown hc hw lk_M_60 d_M_span_80 ?_
      simp only [up_s]
      refine z_if_eq hx hb 88 d_M_span_83 (by omega) (by decide) (fun c83 => ?_) (fun c83 => ?_)
      · exact absurd c83 (by omega)
      · refine z_lc0 hx hb d_M_span_86 ?_
        exact w_lret hc hw (by (first | (have g : mSpT μ a b en pt = 1 := (by unfold mSpT; rw [if_pos (fun q => by omega)])) | (have g : mSpT μ a b en pt = 2 := (by unfold mSpT; rw [if_neg (fun q => q ⟨⟨by omega, by omega⟩, by omega, by omega⟩), if_pos (by omega)]))); unfold mSpR; rw [g]; exact ⟨rfl, rfl⟩) d_M_span_87
  · refine lv_aload_n hx hb d_M_span_8 rfl (lv_at hl 0 rfl) ?_
    refine lv_iload_n hx hb d_M_span_9 rfl (lv_at hl 2 rfl) ?_
    refine w_cvR (q0 := 0) hc hw (k_M_isNet _ _ (by omega) hI) yw_M_isNet yi_M_isNet lk_M_80 d_M_span_10 rfl rfl rfl rfl hl.1 (Nat.le_of_ble_eq_true rfl) ⟨Nat.le_of_ble_eq_true rfl, Nat.le_of_ble_eq_true rfl⟩ ⟨Nat.zero_le _, Nat.zero_le _⟩ (fun τ10 H locs hτ10 hw => ?_)
    subst hτ10
    refine z_ifb_eq hx hb 40 d_M_span_13 (by decide) (fun c13 => ?_) (fun c13 => ?_)
    · refine z_ic hx hb d_M_span_40 ?_
      refine z_ist hx hb d_M_span_41 hl (by decide) (fun x5_41 ex5_41 ls (hl : lv_has ls 17 [(5, .int (zI x5_41)), (0, .ref (ad 100)), (1, .int (zI a)), (2, .int (zI b)), (3, .int (zI en)), (4, .int (zI pt))]) => ?_)
      refine lv_aload_n hx hb d_M_span_43 rfl (lv_at hl 1 rfl) ?_
      refine lv_iload hx hb d_M_span_44 (lv_at hl 0 rfl) ?_
      refine z_if_ne hx hb 53 d_M_span_46 (by omega) (by decide) (fun c46 => ?_) (fun c46 => ?_)
      · exact absurd c46 (by omega)
      · refine z_ic hx hb d_M_span_49 ?_
        refine lv_goto (tgt := 76) hx hb d_M_span_50 (by decide) ?_
        refine pM_M_thrown hc hw lk_M_60 d_M_span_76 (fun H locs hw => ?_)
        refine lv_aload_n hx hb d_M_span_79 rfl (lv_at hl 1 rfl) ?_
        refine gM_M_thrown hc hw lk_M_60 d_M_span_80 ?_
        simp only [up_s]
        refine z_if_eq hx hb 88 d_M_span_83 (by omega) (by decide) (fun c83 => ?_) (fun c83 => ?_)
        · exact absurd c83 (by omega)
        · refine z_lc0 hx hb d_M_span_86 ?_
          exact w_lret hc hw (by (first | (have g : mSpT μ a b en pt = 1 := (by unfold mSpT; rw [if_pos (fun q => by omega)])) | (have g : mSpT μ a b en pt = 2 := (by unfold mSpT; rw [if_neg (fun q => q ⟨⟨by omega, by omega⟩, by omega, by omega⟩), if_pos (by omega)]))); unfold mSpR; rw [g]; exact ⟨rfl, rfl⟩) d_M_span_87
    · refine lv_iload_n hx hb d_M_span_16 rfl (lv_at hl 3 rfl) ?_
      refine z_if_lt hx hb 40 d_M_span_17 (by omega) (by decide) (fun c17 => ?_) (fun c17 => ?_)
      · refine z_ic hx hb d_M_span_40 ?_
        refine z_ist hx hb d_M_span_41 hl (by decide) (fun x5_41 ex5_41 ls (hl : lv_has ls 17 [(5, .int (zI x5_41)), (0, .ref (ad 100)), (1, .int (zI a)), (2, .int (zI b)), (3, .int (zI en)), (4, .int (zI pt))]) => ?_)
        refine lv_aload_n hx hb d_M_span_43 rfl (lv_at hl 1 rfl) ?_
        refine lv_iload hx hb d_M_span_44 (lv_at hl 0 rfl) ?_
        refine z_if_ne hx hb 53 d_M_span_46 (by omega) (by decide) (fun c46 => ?_) (fun c46 => ?_)
        · exact absurd c46 (by omega)
        · refine z_ic hx hb d_M_span_49 ?_
          refine lv_goto (tgt := 76) hx hb d_M_span_50 (by decide) ?_
          refine pM_M_thrown hc hw lk_M_60 d_M_span_76 (fun H locs hw => ?_)
          refine lv_aload_n hx hb d_M_span_79 rfl (lv_at hl 1 rfl) ?_
          refine gM_M_thrown hc hw lk_M_60 d_M_span_80 ?_
          simp only [up_s]
          refine z_if_eq hx hb 88 d_M_span_83 (by omega) (by decide) (fun c83 => ?_) (fun c83 => ?_)
          · exact absurd c83 (by omega)
          · refine z_lc0 hx hb d_M_span_86 ?_
            exact w_lret hc hw (by (first | (have g : mSpT μ a b en pt = 1 := (by unfold mSpT; rw [if_pos (fun q => by omega)])) | (have g : mSpT μ a b en pt = 2 := (by unfold mSpT; rw [if_neg (fun q => q ⟨⟨by omega, by omega⟩, by omega, by omega⟩), if_pos (by omega)]))); unfold mSpR; rw [g]; exact ⟨rfl, rfl⟩) d_M_span_87
      · refine lv_iload_n hx hb d_M_span_20 rfl (lv_at hl 3 rfl) ?_
        refine z_ic hx hb d_M_span_21 ?_
        refine z_icmp_ge hx hb 40 d_M_span_22 (by omega) (by omega) (by decide) (fun c22 => ?_) (fun c22 => ?_)
        · refine z_ic hx hb d_M_span_40 ?_
          refine z_ist hx hb d_M_span_41 hl (by decide) (fun x5_41 ex5_41 ls (hl : lv_has ls 17 [(5, .int (zI x5_41)), (0, .ref (ad 100)), (1, .int (zI a)), (2, .int (zI b)), (3, .int (zI en)), (4, .int (zI pt))]) => ?_)
          refine lv_aload_n hx hb d_M_span_43 rfl (lv_at hl 1 rfl) ?_
          refine lv_iload hx hb d_M_span_44 (lv_at hl 0 rfl) ?_
          refine z_if_ne hx hb 53 d_M_span_46 (by omega) (by decide) (fun c46 => ?_) (fun c46 => ?_)
          · exact absurd c46 (by omega)
          · refine z_ic hx hb d_M_span_49 ?_
            refine lv_goto (tgt := 76) hx hb d_M_span_50 (by decide) ?_
            refine pM_M_thrown hc hw lk_M_60 d_M_span_76 (fun H locs hw => ?_)
            refine lv_aload_n hx hb d_M_span_79 rfl (lv_at hl 1 rfl) ?_
            refine gM_M_thrown hc hw lk_M_60 d_M_span_80 ?_
            simp only [up_s]
            refine z_if_eq hx hb 88 d_M_span_83 (by omega) (by decide) (fun c83 => ?_) (fun c83 => ?_)
            · exact absurd c83 (by omega)
            · refine z_lc0 hx hb d_M_span_86 ?_
              exact w_lret hc hw (by (first | (have g : mSpT μ a b en pt = 1 := (by unfold mSpT; rw [if_pos (fun q => by omega)])) | (have g : mSpT μ a b en pt = 2 := (by unfold mSpT; rw [if_neg (fun q => q ⟨⟨by omega, by omega⟩, by omega, by omega⟩), if_pos (by omega)]))); unfold mSpR; rw [g]; exact ⟨rfl, rfl⟩) d_M_span_87
        · refine lv_iload hx hb d_M_span_25 (lv_at hl 4 rfl) ?_
          refine z_if_lt hx hb 40 d_M_span_27 (by omega) (by decide) (fun c27 => ?_) (fun c27 => ?_)
          · refine z_ic hx hb d_M_span_40 ?_
            refine z_ist hx hb d_M_span_41 hl (by decide) (fun x5_41 ex5_41 ls (hl : lv_has ls 17 [(5, .int (zI x5_41)), (0, .ref (ad 100)), (1, .int (zI a)), (2, .int (zI b)), (3, .int (zI en)), (4, .int (zI pt))]) => ?_)
            refine lv_aload_n hx hb d_M_span_43 rfl (lv_at hl 1 rfl) ?_
            refine lv_iload hx hb d_M_span_44 (lv_at hl 0 rfl) ?_
            refine z_if_ne hx hb 53 d_M_span_46 (by omega) (by decide) (fun c46 => ?_) (fun c46 => ?_)
            · exact absurd c46 (by omega)
            · refine z_ic hx hb d_M_span_49 ?_
              refine lv_goto (tgt := 76) hx hb d_M_span_50 (by decide) ?_
              refine pM_M_thrown hc hw lk_M_60 d_M_span_76 (fun H locs hw => ?_)
              refine lv_aload_n hx hb d_M_span_79 rfl (lv_at hl 1 rfl) ?_
              refine gM_M_thrown hc hw lk_M_60 d_M_span_80 ?_
              simp only [up_s]
              refine z_if_eq hx hb 88 d_M_span_83 (by omega) (by decide) (fun c83 => ?_) (fun c83 => ?_)
              · exact absurd c83 (by omega)
              · refine z_lc0 hx hb d_M_span_86 ?_
                exact w_lret hc hw (by (first | (have g : mSpT μ a b en pt = 1 := (by unfold mSpT; rw [if_pos (fun q => by omega)])) | (have g : mSpT μ a b en pt = 2 := (by unfold mSpT; rw [if_neg (fun q => q ⟨⟨by omega, by omega⟩, by omega, by omega⟩), if_pos (by omega)]))); unfold mSpR; rw [g]; exact ⟨rfl, rfl⟩) d_M_span_87
          · refine lv_iload hx hb d_M_span_30 (lv_at hl 4 rfl) ?_
            refine z_ic hx hb d_M_span_32 ?_
            refine z_icmp_ge hx hb 40 d_M_span_33 (by omega) (by omega) (by decide) (fun c33 => ?_) (fun c33 => ?_)
            · refine z_ic hx hb d_M_span_40 ?_
              refine z_ist hx hb d_M_span_41 hl (by decide) (fun x5_41 ex5_41 ls (hl : lv_has ls 17 [(5, .int (zI x5_41)), (0, .ref (ad 100)), (1, .int (zI a)), (2, .int (zI b)), (3, .int (zI en)), (4, .int (zI pt))]) => ?_)
              refine lv_aload_n hx hb d_M_span_43 rfl (lv_at hl 1 rfl) ?_
              refine lv_iload hx hb d_M_span_44 (lv_at hl 0 rfl) ?_
              refine z_if_ne hx hb 53 d_M_span_46 (by omega) (by decide) (fun c46 => ?_) (fun c46 => ?_)
              · exact absurd c46 (by omega)
              · refine z_ic hx hb d_M_span_49 ?_
                refine lv_goto (tgt := 76) hx hb d_M_span_50 (by decide) ?_
                refine pM_M_thrown hc hw lk_M_60 d_M_span_76 (fun H locs hw => ?_)
                refine lv_aload_n hx hb d_M_span_79 rfl (lv_at hl 1 rfl) ?_
                refine gM_M_thrown hc hw lk_M_60 d_M_span_80 ?_
                simp only [up_s]
                refine z_if_eq hx hb 88 d_M_span_83 (by omega) (by decide) (fun c83 => ?_) (fun c83 => ?_)
                · exact absurd c83 (by omega)
                · refine z_lc0 hx hb d_M_span_86 ?_
                  exact w_lret hc hw (by (first | (have g : mSpT μ a b en pt = 1 := (by unfold mSpT; rw [if_pos (fun q => by omega)])) | (have g : mSpT μ a b en pt = 2 := (by unfold mSpT; rw [if_neg (fun q => q ⟨⟨by omega, by omega⟩, by omega, by omega⟩), if_pos (by omega)]))); unfold mSpR; rw [g]; exact ⟨rfl, rfl⟩) d_M_span_87
            · refine z_ic hx hb d_M_span_36 ?_
              refine lv_goto (tgt := 41) hx hb d_M_span_37 (by decide) ?_
              refine z_ist hx hb d_M_span_41 hl (by decide) (fun x5_41 ex5_41 ls (hl : lv_has ls 17 [(5, .int (zI x5_41)), (0, .ref (ad 100)), (1, .int (zI a)), (2, .int (zI b)), (3, .int (zI en)), (4, .int (zI pt))]) => ?_)
              refine lv_aload_n hx hb d_M_span_43 rfl (lv_at hl 1 rfl) ?_
              refine lv_iload hx hb d_M_span_44 (lv_at hl 0 rfl) ?_
              refine z_if_ne hx hb 53 d_M_span_46 (by omega) (by decide) (fun c46 => ?_) (fun c46 => ?_)
              · refine lv_iload_n hx hb d_M_span_53 rfl (lv_at hl 2 rfl) ?_
                refine lv_iload_n hx hb d_M_span_54 rfl (lv_at hl 3 rfl) ?_
                refine z_icmp_eq hx hb 71 d_M_span_55 (by omega) (by omega) (by decide) (fun c55 => ?_) (fun c55 => ?_)
                · refine z_ic hx hb d_M_span_71 ?_
                  refine lv_goto (tgt := 76) hx hb d_M_span_72 (by decide) ?_
                  refine pM_M_thrown hc hw lk_M_60 d_M_span_76 (fun H locs hw => ?_)
                  refine lv_aload_n hx hb d_M_span_79 rfl (lv_at hl 1 rfl) ?_
                  refine gM_M_thrown hc hw lk_M_60 d_M_span_80 ?_
                  simp only [up_s]
                  refine z_if_eq hx hb 88 d_M_span_83 (by omega) (by decide) (fun c83 => ?_) (fun c83 => ?_)
                  · exact absurd c83 (by omega)
                  · refine z_lc0 hx hb d_M_span_86 ?_
                    exact w_lret hc hw (by (first | (have g : mSpT μ a b en pt = 1 := (by unfold mSpT; rw [if_pos (fun q => by omega)])) | (have g : mSpT μ a b en pt = 2 := (by unfold mSpT; rw [if_neg (fun q => q ⟨⟨by omega, by omega⟩, by omega, by omega⟩), if_pos (by omega)]))); unfold mSpR; rw [g]; exact ⟨rfl, rfl⟩) d_M_span_87
                · refine lv_aload_n hx hb d_M_span_58 rfl (lv_at hl 1 rfl) ?_
                  refine gM_M_partCount hc hw lk_M_45 d_M_span_59 ?_
                  refine lv_iload_n hx hb d_M_span_62 rfl (lv_at hl 2 rfl) ?_
                  refine lv_iload_n hx hb d_M_span_63 rfl (lv_at hl 3 rfl) ?_
                  refine w_csR hc hw (k_M_pairOf _ _ _ ha hb2) yw_M_pairOf yi_M_pairOf lk_M_126 d_M_span_64 rfl rfl hl.1 (Nat.le_of_ble_eq_true rfl) ⟨Nat.le_of_ble_eq_true rfl, Nat.le_of_ble_eq_true rfl⟩ ⟨Nat.zero_le _, Nat.zero_le _⟩ (fun τ64 H locs hτ64 hw => ?_)
                  subst hτ64
                  refine ldM_M_partCount hc hw d_M_span_67 (by have := mPr_bd (a := a) (b := b) (by omega) (by omega); omega) ?_
                  refine z_if_ne hx hb 75 d_M_span_68 (by omega) (by decide) (fun c68 => ?_) (fun c68 => ?_)
                  · refine z_ic hx hb d_M_span_75 ?_
                    refine pM_M_thrown hc hw lk_M_60 d_M_span_76 (fun H locs hw => ?_)
                    refine lv_aload_n hx hb d_M_span_79 rfl (lv_at hl 1 rfl) ?_
                    refine gM_M_thrown hc hw lk_M_60 d_M_span_80 ?_
                    simp only [up_s]
                    refine z_if_eq hx hb 88 d_M_span_83 (by omega) (by decide) (fun c83 => ?_) (fun c83 => ?_)
                    · have g : mSpT μ a b en pt = 0 := by unfold mSpT; rw [if_neg (fun q => q ⟨⟨by omega, by omega⟩, by omega, by omega⟩), if_neg (by omega)]
                      have hpr := mPr_bd (a := a) (b := b) (by omega) (by omega)
                      have hPk := hP ⟨by omega, by omega⟩ (by omega)
                      refine lv_iload_n hx hb d_M_span_88 rfl (lv_at hl 2 rfl) ?_
                      refine lv_iload_n hx hb d_M_span_89 rfl (lv_at hl 3 rfl) ?_
                      refine w_csR hc hw (k_M_pairOf _ _ _ ha hb2) yw_M_pairOf yi_M_pairOf lk_M_126 d_M_span_90 rfl rfl hl.1 (Nat.le_of_ble_eq_true rfl) ⟨Nat.le_of_ble_eq_true rfl, Nat.le_of_ble_eq_true rfl⟩ ⟨Nat.zero_le _, Nat.zero_le _⟩ (fun τ90 H locs hτ90 hw => ?_)
                      subst hτ90
                      refine z_ist hx hb d_M_span_93 hl (by decide) (fun x6_93 ex6_93 ls (hl : lv_has ls 17 [(6, .int (zI x6_93)), (5, .int (zI x5_41)), (0, .ref (ad 100)), (1, .int (zI a)), (2, .int (zI b)), (3, .int (zI en)), (4, .int (zI pt))]) => ?_)
                      subst ex6_93
                      refine z_lc0 hx hb d_M_span_95 ?_
                      refine z_lst hx hb d_M_span_96 hl (by decide) (fun x7_96 ex7_96 ls (hl : lv_has ls 17 [(7, .long (zL x7_96)), (6, .int (zI (mPr a b))), (5, .int (zI x5_41)), (0, .ref (ad 100)), (1, .int (zI a)), (2, .int (zI b)), (3, .int (zI en)), (4, .int (zI pt))]) => ?_)
                      refine z_lc1 hx hb d_M_span_98 ?_
                      refine z_lst hx hb d_M_span_99 hl (by decide) (fun x9_99 ex9_99 ls (hl : lv_has ls 17 [(9, .long (zL x9_99)), (7, .long (zL x7_96)), (6, .int (zI (mPr a b))), (5, .int (zI x5_41)), (0, .ref (ad 100)), (1, .int (zI a)), (2, .int (zI b)), (3, .int (zI en)), (4, .int (zI pt))]) => ?_)
                      refine z_ic hx hb d_M_span_101 ?_
                      refine z_ist hx hb d_M_span_102 hl (by decide) (fun x11_102 ex11_102 ls (hl : lv_has ls 17 [(11, .int (zI x11_102)), (9, .long (zL x9_99)), (7, .long (zL x7_96)), (6, .int (zI (mPr a b))), (5, .int (zI x5_41)), (0, .ref (ad 100)), (1, .int (zI a)), (2, .int (zI b)), (3, .int (zI en)), (4, .int (zI pt))]) => ?_)
                      have L104 : ∀ (nf : Nat) (n : Int) (X : Int) (Y : Int) (ν : St) (H : Heap) (locs : List Loc), (0 ≤ n ∧ n ≤ μ 19 (mPr a b)) → ((X, Y) = spF μ (mPr a b) en n.toNat) → (ν = up μ 0 0 0) → (μ 19 (mPr a b) - n).toNat < nf → Wd D cl7 (wM ad ca) A s.heap ν H locs → ∀ ls : Array Slot, lv_has ls 17 [(11, .int (zI n)), (7, .long (zL X)), (9, .long (zL Y)), (6, .int (zI (mPr a b))), (0, .ref (ad 100)), (1, .int (zI a)), (2, .int (zI b)), (3, .int (zI en)), (4, .int (zI pt))] → W p l e (Rmh 1) s m ([.ref (ad 100), .int (zI a), .int (zI b), .int (zI en), .int (zI pt)] : List Value).toArray below meth c H locs 0 0 (MQ below (Qw D cl7 (wM ad ca) A (RW (.long (zL (mSpR μ a b en pt))) (up μ 0 0 (mSpT μ a b en pt) = ·))) ([.ref (ad 100), .int (zI a), .int (zI b), .int (zI en), .int (zI pt)] : List Value).toArray s 0 0 A) (F0 m 104 ls []) := by
                        intro nf
                        induction nf with
                        | zero => intro n X Y ν H locs hn hX hν hm; exact absurd hm (Nat.not_lt_zero _)
                        | succ nf ih104 =>
                          intro n X Y ν H locs hn hX hν hm104 hw ls hl
                          subst hν
                          have e19 : up μ 0 0 0 19 (mPr a b) = μ 19 (mPr a b) := up_o _ _ _ _ (by decide)
                          have en1 : ((n.toNat : Nat) : Int) = n := Int.toNat_of_nonneg hn.1
                          refine lv_iload hx hb d_M_span_104 (lv_at hl 0 rfl) ?_
                          refine lv_aload_n hx hb d_M_span_106 rfl (lv_at hl 4 rfl) ?_
                          refine gM_M_partCount hc hw lk_M_45 d_M_span_107 ?_
                          refine lv_iload hx hb d_M_span_110 (lv_at hl 3 rfl) ?_
                          refine ldM_M_partCount hc hw d_M_span_112 (by omega) ?_
                          refine z_icmp_ge hx hb 158 d_M_span_113 (by omega) (by omega) (by decide) (fun c113 => ?_) (fun c113 => ?_)
                          · have hX : (X, Y) = spF μ (mPr a b) en (μ 19 (mPr a b)).toNat := by rw [hX, show n = μ 19 (mPr a b) by omega]
                            have hbd := spF_bd μ (mPr a b) en (μ 19 (mPr a b)).toNat (by omega) (fun k hk => hPk k (by omega) (by omega))
                            rw [← hX] at hbd
                            have hb4 : (1000 : Int) ^ (μ 19 (mPr a b)).toNat ≤ 1000000000000 := by rcases (show (μ 19 (mPr a b)).toNat = 0 ∨ (μ 19 (mPr a b)).toNat = 1 ∨ (μ 19 (mPr a b)).toNat = 2 ∨ (μ 19 (mPr a b)).toNat = 3 ∨ (μ 19 (mPr a b)).toNat = 4 by omega) with z | z | z | z | z <;> rw [z] <;> decide
                            have hb5 : (((μ 19 (mPr a b)).toNat : Nat) : Int) * (1000 : Int) ^ (μ 19 (mPr a b)).toNat ≤ 4000000000000 := by rcases (show (μ 19 (mPr a b)).toNat = 0 ∨ (μ 19 (mPr a b)).toNat = 1 ∨ (μ 19 (mPr a b)).toNat = 2 ∨ (μ 19 (mPr a b)).toNat = 3 ∨ (μ 19 (mPr a b)).toNat = 4 by omega) with z | z | z | z | z <;> rw [z] <;> decide
                            have hY : 1 ≤ Y ∧ Y ≤ 1000000000000 := ⟨hbd.1.1, Int.le_trans hbd.1.2 hb4⟩
                            have hX0 : 0 ≤ X ∧ X ≤ 4000000000000 := ⟨hbd.2.1, Int.le_trans hbd.2.2 hb5⟩
                            refine lv_lload hx hb d_M_span_158 (lv_at hl 1 rfl) ?_
                            refine z_lst hx hb d_M_span_160 hl (by decide) (fun x11_160 ex11_160 ls (hl : lv_has ls 17 [(11, .long (zL x11_160)), (7, .long (zL X)), (9, .long (zL Y)), (6, .int (zI (mPr a b))), (0, .ref (ad 100)), (1, .int (zI a)), (2, .int (zI b)), (3, .int (zI en)), (4, .int (zI pt))]) => ?_)
                            refine lv_lload hx hb d_M_span_162 (lv_at hl 2 rfl) ?_
                            refine z_lst hx hb d_M_span_164 hl (by decide) (fun x13_164 ex13_164 ls (hl : lv_has ls 17 [(13, .long (zL x13_164)), (11, .long (zL x11_160)), (7, .long (zL X)), (9, .long (zL Y)), (6, .int (zI (mPr a b))), (0, .ref (ad 100)), (1, .int (zI a)), (2, .int (zI b)), (3, .int (zI en)), (4, .int (zI pt))]) => ?_)
                            have L166 : ∀ (nf : Nat) (u : Int) (v : Int) (ν2 : St) (H : Heap) (locs : List Loc), (0 ≤ u ∧ u < 4611686018427387904) → (0 ≤ v ∧ v < 4611686018427387904) → (Nat.gcd u.toNat v.toNat = Nat.gcd X.toNat Y.toNat) → (ν2 = up μ 0 0 0) → (v).toNat < nf → Wd D cl7 (wM ad ca) A s.heap ν2 H locs → ∀ ls : Array Slot, lv_has ls 17 [(11, .long (zL u)), (13, .long (zL v)), (7, .long (zL X)), (9, .long (zL Y)), (0, .ref (ad 100)), (1, .int (zI a)), (2, .int (zI b)), (3, .int (zI en)), (4, .int (zI pt))] → W p l e (Rmh 1) s m ([.ref (ad 100), .int (zI a), .int (zI b), .int (zI en), .int (zI pt)] : List Value).toArray below meth c H locs 0 0 (MQ below (Qw D cl7 (wM ad ca) A (RW (.long (zL (mSpR μ a b en pt))) (up μ 0 0 (mSpT μ a b en pt) = ·))) ([.ref (ad 100), .int (zI a), .int (zI b), .int (zI en), .int (zI pt)] : List Value).toArray s 0 0 A) (F0 m 166 ls []) := by
                              intro nf
                              induction nf with
                              | zero => intro u v ν2 H locs hu hv hG hν2 hm; exact absurd hm (Nat.not_lt_zero _)
                              | succ nf ih166 =>
                                intro u v ν2 H locs hu hv hG hν2 hm166 hw ls hl
                                subst hν2
                                refine lv_lload hx hb d_M_span_166 (lv_at hl 1 rfl) ?_
                                refine z_lc0 hx hb d_M_span_168 ?_
                                refine z_lcmp_eq hx hb 191 d_M_span_169 d_M_span_170 (by omega) (by omega) (by decide) (fun c169 => ?_) (fun c169 => ?_)
                                · have hv0 : v = 0 := by omega
                                  have hGu : (mSpG μ a b en) = u := by unfold mSpG; rw [← hX, ← hG, hv0]; show ((Nat.gcd u.toNat 0 : Nat) : Int) = u; rw [Nat.gcd_zero_right]; omega
                                  have hu1 : 1 ≤ u := by rw [← hGu]; unfold mSpG; rw [← hX]; have := Nat.gcd_pos_of_pos_right X.toNat (show 0 < Y.toNat by omega); show 1 ≤ ((Nat.gcd X.toNat Y.toNat : Nat) : Int); omega
                                  refine lv_iload hx hb d_M_span_191 (lv_at hl 8 rfl) ?_
                                  refine z_if_ne hx hb 204 d_M_span_193 (by omega) (by decide) (fun c193 => ?_) (fun c193 => ?_)
                                  · refine lv_lload hx hb d_M_span_204 (lv_at hl 2 rfl) ?_
                                    refine lv_lload hx hb d_M_span_206 (lv_at hl 0 rfl) ?_
                                    refine z_ldiv hx hb d_M_span_208 (by omega) ?_
                                    exact w_lret hc hw (by unfold mSpR; rw [if_neg (fun z => z g), g, hGu, ← hX]; first | (rw [if_pos c193]; exact ⟨rfl, rfl⟩) | (rw [if_neg c193]; exact ⟨rfl, rfl⟩)) d_M_span_209
                                  · refine lv_lload hx hb d_M_span_196 (lv_at hl 3 rfl) ?_
                                    refine lv_lload hx hb d_M_span_198 (lv_at hl 0 rfl) ?_
                                    refine z_ldiv hx hb d_M_span_200 (by omega) ?_
                                    refine lv_goto (tgt := 209) hx hb d_M_span_201 (by decide) ?_
                                    exact w_lret hc hw (by unfold mSpR; rw [if_neg (fun z => z g), g, hGu, ← hX]; first | (rw [if_pos c193]; exact ⟨rfl, rfl⟩) | (rw [if_neg c193]; exact ⟨rfl, rfl⟩)) d_M_span_209
                                · refine lv_lload hx hb d_M_span_173 (lv_at hl 0 rfl) ?_
                                  refine lv_lload hx hb d_M_span_175 (lv_at hl 1 rfl) ?_
                                  refine z_lrem hx hb d_M_span_177 (by omega) ?_
                                  refine z_lst hx hb d_M_span_178 hl (by decide) (fun x15_178 ex15_178 ls (hl : lv_has ls 17 [(15, .long (zL x15_178)), (11, .long (zL u)), (13, .long (zL v)), (7, .long (zL X)), (9, .long (zL Y)), (0, .ref (ad 100)), (1, .int (zI a)), (2, .int (zI b)), (3, .int (zI en)), (4, .int (zI pt))]) => ?_)
                                  refine lv_lload hx hb d_M_span_180 (lv_at hl 2 rfl) ?_
                                  refine z_lst hx hb d_M_span_182 hl (by decide) (fun x11_182 ex11_182 ls (hl : lv_has ls 17 [(11, .long (zL x11_182)), (15, .long (zL x15_178)), (13, .long (zL v)), (7, .long (zL X)), (9, .long (zL Y)), (0, .ref (ad 100)), (1, .int (zI a)), (2, .int (zI b)), (3, .int (zI en)), (4, .int (zI pt))]) => ?_)
                                  refine lv_lload hx hb d_M_span_184 (lv_at hl 1 rfl) ?_
                                  refine z_lst hx hb d_M_span_186 hl (by decide) (fun x13_186 ex13_186 ls (hl : lv_has ls 17 [(13, .long (zL x13_186)), (11, .long (zL x11_182)), (15, .long (zL x15_178)), (7, .long (zL X)), (9, .long (zL Y)), (0, .ref (ad 100)), (1, .int (zI a)), (2, .int (zI b)), (3, .int (zI en)), (4, .int (zI pt))]) => ?_)
                                  refine lv_goto (tgt := 166) hx hb d_M_span_188 (by decide) ?_
                                  exact ih166 x11_182 x13_186 _ _ _ (by omega) (by rw [ex13_186, ex15_178]; exact ⟨Int.emod_nonneg _ c169, by have := Int.emod_lt_of_pos u (show 0 < v by omega); omega⟩) (by rw [ex11_182, ex13_186, ex15_178, gcd_st hu.1 (by omega)]; exact hG) (rfl) (by rw [ex13_186, ex15_178]; have := Int.emod_lt_of_pos u (show 0 < v by omega); have := Int.emod_nonneg u c169; omega) hw ls (lv_sub hl [1, 0, 3, 4, 5, 6, 7, 8, 9] rfl)
                            exact L166 _ x11_160 x13_164 _ _ _ (by omega) (by omega) (by rw [ex11_160, ex13_164]) (rfl) (Nat.lt_succ_self _) hw ls (lv_sub hl [1, 0, 2, 3, 5, 6, 7, 8, 9] rfl)
                          · refine lv_aload_n hx hb d_M_span_116 rfl (lv_at hl 4 rfl) ?_
                            refine gM_M_parts hc hw lk_M_48 d_M_span_117 ?_
                            refine z_bi hx hb d_M_span_120 (by decide) ?_
                            refine lv_iload hx hb d_M_span_122 (lv_at hl 3 rfl) ?_
                            refine z_imul hx hb d_M_span_124 ?_
                            refine z_ic hx hb d_M_span_125 ?_
                            refine lv_iload hx hb d_M_span_126 (lv_at hl 0 rfl) ?_
                            refine z_imul hx hb d_M_span_128 ?_
                            refine z_iadd hx hb d_M_span_129 ?_
                            refine lv_iload_n hx hb d_M_span_130 rfl (lv_at hl 7 rfl) ?_
                            refine z_iadd hx hb d_M_span_131 ?_
                            refine ldM_M_parts hc hw d_M_span_132 (by omega) ?_
                            refine z_lst hx hb d_M_span_133 hl (by decide) (fun x12_133 ex12_133 ls (hl : lv_has ls 17 [(12, .long (zL x12_133)), (11, .int (zI n)), (7, .long (zL X)), (9, .long (zL Y)), (6, .int (zI (mPr a b))), (0, .ref (ad 100)), (1, .int (zI a)), (2, .int (zI b)), (3, .int (zI en)), (4, .int (zI pt))]) => ?_)
                            refine lv_lload hx hb d_M_span_135 (lv_at hl 2 rfl) ?_
                            refine lv_lload hx hb d_M_span_137 (lv_at hl 0 rfl) ?_
                            refine z_lmul hx hb d_M_span_139 ?_
                            refine lv_lload hx hb d_M_span_140 (lv_at hl 3 rfl) ?_
                            refine z_ladd hx hb d_M_span_142 ?_
                            refine z_lst hx hb d_M_span_143 hl (by decide) (fun x7_143 ex7_143 ls (hl : lv_has ls 17 [(7, .long (zL x7_143)), (12, .long (zL x12_133)), (11, .int (zI n)), (9, .long (zL Y)), (6, .int (zI (mPr a b))), (0, .ref (ad 100)), (1, .int (zI a)), (2, .int (zI b)), (3, .int (zI en)), (4, .int (zI pt))]) => ?_)
                            refine lv_lload hx hb d_M_span_145 (lv_at hl 3 rfl) ?_
                            refine lv_lload hx hb d_M_span_147 (lv_at hl 1 rfl) ?_
                            refine z_lmul hx hb d_M_span_149 ?_
                            refine z_lst hx hb d_M_span_150 hl (by decide) (fun x9_150 ex9_150 ls (hl : lv_has ls 17 [(9, .long (zL x9_150)), (7, .long (zL x7_143)), (12, .long (zL x12_133)), (11, .int (zI n)), (6, .int (zI (mPr a b))), (0, .ref (ad 100)), (1, .int (zI a)), (2, .int (zI b)), (3, .int (zI en)), (4, .int (zI pt))]) => ?_)
                            refine z_iinc (k := 3) hx hb d_M_span_152 hl rfl (by decide) (fun x11_152 ex11_152 ls (hl : lv_has ls 17 [(11, .int (zI x11_152)), (9, .long (zL x9_150)), (7, .long (zL x7_143)), (12, .long (zL x12_133)), (6, .int (zI (mPr a b))), (0, .ref (ad 100)), (1, .int (zI a)), (2, .int (zI b)), (3, .int (zI en)), (4, .int (zI pt))]) => ?_)
                            refine lv_goto (tgt := 104) hx hb d_M_span_155 (by decide) ?_
                            exact ih104 x11_152 x7_143 x9_150 _ _ _ (by omega) (by rw [show x11_152.toNat = n.toNat + 1 from (by omega)]; unfold spF; rw [← hX, en1, ex7_143, ex9_150, ex12_133]; rfl) (rfl) (by omega) hw ls (lv_sub hl [0, 2, 1, 4, 5, 6, 7, 8, 9] rfl)
                      exact L104 _ x11_102 x7_96 x9_99 _ _ _ (by omega) (by rw [ex11_102, ex7_96, ex9_99]; rfl) (rfl) (Nat.lt_succ_self _) hw ls (lv_sub hl [0, 2, 1, 3, 5, 6, 7, 8, 9] rfl)
                    · exact absurd c83 (by omega)
                  · refine z_ic hx hb d_M_span_71 ?_
                    refine lv_goto (tgt := 76) hx hb d_M_span_72 (by decide) ?_
                    refine pM_M_thrown hc hw lk_M_60 d_M_span_76 (fun H locs hw => ?_)
                    refine lv_aload_n hx hb d_M_span_79 rfl (lv_at hl 1 rfl) ?_
                    refine gM_M_thrown hc hw lk_M_60 d_M_span_80 ?_
                    simp only [up_s]
                    refine z_if_eq hx hb 88 d_M_span_83 (by omega) (by decide) (fun c83 => ?_) (fun c83 => ?_)
                    · exact absurd c83 (by omega)
                    · refine z_lc0 hx hb d_M_span_86 ?_
                      exact w_lret hc hw (by (first | (have g : mSpT μ a b en pt = 1 := (by unfold mSpT; rw [if_pos (fun q => by omega)])) | (have g : mSpT μ a b en pt = 2 := (by unfold mSpT; rw [if_neg (fun q => q ⟨⟨by omega, by omega⟩, by omega, by omega⟩), if_pos (by omega)]))); unfold mSpR; rw [g]; exact ⟨rfl, rfl⟩) d_M_span_87
              · exact absurd c46 (by omega)
set_option maxHeartbeats 400000 in
set_option maxRecDepth 100000 in
theorem k_M_nearest {l : Launch} {D : va_G} {ad : Nat → Nat} {ca : Nat → ClassId} (μ : St) (x y : Int) (hI : IMB μ) (hn : 0 ≤ μ 17 0 ∧ μ 17 0 ≤ 8) (hP : ∀ i, 0 ≤ i → i < μ 17 0 → 0 ≤ μ 18 i ∧ μ 18 i < 36) (h22 : ∀ i, μ 22 i = 0 ∨ μ 22 i = 1) (hx2 : -1000000 ≤ x ∧ x ≤ 1000000) (hy2 : -1000000 ≤ y ∧ y ≤ 1000000) : Cw l D cl7 (tyM ca) (wM ad ca) y_M_nearest c_M_nearest 12 (some .int) 0 [.ref (ad 100), .long (zL x), .long (zL y)] μ (RW (.int (zI (nr μ x y))) (μ = ·)) := by
  have h5 := hI.2.1
  refine Cw.enter (by decide) (Nat.le_of_ble_eq_true rfl) ?_
  intro A p e s m below meth c hc ls hl hw
  have hl : lv_has ls 12 [(0, .ref (ad 100)), (1, .long (zL x)), (3, .long (zL y))] := hl
  obtain ⟨hx, hb, hml, hown, hTB, hK, hr, hlk⟩ := id hc
  refine z_ic hx hb d_M_nearest_0 ?_
  refine z_ist hx hb d_M_nearest_1 hl (by decide) (fun x5_1 ex5_1 ls (hl : lv_has ls 12 [(5, .int (zI x5_1)), (0, .ref (ad 100)), (1, .long (zL x)), (3, .long (zL y))]) => ?_)
  refine z_lc0 hx hb d_M_nearest_3 ?_
  refine z_lst hx hb d_M_nearest_4 hl (by decide) (fun x6_4 ex6_4 ls (hl : lv_has ls 12 [(6, .long (zL x6_4)), (5, .int (zI x5_1)), (0, .ref (ad 100)), (1, .long (zL x)), (3, .long (zL y))]) => ?_)
  refine z_ic hx hb d_M_nearest_6 ?_
  refine z_ist hx hb d_M_nearest_7 hl (by decide) (fun x8_7 ex8_7 ls (hl : lv_has ls 12 [(8, .int (zI x8_7)), (6, .long (zL x6_4)), (5, .int (zI x5_1)), (0, .ref (ad 100)), (1, .long (zL x)), (3, .long (zL y))]) => ?_)
  have L9 : ∀ (nf : Nat) (q : Int) (fd : Int) (lt : Int) (H : Heap) (locs : List Loc), (0 ≤ q ∧ q ≤ μ 5 0) → (fd = -1 ∨ (0 ≤ fd ∧ fd < q)) → (0 ≤ lt ∧ lt ≤ 8000000000000) → (nr μ x y = nrF μ x y (μ 5 0 - q).toNat q fd lt) → (μ 5 0 - q).toNat < nf → Wd D cl7 (wM ad ca) A s.heap μ H locs → ∀ ls : Array Slot, lv_has ls 12 [(8, .int (zI q)), (5, .int (zI fd)), (6, .long (zL lt)), (0, .ref (ad 100)), (1, .long (zL x)), (3, .long (zL y))] → W p l e (Rmh 0) s m ([.ref (ad 100), .long (zL x), .long (zL y)] : List Value).toArray below meth c H locs 0 0 (MQ below (Qw D cl7 (wM ad ca) A (RW (.int (zI (nr μ x y))) (μ = ·))) ([.ref (ad 100), .long (zL x), .long (zL y)] : List Value).toArray s 0 0 A) (F0 m 9 ls []) := by
    intro nf
    induction nf with
    | zero => intro q fd lt  H locs hq hf hlt hN hm; exact absurd hm (Nat.not_lt_zero _)
    | succ nf ih9 =>
      intro q fd lt  H locs hq hf hlt hN hm9 hw ls hl
      refine lv_iload hx hb d_M_nearest_9 (lv_at hl 0 rfl) ?_
      refine lv_aload_n hx hb d_M_nearest_11 rfl (lv_at hl 3 rfl) ?_
      refine gM_M_points hc hw lk_M_67 d_M_nearest_12 ?_
      refine z_icmp_ge hx hb 150 d_M_nearest_15 (by omega) (by omega) (by decide) (fun c15 => ?_) (fun c15 => ?_)
      · refine lv_iload hx hb d_M_nearest_150 (lv_at hl 1 rfl) ?_
        exact w_iret hc hw (⟨by rw [hN, show (μ 5 0 - q).toNat = 0 by omega]; rfl, rfl⟩) d_M_nearest_152
      · have qq : (μ 5 0 - q).toNat = (μ 5 0 - (q + 1)).toNat + 1 := by omega
        rw [qq, nrF_s] at hN
        have h22q := h22 q
        have hsq := sqM_bd hI q hx2 hy2
        refine z_ic hx hb d_M_nearest_18 ?_
        refine z_ist hx hb d_M_nearest_19 hl (by decide) (fun x9_19 ex9_19 ls (hl : lv_has ls 12 [(9, .int (zI x9_19)), (8, .int (zI q)), (5, .int (zI fd)), (6, .long (zL lt)), (0, .ref (ad 100)), (1, .long (zL x)), (3, .long (zL y))]) => ?_)
        refine z_ic hx hb d_M_nearest_21 ?_
        refine z_ist hx hb d_M_nearest_22 hl (by decide) (fun x10_22 ex10_22 ls (hl : lv_has ls 12 [(10, .int (zI x10_22)), (9, .int (zI x9_19)), (8, .int (zI q)), (5, .int (zI fd)), (6, .long (zL lt)), (0, .ref (ad 100)), (1, .long (zL x)), (3, .long (zL y))]) => ?_)
        have L24 : ∀ (nf : Nat) (k : Int) (t : Int) (H : Heap) (locs : List Loc), (0 ≤ k ∧ k ≤ μ 17 0) → (t = 0 ∨ t = 1) → (isPb μ q = isF μ q (μ 17 0 - k).toNat k t) → (μ 17 0 - k).toNat < nf → Wd D cl7 (wM ad ca) A s.heap μ H locs → ∀ ls : Array Slot, lv_has ls 12 [(10, .int (zI k)), (9, .int (zI t)), (8, .int (zI q)), (5, .int (zI fd)), (6, .long (zL lt)), (0, .ref (ad 100)), (1, .long (zL x)), (3, .long (zL y))] → W p l e (Rmh 0) s m ([.ref (ad 100), .long (zL x), .long (zL y)] : List Value).toArray below meth c H locs 0 0 (MQ below (Qw D cl7 (wM ad ca) A (RW (.int (zI (nr μ x y))) (μ = ·))) ([.ref (ad 100), .long (zL x), .long (zL y)] : List Value).toArray s 0 0 A) (F0 m 24 ls []) := by
          intro nf
          induction nf with
          | zero => intro k t  H locs hk ht hM hm; exact absurd hm (Nat.not_lt_zero _)
          | succ nf ih24 =>
            intro k t  H locs hk ht hM hm24 hw ls hl
            refine lv_iload hx hb d_M_nearest_24 (lv_at hl 0 rfl) ?_
            refine lv_aload_n hx hb d_M_nearest_26 rfl (lv_at hl 5 rfl) ?_
            refine gM_M_probes hc hw lk_M_121 d_M_nearest_27 ?_
            refine z_icmp_ge hx hb 63 d_M_nearest_30 (by omega) (by omega) (by decide) (fun c30 => ?_) (fun c30 => ?_)
            · have hA : isPb μ q = t := by rw [hM, show (μ 17 0 - k).toNat = 0 by omega]; rfl
              refine lv_aload_n hx hb d_M_nearest_63 rfl (lv_at hl 5 rfl) ?_
              refine gM_M_x hc hw lk_M_20 d_M_nearest_64 ?_
              refine lv_iload hx hb d_M_nearest_67 (lv_at hl 2 rfl) ?_
              refine ldM_M_x hc hw d_M_nearest_69 (by omega) ?_
              refine lv_lload_n hx hb d_M_nearest_70 rfl (lv_at hl 6 rfl) ?_
              refine z_lsub hx hb d_M_nearest_71 ?_
              refine lv_aload_n hx hb d_M_nearest_72 rfl (lv_at hl 5 rfl) ?_
              refine gM_M_x hc hw lk_M_20 d_M_nearest_73 ?_
              refine lv_iload hx hb d_M_nearest_76 (lv_at hl 2 rfl) ?_
              refine ldM_M_x hc hw d_M_nearest_78 (by omega) ?_
              refine lv_lload_n hx hb d_M_nearest_79 rfl (lv_at hl 6 rfl) ?_
              refine z_lsub hx hb d_M_nearest_80 ?_
              refine z_lmul hx hb d_M_nearest_81 ?_
              refine lv_aload_n hx hb d_M_nearest_82 rfl (lv_at hl 5 rfl) ?_
              refine gM_M_y hc hw lk_M_24 d_M_nearest_83 ?_
              refine lv_iload hx hb d_M_nearest_86 (lv_at hl 2 rfl) ?_
              refine ldM_M_y hc hw d_M_nearest_88 (by omega) ?_
              refine lv_lload_n hx hb d_M_nearest_89 rfl (lv_at hl 7 rfl) ?_
              refine z_lsub hx hb d_M_nearest_90 ?_
              refine lv_aload_n hx hb d_M_nearest_91 rfl (lv_at hl 5 rfl) ?_
              refine gM_M_y hc hw lk_M_24 d_M_nearest_92 ?_
              refine lv_iload hx hb d_M_nearest_95 (lv_at hl 2 rfl) ?_
              refine ldM_M_y hc hw d_M_nearest_97 (by omega) ?_
              refine lv_lload_n hx hb d_M_nearest_98 rfl (lv_at hl 7 rfl) ?_
              refine z_lsub hx hb d_M_nearest_99 ?_
              refine z_lmul hx hb d_M_nearest_100 ?_
              refine z_ladd hx hb d_M_nearest_101 ?_
              refine z_lst hx hb d_M_nearest_102 hl (by decide) (fun x10_102 ex10_102 ls (hl : lv_has ls 12 [(10, .long (zL x10_102)), (9, .int (zI t)), (8, .int (zI q)), (5, .int (zI fd)), (6, .long (zL lt)), (0, .ref (ad 100)), (1, .long (zL x)), (3, .long (zL y))]) => ?_)
              have ex10_102 : x10_102 = sqM μ q x y := ex10_102
              refine lv_iload hx hb d_M_nearest_104 (lv_at hl 1 rfl) ?_
              refine z_if_eq hx hb 144 d_M_nearest_106 (by omega) (by decide) (fun c106 => ?_) (fun c106 => ?_)
              · refine z_iinc (k := 2) hx hb d_M_nearest_144 hl rfl (by decide) (fun x8_144 ex8_144 ls (hl : lv_has ls 12 [(8, .int (zI x8_144)), (10, .long (zL x10_102)), (9, .int (zI t)), (5, .int (zI fd)), (6, .long (zL lt)), (0, .ref (ad 100)), (1, .long (zL x)), (3, .long (zL y))]) => ?_)
                refine lv_goto (tgt := 9) hx hb d_M_nearest_147 (by decide) ?_
                exact ih9 x8_144 fd lt _ _ (by omega) (by omega) (by first | exact hlt | (rw [ex6_142, ex10_102]; exact hsq)) (by rw [hN, ex8_144]; first | (rw [if_pos (Or.inl (by omega))]; done) | (rw [if_pos (Or.inr (Or.inl c116))]; done) | (rw [if_pos (Or.inr (Or.inr ⟨c122, by omega⟩))]; done) | (rw [if_neg (fun z => z.elim (fun z => by omega) (fun z => z.elim (fun z => z c116) (fun z => by omega))), ex5_138, ex6_142, ex10_102]; done)) (by omega) hw ls (lv_sub hl [0, 3, 4, 5, 6, 7] rfl)
              · refine lv_aload_n hx hb d_M_nearest_109 rfl (lv_at hl 5 rfl) ?_
                refine gM_M_flown hc hw lk_M_54 d_M_nearest_110 ?_
                refine lv_iload hx hb d_M_nearest_113 (lv_at hl 2 rfl) ?_
                refine ldM_M_flown hc hw d_M_nearest_115 (by omega) ?_
                refine z_if_ne hx hb 144 d_M_nearest_116 (by omega) (by decide) (fun c116 => ?_) (fun c116 => ?_)
                · refine z_iinc (k := 2) hx hb d_M_nearest_144 hl rfl (by decide) (fun x8_144 ex8_144 ls (hl : lv_has ls 12 [(8, .int (zI x8_144)), (10, .long (zL x10_102)), (9, .int (zI t)), (5, .int (zI fd)), (6, .long (zL lt)), (0, .ref (ad 100)), (1, .long (zL x)), (3, .long (zL y))]) => ?_)
                  refine lv_goto (tgt := 9) hx hb d_M_nearest_147 (by decide) ?_
                  exact ih9 x8_144 fd lt _ _ (by omega) (by omega) (by first | exact hlt | (rw [ex6_142, ex10_102]; exact hsq)) (by rw [hN, ex8_144]; first | (rw [if_pos (Or.inl (by omega))]; done) | (rw [if_pos (Or.inr (Or.inl c116))]; done) | (rw [if_pos (Or.inr (Or.inr ⟨c122, by omega⟩))]; done) | (rw [if_neg (fun z => z.elim (fun z => by omega) (fun z => z.elim (fun z => z c116) (fun z => by omega))), ex5_138, ex6_142, ex10_102]; done)) (by omega) hw ls (lv_sub hl [0, 3, 4, 5, 6, 7] rfl)
                · refine lv_iload hx hb d_M_nearest_119 (lv_at hl 3 rfl) ?_
                  refine z_ic hx hb d_M_nearest_121 ?_
                  refine z_icmp_eq hx hb 136 d_M_nearest_122 (by omega) (by omega) (by decide) (fun c122 => ?_) (fun c122 => ?_)
                  · refine lv_iload hx hb d_M_nearest_136 (lv_at hl 2 rfl) ?_
                    refine z_ist hx hb d_M_nearest_138 hl (by decide) (fun x5_138 ex5_138 ls (hl : lv_has ls 12 [(5, .int (zI x5_138)), (10, .long (zL x10_102)), (9, .int (zI t)), (8, .int (zI q)), (6, .long (zL lt)), (0, .ref (ad 100)), (1, .long (zL x)), (3, .long (zL y))]) => ?_)
                    refine lv_lload hx hb d_M_nearest_140 (lv_at hl 1 rfl) ?_
                    refine z_lst hx hb d_M_nearest_142 hl (by decide) (fun x6_142 ex6_142 ls (hl : lv_has ls 12 [(6, .long (zL x6_142)), (5, .int (zI x5_138)), (10, .long (zL x10_102)), (9, .int (zI t)), (8, .int (zI q)), (0, .ref (ad 100)), (1, .long (zL x)), (3, .long (zL y))]) => ?_)
                    refine z_iinc (k := 4) hx hb d_M_nearest_144 hl rfl (by decide) (fun x8_144 ex8_144 ls (hl : lv_has ls 12 [(8, .int (zI x8_144)), (6, .long (zL x6_142)), (5, .int (zI x5_138)), (10, .long (zL x10_102)), (9, .int (zI t)), (0, .ref (ad 100)), (1, .long (zL x)), (3, .long (zL y))]) => ?_)
                    refine lv_goto (tgt := 9) hx hb d_M_nearest_147 (by decide) ?_
                    exact ih9 x8_144 x5_138 x6_142 _ _ (by omega) (by omega) (by first | exact hlt | (rw [ex6_142, ex10_102]; exact hsq)) (by rw [hN, ex8_144]; first | (rw [if_pos (Or.inl (by omega))]; done) | (rw [if_pos (Or.inr (Or.inl c116))]; done) | (rw [if_pos (Or.inr (Or.inr ⟨c122, by omega⟩))]; done) | (rw [if_neg (fun z => z.elim (fun z => by omega) (fun z => z.elim (fun z => z c116) (fun z => by omega))), ex5_138, ex6_142, ex10_102]; done)) (by omega) hw ls (lv_sub hl [0, 2, 1, 5, 6, 7] rfl)
                  · refine lv_lload hx hb d_M_nearest_125 (lv_at hl 0 rfl) ?_
                    refine lv_lload hx hb d_M_nearest_127 (lv_at hl 4 rfl) ?_
                    refine z_lcmp_lt hx hb 136 d_M_nearest_129 d_M_nearest_130 (by omega) (by omega) (by decide) (fun c129 => ?_) (fun c129 => ?_)
                    · refine lv_iload hx hb d_M_nearest_136 (lv_at hl 2 rfl) ?_
                      refine z_ist hx hb d_M_nearest_138 hl (by decide) (fun x5_138 ex5_138 ls (hl : lv_has ls 12 [(5, .int (zI x5_138)), (10, .long (zL x10_102)), (9, .int (zI t)), (8, .int (zI q)), (6, .long (zL lt)), (0, .ref (ad 100)), (1, .long (zL x)), (3, .long (zL y))]) => ?_)
                      refine lv_lload hx hb d_M_nearest_140 (lv_at hl 1 rfl) ?_
                      refine z_lst hx hb d_M_nearest_142 hl (by decide) (fun x6_142 ex6_142 ls (hl : lv_has ls 12 [(6, .long (zL x6_142)), (5, .int (zI x5_138)), (10, .long (zL x10_102)), (9, .int (zI t)), (8, .int (zI q)), (0, .ref (ad 100)), (1, .long (zL x)), (3, .long (zL y))]) => ?_)
                      refine z_iinc (k := 4) hx hb d_M_nearest_144 hl rfl (by decide) (fun x8_144 ex8_144 ls (hl : lv_has ls 12 [(8, .int (zI x8_144)), (6, .long (zL x6_142)), (5, .int (zI x5_138)), (10, .long (zL x10_102)), (9, .int (zI t)), (0, .ref (ad 100)), (1, .long (zL x)), (3, .long (zL y))]) => ?_)
                      refine lv_goto (tgt := 9) hx hb d_M_nearest_147 (by decide) ?_
                      exact ih9 x8_144 x5_138 x6_142 _ _ (by omega) (by omega) (by first | exact hlt | (rw [ex6_142, ex10_102]; exact hsq)) (by rw [hN, ex8_144]; first | (rw [if_pos (Or.inl (by omega))]; done) | (rw [if_pos (Or.inr (Or.inl c116))]; done) | (rw [if_pos (Or.inr (Or.inr ⟨c122, by omega⟩))]; done) | (rw [if_neg (fun z => z.elim (fun z => by omega) (fun z => z.elim (fun z => z c116) (fun z => by omega))), ex5_138, ex6_142, ex10_102]; done)) (by omega) hw ls (lv_sub hl [0, 2, 1, 5, 6, 7] rfl)
                    · refine lv_goto (tgt := 144) hx hb d_M_nearest_133 (by decide) ?_
                      refine z_iinc (k := 2) hx hb d_M_nearest_144 hl rfl (by decide) (fun x8_144 ex8_144 ls (hl : lv_has ls 12 [(8, .int (zI x8_144)), (10, .long (zL x10_102)), (9, .int (zI t)), (5, .int (zI fd)), (6, .long (zL lt)), (0, .ref (ad 100)), (1, .long (zL x)), (3, .long (zL y))]) => ?_)
                      refine lv_goto (tgt := 9) hx hb d_M_nearest_147 (by decide) ?_
                      exact ih9 x8_144 fd lt _ _ (by omega) (by omega) (by first | exact hlt | (rw [ex6_142, ex10_102]; exact hsq)) (by rw [hN, ex8_144]; first | (rw [if_pos (Or.inl (by omega))]; done) | (rw [if_pos (Or.inr (Or.inl c116))]; done) | (rw [if_pos (Or.inr (Or.inr ⟨c122, by omega⟩))]; done) | (rw [if_neg (fun z => z.elim (fun z => by omega) (fun z => z.elim (fun z => z c116) (fun z => by omega))), ex5_138, ex6_142, ex10_102]; done)) (by omega) hw ls (lv_sub hl [0, 3, 4, 5, 6, 7] rfl)
            · have q2 : (μ 17 0 - k).toNat = (μ 17 0 - (k + 1)).toNat + 1 := by omega
              rw [q2, isF_s] at hM
              have hPk := hP k hk.1 (by omega)
              refine lv_iload hx hb d_M_nearest_33 (lv_at hl 1 rfl) ?_
              refine z_if_ne hx hb 50 d_M_nearest_35 (by omega) (by decide) (fun c35 => ?_) (fun c35 => ?_)
              · refine z_ic hx hb d_M_nearest_50 ?_
                refine lv_goto (tgt := 55) hx hb d_M_nearest_51 (by decide) ?_
                refine z_ist hx hb d_M_nearest_55 hl (by decide) (fun x9_55 ex9_55 ls (hl : lv_has ls 12 [(9, .int (zI x9_55)), (10, .int (zI k)), (8, .int (zI q)), (5, .int (zI fd)), (6, .long (zL lt)), (0, .ref (ad 100)), (1, .long (zL x)), (3, .long (zL y))]) => ?_)
                refine z_iinc (k := 1) hx hb d_M_nearest_57 hl rfl (by decide) (fun x10_57 ex10_57 ls (hl : lv_has ls 12 [(10, .int (zI x10_57)), (9, .int (zI x9_55)), (8, .int (zI q)), (5, .int (zI fd)), (6, .long (zL lt)), (0, .ref (ad 100)), (1, .long (zL x)), (3, .long (zL y))]) => ?_)
                refine lv_goto (tgt := 24) hx hb d_M_nearest_60 (by decide) ?_
                exact ih24 x10_57 x9_55 _ _ (by omega) (by omega) (by rw [hM, ex10_57, ex9_55]; first | (rw [if_pos c35]; done) | (rw [if_neg (fun z => z c35), bI_t c47]; done) | (rw [if_neg (fun z => z c35), bI_f c47]; done)) (by omega) hw ls (lv_sub hl [0, 1, 2, 3, 4, 5, 6, 7] rfl)
              · refine lv_aload_n hx hb d_M_nearest_38 rfl (lv_at hl 5 rfl) ?_
                refine gM_M_probe hc hw lk_M_42 d_M_nearest_39 ?_
                refine lv_iload hx hb d_M_nearest_42 (lv_at hl 0 rfl) ?_
                refine ldM_M_probe hc hw d_M_nearest_44 (by omega) ?_
                refine lv_iload hx hb d_M_nearest_45 (lv_at hl 2 rfl) ?_
                refine z_icmp_ne hx hb 54 d_M_nearest_47 (by omega) (by omega) (by decide) (fun c47 => ?_) (fun c47 => ?_)
                · refine z_ic hx hb d_M_nearest_54 ?_
                  refine z_ist hx hb d_M_nearest_55 hl (by decide) (fun x9_55 ex9_55 ls (hl : lv_has ls 12 [(9, .int (zI x9_55)), (10, .int (zI k)), (8, .int (zI q)), (5, .int (zI fd)), (6, .long (zL lt)), (0, .ref (ad 100)), (1, .long (zL x)), (3, .long (zL y))]) => ?_)
                  refine z_iinc (k := 1) hx hb d_M_nearest_57 hl rfl (by decide) (fun x10_57 ex10_57 ls (hl : lv_has ls 12 [(10, .int (zI x10_57)), (9, .int (zI x9_55)), (8, .int (zI q)), (5, .int (zI fd)), (6, .long (zL lt)), (0, .ref (ad 100)), (1, .long (zL x)), (3, .long (zL y))]) => ?_)
                  refine lv_goto (tgt := 24) hx hb d_M_nearest_60 (by decide) ?_
                  exact ih24 x10_57 x9_55 _ _ (by omega) (by omega) (by rw [hM, ex10_57, ex9_55]; first | (rw [if_pos c35]; done) | (rw [if_neg (fun z => z c35), bI_t c47]; done) | (rw [if_neg (fun z => z c35), bI_f c47]; done)) (by omega) hw ls (lv_sub hl [0, 1, 2, 3, 4, 5, 6, 7] rfl)
                · refine z_ic hx hb d_M_nearest_50 ?_
                  refine lv_goto (tgt := 55) hx hb d_M_nearest_51 (by decide) ?_
                  refine z_ist hx hb d_M_nearest_55 hl (by decide) (fun x9_55 ex9_55 ls (hl : lv_has ls 12 [(9, .int (zI x9_55)), (10, .int (zI k)), (8, .int (zI q)), (5, .int (zI fd)), (6, .long (zL lt)), (0, .ref (ad 100)), (1, .long (zL x)), (3, .long (zL y))]) => ?_)
                  refine z_iinc (k := 1) hx hb d_M_nearest_57 hl rfl (by decide) (fun x10_57 ex10_57 ls (hl : lv_has ls 12 [(10, .int (zI x10_57)), (9, .int (zI x9_55)), (8, .int (zI q)), (5, .int (zI fd)), (6, .long (zL lt)), (0, .ref (ad 100)), (1, .long (zL x)), (3, .long (zL y))]) => ?_)
                  refine lv_goto (tgt := 24) hx hb d_M_nearest_60 (by decide) ?_
                  exact ih24 x10_57 x9_55 _ _ (by omega) (by omega) (by rw [hM, ex10_57, ex9_55]; first | (rw [if_pos c35]; done) | (rw [if_neg (fun z => z c35), bI_t c47]; done) | (rw [if_neg (fun z => z c35), bI_f c47]; done)) (by omega) hw ls (lv_sub hl [0, 1, 2, 3, 4, 5, 6, 7] rfl)
        exact L24 _ x10_22 x9_19 _ _ (by omega) (by omega) (by rw [ex10_22, ex9_19, show (μ 17 0 - 0).toNat = (μ 17 0).toNat from (by omega)]; rfl) (Nat.lt_succ_self _) hw ls (lv_sub hl [0, 1, 2, 3, 4, 5, 6, 7] rfl)
  exact L9 _ x8_7 x5_1 x6_4 _ _ (by omega) (by omega) (by omega) (by rw [ex8_7, ex5_1, ex6_4, show (μ 5 0 - 0).toNat = (μ 5 0).toNat from (by omega)]; rfl) (Nat.lt_succ_self _) hw ls (lv_sub hl [0, 2, 1, 3, 4, 5] rfl)
set_option maxHeartbeats 400000 in
set_option maxRecDepth 100000 in
theorem k_M_flyTo {l : Launch} {D : va_G} {ad : Nat → Nat} {ca : Nat → ClassId} (μ : St) (k : Int) (hk : -1 ≤ k ∧ k ≤ 7) (hI : IMB μ) (hn : 0 ≤ μ 17 0 ∧ μ 17 0 ≤ 8) (hP : ∀ i, 0 ≤ i → i < μ 17 0 → 0 ≤ μ 18 i ∧ μ 18 i < 36) (h22 : ∀ i, μ 22 i = 0 ∨ μ 22 i = 1) : Cw l D cl7 (tyM ca) (wM ad ca) y_M_flyTo c_M_flyTo 12 (some .int) 1 [.ref (ad 100), .int (zI k)] μ (RW (.int (zI (flT μ k).2)) ((flT μ k).1 = ·)) := by
  refine Cw.enter (by decide) (Nat.le_of_ble_eq_true rfl) ?_
  intro A p e s m below meth c hc ls hl hw
  have hl : lv_has ls 12 [(0, .ref (ad 100)), (1, .int (zI k))] := hl
  obtain ⟨hx, hb, hml, hown, hTB, hK, hr, hlk⟩ := id hc
  refine z_ic hx hb d_M_flyTo_0 ?_
  refine z_ist_n hx hb d_M_flyTo_1 rfl hl (by decide) (fun x2_1 ex2_1 ls (hl : lv_has ls 12 [(2, .int (zI x2_1)), (0, .ref (ad 100)), (1, .int (zI k))]) => ?_)
  have L2 : ∀ (nf : Nat) (j : Int) (ν : St) (H : Heap) (locs : List Loc), (0 ≤ j ∧ j ≤ 36) → (ν = fillA μ 22 j 0) → (36 - j).toNat < nf → Wd D cl7 (wM ad ca) A s.heap ν H locs → ∀ ls : Array Slot, lv_has ls 12 [(2, .int (zI j)), (0, .ref (ad 100)), (1, .int (zI k))] → W p l e (Rmh 1) s m ([.ref (ad 100), .int (zI k)] : List Value).toArray below meth c H locs 0 0 (MQ below (Qw D cl7 (wM ad ca) A (RW (.int (zI (flT μ k).2)) ((flT μ k).1 = ·))) ([.ref (ad 100), .int (zI k)] : List Value).toArray s 0 0 A) (F0 m 2 ls []) := by
    intro nf
    induction nf with
    | zero => intro j ν H locs hj hν hm; exact absurd hm (Nat.not_lt_zero _)
    | succ nf ih2 =>
      intro j ν H locs hj hν hm2 hw ls hl
      refine lv_iload_n hx hb d_M_flyTo_2 rfl (lv_at hl 0 rfl) ?_
      refine z_bi hx hb d_M_flyTo_3 (by decide) ?_
      refine z_icmp_ge hx hb 21 d_M_flyTo_5 (by omega) (by omega) (by decide) (fun c5 => ?_) (fun c5 => ?_)
      · refine lv_aload_n hx hb d_M_flyTo_21 rfl (lv_at hl 1 rfl) ?_
        refine z_lc0 hx hb d_M_flyTo_22 ?_
        refine pM_M_flight hc hw lk_M_146 d_M_flyTo_23 (fun H locs hw => ?_)
        refine z_lc0 hx hb d_M_flyTo_26 ?_
        refine z_lst_n hx hb d_M_flyTo_27 rfl hl (by decide) (fun x2_27 ex2_27 ls (hl : lv_has ls 12 [(2, .long (zL x2_27)), (0, .ref (ad 100)), (1, .int (zI k))]) => ?_)
        refine z_lc0 hx hb d_M_flyTo_28 ?_
        refine z_lst hx hb d_M_flyTo_29 hl (by decide) (fun x4_29 ex4_29 ls (hl : lv_has ls 12 [(4, .long (zL x4_29)), (2, .long (zL x2_27)), (0, .ref (ad 100)), (1, .int (zI k))]) => ?_)
        refine z_ic hx hb d_M_flyTo_31 ?_
        refine z_ist hx hb d_M_flyTo_32 hl (by decide) (fun x6_32 ex6_32 ls (hl : lv_has ls 12 [(6, .int (zI x6_32)), (4, .long (zL x4_29)), (2, .long (zL x2_27)), (0, .ref (ad 100)), (1, .int (zI k))]) => ?_)
        refine z_ic hx hb d_M_flyTo_34 ?_
        refine z_ist hx hb d_M_flyTo_35 hl (by decide) (fun x7_35 ex7_35 ls (hl : lv_has ls 12 [(7, .int (zI x7_35)), (6, .int (zI x6_32)), (4, .long (zL x4_29)), (2, .long (zL x2_27)), (0, .ref (ad 100)), (1, .int (zI k))]) => ?_)
        have L37 : ∀ (nf : Nat) (i : Int) (x : Int) (y : Int) (r : Int) (ν : St) (H : Heap) (locs : List Loc), (0 ≤ i ∧ i ≤ k + 1) → (flT μ k = flF (k + 1 - i).toNat (ν, x, y) r) → (-1000000 ≤ x ∧ x ≤ 1000000) → (-1000000 ≤ y ∧ y ≤ 1000000) → (∀ i, ν 22 i = 0 ∨ ν 22 i = 1) → (∀ g, g ≠ 22 → g ≠ 25 → ν g = μ g) → (k + 1 - i).toNat < nf → Wd D cl7 (wM ad ca) A s.heap ν H locs → ∀ ls : Array Slot, lv_has ls 12 [(7, .int (zI i)), (2, .long (zL x)), (4, .long (zL y)), (6, .int (zI r)), (0, .ref (ad 100)), (1, .int (zI k))] → W p l e (Rmh 1) s m ([.ref (ad 100), .int (zI k)] : List Value).toArray below meth c H locs 0 0 (MQ below (Qw D cl7 (wM ad ca) A (RW (.int (zI (flT μ k).2)) ((flT μ k).1 = ·))) ([.ref (ad 100), .int (zI k)] : List Value).toArray s 0 0 A) (F0 m 37 ls []) := by
          intro nf
          induction nf with
          | zero => intro i x y r ν H locs hi hN hx2 hy2 h22n ho hm; exact absurd hm (Nat.not_lt_zero _)
          | succ nf ih37 =>
            intro i x y r ν H locs hi hN hx2 hy2 h22n ho hm37 hw ls hl
            have hIν : IMB ν := IMB_of (fun g hg => ho g (by omega) (by omega)) hI
            have e17 : ν 17 0 = μ 17 0 := by rw [ho 17 (by decide) (by decide)]
            have hPν : ∀ i, 0 ≤ i → i < ν 17 0 → 0 ≤ ν 18 i ∧ ν 18 i < 36 := by rw [e17, ho 18 (by decide) (by decide)]; exact hP
            have hnr := nrF_bd ν x y (ν 5 0).toNat 0 (-1) 0 (by decide) (by decide)
            have h5 := hIν.2.1
            have hnr2 : nr ν x y = -1 ∨ (0 ≤ nr ν x y ∧ nr ν x y < 36) := by unfold nr; omega
            refine lv_iload hx hb d_M_flyTo_37 (lv_at hl 0 rfl) ?_
            refine lv_iload_n hx hb d_M_flyTo_39 rfl (lv_at hl 5 rfl) ?_
            refine z_icmp_gt hx hb 144 d_M_flyTo_40 (by omega) (by omega) (by decide) (fun c40 => ?_) (fun c40 => ?_)
            · refine lv_iload hx hb d_M_flyTo_144 (lv_at hl 3 rfl) ?_
              exact w_iret hc hw (by rw [hN, show (k + 1 - i).toNat = 0 by omega]; exact ⟨rfl, rfl⟩) d_M_flyTo_146
            · have q : (k + 1 - i).toNat = (k + 1 - (i + 1)).toNat + 1 := by omega
              rw [q, flF_s] at hN
              dsimp only at hN
              refine lv_aload_n hx hb d_M_flyTo_43 rfl (lv_at hl 4 rfl) ?_
              refine lv_lload_n hx hb d_M_flyTo_44 rfl (lv_at hl 1 rfl) ?_
              refine lv_lload hx hb d_M_flyTo_45 (lv_at hl 2 rfl) ?_
              refine w_cvR (q0 := 0) hc hw (k_M_nearest _ _ _ hIν (by omega) hPν h22n hx2 hy2) yw_M_nearest yi_M_nearest lk_M_149 d_M_flyTo_47 rfl rfl rfl rfl hl.1 (Nat.le_of_ble_eq_true rfl) ⟨Nat.le_of_ble_eq_true rfl, Nat.le_of_ble_eq_true rfl⟩ ⟨Nat.zero_le _, Nat.zero_le _⟩ (fun τ47 H locs hτ47 hw => ?_)
              subst hτ47
              refine z_ist hx hb d_M_flyTo_50 hl (by decide) (fun x6_50 ex6_50 ls (hl : lv_has ls 12 [(6, .int (zI x6_50)), (7, .int (zI i)), (2, .long (zL x)), (4, .long (zL y)), (0, .ref (ad 100)), (1, .int (zI k))]) => ?_)
              subst ex6_50
              refine lv_iload hx hb d_M_flyTo_52 (lv_at hl 0 rfl) ?_
              refine z_ic hx hb d_M_flyTo_54 ?_
              refine z_icmp_ne hx hb 60 d_M_flyTo_55 (by omega) (by omega) (by decide) (fun c55 => ?_) (fun c55 => ?_)
              · rw [if_neg c55] at hN
                have h6 := hIν.2.2.2.1 (nr ν x y)
                have h7 := hIν.2.2.2.2.1 (nr ν x y)
                refine lv_aload_n hx hb d_M_flyTo_60 rfl (lv_at hl 4 rfl) ?_
                refine gM_M_x hc hw lk_M_20 d_M_flyTo_61 ?_
                refine lv_iload hx hb d_M_flyTo_64 (lv_at hl 0 rfl) ?_
                refine ldM_M_x hc hw d_M_flyTo_66 (by omega) ?_
                refine lv_lload_n hx hb d_M_flyTo_67 rfl (lv_at hl 2 rfl) ?_
                refine z_lsub hx hb d_M_flyTo_68 ?_
                refine w_csR hc hw (k_M_size _ _ (by omega)) yw_M_size yi_M_size lk_M_153 d_M_flyTo_69 rfl rfl hl.1 (Nat.le_of_ble_eq_true rfl) ⟨Nat.le_of_ble_eq_true rfl, Nat.le_of_ble_eq_true rfl⟩ ⟨Nat.zero_le _, Nat.zero_le _⟩ (fun τ69 H locs hτ69 hw => ?_)
                subst hτ69
                refine z_lst hx hb d_M_flyTo_72 hl (by decide) (fun x8_72 ex8_72 ls (hl : lv_has ls 12 [(8, .long (zL x8_72)), (6, .int (zI (nr ν x y))), (7, .int (zI i)), (2, .long (zL x)), (4, .long (zL y)), (0, .ref (ad 100)), (1, .int (zI k))]) => ?_)
                refine lv_aload_n hx hb d_M_flyTo_74 rfl (lv_at hl 5 rfl) ?_
                refine gM_M_y hc hw lk_M_24 d_M_flyTo_75 ?_
                refine lv_iload hx hb d_M_flyTo_78 (lv_at hl 1 rfl) ?_
                refine ldM_M_y hc hw d_M_flyTo_80 (by omega) ?_
                refine lv_lload hx hb d_M_flyTo_81 (lv_at hl 4 rfl) ?_
                refine z_lsub hx hb d_M_flyTo_83 ?_
                refine w_csR hc hw (k_M_size _ _ (by omega)) yw_M_size yi_M_size lk_M_153 d_M_flyTo_84 rfl rfl hl.1 (Nat.le_of_ble_eq_true rfl) ⟨Nat.le_of_ble_eq_true rfl, Nat.le_of_ble_eq_true rfl⟩ ⟨Nat.zero_le _, Nat.zero_le _⟩ (fun τ84 H locs hτ84 hw => ?_)
                subst hτ84
                refine z_lst hx hb d_M_flyTo_87 hl (by decide) (fun x10_87 ex10_87 ls (hl : lv_has ls 12 [(10, .long (zL x10_87)), (8, .long (zL x8_72)), (6, .int (zI (nr ν x y))), (7, .int (zI i)), (2, .long (zL x)), (4, .long (zL y)), (0, .ref (ad 100)), (1, .int (zI k))]) => ?_)
                refine lv_aload_n hx hb d_M_flyTo_89 rfl (lv_at hl 6 rfl) ?_
                refine lv_dup hx hb d_M_flyTo_90 rfl ?_
                refine gM_M_flight hc hw lk_M_146 d_M_flyTo_91 ?_
                refine lv_lload hx hb d_M_flyTo_94 (lv_at hl 1 rfl) ?_
                refine lv_lload hx hb d_M_flyTo_96 (lv_at hl 0 rfl) ?_
                have hmx : max ((ν 6 (nr ν x y) - x).natAbs : Int) ((ν 7 (nr ν x y) - y).natAbs : Int) = max x8_72 x10_87 := by rw [ex8_72, ex10_87]
                refine z_lcmp_le hx hb 107 d_M_flyTo_98 d_M_flyTo_99 (by omega) (by omega) (by decide) (fun c98 => ?_) (fun c98 => ?_)
                · have hmx : max ((ν 6 (nr ν x y) - x).natAbs : Int) ((ν 7 (nr ν x y) - y).natAbs : Int) = x10_87 := by omega
                  refine lv_lload hx hb d_M_flyTo_107 (lv_at hl 0 rfl) ?_
                  refine z_ladd hx hb d_M_flyTo_109 ?_
                  refine pM_M_flight hc hw lk_M_146 d_M_flyTo_110 (fun H locs hw => ?_)
                  refine lv_aload_n hx hb d_M_flyTo_113 rfl (lv_at hl 6 rfl) ?_
                  refine gM_M_flown hc hw lk_M_54 d_M_flyTo_114 ?_
                  refine lv_iload hx hb d_M_flyTo_117 (lv_at hl 2 rfl) ?_
                  refine z_ic hx hb d_M_flyTo_119 ?_
                  refine stM_M_flown hc hw d_M_flyTo_120 (by omega) (Or.inr rfl) (fun H locs hw => ?_)
                  refine lv_aload_n hx hb d_M_flyTo_121 rfl (lv_at hl 6 rfl) ?_
                  refine gM_M_x hc hw lk_M_20 d_M_flyTo_122 ?_
                  refine lv_iload hx hb d_M_flyTo_125 (lv_at hl 2 rfl) ?_
                  refine ldM_M_x hc hw d_M_flyTo_127 (by omega) ?_
                  refine z_lst_n hx hb d_M_flyTo_128 rfl hl (by decide) (fun x2_128 ex2_128 ls (hl : lv_has ls 12 [(2, .long (zL x2_128)), (10, .long (zL x10_87)), (8, .long (zL x8_72)), (6, .int (zI (nr ν x y))), (7, .int (zI i)), (4, .long (zL y)), (0, .ref (ad 100)), (1, .int (zI k))]) => ?_)
                  refine lv_aload_n hx hb d_M_flyTo_129 rfl (lv_at hl 6 rfl) ?_
                  refine gM_M_y hc hw lk_M_24 d_M_flyTo_130 ?_
                  refine lv_iload hx hb d_M_flyTo_133 (lv_at hl 3 rfl) ?_
                  refine ldM_M_y hc hw d_M_flyTo_135 (by omega) ?_
                  refine z_lst hx hb d_M_flyTo_136 hl (by decide) (fun x4_136 ex4_136 ls (hl : lv_has ls 12 [(4, .long (zL x4_136)), (2, .long (zL x2_128)), (10, .long (zL x10_87)), (8, .long (zL x8_72)), (6, .int (zI (nr ν x y))), (7, .int (zI i)), (0, .ref (ad 100)), (1, .int (zI k))]) => ?_)
                  refine z_iinc (k := 5) hx hb d_M_flyTo_138 hl rfl (by decide) (fun x7_138 ex7_138 ls (hl : lv_has ls 12 [(7, .int (zI x7_138)), (4, .long (zL x4_136)), (2, .long (zL x2_128)), (10, .long (zL x10_87)), (8, .long (zL x8_72)), (6, .int (zI (nr ν x y))), (0, .ref (ad 100)), (1, .int (zI k))]) => ?_)
                  refine lv_goto (tgt := 37) hx hb d_M_flyTo_141 (by decide) ?_
                  exact ih37 x7_138 x2_128 x4_136 (nr ν x y) _ _ _ (by omega) (by rw [hN, ex7_138, ex2_128, ex4_136]; first | (rw [← hmx]; rfl) | rfl) (by rw [ex2_128]; exact hIν.2.2.2.1 _) (by rw [ex4_136]; exact hIν.2.2.2.2.1 _) (up_P (P := fun z => z = 0 ∨ z = 1) _ _ _ _ (Or.inr rfl) (by rw [up_f _ _ _ (by decide)]; exact h22n)) (fun g a1 a2 => by rw [up_f _ _ _ a1, up_f _ _ _ a2]; exact ho g a1 a2) (by omega) hw ls (lv_sub hl [0, 2, 1, 5, 6, 7] rfl)
                · have hmx : max ((ν 6 (nr ν x y) - x).natAbs : Int) ((ν 7 (nr ν x y) - y).natAbs : Int) = x8_72 := by omega
                  refine lv_lload hx hb d_M_flyTo_102 (lv_at hl 1 rfl) ?_
                  refine lv_goto (tgt := 109) hx hb d_M_flyTo_104 (by decide) ?_
                  refine z_ladd hx hb d_M_flyTo_109 ?_
                  refine pM_M_flight hc hw lk_M_146 d_M_flyTo_110 (fun H locs hw => ?_)
                  refine lv_aload_n hx hb d_M_flyTo_113 rfl (lv_at hl 6 rfl) ?_
                  refine gM_M_flown hc hw lk_M_54 d_M_flyTo_114 ?_
                  refine lv_iload hx hb d_M_flyTo_117 (lv_at hl 2 rfl) ?_
                  refine z_ic hx hb d_M_flyTo_119 ?_
                  refine stM_M_flown hc hw d_M_flyTo_120 (by omega) (Or.inr rfl) (fun H locs hw => ?_)
                  refine lv_aload_n hx hb d_M_flyTo_121 rfl (lv_at hl 6 rfl) ?_
                  refine gM_M_x hc hw lk_M_20 d_M_flyTo_122 ?_
                  refine lv_iload hx hb d_M_flyTo_125 (lv_at hl 2 rfl) ?_
                  refine ldM_M_x hc hw d_M_flyTo_127 (by omega) ?_
                  refine z_lst_n hx hb d_M_flyTo_128 rfl hl (by decide) (fun x2_128 ex2_128 ls (hl : lv_has ls 12 [(2, .long (zL x2_128)), (10, .long (zL x10_87)), (8, .long (zL x8_72)), (6, .int (zI (nr ν x y))), (7, .int (zI i)), (4, .long (zL y)), (0, .ref (ad 100)), (1, .int (zI k))]) => ?_)
                  refine lv_aload_n hx hb d_M_flyTo_129 rfl (lv_at hl 6 rfl) ?_
                  refine gM_M_y hc hw lk_M_24 d_M_flyTo_130 ?_
                  refine lv_iload hx hb d_M_flyTo_133 (lv_at hl 3 rfl) ?_
                  refine ldM_M_y hc hw d_M_flyTo_135 (by omega) ?_
                  refine z_lst hx hb d_M_flyTo_136 hl (by decide) (fun x4_136 ex4_136 ls (hl : lv_has ls 12 [(4, .long (zL x4_136)), (2, .long (zL x2_128)), (10, .long (zL x10_87)), (8, .long (zL x8_72)), (6, .int (zI (nr ν x y))), (7, .int (zI i)), (0, .ref (ad 100)), (1, .int (zI k))]) => ?_)
                  refine z_iinc (k := 5) hx hb d_M_flyTo_138 hl rfl (by decide) (fun x7_138 ex7_138 ls (hl : lv_has ls 12 [(7, .int (zI x7_138)), (4, .long (zL x4_136)), (2, .long (zL x2_128)), (10, .long (zL x10_87)), (8, .long (zL x8_72)), (6, .int (zI (nr ν x y))), (0, .ref (ad 100)), (1, .int (zI k))]) => ?_)
                  refine lv_goto (tgt := 37) hx hb d_M_flyTo_141 (by decide) ?_
                  exact ih37 x7_138 x2_128 x4_136 (nr ν x y) _ _ _ (by omega) (by rw [hN, ex7_138, ex2_128, ex4_136]; first | (rw [← hmx]; rfl) | rfl) (by rw [ex2_128]; exact hIν.2.2.2.1 _) (by rw [ex4_136]; exact hIν.2.2.2.2.1 _) (up_P (P := fun z => z = 0 ∨ z = 1) _ _ _ _ (Or.inr rfl) (by rw [up_f _ _ _ (by decide)]; exact h22n)) (fun g a1 a2 => by rw [up_f _ _ _ a1, up_f _ _ _ a2]; exact ho g a1 a2) (by omega) hw ls (lv_sub hl [0, 2, 1, 5, 6, 7] rfl)
              · refine z_ic hx hb d_M_flyTo_58 ?_
                exact w_iret hc hw (by rw [hN, if_pos c55]; exact ⟨rfl, rfl⟩) d_M_flyTo_59
        exact L37 _ x7_35 x2_27 x4_29 x6_32 _ _ _ (by omega) (by rw [ex7_35, ex2_27, ex4_29, ex6_32, show (k + 1 - 0).toNat = (k + 1).toNat from (by omega)]; unfold flT fl0; rw [hν, show j = 36 by omega]) (by omega) (by omega) (fun i => by rw [up_o _ _ _ _ (by decide), hν]; unfold fillA; split; exact Or.inl rfl; exact h22 i) (fun g a1 a2 => by rw [up_f _ _ _ a2, hν, fillA_o _ _ _ _ a1]) (Nat.lt_succ_self _) hw ls (lv_sub hl [0, 3, 2, 1, 4, 5] rfl)
      · refine lv_aload_n hx hb d_M_flyTo_8 rfl (lv_at hl 1 rfl) ?_
        refine gM_M_flown hc hw lk_M_54 d_M_flyTo_9 ?_
        refine lv_iload_n hx hb d_M_flyTo_12 rfl (lv_at hl 0 rfl) ?_
        refine z_ic hx hb d_M_flyTo_13 ?_
        refine stM_M_flown hc hw d_M_flyTo_14 (by omega) (Or.inl rfl) (fun H locs hw => ?_)
        refine z_iinc (k := 0) hx hb d_M_flyTo_15 hl rfl (by decide) (fun x2_15 ex2_15 ls (hl : lv_has ls 12 [(2, .int (zI x2_15)), (0, .ref (ad 100)), (1, .int (zI k))]) => ?_)
        refine lv_goto (tgt := 2) hx hb d_M_flyTo_18 (by decide) ?_
        exact ih2 x2_15 _ _ _ (by omega) (by rw [hν, fillA_s μ 22 j 0 hj.1, ex2_15]) (by omega) hw ls (lv_sub hl [0, 1, 2] rfl)
  exact L2 _ x2_1 _ _ _ (by omega) (by rw [ex2_1]; exact (fillA_0 μ 22 0).symm) (Nat.lt_succ_self _) hw ls (lv_sub hl [0, 1, 2] rfl)
set_option maxHeartbeats 400000 in
set_option maxRecDepth 100000 in
theorem k_M_fly {l : Launch} {D : va_G} {ad : Nat → Nat} {ca : Nat → ClassId} (μ : St) (k : Int) (hk : r32 k) (hI : IMB μ) (hn : 0 ≤ μ 17 0 ∧ μ 17 0 ≤ 8) (hP : ∀ i, 0 ≤ i → i < μ 17 0 → 0 ≤ μ 18 i ∧ μ 18 i < 36) (h22 : ∀ i, μ 22 i = 0 ∨ μ 22 i = 1) : Cw l D cl7 (tyM ca) (wM ad ca) y_M_fly c_M_fly 2 (some .int) 2 [.ref (ad 100), .int (zI k)] μ (RW (.int (zI (if 0 ≤ k ∧ k < μ 17 0 then (flT (up μ 0 0 0) k).2 else -1))) ((if 0 ≤ k ∧ k < μ 17 0 then (flT (up μ 0 0 0) k).1 else up μ 0 0 0) = ·)) := by
  have e17 : up μ 0 0 0 17 0 = μ 17 0 := up_o _ _ _ _ (by decide)
  refine Cw.enter (by decide) (Nat.le_of_ble_eq_true rfl) ?_
  intro A p e s m below meth c hc ls hl hw
  have hl : lv_has ls 2 [(0, .ref (ad 100)), (1, .int (zI k))] := hl
  obtain ⟨hx, hb, hml, hown, hTB, hK, hr, hlk⟩ := id hc
  refine lv_aload_n hx hb d_M_fly_0 rfl (lv_at hl 0 rfl) ?_
  refine z_ic hx hb d_M_fly_1 ?_
  refine pM_M_thrown hc hw lk_M_60 d_M_fly_2 (fun H locs hw => ?_)
  refine lv_iload_n hx hb d_M_fly_5 rfl (lv_at hl 1 rfl) ?_
  refine z_if_lt hx hb 25 d_M_fly_6 (by omega) (by decide) (fun c6 => ?_) (fun c6 => ?_)
  · refine z_ic hx hb d_M_fly_25 ?_
    exact w_iret hc hw (by first | (rw [if_pos (by omega), if_pos (by omega)]; exact ⟨rfl, rfl⟩) | (rw [if_neg (by omega), if_neg (by omega)]; exact ⟨rfl, rfl⟩)) d_M_fly_26
  · refine lv_iload_n hx hb d_M_fly_9 rfl (lv_at hl 1 rfl) ?_
    refine lv_aload_n hx hb d_M_fly_10 rfl (lv_at hl 0 rfl) ?_
    refine gM_M_probes hc hw lk_M_121 d_M_fly_11 ?_
    refine z_icmp_ge hx hb 25 d_M_fly_14 (by omega) (by omega) (by decide) (fun c14 => ?_) (fun c14 => ?_)
    · refine z_ic hx hb d_M_fly_25 ?_
      exact w_iret hc hw (by first | (rw [if_pos (by omega), if_pos (by omega)]; exact ⟨rfl, rfl⟩) | (rw [if_neg (by omega), if_neg (by omega)]; exact ⟨rfl, rfl⟩)) d_M_fly_26
    · refine lv_aload_n hx hb d_M_fly_17 rfl (lv_at hl 0 rfl) ?_
      refine lv_iload_n hx hb d_M_fly_18 rfl (lv_at hl 1 rfl) ?_
      refine w_cvR (q0 := 0) hc hw (k_M_flyTo (up μ 0 0 0) _ (by omega) (IMB_of (fun g hg => up_f _ _ _ (by omega)) hI) hn hP h22) yw_M_flyTo yi_M_flyTo lk_M_157 d_M_fly_19 rfl rfl rfl rfl hl.1 (Nat.le_of_ble_eq_true rfl) ⟨Nat.le_of_ble_eq_true rfl, Nat.le_of_ble_eq_true rfl⟩ ⟨Nat.zero_le _, Nat.zero_le _⟩ (fun τ19 H locs hτ19 hw => ?_)
      subst hτ19
      refine lv_goto (tgt := 26) hx hb d_M_fly_22 (by decide) ?_
      exact w_iret hc hw (by first | (rw [if_pos (by omega), if_pos (by omega)]; exact ⟨rfl, rfl⟩) | (rw [if_neg (by omega), if_neg (by omega)]; exact ⟨rfl, rfl⟩)) d_M_fly_26
set_option maxHeartbeats 400000 in
set_option maxRecDepth 100000 in
theorem k_M_seconds {l : Launch} {D : va_G} {ad : Nat → Nat} {ca : Nat → ClassId} (μ : St) (hI : IMB μ) (hn : 0 ≤ μ 17 0 ∧ μ 17 0 ≤ 8) (hP : ∀ i, 0 ≤ i → i < μ 17 0 → 0 ≤ μ 18 i ∧ μ 18 i < 36) (h22 : ∀ i, μ 22 i = 0 ∨ μ 22 i = 1) : Cw l D cl7 (tyM ca) (wM ad ca) y_M_seconds c_M_seconds 1 (some .long) 2 [.ref (ad 100)] μ (RW (.long (zL ((flT (up μ 0 0 0) (μ 17 0 - 1)).1 25 0))) ((flT (up μ 0 0 0) (μ 17 0 - 1)).1 = ·)) := by
  refine Cw.enter (by decide) (Nat.le_of_ble_eq_true rfl) ?_
  intro A p e s m below meth c hc ls hl hw
  have hl : lv_has ls 1 [(0, .ref (ad 100))] := hl
  obtain ⟨hx, hb, hml, hown, hTB, hK, hr, hlk⟩ := id hc
  refine lv_aload_n hx hb d_M_seconds_0 rfl (lv_at hl 0 rfl) ?_
  refine z_ic hx hb d_M_seconds_1 ?_
  refine pM_M_thrown hc hw lk_M_60 d_M_seconds_2 (fun H locs hw => ?_)
  refine lv_aload_n hx hb d_M_seconds_5 rfl (lv_at hl 0 rfl) ?_
  refine lv_aload_n hx hb d_M_seconds_6 rfl (lv_at hl 0 rfl) ?_
  refine gM_M_probes hc hw lk_M_121 d_M_seconds_7 ?_
  refine z_ic hx hb d_M_seconds_10 ?_
  refine z_isub hx hb d_M_seconds_11 ?_
  refine w_cvR (q0 := 0) hc hw (k_M_flyTo (up μ 0 0 0) (μ 17 0 - 1) (by omega) (IMB_of (fun g hg => up_f _ _ _ (by omega)) hI) hn hP h22) yw_M_flyTo yi_M_flyTo lk_M_157 d_M_seconds_12 rfl rfl rfl rfl hl.1 (Nat.le_of_ble_eq_true rfl) ⟨Nat.le_of_ble_eq_true rfl, Nat.le_of_ble_eq_true rfl⟩ ⟨Nat.zero_le _, Nat.zero_le _⟩ (fun τ12 H locs hτ12 hw => ?_)
  subst hτ12
  refine lv_pop hx hb d_M_seconds_15 rfl ?_
  refine lv_aload_n hx hb d_M_seconds_16 rfl (lv_at hl 0 rfl) ?_
  refine gM_M_flight hc hw lk_M_146 d_M_seconds_17 ?_
  exact w_lret hc hw (⟨rfl, rfl⟩) d_M_seconds_20
