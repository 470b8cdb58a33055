set_option maxHeartbeats 400000 in
set_option maxRecDepth 100000 in
theorem k_M_isChoice {l : Launch} {D : va_G} {ad : Nat → Nat} {ca : Nat → ClassId} (μ : St) (hI : IMB μ) (hn : 0 ≤ μ 12 0 ∧ μ 12 0 ≤ 8) (hD : Dg μ) (h13 : ∀ k, 0 ≤ μ 13 k ∧ μ 13 k < 12) : Cw l D cl7 (tyM ca) (wM ad ca) y_M_isChoice c_M_isChoice 3 (some .boolean) 1 [.ref (ad 100)] μ (RW (.int (zI (bI (isCh μ)))) (μ = ·)) := by
  refine Cw.enter (by decide) (Nat.le_of_ble_eq_true rfl) ?_
  intro A p e s m below meth c hc ls hl hw
  have hl : lv_has ls 3 [(0, .ref (ad 100))] := hl
  obtain ⟨hx, hb, hml, hown, hTB, hK, hr, hlk⟩ := id hc
  refine z_ic hx hb d_M_isChoice_0 ?_
  refine z_ist_n hx hb d_M_isChoice_1 rfl hl (by decide) (fun x1_1 ex1_1 ls (hl : lv_has ls 3 [(1, .int (zI x1_1)), (0, .ref (ad 100))]) => ?_)
  have L2 : ∀ (nf : Nat) (k : Int) (H : Heap) (locs : List Loc), (0 ≤ k ∧ k ≤ μ 12 0) → (okF μ (μ 12 0).toNat 0 = okF μ (μ 12 0 - k).toNat k) → (μ 12 0 - k).toNat < nf → Wd D cl7 (wM ad ca) A s.heap μ H locs → ∀ ls : Array Slot, lv_has ls 3 [(1, .int (zI k)), (0, .ref (ad 100))] → W p l e (Rmh 1) s m ([.ref (ad 100)] : List Value).toArray below meth c H locs 0 0 (MQ below (Qw D cl7 (wM ad ca) A (RW (.int (zI (bI (isCh μ)))) (μ = ·))) ([.ref (ad 100)] : List Value).toArray s 0 0 A) (F0 m 2 ls []) := by
    intro nf
    induction nf with
    | zero => intro k  H locs hk hN hm; exact absurd hm (Nat.not_lt_zero _)
    | succ nf ih2 =>
      intro k  H locs hk hN hm2 hw ls hl
      have hDk := hD k
      have h13k := h13 k
      have h3k := hI.2.2.2.2.2.2.2.1 (μ 13 k)
      refine lv_iload_n hx hb d_M_isChoice_2 rfl (lv_at hl 0 rfl) ?_
      refine lv_aload_n hx hb d_M_isChoice_3 rfl (lv_at hl 1 rfl) ?_
      refine gM_M_looked hc hw lk_M_91 d_M_isChoice_4 ?_
      refine z_icmp_ge hx hb 48 d_M_isChoice_7 (by omega) (by omega) (by decide) (fun c7 => ?_) (fun c7 => ?_)
      · have hok : okF μ (μ 12 0).toNat 0 = true := by rw [hN, show (μ 12 0 - k).toNat = 0 by omega]; rfl
        refine z_ic hx hb d_M_isChoice_48 ?_
        refine z_ist_n hx hb d_M_isChoice_49 rfl hl (by decide) (fun x1_49 ex1_49 ls (hl : lv_has ls 3 [(1, .int (zI x1_49)), (0, .ref (ad 100))]) => ?_)
        have L50 : ∀ (nf : Nat) (k : Int) (H : Heap) (locs : List Loc), (0 ≤ k ∧ k ≤ μ 12 0) → (apO μ (μ 12 0).toNat 0 = apO μ (μ 12 0 - k).toNat k) → (μ 12 0 - k).toNat < nf → Wd D cl7 (wM ad ca) A s.heap μ H locs → ∀ ls : Array Slot, lv_has ls 3 [(1, .int (zI k)), (0, .ref (ad 100))] → W p l e (Rmh 1) s m ([.ref (ad 100)] : List Value).toArray below meth c H locs 0 0 (MQ below (Qw D cl7 (wM ad ca) A (RW (.int (zI (bI (isCh μ)))) (μ = ·))) ([.ref (ad 100)] : List Value).toArray s 0 0 A) (F0 m 50 ls []) := by
          intro nf
          induction nf with
          | zero => intro k  H locs hk hM hm; exact absurd hm (Nat.not_lt_zero _)
          | succ nf ih50 =>
            intro k  H locs hk hM hm50 hw ls hl
            have hDk := hD k
            refine lv_iload_n hx hb d_M_isChoice_50 rfl (lv_at hl 0 rfl) ?_
            refine lv_aload_n hx hb d_M_isChoice_51 rfl (lv_at hl 1 rfl) ?_
            refine gM_M_looked hc hw lk_M_91 d_M_isChoice_52 ?_
            refine z_icmp_ge hx hb 128 d_M_isChoice_55 (by omega) (by omega) (by decide) (fun c55 => ?_) (fun c55 => ?_)
            · refine z_ic hx hb d_M_isChoice_128 ?_
              exact w_zret hc hw (by omega) (⟨by rw [bI_t ⟨hok, by rw [hM, show (μ 12 0 - k).toNat = 0 by omega]; rfl⟩], rfl⟩) d_M_isChoice_129
            · have q : (μ 12 0 - k).toNat = (μ 12 0 - (k + 1)).toNat + 1 := by omega
              rw [q, apO_s] at hM
              refine z_ic hx hb d_M_isChoice_58 ?_
              refine z_ist_n hx hb d_M_isChoice_59 rfl hl (by decide) (fun x2_59 ex2_59 ls (hl : lv_has ls 3 [(2, .int (zI x2_59)), (1, .int (zI k)), (0, .ref (ad 100))]) => ?_)
              have L60 : ∀ (nf : Nat) (j : Int) (H : Heap) (locs : List Loc), (0 ≤ j ∧ j ≤ k) → (apI μ k k.toNat 0 = apI μ k (k - j).toNat j) → (k - j).toNat < nf → Wd D cl7 (wM ad ca) A s.heap μ H locs → ∀ ls : Array Slot, lv_has ls 3 [(2, .int (zI j)), (1, .int (zI k)), (0, .ref (ad 100))] → W p l e (Rmh 1) s m ([.ref (ad 100)] : List Value).toArray below meth c H locs 0 0 (MQ below (Qw D cl7 (wM ad ca) A (RW (.int (zI (bI (isCh μ)))) (μ = ·))) ([.ref (ad 100)] : List Value).toArray s 0 0 A) (F0 m 60 ls []) := by
                intro nf
                induction nf with
                | zero => intro j  H locs hj hQ hm; exact absurd hm (Nat.not_lt_zero _)
                | succ nf ih60 =>
                  intro j  H locs hj hQ hm60 hw ls hl
                  have hDj := hD j
                  refine lv_iload_n hx hb d_M_isChoice_60 rfl (lv_at hl 0 rfl) ?_
                  refine lv_iload_n hx hb d_M_isChoice_61 rfl (lv_at hl 1 rfl) ?_
                  refine z_icmp_ge hx hb 122 d_M_isChoice_62 (by omega) (by omega) (by decide) (fun c62 => ?_) (fun c62 => ?_)
                  · have hA : (if apI μ k k.toNat 0 = true then apO μ (μ 12 0 - (k + 1)).toNat (k + 1) else false) = apO μ (μ 12 0 - (k + 1)).toNat (k + 1) := by rw [if_pos (by rw [hQ, show (k - j).toNat = 0 by omega]; rfl)]
                    refine z_iinc (k := 1) hx hb d_M_isChoice_122 hl rfl (by decide) (fun x1_122 ex1_122 ls (hl : lv_has ls 3 [(1, .int (zI x1_122)), (2, .int (zI j)), (0, .ref (ad 100))]) => ?_)
                    refine lv_goto (tgt := 50) hx hb d_M_isChoice_125 (by decide) ?_
                    exact ih50 x1_122 _ _ (by omega) (by rw [hM, hA, ex1_122]) (by omega) hw ls (lv_sub hl [0, 2] rfl)
                  · have q3 : (k - j).toNat = (k - (j + 1)).toNat + 1 := by omega
                    rw [q3, apI_s] at hQ
                    refine lv_aload_n hx hb d_M_isChoice_65 rfl (lv_at hl 2 rfl) ?_
                    refine gM_M_digit hc hw lk_M_36 d_M_isChoice_66 ?_
                    refine lv_iload_n hx hb d_M_isChoice_69 rfl (lv_at hl 1 rfl) ?_
                    refine ldM_M_digit hc hw d_M_isChoice_70 (by omega) ?_
                    refine z_ic hx hb d_M_isChoice_71 ?_
                    refine z_icmp_ge hx hb 116 d_M_isChoice_72 (by omega) (by omega) (by decide) (fun c72 => ?_) (fun c72 => ?_)
                    · refine z_iinc (k := 0) hx hb d_M_isChoice_116 hl rfl (by decide) (fun x2_116 ex2_116 ls (hl : lv_has ls 3 [(2, .int (zI x2_116)), (1, .int (zI k)), (0, .ref (ad 100))]) => ?_)
                      refine lv_goto (tgt := 60) hx hb d_M_isChoice_119 (by decide) ?_
                      exact ih60 x2_116 _ _ (by omega) (by rw [hQ, ex2_116]; first | (rw [if_neg (fun z => z.2.2 c111)]; done) | (rw [if_neg (fun z => by omega)]; done)) (by omega) hw ls (lv_sub hl [0, 1, 2] rfl)
                    · refine lv_aload_n hx hb d_M_isChoice_75 rfl (lv_at hl 2 rfl) ?_
                      refine gM_M_digit hc hw lk_M_36 d_M_isChoice_76 ?_
                      refine lv_iload_n hx hb d_M_isChoice_79 rfl (lv_at hl 0 rfl) ?_
                      refine ldM_M_digit hc hw d_M_isChoice_80 (by omega) ?_
                      refine z_ic hx hb d_M_isChoice_81 ?_
                      refine z_icmp_ge hx hb 116 d_M_isChoice_82 (by omega) (by omega) (by decide) (fun c82 => ?_) (fun c82 => ?_)
                      · refine z_iinc (k := 0) hx hb d_M_isChoice_116 hl rfl (by decide) (fun x2_116 ex2_116 ls (hl : lv_has ls 3 [(2, .int (zI x2_116)), (1, .int (zI k)), (0, .ref (ad 100))]) => ?_)
                        refine lv_goto (tgt := 60) hx hb d_M_isChoice_119 (by decide) ?_
                        exact ih60 x2_116 _ _ (by omega) (by rw [hQ, ex2_116]; first | (rw [if_neg (fun z => z.2.2 c111)]; done) | (rw [if_neg (fun z => by omega)]; done)) (by omega) hw ls (lv_sub hl [0, 1, 2] rfl)
                      · refine lv_aload_n hx hb d_M_isChoice_85 rfl (lv_at hl 2 rfl) ?_
                        refine lv_aload_n hx hb d_M_isChoice_86 rfl (lv_at hl 2 rfl) ?_
                        refine lv_iload_n hx hb d_M_isChoice_87 rfl (lv_at hl 1 rfl) ?_
                        refine lv_aload_n hx hb d_M_isChoice_88 rfl (lv_at hl 2 rfl) ?_
                        refine gM_M_digit hc hw lk_M_36 d_M_isChoice_89 ?_
                        refine lv_iload_n hx hb d_M_isChoice_92 rfl (lv_at hl 1 rfl) ?_
                        refine ldM_M_digit hc hw d_M_isChoice_93 (by omega) ?_
                        refine w_cvR (q0 := 0) hc hw (k_M_pointAt _ _ _ (by omega) (by omega) (h13 _)) yw_M_pointAt yi_M_pointAt lk_M_94 d_M_isChoice_94 rfl rfl rfl rfl hl.1 (Nat.le_of_ble_eq_true rfl) ⟨Nat.le_of_ble_eq_true rfl, Nat.le_of_ble_eq_true rfl⟩ ⟨Nat.zero_le _, Nat.zero_le _⟩ (fun τ94 H locs hτ94 hw => ?_)
                        subst hτ94
                        refine lv_aload_n hx hb d_M_isChoice_97 rfl (lv_at hl 2 rfl) ?_
                        refine lv_iload_n hx hb d_M_isChoice_98 rfl (lv_at hl 0 rfl) ?_
                        refine lv_aload_n hx hb d_M_isChoice_99 rfl (lv_at hl 2 rfl) ?_
                        refine gM_M_digit hc hw lk_M_36 d_M_isChoice_100 ?_
                        refine lv_iload_n hx hb d_M_isChoice_103 rfl (lv_at hl 0 rfl) ?_
                        refine ldM_M_digit hc hw d_M_isChoice_104 (by omega) ?_
                        refine w_cvR (q0 := 0) hc hw (k_M_pointAt _ _ _ (by omega) (by omega) (h13 _)) yw_M_pointAt yi_M_pointAt lk_M_94 d_M_isChoice_105 rfl rfl rfl rfl hl.1 (Nat.le_of_ble_eq_true rfl) ⟨Nat.le_of_ble_eq_true rfl, Nat.le_of_ble_eq_true rfl⟩ ⟨Nat.zero_le _, Nat.zero_le _⟩ (fun τ105 H locs hτ105 hw => ?_)
                        subst hτ105
                        refine w_cvR (q0 := 0) hc hw (k_M_areApart _ _ _ (mPA_bd hI (by omega)) (mPA_bd hI (by omega)) hI) yw_M_areApart yi_M_areApart lk_M_98 d_M_isChoice_108 rfl rfl rfl rfl hl.1 (Nat.le_of_ble_eq_true rfl) ⟨Nat.le_of_ble_eq_true rfl, Nat.le_of_ble_eq_true rfl⟩ ⟨Nat.zero_le _, Nat.zero_le _⟩ (fun τ108 H locs hτ108 hw => ?_)
                        subst hτ108
                        refine z_ifb_ne hx hb 116 d_M_isChoice_111 (by decide) (fun c111 => ?_) (fun c111 => ?_)
                        · refine z_iinc (k := 0) hx hb d_M_isChoice_116 hl rfl (by decide) (fun x2_116 ex2_116 ls (hl : lv_has ls 3 [(2, .int (zI x2_116)), (1, .int (zI k)), (0, .ref (ad 100))]) => ?_)
                          refine lv_goto (tgt := 60) hx hb d_M_isChoice_119 (by decide) ?_
                          exact ih60 x2_116 _ _ (by omega) (by rw [hQ, ex2_116]; first | (rw [if_neg (fun z => z.2.2 c111)]; done) | (rw [if_neg (fun z => by omega)]; done)) (by omega) hw ls (lv_sub hl [0, 1, 2] rfl)
                        · refine z_ic hx hb d_M_isChoice_114 ?_
                          exact w_zret hc hw (by omega) (⟨by rw [bI_f (fun z => by have z1 := z.2; rw [hM, if_neg (fun y => by rw [hQ, if_pos ⟨by omega, by omega, c111⟩] at y; cases y)] at z1; cases z1)], rfl⟩) d_M_isChoice_115
              exact L60 _ x2_59 _ _ (by omega) (by rw [ex2_59, show (k - 0).toNat = k.toNat from (by omega)]) (Nat.lt_succ_self _) hw ls (lv_sub hl [0, 1, 2] rfl)
        exact L50 _ x1_49 _ _ (by omega) (by rw [ex1_49, show (μ 12 0 - 0).toNat = (μ 12 0).toNat from (by omega)]) (Nat.lt_succ_self _) hw ls (lv_sub hl [0, 1] rfl)
      · have q : (μ 12 0 - k).toNat = (μ 12 0 - (k + 1)).toNat + 1 := by omega
        rw [q, okF_s] at hN
        refine lv_aload_n hx hb d_M_isChoice_10 rfl (lv_at hl 1 rfl) ?_
        refine gM_M_digit hc hw lk_M_36 d_M_isChoice_11 ?_
        refine lv_iload_n hx hb d_M_isChoice_14 rfl (lv_at hl 0 rfl) ?_
        refine ldM_M_digit hc hw d_M_isChoice_15 (by omega) ?_
        refine z_ic hx hb d_M_isChoice_16 ?_
        refine z_icmp_ge hx hb 42 d_M_isChoice_17 (by omega) (by omega) (by decide) (fun c17 => ?_) (fun c17 => ?_)
        · refine z_iinc (k := 0) hx hb d_M_isChoice_42 hl rfl (by decide) (fun x1_42 ex1_42 ls (hl : lv_has ls 3 [(1, .int (zI x1_42)), (0, .ref (ad 100))]) => ?_)
          refine lv_goto (tgt := 2) hx hb d_M_isChoice_45 (by decide) ?_
          exact ih2 x1_42 _ _ (by omega) (by rw [hN, ex1_42, if_neg (fun z => by omega)]) (by omega) hw ls (lv_sub hl [0, 1] rfl)
        · refine lv_aload_n hx hb d_M_isChoice_20 rfl (lv_at hl 1 rfl) ?_
          refine gM_M_digit hc hw lk_M_36 d_M_isChoice_21 ?_
          refine lv_iload_n hx hb d_M_isChoice_24 rfl (lv_at hl 0 rfl) ?_
          refine ldM_M_digit hc hw d_M_isChoice_25 (by omega) ?_
          refine lv_aload_n hx hb d_M_isChoice_26 rfl (lv_at hl 1 rfl) ?_
          refine gM_M_pointCount hc hw lk_M_13 d_M_isChoice_27 ?_
          refine lv_aload_n hx hb d_M_isChoice_30 rfl (lv_at hl 1 rfl) ?_
          refine gM_M_netAt hc hw lk_M_33 d_M_isChoice_31 ?_
          refine lv_iload_n hx hb d_M_isChoice_34 rfl (lv_at hl 0 rfl) ?_
          refine ldM_M_netAt hc hw d_M_isChoice_35 (by omega) ?_
          refine ldM_M_pointCount hc hw d_M_isChoice_36 (by omega) ?_
          refine z_icmp_lt hx hb 42 d_M_isChoice_37 (by omega) (by omega) (by decide) (fun c37 => ?_) (fun c37 => ?_)
          · refine z_iinc (k := 0) hx hb d_M_isChoice_42 hl rfl (by decide) (fun x1_42 ex1_42 ls (hl : lv_has ls 3 [(1, .int (zI x1_42)), (0, .ref (ad 100))]) => ?_)
            refine lv_goto (tgt := 2) hx hb d_M_isChoice_45 (by decide) ?_
            exact ih2 x1_42 _ _ (by omega) (by rw [hN, ex1_42, if_neg (fun z => by omega)]) (by omega) hw ls (lv_sub hl [0, 1] rfl)
          · refine z_ic hx hb d_M_isChoice_40 ?_
            exact w_zret hc hw (by omega) (⟨by rw [bI_f (fun z => by have z1 := z.1; rw [hN, if_pos (by omega)] at z1; cases z1)], rfl⟩) d_M_isChoice_41
  exact L2 _ x1_1 _ _ (by omega) (by rw [ex1_1, show (μ 12 0 - 0).toNat = (μ 12 0).toNat from (by omega)]) (Nat.lt_succ_self _) hw ls (lv_sub hl [0, 1] rfl)
set_option maxHeartbeats 400000 in
set_option maxRecDepth 100000 in
theorem k_M_goOn {l : Launch} {D : va_G} {ad : Nat → Nat} {ca : Nat → ClassId} (μ : St) (hn : 0 ≤ μ 12 0 ∧ μ 12 0 ≤ 8) (hD : Dg μ) : Cw l D cl7 (tyM ca) (wM ad ca) y_M_goOn c_M_goOn 2 (some .boolean) 0 [.ref (ad 100)] μ (RW (.int (zI (bI ((goF (μ 12 0).toNat μ).2 = true)))) ((goF (μ 12 0).toNat μ).1 = ·)) := by
  refine Cw.enter (by decide) (Nat.le_of_ble_eq_true rfl) ?_
  intro A p e s m below meth c hc ls hl hw
  have hl : lv_has ls 2 [(0, .ref (ad 100))] := hl
  obtain ⟨hx, hb, hml, hown, hTB, hK, hr, hlk⟩ := id hc
  refine lv_aload_n hx hb d_M_goOn_0 rfl (lv_at hl 0 rfl) ?_
  refine gM_M_looked hc hw lk_M_91 d_M_goOn_1 ?_
  refine z_ic hx hb d_M_goOn_4 ?_
  refine z_isub hx hb d_M_goOn_5 ?_
  refine z_ist_n hx hb d_M_goOn_6 rfl hl (by decide) (fun x1_6 ex1_6 ls (hl : lv_has ls 2 [(1, .int (zI x1_6)), (0, .ref (ad 100))]) => ?_)
  have L7 : ∀ (nf : Nat) (k : Int) (ν : St) (H : Heap) (locs : List Loc), (-1 ≤ k ∧ k < μ 12 0) → (goF (μ 12 0).toNat μ = goF (k + 1).toNat ν) → (Dg ν) → (k + 1).toNat < nf → Wd D cl7 (wM ad ca) A s.heap ν H locs → ∀ ls : Array Slot, lv_has ls 2 [(1, .int (zI k)), (0, .ref (ad 100))] → W p l e (Rmh 0) s m ([.ref (ad 100)] : List Value).toArray below meth c H locs 0 0 (MQ below (Qw D cl7 (wM ad ca) A (RW (.int (zI (bI ((goF (μ 12 0).toNat μ).2 = true)))) ((goF (μ 12 0).toNat μ).1 = ·))) ([.ref (ad 100)] : List Value).toArray s 0 0 A) (F0 m 7 ls []) := by
    intro nf
    induction nf with
    | zero => intro k ν H locs hk hN hDν hm; exact absurd hm (Nat.not_lt_zero _)
    | succ nf ih7 =>
      intro k ν H locs hk hN hDν hm7 hw ls hl
      have hDk := hDν k
      refine lv_iload_n hx hb d_M_goOn_7 rfl (lv_at hl 0 rfl) ?_
      refine z_if_lt hx hb 46 d_M_goOn_8 (by omega) (by decide) (fun c8 => ?_) (fun c8 => ?_)
      · refine z_ic hx hb d_M_goOn_46 ?_
        exact w_zret hc hw (by omega) (by rw [hN, show (k + 1).toNat = 0 by omega]; exact ⟨by rw [bI_f (fun z => by cases z)], rfl⟩) d_M_goOn_47
      · have q : (k + 1).toNat = k.toNat + 1 := by omega
        have ek : ((k.toNat : Nat) : Int) = k := Int.toNat_of_nonneg (by omega)
        rw [q, goF_s, ek] at hN
        refine lv_aload_n hx hb d_M_goOn_11 rfl (lv_at hl 1 rfl) ?_
        refine gM_M_digit hc hw lk_M_36 d_M_goOn_12 ?_
        refine lv_iload_n hx hb d_M_goOn_15 rfl (lv_at hl 0 rfl) ?_
        refine lv_dup2_11 hx hb d_M_goOn_16 rfl rfl ?_
        refine ldM_M_digit hc hw d_M_goOn_17 (by omega) ?_
        refine z_ic hx hb d_M_goOn_18 ?_
        refine z_iadd hx hb d_M_goOn_19 ?_
        refine stM_M_digit hc hw d_M_goOn_20 (by omega) (fun H locs hw => ?_)
        refine lv_aload_n hx hb d_M_goOn_21 rfl (lv_at hl 1 rfl) ?_
        refine gM_M_digit hc hw lk_M_36 d_M_goOn_22 ?_
        refine lv_iload_n hx hb d_M_goOn_25 rfl (lv_at hl 0 rfl) ?_
        refine ldM_M_digit hc hw d_M_goOn_26 (by omega) ?_
        refine z_ic hx hb d_M_goOn_27 ?_
        rw [up_s]
        refine z_icmp_ge hx hb 33 d_M_goOn_28 (by omega) (by omega) (by decide) (fun c28 => ?_) (fun c28 => ?_)
        · refine lv_aload_n hx hb d_M_goOn_33 rfl (lv_at hl 1 rfl) ?_
          refine gM_M_digit hc hw lk_M_36 d_M_goOn_34 ?_
          refine lv_iload_n hx hb d_M_goOn_37 rfl (lv_at hl 0 rfl) ?_
          refine z_ic hx hb d_M_goOn_38 ?_
          refine stM_M_digit hc hw d_M_goOn_39 (by omega) (fun H locs hw => ?_)
          refine z_iinc (k := 0) hx hb d_M_goOn_40 hl rfl (by decide) (fun x1_40 ex1_40 ls (hl : lv_has ls 2 [(1, .int (zI x1_40)), (0, .ref (ad 100))]) => ?_)
          refine lv_goto (tgt := 7) hx hb d_M_goOn_43 (by decide) ?_
          exact ih7 x1_40 _ _ _ (by omega) (by rw [hN, if_neg (by omega), show (x1_40 + 1).toNat = k.toNat from (by omega), up_up]) (by rw [up_up]; exact up_P (P := fun z => 0 ≤ z ∧ z ≤ 3) _ _ _ _ (by decide) hDν) (by omega) hw ls (lv_sub hl [0, 1] rfl)
        · refine z_ic hx hb d_M_goOn_31 ?_
          exact w_zret hc hw (by omega) (by rw [hN, if_pos (by omega)]; exact ⟨by rw [bI_t rfl], rfl⟩) d_M_goOn_32
  exact L7 _ x1_6 _ _ _ (by omega) (by rw [ex1_6, show (μ 12 0 - 1 + 1).toNat = (μ 12 0).toNat from (by omega)]) (hD) (Nat.lt_succ_self _) hw ls (lv_sub hl [0, 1] rfl)
set_option maxHeartbeats 400000 in
set_option maxRecDepth 100000 in
theorem k_M_choose {l : Launch} {D : va_G} {ad : Nat → Nat} {ca : Nat → ClassId} (μ : St) (hI : IMB μ) (hn : 0 ≤ μ 12 0 ∧ μ 12 0 ≤ 8) (hD : Dg μ) (h13 : ∀ k, 0 ≤ μ 13 k ∧ μ 13 k < 12) : Cw l D cl7 (tyM ca) (wM ad ca) y_M_choose c_M_choose 9 none 2 [.ref (ad 100)] μ (VW (fun ν => (cmT μ).1 = ν ∧ Dg ν ∧ ∀ g, g ≠ 14 → g ≠ 15 → ν g = μ g)) := by
  obtain ⟨Y0, hY0⟩ : ∃ z, z = cmT μ := ⟨_, rfl⟩
  refine Cw.enter (by decide) (Nat.le_of_ble_eq_true rfl) ?_
  intro A p e s m below meth c hc ls hl hw
  have hl : lv_has ls 9 [(0, .ref (ad 100))] := hl
  obtain ⟨hx, hb, hml, hown, hTB, hK, hr, hlk⟩ := id hc
  refine z_ic hx hb d_M_choose_0 ?_
  refine z_ist_n hx hb d_M_choose_1 rfl hl (by decide) (fun x1_1 ex1_1 ls (hl : lv_has ls 9 [(1, .int (zI x1_1)), (0, .ref (ad 100))]) => ?_)
  refine z_lc0 hx hb d_M_choose_2 ?_
  refine z_lst_n hx hb d_M_choose_3 rfl hl (by decide) (fun x2_3 ex2_3 ls (hl : lv_has ls 9 [(2, .long (zL x2_3)), (1, .int (zI x1_1)), (0, .ref (ad 100))]) => ?_)
  refine z_ic hx hb d_M_choose_4 ?_
  refine z_ist hx hb d_M_choose_5 hl (by decide) (fun x4_5 ex4_5 ls (hl : lv_has ls 9 [(4, .int (zI x4_5)), (2, .long (zL x2_3)), (1, .int (zI x1_1)), (0, .ref (ad 100))]) => ?_)
  have L7 : ∀ (nf : Nat) (j : Int) (ν : St) (H : Heap) (locs : List Loc), (0 ≤ j ∧ j ≤ μ 12 0) → (ν = fillA μ 14 j 0) → (μ 12 0 - j).toNat < nf → Wd D cl7 (wM ad ca) A s.heap ν H locs → ∀ ls : Array Slot, lv_has ls 9 [(4, .int (zI j)), (2, .long (zL x2_3)), (1, .int (zI x1_1)), (0, .ref (ad 100))] → W p l e (Rmh 2) s m ([.ref (ad 100)] : List Value).toArray below meth c H locs 0 0 (MQ below (Qw D cl7 (wM ad ca) A (VW (fun ν => (cmT μ).1 = ν ∧ Dg ν ∧ ∀ g, g ≠ 14 → g ≠ 15 → ν g = μ g))) ([.ref (ad 100)] : List Value).toArray s 0 0 A) (F0 m 7 ls []) := by
    intro nf
    induction nf with
    | zero => intro j ν H locs hj hν0 hm; exact absurd hm (Nat.not_lt_zero _)
    | succ nf ih7 =>
      intro j ν H locs hj hν0 hm7 hw ls hl
      have e12 : ν 12 0 = μ 12 0 := by rw [hν0, fillA_o _ _ _ _ (by decide)]
      refine lv_iload hx hb d_M_choose_7 (lv_at hl 0 rfl) ?_
      refine lv_aload_n hx hb d_M_choose_9 rfl (lv_at hl 3 rfl) ?_
      refine gM_M_looked hc hw lk_M_91 d_M_choose_10 ?_
      refine z_icmp_ge hx hb 30 d_M_choose_13 (by omega) (by omega) (by decide) (fun c13 => ?_) (fun c13 => ?_)
      · have hv00 : vD (fillA μ 14 (μ 12 0) 0) (μ 12 0).toNat = 0 := by
          have z : ∀ q : Nat, (q : Int) ≤ μ 12 0 → vD (fillA μ 14 (μ 12 0) 0) q = 0 := by
            intro q
            induction q with
            | zero => intro _; rfl
            | succ q ih => intro hq; unfold vD; rw [ih (by omega)]; unfold fillA; rw [if_pos ⟨rfl, by omega, by omega⟩]; rfl
          exact z _ (by omega)
        have hpw : (((4 : Int) ^ (μ 12 0).toNat)).toNat = 4 ^ (μ 12 0).toNat := by rw [show ((4 : Int) ^ (μ 12 0).toNat) = ((4 ^ (μ 12 0).toNat : Nat) : Int) from by rw [Int.natCast_pow]; rfl, Int.toNat_natCast]
        refine z_ic hx hb d_M_choose_30 ?_
        refine z_ist hx hb d_M_choose_31 hl (by decide) (fun x4_31 ex4_31 ls (hl : lv_has ls 9 [(4, .int (zI x4_31)), (2, .long (zL x2_3)), (1, .int (zI x1_1)), (0, .ref (ad 100))]) => ?_)
        have L33 : ∀ (nf : Nat) (mr : Int) (mo : Int) (le : Int) (ν : St) (H : Heap) (locs : List Loc), (mr = 0 ∨ mr = 1) → (-1 ≤ mo ∧ mo ≤ 8) → (0 ≤ le ∧ le ≤ 8000000) → (Dg ν) → (∀ g, g ≠ 14 → g ≠ 15 → ν g = μ g) → (Y0 = if mr = 0 then (ν, mo, le) else cmL (((4 : Int) ^ (μ 12 0).toNat) - vD ν (μ 12 0).toNat).toNat (ν, mo, le)) → (if mr = 0 then 0 else ((4 : Int) ^ (μ 12 0).toNat) - vD ν (μ 12 0).toNat).toNat < nf → Wd D cl7 (wM ad ca) A s.heap ν H locs → ∀ ls : Array Slot, lv_has ls 9 [(4, .int (zI mr)), (1, .int (zI mo)), (2, .long (zL le)), (0, .ref (ad 100))] → W p l e (Rmh 2) s m ([.ref (ad 100)] : List Value).toArray below meth c H locs 0 0 (MQ below (Qw D cl7 (wM ad ca) A (VW (fun ν => (cmT μ).1 = ν ∧ Dg ν ∧ ∀ g, g ≠ 14 → g ≠ 15 → ν g = μ g))) ([.ref (ad 100)] : List Value).toArray s 0 0 A) (F0 m 33 ls []) := by
          intro nf
          induction nf with
          | zero => intro mr mo le ν H locs hmr hmo hle hDν ho hN hm; exact absurd hm (Nat.not_lt_zero _)
          | succ nf ih33 =>
            intro mr mo le ν H locs hmr hmo hle hDν ho hN hm33 hw ls hl
            have e12 : ν 12 0 = μ 12 0 := by rw [ho 12 (by decide) (by decide)]
            have hIν : IMB ν := IMB_of (fun g hg => ho g (by omega) (by omega)) hI
            have hvb := vD_bd hDν (μ 12 0).toNat
            refine lv_iload hx hb d_M_choose_33 (lv_at hl 0 rfl) ?_
            refine z_if_eq hx hb 194 d_M_choose_35 (by omega) (by decide) (fun c35 => ?_) (fun c35 => ?_)
            · exact w_vret hc hw (⟨rfl, by rw [← hY0, hN, if_pos c35], hDν, ho⟩) d_M_choose_194
            · rw [if_neg c35] at hN
              have hfu : (((4 : Int) ^ (μ 12 0).toNat) - vD ν (μ 12 0).toNat).toNat = (((4 : Int) ^ (μ 12 0).toNat) - vD ν (μ 12 0).toNat - 1).toNat + 1 := by omega
              rw [hfu, cmL_s] at hN
              dsimp only at hN
              simp only [e12] at hN
              have hvt : vD ν (μ 12 0).toNat = vD ν (μ 12 0).toNat := rfl
              refine lv_aload_n hx hb d_M_choose_38 rfl (lv_at hl 3 rfl) ?_
              refine w_cvR (q0 := 0) hc hw (k_M_isChoice _ hIν (by omega) hDν (by rw [ho 13 (by decide) (by decide)]; exact h13)) yw_M_isChoice yi_M_isChoice lk_M_102 d_M_choose_39 rfl rfl rfl rfl hl.1 (Nat.le_of_ble_eq_true rfl) ⟨Nat.le_of_ble_eq_true rfl, Nat.le_of_ble_eq_true rfl⟩ ⟨Nat.zero_le _, Nat.zero_le _⟩ (fun τ39 H locs hτ39 hw => ?_)
              subst hτ39
              refine z_ifb_eq hx hb 185 d_M_choose_42 (by decide) (fun c42 => ?_) (fun c42 => ?_)
              · have hcs : cmS (ν, mo, le) = (ν, mo, le) := by unfold cmS; rw [if_neg (fun z => c42 z.1)]
                have hDt : Dg ν := hDν
                have hot : ∀ g, g ≠ 14 → g ≠ 15 → ν g = μ g := ho
                have e12t : ν 12 0 = μ 12 0 := by rw [hot 12 (by decide) (by decide)]
                simp only [hcs] at hN
                refine lv_aload_n hx hb d_M_choose_185 rfl (lv_at hl 3 rfl) ?_
                refine w_cvR (q0 := 0) hc hw (k_M_goOn _ (by rw [e12t]; exact hn) hDt) yw_M_goOn yi_M_goOn lk_M_106 d_M_choose_186 rfl rfl rfl rfl hl.1 (Nat.le_of_ble_eq_true rfl) ⟨Nat.le_of_ble_eq_true rfl, Nat.le_of_ble_eq_true rfl⟩ ⟨Nat.zero_le _, Nat.zero_le _⟩ (fun τ186 H locs hτ186 hw => ?_)
                subst hτ186
                refine z_ist hx hb d_M_choose_189 hl (by decide) (fun x4_189 ex4_189 ls (hl : lv_has ls 9 [(4, .int (zI x4_189)), (1, .int (zI mo)), (2, .long (zL le)), (0, .ref (ad 100))]) => ?_)
                rw [e12t] at hw ex4_189
                have hbk := cm_back hDt hvt hN ex4_189
                refine lv_goto (tgt := 33) hx hb d_M_choose_191 (by decide) ?_
                exact ih33 x4_189 mo le _ _ _ (hbk.2.2) (by first | exact hmo | omega) (by first | exact hle | omega) (goF_dg _ _ hDt) (fun g a1 a2 => by rw [goF_o _ _ g a1]; exact hot g a1 a2) (hbk.1) (by have q := hbk.2.1; rw [if_neg c35] at hm33; omega) hw ls (lv_sub hl [0, 1, 2, 3] rfl)
              · refine z_ic hx hb d_M_choose_45 ?_
                refine z_ist hx hb d_M_choose_46 hl (by decide) (fun x5_46 ex5_46 ls (hl : lv_has ls 9 [(5, .int (zI x5_46)), (4, .int (zI mr)), (1, .int (zI mo)), (2, .long (zL le)), (0, .ref (ad 100))]) => ?_)
                refine z_lc0 hx hb d_M_choose_48 ?_
                refine z_lst hx hb d_M_choose_49 hl (by decide) (fun x6_49 ex6_49 ls (hl : lv_has ls 9 [(6, .long (zL x6_49)), (5, .int (zI x5_46)), (4, .int (zI mr)), (1, .int (zI mo)), (2, .long (zL le)), (0, .ref (ad 100))]) => ?_)
                refine z_ic hx hb d_M_choose_51 ?_
                refine z_ist hx hb d_M_choose_52 hl (by decide) (fun x8_52 ex8_52 ls (hl : lv_has ls 9 [(8, .int (zI x8_52)), (6, .long (zL x6_49)), (5, .int (zI x5_46)), (4, .int (zI mr)), (1, .int (zI mo)), (2, .long (zL le)), (0, .ref (ad 100))]) => ?_)
                have L54 : ∀ (nf : Nat) (k : Int) (n : Int) (su : Int) (H : Heap) (locs : List Loc), (0 ≤ k ∧ k ≤ μ 12 0) → ((n, su) = cF ν k.toNat) → (0 ≤ n ∧ n ≤ k) → (μ 12 0 - k).toNat < nf → Wd D cl7 (wM ad ca) A s.heap ν H locs → ∀ ls : Array Slot, lv_has ls 9 [(8, .int (zI k)), (5, .int (zI n)), (6, .long (zL su)), (4, .int (zI mr)), (1, .int (zI mo)), (2, .long (zL le)), (0, .ref (ad 100))] → W p l e (Rmh 2) s m ([.ref (ad 100)] : List Value).toArray below meth c H locs 0 0 (MQ below (Qw D cl7 (wM ad ca) A (VW (fun ν => (cmT μ).1 = ν ∧ Dg ν ∧ ∀ g, g ≠ 14 → g ≠ 15 → ν g = μ g))) ([.ref (ad 100)] : List Value).toArray s 0 0 A) (F0 m 54 ls []) := by
                  intro nf
                  induction nf with
                  | zero => intro k n su  H locs hk hC hnk hm; exact absurd hm (Nat.not_lt_zero _)
                  | succ nf ih54 =>
                    intro k n su  H locs hk hC hnk hm54 hw ls hl
                    have hDk := hDν k
                    have ek : ((k.toNat : Nat) : Int) = k := Int.toNat_of_nonneg hk.1
                    refine lv_iload hx hb d_M_choose_54 (lv_at hl 0 rfl) ?_
                    refine lv_aload_n hx hb d_M_choose_56 rfl (lv_at hl 6 rfl) ?_
                    refine gM_M_looked hc hw lk_M_91 d_M_choose_57 ?_
                    refine z_icmp_ge hx hb 128 d_M_choose_60 (by omega) (by omega) (by decide) (fun c60 => ?_) (fun c60 => ?_)
                    · have hCf : (n, su) = cF ν (ν 12 0).toNat := by rw [hC, e12, show k = μ 12 0 by omega]
                      have hcb := cF_bd hIν (ν 12 0).toNat
                      rw [← hCf] at hcb
                      dsimp only at hcb
                      refine lv_iload hx hb d_M_choose_128 (lv_at hl 1 rfl) ?_
                      refine lv_iload_n hx hb d_M_choose_130 rfl (lv_at hl 4 rfl) ?_
                      refine z_icmp_gt hx hb 147 d_M_choose_131 (by omega) (by omega) (by decide) (fun c131 => ?_) (fun c131 => ?_)
                      · have hbt : cmB (ν, mo, le) := ⟨c42, by dsimp only; rw [← hCf]; dsimp only; omega⟩
                        refine lv_iload hx hb d_M_choose_147 (lv_at hl 1 rfl) ?_
                        refine z_ist_n hx hb d_M_choose_149 rfl hl (by decide) (fun x1_149 ex1_149 ls (hl : lv_has ls 9 [(1, .int (zI x1_149)), (8, .int (zI k)), (5, .int (zI n)), (6, .long (zL su)), (4, .int (zI mr)), (2, .long (zL le)), (0, .ref (ad 100))]) => ?_)
                        refine lv_lload hx hb d_M_choose_150 (lv_at hl 3 rfl) ?_
                        refine z_lst_n hx hb d_M_choose_152 rfl hl (by decide) (fun x2_152 ex2_152 ls (hl : lv_has ls 9 [(2, .long (zL x2_152)), (1, .int (zI x1_149)), (8, .int (zI k)), (5, .int (zI n)), (6, .long (zL su)), (4, .int (zI mr)), (0, .ref (ad 100))]) => ?_)
                        refine z_ic hx hb d_M_choose_153 ?_
                        refine z_ist hx hb d_M_choose_154 hl (by decide) (fun x8_154 ex8_154 ls (hl : lv_has ls 9 [(8, .int (zI x8_154)), (2, .long (zL x2_152)), (1, .int (zI x1_149)), (5, .int (zI n)), (6, .long (zL su)), (4, .int (zI mr)), (0, .ref (ad 100))]) => ?_)
                        have L156 : ∀ (nf : Nat) (i : Int) (ρ : St) (H : Heap) (locs : List Loc), (0 ≤ i ∧ i ≤ μ 12 0) → (ρ = cpS ν 14 15 i) → (μ 12 0 - i).toNat < nf → Wd D cl7 (wM ad ca) A s.heap ρ H locs → ∀ ls : Array Slot, lv_has ls 9 [(8, .int (zI i)), (2, .long (zL x2_152)), (1, .int (zI x1_149)), (4, .int (zI mr)), (0, .ref (ad 100))] → W p l e (Rmh 2) s m ([.ref (ad 100)] : List Value).toArray below meth c H locs 0 0 (MQ below (Qw D cl7 (wM ad ca) A (VW (fun ν => (cmT μ).1 = ν ∧ Dg ν ∧ ∀ g, g ≠ 14 → g ≠ 15 → ν g = μ g))) ([.ref (ad 100)] : List Value).toArray s 0 0 A) (F0 m 156 ls []) := by
                          intro nf
                          induction nf with
                          | zero => intro i ρ H locs hi hρ hm; exact absurd hm (Nat.not_lt_zero _)
                          | succ nf ih156 =>
                            intro i ρ H locs hi hρ hm156 hw ls hl
                            have e12r : ρ 12 0 = μ 12 0 := by rw [hρ, cpS_o _ _ _ _ (by decide)]; exact e12
                            refine lv_iload hx hb d_M_choose_156 (lv_at hl 0 rfl) ?_
                            refine lv_aload_n hx hb d_M_choose_158 rfl (lv_at hl 4 rfl) ?_
                            refine gM_M_looked hc hw lk_M_91 d_M_choose_159 ?_
                            refine z_icmp_ge hx hb 185 d_M_choose_162 (by omega) (by omega) (by decide) (fun c162 => ?_) (fun c162 => ?_)
                            · have hcs : cmS (ν, mo, le) = (ρ, x1_149, x2_152) := by unfold cmS; rw [if_pos hbt]; dsimp only; rw [← hCf, hρ, e12, show i = μ 12 0 by omega, ex1_149, ex2_152]
                              have hDt : Dg ρ := Dg_of (by rw [hρ, cpS_o _ _ _ _ (by decide)]) hDν
                              have hot : ∀ g, g ≠ 14 → g ≠ 15 → ρ g = μ g := fun g a1 a2 => by rw [hρ, cpS_o _ _ _ _ a2]; exact ho g a1 a2
                              have e12t : ρ 12 0 = μ 12 0 := by rw [hot 12 (by decide) (by decide)]
                              simp only [hcs] at hN
                              have hvt : vD ρ (μ 12 0).toNat = vD ν (μ 12 0).toNat := vD_of (by rw [hρ, cpS_o _ _ _ _ (by decide)]) _
                              refine lv_aload_n hx hb d_M_choose_185 rfl (lv_at hl 4 rfl) ?_
                              refine w_cvR (q0 := 0) hc hw (k_M_goOn _ (by rw [e12t]; exact hn) hDt) yw_M_goOn yi_M_goOn lk_M_106 d_M_choose_186 rfl rfl rfl rfl hl.1 (Nat.le_of_ble_eq_true rfl) ⟨Nat.le_of_ble_eq_true rfl, Nat.le_of_ble_eq_true rfl⟩ ⟨Nat.zero_le _, Nat.zero_le _⟩ (fun τ186 H locs hτ186 hw => ?_)
                              subst hτ186
                              refine z_ist hx hb d_M_choose_189 hl (by decide) (fun x4_189 ex4_189 ls (hl : lv_has ls 9 [(4, .int (zI x4_189)), (8, .int (zI i)), (2, .long (zL x2_152)), (1, .int (zI x1_149)), (0, .ref (ad 100))]) => ?_)
                              rw [e12t] at hw ex4_189
                              have hbk := cm_back hDt hvt hN ex4_189
                              refine lv_goto (tgt := 33) hx hb d_M_choose_191 (by decide) ?_
                              exact ih33 x4_189 x1_149 x2_152 _ _ _ (hbk.2.2) (by first | exact hmo | omega) (by first | exact hle | omega) (goF_dg _ _ hDt) (fun g a1 a2 => by rw [goF_o _ _ g a1]; exact hot g a1 a2) (hbk.1) (by have q := hbk.2.1; rw [if_neg c35] at hm33; omega) hw ls (lv_sub hl [0, 3, 2, 4] rfl)
                            · refine lv_aload_n hx hb d_M_choose_165 rfl (lv_at hl 4 rfl) ?_
                              refine gM_M_best hc hw lk_M_39 d_M_choose_166 ?_
                              refine lv_iload hx hb d_M_choose_169 (lv_at hl 0 rfl) ?_
                              refine lv_aload_n hx hb d_M_choose_171 rfl (lv_at hl 4 rfl) ?_
                              refine gM_M_digit hc hw lk_M_36 d_M_choose_172 ?_
                              refine lv_iload hx hb d_M_choose_175 (lv_at hl 0 rfl) ?_
                              refine ldM_M_digit hc hw d_M_choose_177 (by omega) ?_
                              refine stM_M_best hc hw d_M_choose_178 (by omega) (fun H locs hw => ?_)
                              refine z_iinc (k := 0) hx hb d_M_choose_179 hl rfl (by decide) (fun x8_179 ex8_179 ls (hl : lv_has ls 9 [(8, .int (zI x8_179)), (2, .long (zL x2_152)), (1, .int (zI x1_149)), (4, .int (zI mr)), (0, .ref (ad 100))]) => ?_)
                              refine lv_goto (tgt := 156) hx hb d_M_choose_182 (by decide) ?_
                              exact ih156 x8_179 _ _ _ (by omega) (by rw [hρ, cpS_s ν 14 15 i (by decide) hi.1, ex8_179]) (by omega) hw ls (lv_sub hl [0, 1, 2, 3, 4] rfl)
                        exact L156 _ x8_154 _ _ _ (by omega) (by rw [ex8_154]; exact (cpS_0 ν 14 15).symm) (Nat.lt_succ_self _) hw ls (lv_sub hl [0, 1, 2, 5, 6] rfl)
                      · refine lv_iload hx hb d_M_choose_134 (lv_at hl 1 rfl) ?_
                        refine lv_iload_n hx hb d_M_choose_136 rfl (lv_at hl 4 rfl) ?_
                        refine z_icmp_ne hx hb 185 d_M_choose_137 (by omega) (by omega) (by decide) (fun c137 => ?_) (fun c137 => ?_)
                        · have hcs : cmS (ν, mo, le) = (ν, mo, le) := by unfold cmS; rw [if_neg (fun z => by have z2 := z.2; dsimp only at z2; rw [← hCf] at z2; dsimp only at z2; omega)]
                          have hDt : Dg ν := hDν
                          have hot : ∀ g, g ≠ 14 → g ≠ 15 → ν g = μ g := ho
                          have e12t : ν 12 0 = μ 12 0 := by rw [hot 12 (by decide) (by decide)]
                          simp only [hcs] at hN
                          refine lv_aload_n hx hb d_M_choose_185 rfl (lv_at hl 6 rfl) ?_
                          refine w_cvR (q0 := 0) hc hw (k_M_goOn _ (by rw [e12t]; exact hn) hDt) yw_M_goOn yi_M_goOn lk_M_106 d_M_choose_186 rfl rfl rfl rfl hl.1 (Nat.le_of_ble_eq_true rfl) ⟨Nat.le_of_ble_eq_true rfl, Nat.le_of_ble_eq_true rfl⟩ ⟨Nat.zero_le _, Nat.zero_le _⟩ (fun τ186 H locs hτ186 hw => ?_)
                          subst hτ186
                          refine z_ist hx hb d_M_choose_189 hl (by decide) (fun x4_189 ex4_189 ls (hl : lv_has ls 9 [(4, .int (zI x4_189)), (8, .int (zI k)), (5, .int (zI n)), (6, .long (zL su)), (1, .int (zI mo)), (2, .long (zL le)), (0, .ref (ad 100))]) => ?_)
                          rw [e12t] at hw ex4_189
                          have hbk := cm_back hDt hvt hN ex4_189
                          refine lv_goto (tgt := 33) hx hb d_M_choose_191 (by decide) ?_
                          exact ih33 x4_189 mo le _ _ _ (hbk.2.2) (by first | exact hmo | omega) (by first | exact hle | omega) (goF_dg _ _ hDt) (fun g a1 a2 => by rw [goF_o _ _ g a1]; exact hot g a1 a2) (hbk.1) (by have q := hbk.2.1; rw [if_neg c35] at hm33; omega) hw ls (lv_sub hl [0, 4, 5, 6] rfl)
                        · refine lv_lload hx hb d_M_choose_140 (lv_at hl 2 rfl) ?_
                          refine lv_lload_n hx hb d_M_choose_142 rfl (lv_at hl 5 rfl) ?_
                          refine z_lcmp_ge hx hb 185 d_M_choose_143 d_M_choose_144 (by omega) (by omega) (by decide) (fun c143 => ?_) (fun c143 => ?_)
                          · have hcs : cmS (ν, mo, le) = (ν, mo, le) := by unfold cmS; rw [if_neg (fun z => by have z2 := z.2; dsimp only at z2; rw [← hCf] at z2; dsimp only at z2; omega)]
                            have hDt : Dg ν := hDν
                            have hot : ∀ g, g ≠ 14 → g ≠ 15 → ν g = μ g := ho
                            have e12t : ν 12 0 = μ 12 0 := by rw [hot 12 (by decide) (by decide)]
                            simp only [hcs] at hN
                            refine lv_aload_n hx hb d_M_choose_185 rfl (lv_at hl 6 rfl) ?_
                            refine w_cvR (q0 := 0) hc hw (k_M_goOn _ (by rw [e12t]; exact hn) hDt) yw_M_goOn yi_M_goOn lk_M_106 d_M_choose_186 rfl rfl rfl rfl hl.1 (Nat.le_of_ble_eq_true rfl) ⟨Nat.le_of_ble_eq_true rfl, Nat.le_of_ble_eq_true rfl⟩ ⟨Nat.zero_le _, Nat.zero_le _⟩ (fun τ186 H locs hτ186 hw => ?_)
                            subst hτ186
                            refine z_ist hx hb d_M_choose_189 hl (by decide) (fun x4_189 ex4_189 ls (hl : lv_has ls 9 [(4, .int (zI x4_189)), (8, .int (zI k)), (5, .int (zI n)), (6, .long (zL su)), (1, .int (zI mo)), (2, .long (zL le)), (0, .ref (ad 100))]) => ?_)
                            rw [e12t] at hw ex4_189
                            have hbk := cm_back hDt hvt hN ex4_189
                            refine lv_goto (tgt := 33) hx hb d_M_choose_191 (by decide) ?_
                            exact ih33 x4_189 mo le _ _ _ (hbk.2.2) (by first | exact hmo | omega) (by first | exact hle | omega) (goF_dg _ _ hDt) (fun g a1 a2 => by rw [goF_o _ _ g a1]; exact hot g a1 a2) (hbk.1) (by have q := hbk.2.1; rw [if_neg c35] at hm33; omega) hw ls (lv_sub hl [0, 4, 5, 6] rfl)
                          · have hbt : cmB (ν, mo, le) := ⟨c42, by dsimp only; rw [← hCf]; dsimp only; omega⟩
                            refine lv_iload hx hb d_M_choose_147 (lv_at hl 1 rfl) ?_
                            refine z_ist_n hx hb d_M_choose_149 rfl hl (by decide) (fun x1_149 ex1_149 ls (hl : lv_has ls 9 [(1, .int (zI x1_149)), (8, .int (zI k)), (5, .int (zI n)), (6, .long (zL su)), (4, .int (zI mr)), (2, .long (zL le)), (0, .ref (ad 100))]) => ?_)
                            refine lv_lload hx hb d_M_choose_150 (lv_at hl 3 rfl) ?_
                            refine z_lst_n hx hb d_M_choose_152 rfl hl (by decide) (fun x2_152 ex2_152 ls (hl : lv_has ls 9 [(2, .long (zL x2_152)), (1, .int (zI x1_149)), (8, .int (zI k)), (5, .int (zI n)), (6, .long (zL su)), (4, .int (zI mr)), (0, .ref (ad 100))]) => ?_)
                            refine z_ic hx hb d_M_choose_153 ?_
                            refine z_ist hx hb d_M_choose_154 hl (by decide) (fun x8_154 ex8_154 ls (hl : lv_has ls 9 [(8, .int (zI x8_154)), (2, .long (zL x2_152)), (1, .int (zI x1_149)), (5, .int (zI n)), (6, .long (zL su)), (4, .int (zI mr)), (0, .ref (ad 100))]) => ?_)
                            have L156 : ∀ (nf : Nat) (i : Int) (ρ : St) (H : Heap) (locs : List Loc), (0 ≤ i ∧ i ≤ μ 12 0) → (ρ = cpS ν 14 15 i) → (μ 12 0 - i).toNat < nf → Wd D cl7 (wM ad ca) A s.heap ρ H locs → ∀ ls : Array Slot, lv_has ls 9 [(8, .int (zI i)), (2, .long (zL x2_152)), (1, .int (zI x1_149)), (4, .int (zI mr)), (0, .ref (ad 100))] → W p l e (Rmh 2) s m ([.ref (ad 100)] : List Value).toArray below meth c H locs 0 0 (MQ below (Qw D cl7 (wM ad ca) A (VW (fun ν => (cmT μ).1 = ν ∧ Dg ν ∧ ∀ g, g ≠ 14 → g ≠ 15 → ν g = μ g))) ([.ref (ad 100)] : List Value).toArray s 0 0 A) (F0 m 156 ls []) := by
                              intro nf
                              induction nf with
                              | zero => intro i ρ H locs hi hρ hm; exact absurd hm (Nat.not_lt_zero _)
                              | succ nf ih156 =>
                                intro i ρ H locs hi hρ hm156 hw ls hl
                                have e12r : ρ 12 0 = μ 12 0 := by rw [hρ, cpS_o _ _ _ _ (by decide)]; exact e12
                                refine lv_iload hx hb d_M_choose_156 (lv_at hl 0 rfl) ?_
                                refine lv_aload_n hx hb d_M_choose_158 rfl (lv_at hl 4 rfl) ?_
                                refine gM_M_looked hc hw lk_M_91 d_M_choose_159 ?_
                                refine z_icmp_ge hx hb 185 d_M_choose_162 (by omega) (by omega) (by decide) (fun c162 => ?_) (fun c162 => ?_)
                                · have hcs : cmS (ν, mo, le) = (ρ, x1_149, x2_152) := by unfold cmS; rw [if_pos hbt]; dsimp only; rw [← hCf, hρ, e12, show i = μ 12 0 by omega, ex1_149, ex2_152]
                                  have hDt : Dg ρ := Dg_of (by rw [hρ, cpS_o _ _ _ _ (by decide)]) hDν
                                  have hot : ∀ g, g ≠ 14 → g ≠ 15 → ρ g = μ g := fun g a1 a2 => by rw [hρ, cpS_o _ _ _ _ a2]; exact ho g a1 a2
                                  have e12t : ρ 12 0 = μ 12 0 := by rw [hot 12 (by decide) (by decide)]
                                  simp only [hcs] at hN
                                  have hvt : vD ρ (μ 12 0).toNat = vD ν (μ 12 0).toNat := vD_of (by rw [hρ, cpS_o _ _ _ _ (by decide)]) _
                                  refine lv_aload_n hx hb d_M_choose_185 rfl (lv_at hl 4 rfl) ?_
                                  refine w_cvR (q0 := 0) hc hw (k_M_goOn _ (by rw [e12t]; exact hn) hDt) yw_M_goOn yi_M_goOn lk_M_106 d_M_choose_186 rfl rfl rfl rfl hl.1 (Nat.le_of_ble_eq_true rfl) ⟨Nat.le_of_ble_eq_true rfl, Nat.le_of_ble_eq_true rfl⟩ ⟨Nat.zero_le _, Nat.zero_le _⟩ (fun τ186 H locs hτ186 hw => ?_)
                                  subst hτ186
                                  refine z_ist hx hb d_M_choose_189 hl (by decide) (fun x4_189 ex4_189 ls (hl : lv_has ls 9 [(4, .int (zI x4_189)), (8, .int (zI i)), (2, .long (zL x2_152)), (1, .int (zI x1_149)), (0, .ref (ad 100))]) => ?_)
                                  rw [e12t] at hw ex4_189
                                  have hbk := cm_back hDt hvt hN ex4_189
                                  refine lv_goto (tgt := 33) hx hb d_M_choose_191 (by decide) ?_
                                  exact ih33 x4_189 x1_149 x2_152 _ _ _ (hbk.2.2) (by first | exact hmo | omega) (by first | exact hle | omega) (goF_dg _ _ hDt) (fun g a1 a2 => by rw [goF_o _ _ g a1]; exact hot g a1 a2) (hbk.1) (by have q := hbk.2.1; rw [if_neg c35] at hm33; omega) hw ls (lv_sub hl [0, 3, 2, 4] rfl)
                                · refine lv_aload_n hx hb d_M_choose_165 rfl (lv_at hl 4 rfl) ?_
                                  refine gM_M_best hc hw lk_M_39 d_M_choose_166 ?_
                                  refine lv_iload hx hb d_M_choose_169 (lv_at hl 0 rfl) ?_
                                  refine lv_aload_n hx hb d_M_choose_171 rfl (lv_at hl 4 rfl) ?_
                                  refine gM_M_digit hc hw lk_M_36 d_M_choose_172 ?_
                                  refine lv_iload hx hb d_M_choose_175 (lv_at hl 0 rfl) ?_
                                  refine ldM_M_digit hc hw d_M_choose_177 (by omega) ?_
                                  refine stM_M_best hc hw d_M_choose_178 (by omega) (fun H locs hw => ?_)
                                  refine z_iinc (k := 0) hx hb d_M_choose_179 hl rfl (by decide) (fun x8_179 ex8_179 ls (hl : lv_has ls 9 [(8, .int (zI x8_179)), (2, .long (zL x2_152)), (1, .int (zI x1_149)), (4, .int (zI mr)), (0, .ref (ad 100))]) => ?_)
                                  refine lv_goto (tgt := 156) hx hb d_M_choose_182 (by decide) ?_
                                  exact ih156 x8_179 _ _ _ (by omega) (by rw [hρ, cpS_s ν 14 15 i (by decide) hi.1, ex8_179]) (by omega) hw ls (lv_sub hl [0, 1, 2, 3, 4] rfl)
                            exact L156 _ x8_154 _ _ _ (by omega) (by rw [ex8_154]; exact (cpS_0 ν 14 15).symm) (Nat.lt_succ_self _) hw ls (lv_sub hl [0, 1, 2, 5, 6] rfl)
                    · refine lv_iload hx hb d_M_choose_63 (lv_at hl 1 rfl) ?_
                      refine lv_aload_n hx hb d_M_choose_65 rfl (lv_at hl 6 rfl) ?_
                      refine gM_M_digit hc hw lk_M_36 d_M_choose_66 ?_
                      refine lv_iload hx hb d_M_choose_69 (lv_at hl 0 rfl) ?_
                      refine ldM_M_digit hc hw d_M_choose_71 (by omega) ?_
                      refine z_ic hx hb d_M_choose_72 ?_
                      refine z_icmp_ge hx hb 80 d_M_choose_73 (by omega) (by omega) (by decide) (fun c73 => ?_) (fun c73 => ?_)
                      · refine z_ic hx hb d_M_choose_80 ?_
                        refine z_iadd hx hb d_M_choose_81 ?_
                        refine z_ist hx hb d_M_choose_82 hl (by decide) (fun x5_82 ex5_82 ls (hl : lv_has ls 9 [(5, .int (zI x5_82)), (8, .int (zI k)), (6, .long (zL su)), (4, .int (zI mr)), (1, .int (zI mo)), (2, .long (zL le)), (0, .ref (ad 100))]) => ?_)
                        refine lv_lload hx hb d_M_choose_84 (lv_at hl 2 rfl) ?_
                        refine lv_aload_n hx hb d_M_choose_86 rfl (lv_at hl 6 rfl) ?_
                        refine gM_M_digit hc hw lk_M_36 d_M_choose_87 ?_
                        refine lv_iload hx hb d_M_choose_90 (lv_at hl 1 rfl) ?_
                        refine ldM_M_digit hc hw d_M_choose_92 (by omega) ?_
                        refine z_ic hx hb d_M_choose_93 ?_
                        refine z_icmp_ge hx hb 118 d_M_choose_94 (by omega) (by omega) (by decide) (fun c94 => ?_) (fun c94 => ?_)
                        · refine z_lc0 hx hb d_M_choose_118 ?_
                          refine z_ladd hx hb d_M_choose_119 ?_
                          refine z_lst hx hb d_M_choose_120 hl (by decide) (fun x6_120 ex6_120 ls (hl : lv_has ls 9 [(6, .long (zL x6_120)), (5, .int (zI x5_82)), (8, .int (zI k)), (4, .int (zI mr)), (1, .int (zI mo)), (2, .long (zL le)), (0, .ref (ad 100))]) => ?_)
                          refine z_iinc (k := 2) hx hb d_M_choose_122 hl rfl (by decide) (fun x8_122 ex8_122 ls (hl : lv_has ls 9 [(8, .int (zI x8_122)), (6, .long (zL x6_120)), (5, .int (zI x5_82)), (4, .int (zI mr)), (1, .int (zI mo)), (2, .long (zL le)), (0, .ref (ad 100))]) => ?_)
                          refine lv_goto (tgt := 54) hx hb d_M_choose_125 (by decide) ?_
                          exact ih54 x8_122 x5_82 x6_120 _ _ (by omega) (by first | (exfalso; omega) | (rw [show x8_122.toNat = k.toNat + 1 from (by omega)]; unfold cF; rw [ek, ← hC, ex5_82, ex6_120, if_pos (by omega), if_pos (by omega)]; done) | (rw [show x8_122.toNat = k.toNat + 1 from (by omega)]; unfold cF; rw [ek, ← hC, ex5_82, ex6_120, if_neg (by omega), if_neg (by omega)]; done)) (by omega) (by omega) hw ls (lv_sub hl [0, 2, 1, 3, 4, 5, 6] rfl)
                        · refine lv_aload_n hx hb d_M_choose_97 rfl (lv_at hl 6 rfl) ?_
                          refine gM_M_forces hc hw lk_M_30 d_M_choose_98 ?_
                          refine lv_aload_n hx hb d_M_choose_101 rfl (lv_at hl 6 rfl) ?_
                          refine lv_iload hx hb d_M_choose_102 (lv_at hl 1 rfl) ?_
                          refine lv_aload_n hx hb d_M_choose_104 rfl (lv_at hl 6 rfl) ?_
                          refine gM_M_digit hc hw lk_M_36 d_M_choose_105 ?_
                          refine lv_iload hx hb d_M_choose_108 (lv_at hl 1 rfl) ?_
                          refine ldM_M_digit hc hw d_M_choose_110 (by omega) ?_
                          refine w_cvR (q0 := 0) hc hw (k_M_pointAt _ _ _ (by omega) (by omega) (by rw [ho 13 (by decide) (by decide)]; exact h13 _)) yw_M_pointAt yi_M_pointAt lk_M_94 d_M_choose_111 rfl rfl rfl rfl hl.1 (Nat.le_of_ble_eq_true rfl) ⟨Nat.le_of_ble_eq_true rfl, Nat.le_of_ble_eq_true rfl⟩ ⟨Nat.zero_le _, Nat.zero_le _⟩ (fun τ111 H locs hτ111 hw => ?_)
                          subst hτ111
                          refine ldM_M_forces hc hw d_M_choose_114 (mPA_bd hIν (by omega)) ?_
                          refine lv_goto (tgt := 119) hx hb d_M_choose_115 (by decide) ?_
                          refine z_ladd hx hb d_M_choose_119 ?_
                          refine z_lst hx hb d_M_choose_120 hl (by decide) (fun x6_120 ex6_120 ls (hl : lv_has ls 9 [(6, .long (zL x6_120)), (5, .int (zI x5_82)), (8, .int (zI k)), (4, .int (zI mr)), (1, .int (zI mo)), (2, .long (zL le)), (0, .ref (ad 100))]) => ?_)
                          refine z_iinc (k := 2) hx hb d_M_choose_122 hl rfl (by decide) (fun x8_122 ex8_122 ls (hl : lv_has ls 9 [(8, .int (zI x8_122)), (6, .long (zL x6_120)), (5, .int (zI x5_82)), (4, .int (zI mr)), (1, .int (zI mo)), (2, .long (zL le)), (0, .ref (ad 100))]) => ?_)
                          refine lv_goto (tgt := 54) hx hb d_M_choose_125 (by decide) ?_
                          exact ih54 x8_122 x5_82 x6_120 _ _ (by omega) (by first | (exfalso; omega) | (rw [show x8_122.toNat = k.toNat + 1 from (by omega)]; unfold cF; rw [ek, ← hC, ex5_82, ex6_120, if_pos (by omega), if_pos (by omega)]; done) | (rw [show x8_122.toNat = k.toNat + 1 from (by omega)]; unfold cF; rw [ek, ← hC, ex5_82, ex6_120, if_neg (by omega), if_neg (by omega)]; done)) (by omega) (by omega) hw ls (lv_sub hl [0, 2, 1, 3, 4, 5, 6] rfl)
                      · refine z_ic hx hb d_M_choose_76 ?_
                        refine lv_goto (tgt := 81) hx hb d_M_choose_77 (by decide) ?_
                        refine z_iadd hx hb d_M_choose_81 ?_
                        refine z_ist hx hb d_M_choose_82 hl (by decide) (fun x5_82 ex5_82 ls (hl : lv_has ls 9 [(5, .int (zI x5_82)), (8, .int (zI k)), (6, .long (zL su)), (4, .int (zI mr)), (1, .int (zI mo)), (2, .long (zL le)), (0, .ref (ad 100))]) => ?_)
                        refine lv_lload hx hb d_M_choose_84 (lv_at hl 2 rfl) ?_
                        refine lv_aload_n hx hb d_M_choose_86 rfl (lv_at hl 6 rfl) ?_
                        refine gM_M_digit hc hw lk_M_36 d_M_choose_87 ?_
                        refine lv_iload hx hb d_M_choose_90 (lv_at hl 1 rfl) ?_
                        refine ldM_M_digit hc hw d_M_choose_92 (by omega) ?_
                        refine z_ic hx hb d_M_choose_93 ?_
                        refine z_icmp_ge hx hb 118 d_M_choose_94 (by omega) (by omega) (by decide) (fun c94 => ?_) (fun c94 => ?_)
                        · refine z_lc0 hx hb d_M_choose_118 ?_
                          refine z_ladd hx hb d_M_choose_119 ?_
                          refine z_lst hx hb d_M_choose_120 hl (by decide) (fun x6_120 ex6_120 ls (hl : lv_has ls 9 [(6, .long (zL x6_120)), (5, .int (zI x5_82)), (8, .int (zI k)), (4, .int (zI mr)), (1, .int (zI mo)), (2, .long (zL le)), (0, .ref (ad 100))]) => ?_)
                          refine z_iinc (k := 2) hx hb d_M_choose_122 hl rfl (by decide) (fun x8_122 ex8_122 ls (hl : lv_has ls 9 [(8, .int (zI x8_122)), (6, .long (zL x6_120)), (5, .int (zI x5_82)), (4, .int (zI mr)), (1, .int (zI mo)), (2, .long (zL le)), (0, .ref (ad 100))]) => ?_)
                          refine lv_goto (tgt := 54) hx hb d_M_choose_125 (by decide) ?_
                          exact ih54 x8_122 x5_82 x6_120 _ _ (by omega) (by first | (exfalso; omega) | (rw [show x8_122.toNat = k.toNat + 1 from (by omega)]; unfold cF; rw [ek, ← hC, ex5_82, ex6_120, if_pos (by omega), if_pos (by omega)]; done) | (rw [show x8_122.toNat = k.toNat + 1 from (by omega)]; unfold cF; rw [ek, ← hC, ex5_82, ex6_120, if_neg (by omega), if_neg (by omega)]; done)) (by omega) (by omega) hw ls (lv_sub hl [0, 2, 1, 3, 4, 5, 6] rfl)
                        · refine lv_aload_n hx hb d_M_choose_97 rfl (lv_at hl 6 rfl) ?_
                          refine gM_M_forces hc hw lk_M_30 d_M_choose_98 ?_
                          refine lv_aload_n hx hb d_M_choose_101 rfl (lv_at hl 6 rfl) ?_
                          refine lv_iload hx hb d_M_choose_102 (lv_at hl 1 rfl) ?_
                          refine lv_aload_n hx hb d_M_choose_104 rfl (lv_at hl 6 rfl) ?_
                          refine gM_M_digit hc hw lk_M_36 d_M_choose_105 ?_
                          refine lv_iload hx hb d_M_choose_108 (lv_at hl 1 rfl) ?_
                          refine ldM_M_digit hc hw d_M_choose_110 (by omega) ?_
                          refine w_cvR (q0 := 0) hc hw (k_M_pointAt _ _ _ (by omega) (by omega) (by rw [ho 13 (by decide) (by decide)]; exact h13 _)) yw_M_pointAt yi_M_pointAt lk_M_94 d_M_choose_111 rfl rfl rfl rfl hl.1 (Nat.le_of_ble_eq_true rfl) ⟨Nat.le_of_ble_eq_true rfl, Nat.le_of_ble_eq_true rfl⟩ ⟨Nat.zero_le _, Nat.zero_le _⟩ (fun τ111 H locs hτ111 hw => ?_)
                          subst hτ111
                          refine ldM_M_forces hc hw d_M_choose_114 (mPA_bd hIν (by omega)) ?_
                          refine lv_goto (tgt := 119) hx hb d_M_choose_115 (by decide) ?_
                          refine z_ladd hx hb d_M_choose_119 ?_
                          refine z_lst hx hb d_M_choose_120 hl (by decide) (fun x6_120 ex6_120 ls (hl : lv_has ls 9 [(6, .long (zL x6_120)), (5, .int (zI x5_82)), (8, .int (zI k)), (4, .int (zI mr)), (1, .int (zI mo)), (2, .long (zL le)), (0, .ref (ad 100))]) => ?_)
                          refine z_iinc (k := 2) hx hb d_M_choose_122 hl rfl (by decide) (fun x8_122 ex8_122 ls (hl : lv_has ls 9 [(8, .int (zI x8_122)), (6, .long (zL x6_120)), (5, .int (zI x5_82)), (4, .int (zI mr)), (1, .int (zI mo)), (2, .long (zL le)), (0, .ref (ad 100))]) => ?_)
                          refine lv_goto (tgt := 54) hx hb d_M_choose_125 (by decide) ?_
                          exact ih54 x8_122 x5_82 x6_120 _ _ (by omega) (by first | (exfalso; omega) | (rw [show x8_122.toNat = k.toNat + 1 from (by omega)]; unfold cF; rw [ek, ← hC, ex5_82, ex6_120, if_pos (by omega), if_pos (by omega)]; done) | (rw [show x8_122.toNat = k.toNat + 1 from (by omega)]; unfold cF; rw [ek, ← hC, ex5_82, ex6_120, if_neg (by omega), if_neg (by omega)]; done)) (by omega) (by omega) hw ls (lv_sub hl [0, 2, 1, 3, 4, 5, 6] rfl)
                exact L54 _ x8_52 x5_46 x6_49 _ _ (by omega) (by rw [ex8_52, ex5_46, ex6_49]; rfl) (by omega) (Nat.lt_succ_self _) hw ls (lv_sub hl [0, 2, 1, 3, 4, 5, 6] rfl)
        exact L33 _ x4_31 x1_1 x2_3 _ _ _ (by omega) (by omega) (by omega) (by rw [hν0]; intro i; unfold fillA; split; exact ⟨by decide, by decide⟩; exact hD i) (fun g a1 a2 => by rw [hν0, fillA_o _ _ _ _ a1]) (by rw [ex4_31, if_neg (by decide), ex1_1, ex2_3, hY0, hν0, show j = μ 12 0 by omega]; unfold cmT; rw [hv00, Int.sub_zero, hpw]) (Nat.lt_succ_self _) hw ls (lv_sub hl [0, 2, 1, 3] rfl)
      · refine lv_aload_n hx hb d_M_choose_16 rfl (lv_at hl 3 rfl) ?_
        refine gM_M_digit hc hw lk_M_36 d_M_choose_17 ?_
        refine lv_iload hx hb d_M_choose_20 (lv_at hl 0 rfl) ?_
        refine z_ic hx hb d_M_choose_22 ?_
        refine stM_M_digit hc hw d_M_choose_23 (by omega) (fun H locs hw => ?_)
        refine z_iinc (k := 0) hx hb d_M_choose_24 hl rfl (by decide) (fun x4_24 ex4_24 ls (hl : lv_has ls 9 [(4, .int (zI x4_24)), (2, .long (zL x2_3)), (1, .int (zI x1_1)), (0, .ref (ad 100))]) => ?_)
        refine lv_goto (tgt := 7) hx hb d_M_choose_27 (by decide) ?_
        exact ih7 x4_24 _ _ _ (by omega) (by rw [hν0, fillA_s μ 14 j 0 hj.1, ex4_24]) (by omega) hw ls (lv_sub hl [0, 1, 2, 3] rfl)
  exact L7 _ x4_5 _ _ _ (by omega) (by rw [ex4_5]; exact (fillA_0 μ 14 0).symm) (Nat.lt_succ_self _) hw ls (lv_sub hl [0, 1, 2, 3] rfl)
