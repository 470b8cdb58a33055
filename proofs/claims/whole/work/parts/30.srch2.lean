set_option maxHeartbeats 400000 in
set_option maxRecDepth 100000 in
theorem k_S_markClashes {l : Launch} {D : va_G} {ad : Nat → Nat} {ca : Nat → ClassId} (σ : St) (hI : IB σ) (hS : IS σ) : Cw l D cl7 (tyX ca) (wX ad ca) y_S_markClashes c_S_markClashes 5 none 3 [.ref (ad 105), .ref (ad 101)] σ (VW (fun τ => mkC σ = τ ∧ IS τ ∧ ∀ g, g ≠ 14 → τ g = σ g)) := by
  have h17 := hS.1
  have hS0 := IS_fill hS
  refine Cw.enter (by decide) (Nat.le_of_ble_eq_true rfl) ?_
  intro A p e s m below meth c hc ls hl hw
  have hl : lv_has ls 5 [(0, .ref (ad 105)), (1, .ref (ad 101))] := hl
  obtain ⟨hx, hb, hml, hown, hTB, hK, hr, hlk⟩ := id hc
  refine lv_aload_n hx hb d_S_markClashes_0 rfl (lv_at hl 0 rfl) ?_
  refine gX_S_clashes hc hw lk_S_25 d_S_markClashes_1 ?_
  refine z_ic hx hb d_S_markClashes_4 ?_
  refine w_csV hc hw (k_JA_fill _ _ (by decide)) yw_JA_fill yi_JA_fill lk_S_76 d_S_markClashes_5 rfl rfl hl.1 (Nat.le_of_ble_eq_true rfl) ⟨Nat.le_of_ble_eq_true rfl, Nat.le_of_ble_eq_true rfl⟩ ⟨Nat.zero_le _, Nat.zero_le _⟩ (fun τ5 H locs hτ5 hw => ?_)
  subst hτ5
  refine z_ic hx hb d_S_markClashes_8 ?_
  refine z_ist_n hx hb d_S_markClashes_9 rfl hl (by decide) (fun x2_9 ex2_9 ls (hl : lv_has ls 5 [(2, .int (zI x2_9)), (0, .ref (ad 105)), (1, .ref (ad 101))]) => ?_)
  have L10 : ∀ (nf : Nat) (i : Int) (τ : St) (H : Heap) (locs : List Loc), (0 ≤ i ∧ i ≤ σ 17 0) → (mkC σ = mcC (σ 17 0 - i).toNat i τ) → (IS τ) → (∀ g, g ≠ 14 → τ g = σ g) → (σ 17 0 - i).toNat < nf → Wd D cl7 (wX ad ca) A s.heap τ H locs → ∀ ls : Array Slot, lv_has ls 5 [(2, .int (zI i)), (0, .ref (ad 105)), (1, .ref (ad 101))] → W p l e (Rmh 3) s m ([.ref (ad 105), .ref (ad 101)] : List Value).toArray below meth c H locs 0 0 (MQ below (Qw D cl7 (wX ad ca) A (VW (fun τ => mkC σ = τ ∧ IS τ ∧ ∀ g, g ≠ 14 → τ g = σ g))) ([.ref (ad 105), .ref (ad 101)] : List Value).toArray s 0 0 A) (F0 m 10 ls []) := by
    intro nf
    induction nf with
    | zero => intro i τ H locs hi hN hSτ ho hm; exact absurd hm (Nat.not_lt_zero _)
    | succ nf ih10 =>
      intro i τ H locs hi hN hSτ ho hm10 hw ls hl
      have e17 : τ 17 0 = σ 17 0 := by rw [ho 17 (by decide)]
      have h11 := hSτ.2.1 i
      refine lv_iload_n hx hb d_S_markClashes_10 rfl (lv_at hl 0 rfl) ?_
      refine lv_aload_n hx hb d_S_markClashes_11 rfl (lv_at hl 1 rfl) ?_
      refine gX_S_looked hc hw lk_S_54 d_S_markClashes_12 ?_
      refine z_icmp_ge hx hb 71 d_S_markClashes_15 (by omega) (by omega) (by decide) (fun c15 => ?_) (fun c15 => ?_)
      · exact w_vret hc hw (⟨rfl, by rw [hN, show (σ 17 0 - i).toNat = 0 by omega]; rfl, hSτ, ho⟩) d_S_markClashes_71
      · have q1 : (σ 17 0 - i).toNat = (σ 17 0 - (i + 1)).toNat + 1 := by omega
        rw [q1, mcC_s] at hN
        refine lv_iload_n hx hb d_S_markClashes_18 rfl (lv_at hl 0 rfl) ?_
        refine z_ic hx hb d_S_markClashes_19 ?_
        refine z_imul hx hb d_S_markClashes_20 ?_
        refine z_ist_n hx hb d_S_markClashes_21 rfl hl (by decide) (fun x3_21 ex3_21 ls (hl : lv_has ls 5 [(3, .int (zI x3_21)), (2, .int (zI i)), (0, .ref (ad 105)), (1, .ref (ad 101))]) => ?_)
        have L22 : ∀ (nf : Nat) (t : Int) (τ2 : St) (H : Heap) (locs : List Loc), (i * 3 ≤ t ∧ t ≤ i * 3 + τ 11 i) → (mcB i (τ 11 i).toNat (i * 3) τ = mcB i (i * 3 + τ 11 i - t).toNat t τ2) → (IS τ2) → (∀ g, g ≠ 14 → τ2 g = τ g) → (i * 3 + τ 11 i - t).toNat < nf → Wd D cl7 (wX ad ca) A s.heap τ2 H locs → ∀ ls : Array Slot, lv_has ls 5 [(3, .int (zI t)), (2, .int (zI i)), (0, .ref (ad 105)), (1, .ref (ad 101))] → W p l e (Rmh 3) s m ([.ref (ad 105), .ref (ad 101)] : List Value).toArray below meth c H locs 0 0 (MQ below (Qw D cl7 (wX ad ca) A (VW (fun τ => mkC σ = τ ∧ IS τ ∧ ∀ g, g ≠ 14 → τ g = σ g))) ([.ref (ad 105), .ref (ad 101)] : List Value).toArray s 0 0 A) (F0 m 22 ls []) := by
          intro nf
          induction nf with
          | zero => intro t τ2 H locs ht hN2 hSτ2 ho2 hm; exact absurd hm (Nat.not_lt_zero _)
          | succ nf ih22 =>
            intro t τ2 H locs ht hN2 hSτ2 ho2 hm22 hw ls hl
            have e11 : τ2 11 i = τ 11 i := by rw [ho2 11 (by decide)]
            have e172 : τ2 17 0 = σ 17 0 := by rw [ho2 17 (by decide), e17]
            refine lv_iload_n hx hb d_S_markClashes_22 rfl (lv_at hl 0 rfl) ?_
            refine lv_aload_n hx hb d_S_markClashes_23 rfl (lv_at hl 2 rfl) ?_
            refine lv_iload_n hx hb d_S_markClashes_24 rfl (lv_at hl 1 rfl) ?_
            refine w_cvR (q0 := 5) hc hw (k_S_endOf _ _ (by omega)) yw_S_endOf yi_S_endOf lk_S_82 d_S_markClashes_25 rfl rfl rfl rfl hl.1 (Nat.le_of_ble_eq_true rfl) ⟨Nat.le_of_ble_eq_true rfl, Nat.le_of_ble_eq_true rfl⟩ ⟨Nat.zero_le _, Nat.zero_le _⟩ (fun τ25 H locs hτ25 hw => ?_)
            subst hτ25
            refine z_icmp_ge hx hb 65 d_S_markClashes_28 (by omega) (by omega) (by decide) (fun c28 => ?_) (fun c28 => ?_)
            · refine z_iinc (k := 1) hx hb d_S_markClashes_65 hl rfl (by decide) (fun x2_65 ex2_65 ls (hl : lv_has ls 5 [(2, .int (zI x2_65)), (3, .int (zI t)), (0, .ref (ad 105)), (1, .ref (ad 101))]) => ?_)
              refine lv_goto (tgt := 10) hx hb d_S_markClashes_68 (by decide) ?_
              exact ih10 x2_65 _ _ _ (by omega) (by rw [hN, ex2_65, hN2, show (i * 3 + τ 11 i - t).toNat = 0 by omega]; rfl) (hSτ2) (fun g h => by rw [ho2 g h]; exact ho g h) (by omega) hw ls (lv_sub hl [0, 2, 3] rfl)
            · have q2 : (i * 3 + τ 11 i - t).toNat = (i * 3 + τ 11 i - (t + 1)).toNat + 1 := by omega
              rw [q2, mcB_s] at hN2
              refine lv_iload_n hx hb d_S_markClashes_31 rfl (lv_at hl 1 rfl) ?_
              refine z_ic hx hb d_S_markClashes_32 ?_
              refine z_iadd hx hb d_S_markClashes_33 ?_
              refine z_ist hx hb d_S_markClashes_34 hl (by decide) (fun x4_34 ex4_34 ls (hl : lv_has ls 5 [(4, .int (zI x4_34)), (3, .int (zI t)), (2, .int (zI i)), (0, .ref (ad 105)), (1, .ref (ad 101))]) => ?_)
              have L36 : ∀ (nf : Nat) (k : Int) (τ3 : St) (H : Heap) (locs : List Loc), (i < k ∧ k ≤ σ 17 0) → (mcA t (τ2 17 0 - (i + 1)).toNat (i + 1) τ2 = mcA t (σ 17 0 - k).toNat k τ3) → (IS τ3) → (∀ g, g ≠ 14 → τ3 g = τ2 g) → (σ 17 0 - k).toNat < nf → Wd D cl7 (wX ad ca) A s.heap τ3 H locs → ∀ ls : Array Slot, lv_has ls 5 [(4, .int (zI k)), (3, .int (zI t)), (2, .int (zI i)), (0, .ref (ad 105)), (1, .ref (ad 101))] → W p l e (Rmh 3) s m ([.ref (ad 105), .ref (ad 101)] : List Value).toArray below meth c H locs 0 0 (MQ below (Qw D cl7 (wX ad ca) A (VW (fun τ => mkC σ = τ ∧ IS τ ∧ ∀ g, g ≠ 14 → τ g = σ g))) ([.ref (ad 105), .ref (ad 101)] : List Value).toArray s 0 0 A) (F0 m 36 ls []) := by
                intro nf
                induction nf with
                | zero => intro k τ3 H locs hk hN3 hSτ3 ho3 hm; exact absurd hm (Nat.not_lt_zero _)
                | succ nf ih36 =>
                  intro k τ3 H locs hk hN3 hSτ3 ho3 hm36 hw ls hl
                  have e173 : τ3 17 0 = σ 17 0 := by rw [ho3 17 (by decide), e172]
                  have hIτ3 : IB τ3 := IB_of (fun g hg => by rw [ho3 g (by omega), ho2 g (by omega), ho g (by omega)]) hI
                  refine lv_iload hx hb d_S_markClashes_36 (lv_at hl 0 rfl) ?_
                  refine lv_aload_n hx hb d_S_markClashes_38 rfl (lv_at hl 3 rfl) ?_
                  refine gX_S_looked hc hw lk_S_54 d_S_markClashes_39 ?_
                  refine z_icmp_ge hx hb 59 d_S_markClashes_42 (by omega) (by omega) (by decide) (fun c42 => ?_) (fun c42 => ?_)
                  · refine z_iinc (k := 1) hx hb d_S_markClashes_59 hl rfl (by decide) (fun x3_59 ex3_59 ls (hl : lv_has ls 5 [(3, .int (zI x3_59)), (4, .int (zI k)), (2, .int (zI i)), (0, .ref (ad 105)), (1, .ref (ad 101))]) => ?_)
                    refine lv_goto (tgt := 22) hx hb d_S_markClashes_62 (by decide) ?_
                    exact ih22 x3_59 _ _ _ (by omega) (by rw [hN2, ex3_59, hN3, show (σ 17 0 - k).toNat = 0 by omega]; rfl) (hSτ3) (fun g h => by rw [ho3 g h]; exact ho2 g h) (by omega) hw ls (lv_sub hl [0, 2, 3, 4] rfl)
                  · have q3 : (σ 17 0 - k).toNat = (σ 17 0 - (k + 1)).toNat + 1 := by omega
                    rw [q3, mcA_s] at hN3
                    refine lv_aload_n hx hb d_S_markClashes_45 rfl (lv_at hl 3 rfl) ?_
                    refine lv_aload_n hx hb d_S_markClashes_46 rfl (lv_at hl 4 rfl) ?_
                    refine lv_iload_n hx hb d_S_markClashes_47 rfl (lv_at hl 1 rfl) ?_
                    refine lv_iload hx hb d_S_markClashes_48 (lv_at hl 0 rfl) ?_
                    refine w_cvV (q0 := 5) hc hw (k_S_markClashesWithNet _ _ _ (by omega) (by omega) hIτ3 hSτ3) yw_S_markClashesWithNet yi_S_markClashesWithNet lk_S_86 d_S_markClashes_50 rfl rfl rfl rfl hl.1 (Nat.le_of_ble_eq_true rfl) ⟨Nat.le_of_ble_eq_true rfl, Nat.le_of_ble_eq_true rfl⟩ ⟨Nat.zero_le _, Nat.zero_le _⟩ (fun τ50 H locs hτ50 hw => ?_)
                    obtain ⟨hn50, hs50, hf50⟩ := hτ50
                    refine z_iinc (k := 0) hx hb d_S_markClashes_53 hl rfl (by decide) (fun x4_53 ex4_53 ls (hl : lv_has ls 5 [(4, .int (zI x4_53)), (3, .int (zI t)), (2, .int (zI i)), (0, .ref (ad 105)), (1, .ref (ad 101))]) => ?_)
                    refine lv_goto (tgt := 36) hx hb d_S_markClashes_56 (by decide) ?_
                    exact ih36 x4_53 _ _ _ (by omega) (by rw [hN3, ex4_53, hn50]) (hs50) (fun g h => by rw [hf50 g h]; exact ho3 g h) (by omega) hw ls (lv_sub hl [0, 1, 2, 3, 4] rfl)
              exact L36 _ x4_34 _ _ _ (by omega) (by rw [ex4_34, e172]) (hSτ2) (fun g h => rfl) (Nat.lt_succ_self _) hw ls (lv_sub hl [0, 1, 2, 3, 4] rfl)
        exact L22 _ x3_21 _ _ _ (by omega) (by rw [ex3_21, show (i * 3 + τ 11 i - i * 3).toNat = (τ 11 i).toNat from (by omega)]) (hSτ) (fun g h => rfl) (Nat.lt_succ_self _) hw ls (lv_sub hl [0, 1, 2, 3] rfl)
  exact L10 _ x2_9 _ _ _ (by omega) (by rw [ex2_9, show (σ 17 0 - 0).toNat = (σ 17 0).toNat from (by omega)]; rfl) (hS0) (fun g h => fillA_o _ _ _ _ h) (Nat.lt_succ_self _) hw ls (lv_sub hl [0, 1, 2] rfl)
set_option maxHeartbeats 400000 in
set_option maxRecDepth 100000 in
theorem k_S_lookAtNets {l : Launch} {D : va_G} {ad : Nat → Nat} {ca : Nat → ClassId} (σ : St) (mo : Int) (hmo : 0 ≤ mo ∧ mo ≤ 8) (hI : IB σ) (hS : IS σ) : Cw l D cl7 (tyX ca) (wX ad ca) y_S_lookAtNets c_S_lookAtNets 6 none 0 [.ref (ad 105), .ref (ad 101), .int (zI mo)] σ (VW (fun τ => lkN σ mo = τ ∧ IS τ ∧ ∀ g, g ≠ 10 → g ≠ 11 → g ≠ 12 → g ≠ 13 → g ≠ 17 → τ g = σ g)) := by
  have h7 := hI.1
  refine Cw.enter (by decide) (Nat.le_of_ble_eq_true rfl) ?_
  intro A p e s m below meth c hc ls hl hw
  have hl : lv_has ls 6 [(0, .ref (ad 105)), (1, .ref (ad 101)), (2, .int (zI mo))] := hl
  obtain ⟨hx, hb, hml, hown, hTB, hK, hr, hlk⟩ := id hc
  refine lv_aload_n hx hb d_S_lookAtNets_0 rfl (lv_at hl 0 rfl) ?_
  refine z_ic hx hb d_S_lookAtNets_1 ?_
  refine pX_S_looked hc hw lk_S_54 d_S_lookAtNets_2 (fun H locs hw => ?_)
  refine z_ic hx hb d_S_lookAtNets_5 ?_
  refine z_ist_n hx hb d_S_lookAtNets_6 rfl hl (by decide) (fun x3_6 ex3_6 ls (hl : lv_has ls 6 [(3, .int (zI x3_6)), (0, .ref (ad 105)), (1, .ref (ad 101)), (2, .int (zI mo))]) => ?_)
  have L7 : ∀ (nf : Nat) (n : Int) (τ : St) (H : Heap) (locs : List Loc), (0 ≤ n ∧ n ≤ σ 7 0) → (lkN σ mo = lnF mo (σ 7 0 - n).toNat n τ) → (IS τ) → (∀ g, g ≠ 10 → g ≠ 11 → g ≠ 12 → g ≠ 13 → g ≠ 17 → τ g = σ g) → (σ 7 0 - n).toNat < nf → Wd D cl7 (wX ad ca) A s.heap τ H locs → ∀ ls : Array Slot, lv_has ls 6 [(3, .int (zI n)), (0, .ref (ad 105)), (1, .ref (ad 101)), (2, .int (zI mo))] → W p l e (Rmh 0) s m ([.ref (ad 105), .ref (ad 101), .int (zI mo)] : List Value).toArray below meth c H locs 0 0 (MQ below (Qw D cl7 (wX ad ca) A (VW (fun τ => lkN σ mo = τ ∧ IS τ ∧ ∀ g, g ≠ 10 → g ≠ 11 → g ≠ 12 → g ≠ 13 → g ≠ 17 → τ g = σ g))) ([.ref (ad 105), .ref (ad 101), .int (zI mo)] : List Value).toArray s 0 0 A) (F0 m 7 ls []) := by
    intro nf
    induction nf with
    | zero => intro n τ H locs hn hN hSτ ho hm; exact absurd hm (Nat.not_lt_zero _)
    | succ nf ih7 =>
      intro n τ H locs hn hN hSτ ho hm7 hw ls hl
      have e7 : τ 7 0 = σ 7 0 := by rw [ho 7 (by decide) (by decide) (by decide) (by decide) (by decide)]
      have hIτ : IB τ := IB_of (fun g hg => ho g (by omega) (by omega) (by omega) (by omega) (by omega)) hI
      have h0n := hIτ.2.2.2.2.2.2.2.2.2 n
      have h17 := hSτ.1
      have h1n := hIτ.2.2.2.2.2.2.2.1 n
      refine lv_iload_n hx hb d_S_lookAtNets_7 rfl (lv_at hl 0 rfl) ?_
      refine lv_aload_n hx hb d_S_lookAtNets_8 rfl (lv_at hl 2 rfl) ?_
      refine gnX_B_netCount hc hw lk_S_58 d_S_lookAtNets_9 ?_
      refine z_icmp_ge hx hb 156 d_S_lookAtNets_12 (by omega) (by omega) (by decide) (fun c12 => ?_) (fun c12 => ?_)
      · exact w_vret hc hw (⟨rfl, by rw [hN, show (σ 7 0 - n).toNat = 0 by omega]; rfl, hSτ, ho⟩) d_S_lookAtNets_156
      · have q1 : (σ 7 0 - n).toNat = (σ 7 0 - (n + 1)).toNat + 1 := by omega
        rw [q1, lnF_s] at hN
        refine lv_aload_n hx hb d_S_lookAtNets_15 rfl (lv_at hl 2 rfl) ?_
        refine gnX_B_must hc hw lk_S_63 d_S_lookAtNets_16 ?_
        refine lv_iload_n hx hb d_S_lookAtNets_19 rfl (lv_at hl 0 rfl) ?_
        refine ldX_B_must hc hw d_S_lookAtNets_20 (by omega) ?_
        refine z_if_eq hx hb 150 d_S_lookAtNets_21 (by omega) (by decide) (fun c21 => ?_) (fun c21 => ?_)
        · refine z_iinc (k := 0) hx hb d_S_lookAtNets_150 hl rfl (by decide) (fun x3_150 ex3_150 ls (hl : lv_has ls 6 [(3, .int (zI x3_150)), (0, .ref (ad 105)), (1, .ref (ad 101)), (2, .int (zI mo))]) => ?_)
          refine lv_goto (tgt := 7) hx hb d_S_lookAtNets_153 (by decide) ?_
          exact ih7 x3_150 _ _ _ (by omega) (by rw [hN, ex3_150]; first | (rw [if_neg (fun q => by omega)]; done) | (rw [if_pos ⟨by omega, by omega, by omega⟩]; unfold lnB lnI; rw [hN4, show (τ 1 n - j).toNat = 0 by omega]; rfl)) (by first | exact hSτ | (exact ⟨by rw [up_s, e174]; omega, by rw [up_f _ _ _ (by decide)]; exact hSρ.2.1, by rw [up_f _ _ _ (by decide)]; exact hSρ.2.2.1, by rw [up_f _ _ _ (by decide)]; exact hSρ.2.2.2.1, by rw [up_f _ _ _ (by decide)]; exact hSρ.2.2.2.2⟩)) (by first | exact ho | (exact fun g a1 a2 a3 a4 a5 => by rw [up_f _ _ _ a5, hoρ g a1 a2 a3 a4]; exact ho g a1 a2 a3 a4 a5)) (by omega) hw ls (lv_sub hl [0, 1, 2, 3] rfl)
        · refine lv_aload_n hx hb d_S_lookAtNets_24 rfl (lv_at hl 1 rfl) ?_
          refine gX_S_looked hc hw lk_S_54 d_S_lookAtNets_25 ?_
          refine lv_iload_n hx hb d_S_lookAtNets_28 rfl (lv_at hl 3 rfl) ?_
          refine z_icmp_ge hx hb 150 d_S_lookAtNets_29 (by omega) (by omega) (by decide) (fun c29 => ?_) (fun c29 => ?_)
          · refine z_iinc (k := 0) hx hb d_S_lookAtNets_150 hl rfl (by decide) (fun x3_150 ex3_150 ls (hl : lv_has ls 6 [(3, .int (zI x3_150)), (0, .ref (ad 105)), (1, .ref (ad 101)), (2, .int (zI mo))]) => ?_)
            refine lv_goto (tgt := 7) hx hb d_S_lookAtNets_153 (by decide) ?_
            exact ih7 x3_150 _ _ _ (by omega) (by rw [hN, ex3_150]; first | (rw [if_neg (fun q => by omega)]; done) | (rw [if_pos ⟨by omega, by omega, by omega⟩]; unfold lnB lnI; rw [hN4, show (τ 1 n - j).toNat = 0 by omega]; rfl)) (by first | exact hSτ | (exact ⟨by rw [up_s, e174]; omega, by rw [up_f _ _ _ (by decide)]; exact hSρ.2.1, by rw [up_f _ _ _ (by decide)]; exact hSρ.2.2.1, by rw [up_f _ _ _ (by decide)]; exact hSρ.2.2.2.1, by rw [up_f _ _ _ (by decide)]; exact hSρ.2.2.2.2⟩)) (by first | exact ho | (exact fun g a1 a2 a3 a4 a5 => by rw [up_f _ _ _ a5, hoρ g a1 a2 a3 a4]; exact ho g a1 a2 a3 a4 a5)) (by omega) hw ls (lv_sub hl [0, 1, 2, 3] rfl)
          · refine lv_aload_n hx hb d_S_lookAtNets_32 rfl (lv_at hl 1 rfl) ?_
            refine gX_S_looked hc hw lk_S_54 d_S_lookAtNets_33 ?_
            refine z_bi hx hb d_S_lookAtNets_36 (by decide) ?_
            refine z_icmp_ge hx hb 150 d_S_lookAtNets_38 (by omega) (by omega) (by decide) (fun c38 => ?_) (fun c38 => ?_)
            · refine z_iinc (k := 0) hx hb d_S_lookAtNets_150 hl rfl (by decide) (fun x3_150 ex3_150 ls (hl : lv_has ls 6 [(3, .int (zI x3_150)), (0, .ref (ad 105)), (1, .ref (ad 101)), (2, .int (zI mo))]) => ?_)
              refine lv_goto (tgt := 7) hx hb d_S_lookAtNets_153 (by decide) ?_
              exact ih7 x3_150 _ _ _ (by omega) (by rw [hN, ex3_150]; first | (rw [if_neg (fun q => by omega)]; done) | (rw [if_pos ⟨by omega, by omega, by omega⟩]; unfold lnB lnI; rw [hN4, show (τ 1 n - j).toNat = 0 by omega]; rfl)) (by first | exact hSτ | (exact ⟨by rw [up_s, e174]; omega, by rw [up_f _ _ _ (by decide)]; exact hSρ.2.1, by rw [up_f _ _ _ (by decide)]; exact hSρ.2.2.1, by rw [up_f _ _ _ (by decide)]; exact hSρ.2.2.2.1, by rw [up_f _ _ _ (by decide)]; exact hSρ.2.2.2.2⟩)) (by first | exact ho | (exact fun g a1 a2 a3 a4 a5 => by rw [up_f _ _ _ a5, hoρ g a1 a2 a3 a4]; exact ho g a1 a2 a3 a4 a5)) (by omega) hw ls (lv_sub hl [0, 1, 2, 3] rfl)
            · refine lv_aload_n hx hb d_S_lookAtNets_41 rfl (lv_at hl 1 rfl) ?_
              refine gX_S_nets hc hw lk_S_9 d_S_lookAtNets_42 ?_
              refine lv_aload_n hx hb d_S_lookAtNets_45 rfl (lv_at hl 1 rfl) ?_
              refine gX_S_looked hc hw lk_S_54 d_S_lookAtNets_46 ?_
              refine lv_iload_n hx hb d_S_lookAtNets_49 rfl (lv_at hl 0 rfl) ?_
              refine stX_S_nets hc hw d_S_lookAtNets_50 (by omega) (fun H locs hw => ?_)
              refine lv_aload_n hx hb d_S_lookAtNets_51 rfl (lv_at hl 1 rfl) ?_
              refine gX_S_sizes hc hw lk_S_15 d_S_lookAtNets_52 ?_
              refine lv_aload_n hx hb d_S_lookAtNets_55 rfl (lv_at hl 1 rfl) ?_
              refine gX_S_looked hc hw lk_S_54 d_S_lookAtNets_56 ?_
              refine lv_aload_n hx hb d_S_lookAtNets_59 rfl (lv_at hl 2 rfl) ?_
              refine gnX_B_sizes hc hw lk_S_67 d_S_lookAtNets_60 ?_
              refine lv_iload_n hx hb d_S_lookAtNets_63 rfl (lv_at hl 0 rfl) ?_
              refine ldX_B_sizes hc hw d_S_lookAtNets_64 (by omega) ?_
              refine stX_S_sizes hc hw d_S_lookAtNets_65 (by show 0 ≤ τ 17 0 ∧ τ 17 0 < 8; omega) (fun H locs hw => ?_)
              refine z_ic hx hb d_S_lookAtNets_66 ?_
              refine z_ist hx hb d_S_lookAtNets_67 hl (by decide) (fun x4_67 ex4_67 ls (hl : lv_has ls 6 [(4, .int (zI x4_67)), (3, .int (zI n)), (0, .ref (ad 105)), (1, .ref (ad 101)), (2, .int (zI mo))]) => ?_)
              have L69 : ∀ (nf : Nat) (j : Int) (ρ : St) (H : Heap) (locs : List Loc), (0 ≤ j ∧ j ≤ τ 1 n) → (lnP n (τ 1 n).toNat 0 (up (up τ 10 (τ 17 0) n) 11 (τ 17 0) (τ 1 n)) = lnP n (τ 1 n - j).toNat j ρ) → (IS ρ) → (∀ g, g ≠ 10 → g ≠ 11 → g ≠ 12 → g ≠ 13 → ρ g = τ g) → (τ 1 n - j).toNat < nf → Wd D cl7 (wX ad ca) A s.heap ρ H locs → ∀ ls : Array Slot, lv_has ls 6 [(4, .int (zI j)), (3, .int (zI n)), (0, .ref (ad 105)), (1, .ref (ad 101)), (2, .int (zI mo))] → W p l e (Rmh 0) s m ([.ref (ad 105), .ref (ad 101), .int (zI mo)] : List Value).toArray below meth c H locs 0 0 (MQ below (Qw D cl7 (wX ad ca) A (VW (fun τ => lkN σ mo = τ ∧ IS τ ∧ ∀ g, g ≠ 10 → g ≠ 11 → g ≠ 12 → g ≠ 13 → g ≠ 17 → τ g = σ g))) ([.ref (ad 105), .ref (ad 101), .int (zI mo)] : List Value).toArray s 0 0 A) (F0 m 69 ls []) := by
                intro nf
                induction nf with
                | zero => intro j ρ H locs hj hN4 hSρ hoρ hm; exact absurd hm (Nat.not_lt_zero _)
                | succ nf ih69 =>
                  intro j ρ H locs hj hN4 hSρ hoρ hm69 hw ls hl
                  have e174 : ρ 17 0 = τ 17 0 := by rw [hoρ 17 (by decide) (by decide) (by decide) (by decide)]
                  have e1 : ρ 1 n = τ 1 n := by rw [hoρ 1 (by decide) (by decide) (by decide) (by decide)]
                  have hIρ : IB ρ := IB_of (fun g hg => hoρ g (by omega) (by omega) (by omega) (by omega)) hIτ
                  refine lv_iload hx hb d_S_lookAtNets_69 (lv_at hl 0 rfl) ?_
                  refine lv_aload_n hx hb d_S_lookAtNets_71 rfl (lv_at hl 3 rfl) ?_
                  refine gnX_B_sizes hc hw lk_S_67 d_S_lookAtNets_72 ?_
                  refine lv_iload_n hx hb d_S_lookAtNets_75 rfl (lv_at hl 1 rfl) ?_
                  refine ldX_B_sizes hc hw d_S_lookAtNets_76 (by omega) ?_
                  refine z_icmp_ge hx hb 140 d_S_lookAtNets_77 (by omega) (by omega) (by decide) (fun c77 => ?_) (fun c77 => ?_)
                  · refine lv_aload_n hx hb d_S_lookAtNets_140 rfl (lv_at hl 2 rfl) ?_
                    refine lv_dup hx hb d_S_lookAtNets_141 rfl ?_
                    refine gX_S_looked hc hw lk_S_54 d_S_lookAtNets_142 ?_
                    refine z_ic hx hb d_S_lookAtNets_145 ?_
                    refine z_iadd hx hb d_S_lookAtNets_146 ?_
                    refine pX_S_looked hc hw lk_S_54 d_S_lookAtNets_147 (fun H locs hw => ?_)
                    refine z_iinc (k := 1) hx hb d_S_lookAtNets_150 hl rfl (by decide) (fun x3_150 ex3_150 ls (hl : lv_has ls 6 [(3, .int (zI x3_150)), (4, .int (zI j)), (0, .ref (ad 105)), (1, .ref (ad 101)), (2, .int (zI mo))]) => ?_)
                    refine lv_goto (tgt := 7) hx hb d_S_lookAtNets_153 (by decide) ?_
                    exact ih7 x3_150 _ _ _ (by omega) (by rw [hN, ex3_150]; first | (rw [if_neg (fun q => by omega)]; done) | (rw [if_pos ⟨by omega, by omega, by omega⟩]; unfold lnB lnI; rw [hN4, show (τ 1 n - j).toNat = 0 by omega]; rfl)) (by first | exact hSτ | (exact ⟨by rw [up_s, e174]; omega, by rw [up_f _ _ _ (by decide)]; exact hSρ.2.1, by rw [up_f _ _ _ (by decide)]; exact hSρ.2.2.1, by rw [up_f _ _ _ (by decide)]; exact hSρ.2.2.2.1, by rw [up_f _ _ _ (by decide)]; exact hSρ.2.2.2.2⟩)) (by first | exact ho | (exact fun g a1 a2 a3 a4 a5 => by rw [up_f _ _ _ a5, hoρ g a1 a2 a3 a4]; exact ho g a1 a2 a3 a4 a5)) (by omega) hw ls (lv_sub hl [0, 2, 3, 4] rfl)
                  · have q4 : (τ 1 n - j).toNat = (τ 1 n - (j + 1)).toNat + 1 := by omega
                    rw [q4, lnP_s] at hN4
                    have h2 := hIρ.2.2.2.2.2.2.2.2.1 (n * 3 + j)
                    have h6x := hIρ.2.2.2.2.2.2.1 (ρ 2 (n * 3 + j))
                    have h6 : 0 ≤ 8000001 - ρ 6 (ρ 2 (n * 3 + j)) ∧ 8000001 - ρ 6 (ρ 2 (n * 3 + j)) ≤ 8000001 := by omega
                    refine lv_aload_n hx hb d_S_lookAtNets_80 rfl (lv_at hl 3 rfl) ?_
                    refine gnX_B_pointsOfNets hc hw lk_S_68 d_S_lookAtNets_81 ?_
                    refine lv_iload_n hx hb d_S_lookAtNets_84 rfl (lv_at hl 1 rfl) ?_
                    refine z_ic hx hb d_S_lookAtNets_85 ?_
                    refine z_imul hx hb d_S_lookAtNets_86 ?_
                    refine lv_iload hx hb d_S_lookAtNets_87 (lv_at hl 0 rfl) ?_
                    refine z_iadd hx hb d_S_lookAtNets_89 ?_
                    refine ldX_B_pointsOfNets hc hw d_S_lookAtNets_90 (by omega) ?_
                    refine z_ist hx hb d_S_lookAtNets_91 hl (by decide) (fun x5_91 ex5_91 ls (hl : lv_has ls 6 [(5, .int (zI x5_91)), (4, .int (zI j)), (3, .int (zI n)), (0, .ref (ad 105)), (1, .ref (ad 101)), (2, .int (zI mo))]) => ?_)
                    subst ex5_91
                    refine lv_aload_n hx hb d_S_lookAtNets_93 rfl (lv_at hl 3 rfl) ?_
                    refine gX_S_points hc hw lk_S_18 d_S_lookAtNets_94 ?_
                    refine lv_aload_n hx hb d_S_lookAtNets_97 rfl (lv_at hl 3 rfl) ?_
                    refine gX_S_looked hc hw lk_S_54 d_S_lookAtNets_98 ?_
                    refine z_ic hx hb d_S_lookAtNets_101 ?_
                    refine z_imul hx hb d_S_lookAtNets_102 ?_
                    refine lv_iload hx hb d_S_lookAtNets_103 (lv_at hl 1 rfl) ?_
                    refine z_iadd hx hb d_S_lookAtNets_105 ?_
                    refine lv_iload hx hb d_S_lookAtNets_106 (lv_at hl 0 rfl) ?_
                    refine stX_S_points hc hw d_S_lookAtNets_108 (by omega) (fun H locs hw => ?_)
                    refine lv_aload_n hx hb d_S_lookAtNets_109 rfl (lv_at hl 3 rfl) ?_
                    refine gX_S_worths hc hw lk_S_21 d_S_lookAtNets_110 ?_
                    refine lv_aload_n hx hb d_S_lookAtNets_113 rfl (lv_at hl 3 rfl) ?_
                    refine gX_S_looked hc hw lk_S_54 d_S_lookAtNets_114 ?_
                    refine z_ic hx hb d_S_lookAtNets_117 ?_
                    refine z_imul hx hb d_S_lookAtNets_118 ?_
                    refine lv_iload hx hb d_S_lookAtNets_119 (lv_at hl 1 rfl) ?_
                    refine z_iadd hx hb d_S_lookAtNets_121 ?_
                    refine z_ldc2 (n := 8000001) hc lk_S_71 d_S_lookAtNets_122 (by decide) ?_
                    refine lv_aload_n hx hb d_S_lookAtNets_125 rfl (lv_at hl 4 rfl) ?_
                    refine gnX_B_weights hc hw lk_S_73 d_S_lookAtNets_126 ?_
                    refine lv_iload hx hb d_S_lookAtNets_129 (lv_at hl 0 rfl) ?_
                    refine ldX_B_weights hc hw d_S_lookAtNets_131 (by omega) ?_
                    refine z_lsub hx hb d_S_lookAtNets_132 ?_
                    refine stX_S_worths hc hw d_S_lookAtNets_133 (by show 0 ≤ ρ 17 0 * 3 + j ∧ ρ 17 0 * 3 + j < 24; omega) (fun H locs hw => ?_)
                    refine z_iinc (k := 1) hx hb d_S_lookAtNets_134 hl rfl (by decide) (fun x4_134 ex4_134 ls (hl : lv_has ls 6 [(4, .int (zI x4_134)), (5, .int (zI (ρ 2 (n * 3 + j)))), (3, .int (zI n)), (0, .ref (ad 105)), (1, .ref (ad 101)), (2, .int (zI mo))]) => ?_)
                    refine lv_goto (tgt := 69) hx hb d_S_lookAtNets_137 (by decide) ?_
                    exact ih69 x4_134 _ _ _ (by omega) (by rw [hN4, ex4_134]; rfl) (⟨by rw [up_f _ _ _ (by decide), up_f _ _ _ (by decide)]; exact hSρ.1, by rw [up_f _ _ _ (by decide), up_f _ _ _ (by decide)]; exact hSρ.2.1, fun i => by rw [up_o _ _ _ _ (by decide)]; unfold up; split; exact h2; exact hSρ.2.2.1 i, up_P (P := fun z => 0 ≤ z ∧ z ≤ 8000001) _ _ _ _ (by show 0 ≤ 8000001 - ρ 6 (ρ 2 (n * 3 + j)) ∧ 8000001 - ρ 6 (ρ 2 (n * 3 + j)) ≤ 8000001; exact h6) (by rw [up_f _ _ _ (by decide)]; exact hSρ.2.2.2.1), by rw [up_f _ _ _ (by decide), up_f _ _ _ (by decide)]; exact hSρ.2.2.2.2⟩) (fun g a1 a2 a3 a4 => by rw [up_f _ _ _ a4, up_f _ _ _ a3]; exact hoρ g a1 a2 a3 a4) (by omega) hw ls (lv_sub hl [0, 2, 3, 4, 5] rfl)
              exact L69 _ x4_67 _ _ _ (by omega) (by rw [ex4_67, show (τ 1 n - 0).toNat = (τ 1 n).toNat from (by omega)]; rfl) (⟨by rw [up_f _ _ _ (by decide), up_f _ _ _ (by decide)]; exact hSτ.1, up_P (P := fun z => 0 ≤ z ∧ z ≤ 3) _ _ _ _ (by show 0 ≤ τ 1 n ∧ τ 1 n ≤ 3; exact h1n) (by rw [up_f _ _ _ (by decide)]; exact hSτ.2.1), by rw [up_f _ _ _ (by decide), up_f _ _ _ (by decide)]; exact hSτ.2.2.1, by rw [up_f _ _ _ (by decide), up_f _ _ _ (by decide)]; exact hSτ.2.2.2.1, by rw [up_f _ _ _ (by decide), up_f _ _ _ (by decide)]; exact hSτ.2.2.2.2⟩) (fun g a1 a2 _ _ => by rw [up_f _ _ _ a2, up_f _ _ _ a1]) (Nat.lt_succ_self _) hw ls (lv_sub hl [0, 1, 2, 3, 4] rfl)
  exact L7 _ x3_6 _ _ _ (by omega) (by rw [ex3_6, show (σ 7 0 - 0).toNat = (σ 7 0).toNat from (by omega)]; rfl) (⟨by rw [up_s]; decide, by rw [up_f _ _ _ (by decide)]; exact hS.2.1, by rw [up_f _ _ _ (by decide)]; exact hS.2.2.1, by rw [up_f _ _ _ (by decide)]; exact hS.2.2.2.1, by rw [up_f _ _ _ (by decide)]; exact hS.2.2.2.2⟩) (fun g _ _ _ _ h => up_f _ _ _ h) (Nat.lt_succ_self _) hw ls (lv_sub hl [0, 1, 2, 3] rfl)
set_option maxHeartbeats 400000 in
set_option maxRecDepth 100000 in
theorem k_S_descend_z {l : Launch} {D : va_G} {ad : Nat → Nat} {ca : Nat → ClassId} (σ : St) (d w bl : Int) (hd : 0 ≤ d ∧ d ≤ σ 17 0) (hw0 : 0 ≤ w ∧ w ≤ sDep d) (hbl : 0 ≤ bl ∧ bl < 16777216) (hS : IS σ) (h18 : -1 ≤ σ 18 0 ∧ σ 18 0 ≤ 64000008) (hf : σ 17 0 = d) : Cw l D cl7 (tyX ca) (wX ad ca) y_S_descend c_S_descend 6 none 4 [.ref (ad 105), .int (zI d), .long (zL w), .int (zI bl)] σ (VW (fun τ => ds 0 σ d w bl = τ ∧ Dk σ τ)) := by
  have h17 := hS.1
  unfold sDep at hw0
  have hmw := mwF_bd hS bl (σ 17 0 - d).toNat d 0
  have hmw1 : 0 ≤ mw σ d bl ∧ mw σ d bl ≤ 64000008 := by unfold mw; omega
  refine Cw.enter (by decide) (Nat.le_of_ble_eq_true rfl) ?_
  intro A p e s m below meth c hc ls hl hw
  have hl : lv_has ls 6 [(0, .ref (ad 105)), (1, .int (zI d)), (2, .long (zL w)), (4, .int (zI bl))] := hl
  obtain ⟨hx, hb, hml, hown, hTB, hK, hr, hlk⟩ := id hc
  refine lv_lload_n hx hb d_S_descend_0 rfl (lv_at hl 2 rfl) ?_
  refine lv_aload_n hx hb d_S_descend_1 rfl (lv_at hl 0 rfl) ?_
  refine lv_iload_n hx hb d_S_descend_2 rfl (lv_at hl 1 rfl) ?_
  refine lv_iload hx hb d_S_descend_3 (lv_at hl 3 rfl) ?_
  refine w_cvR (q0 := 5) hc hw (k_S_mostWorthFrom _ _ _ (by omega) hbl hS) yw_S_mostWorthFrom yi_S_mostWorthFrom lk_S_101 d_S_descend_5 rfl rfl rfl rfl hl.1 (Nat.le_of_ble_eq_true rfl) ⟨Nat.le_of_ble_eq_true rfl, Nat.le_of_ble_eq_true rfl⟩ ⟨Nat.zero_le _, Nat.zero_le _⟩ (fun τ5 H locs hτ5 hw => ?_)
  subst hτ5
  refine z_ladd hx hb d_S_descend_8 ?_
  refine lv_aload_n hx hb d_S_descend_9 rfl (lv_at hl 0 rfl) ?_
  refine gX_S_bestWorth hc hw lk_S_46 d_S_descend_10 ?_
  refine z_lcmp_gt hx hb 18 d_S_descend_13 d_S_descend_14 (by omega) (by omega) (by decide) (fun c13 => ?_) (fun c13 => ?_)
  · refine lv_iload_n hx hb d_S_descend_18 rfl (lv_at hl 1 rfl) ?_
    refine lv_aload_n hx hb d_S_descend_19 rfl (lv_at hl 0 rfl) ?_
    refine gX_S_looked hc hw lk_S_54 d_S_descend_20 ?_
    refine z_icmp_ge hx hb 32 d_S_descend_23 (by omega) (by omega) (by decide) (fun c23 => ?_) (fun c23 => ?_)
    · refine lv_aload_n hx hb d_S_descend_32 rfl (lv_at hl 0 rfl) ?_
      refine lv_lload_n hx hb d_S_descend_33 rfl (lv_at hl 2 rfl) ?_
      refine w_cvV (q0 := 5) hc hw (k_S_keep _ _) yw_S_keep yi_S_keep lk_S_105 d_S_descend_34 rfl rfl rfl rfl hl.1 (Nat.le_of_ble_eq_true rfl) ⟨Nat.le_of_ble_eq_true rfl, Nat.le_of_ble_eq_true rfl⟩ ⟨Nat.zero_le _, Nat.zero_le _⟩ (fun τ34 H locs hτ34 hw => ?_)
      subst hτ34
      exact w_vret hc hw (⟨rfl, by unfold ds; rw [if_neg (by omega)], fun g h1 h2 h3 => by unfold kp; rw [cpS_o _ _ _ _ h2, up_f _ _ _ h3], by unfold kp; rw [cpS_o _ _ _ _ (by decide), up_s]; omega⟩) d_S_descend_37
    · exact absurd c23 (by omega)
  · exact w_vret hc hw (⟨rfl, by unfold ds; rw [if_pos c13], fun g _ _ _ => rfl, h18⟩) d_S_descend_17
set_option maxHeartbeats 400000 in
set_option maxRecDepth 100000 in
theorem k_S_descend_s {l : Launch} {D : va_G} {ad : Nat → Nat} {ca : Nat → ClassId} (f : Nat) (ih : ∀ (σ : St) (d w bl : Int) (hd : 0 ≤ d ∧ d ≤ σ 17 0) (hw0 : 0 ≤ w ∧ w ≤ sDep d) (hbl : 0 ≤ bl ∧ bl < 16777216) (hS : IS σ) (h18 : -1 ≤ σ 18 0 ∧ σ 18 0 ≤ 64000008) (hf : σ 17 0 = d + f), Cw l D cl7 (tyX ca) (wX ad ca) y_S_descend c_S_descend 6 none (4 + f) [.ref (ad 105), .int (zI d), .long (zL w), .int (zI bl)] σ (VW (fun τ => ds f σ d w bl = τ ∧ Dk σ τ))) (σ : St) (d w bl : Int) (hd : 0 ≤ d ∧ d ≤ σ 17 0) (hw0 : 0 ≤ w ∧ w ≤ sDep d) (hbl : 0 ≤ bl ∧ bl < 16777216) (hS : IS σ) (h18 : -1 ≤ σ 18 0 ∧ σ 18 0 ≤ 64000008) (hf : σ 17 0 = d + f + 1) : Cw l D cl7 (tyX ca) (wX ad ca) y_S_descend c_S_descend 6 none (4 + (f + 1)) [.ref (ad 105), .int (zI d), .long (zL w), .int (zI bl)] σ (VW (fun τ => ds (f + 1) σ d w bl = τ ∧ Dk σ τ)) := by
  have h17 := hS.1
  unfold sDep at hw0
  have hmw := mwF_bd hS bl (σ 17 0 - d).toNat d 0
  have hmw1 : 0 ≤ mw σ d bl ∧ mw σ d bl ≤ 64000008 := by unfold mw; omega
  have h11d := hS.2.1 d
  refine Cw.enter (by decide) (Nat.le_of_ble_eq_true rfl) ?_
  intro A p e s m below meth c hc ls hl hw
  have hl : lv_has ls 6 [(0, .ref (ad 105)), (1, .int (zI d)), (2, .long (zL w)), (4, .int (zI bl))] := hl
  obtain ⟨hx, hb, hml, hown, hTB, hK, hr, hlk⟩ := id hc
  refine lv_lload_n hx hb d_S_descend_0 rfl (lv_at hl 2 rfl) ?_
  refine lv_aload_n hx hb d_S_descend_1 rfl (lv_at hl 0 rfl) ?_
  refine lv_iload_n hx hb d_S_descend_2 rfl (lv_at hl 1 rfl) ?_
  refine lv_iload hx hb d_S_descend_3 (lv_at hl 3 rfl) ?_
  refine w_cvR (q0 := 5) hc hw (k_S_mostWorthFrom _ _ _ (by omega) hbl hS) yw_S_mostWorthFrom yi_S_mostWorthFrom lk_S_101 d_S_descend_5 rfl rfl rfl rfl hl.1 (Nat.le_of_ble_eq_true rfl) ⟨by simp only [Rmh]; omega, by simp only [Rmh]; omega⟩ ⟨Nat.zero_le _, Nat.zero_le _⟩ (fun τ5 H locs hτ5 hw => ?_)
  subst hτ5
  refine z_ladd hx hb d_S_descend_8 ?_
  refine lv_aload_n hx hb d_S_descend_9 rfl (lv_at hl 0 rfl) ?_
  refine gX_S_bestWorth hc hw lk_S_46 d_S_descend_10 ?_
  refine z_lcmp_gt hx hb 18 d_S_descend_13 d_S_descend_14 (by omega) (by omega) (by decide) (fun c13 => ?_) (fun c13 => ?_)
  · refine lv_iload_n hx hb d_S_descend_18 rfl (lv_at hl 1 rfl) ?_
    refine lv_aload_n hx hb d_S_descend_19 rfl (lv_at hl 0 rfl) ?_
    refine gX_S_looked hc hw lk_S_54 d_S_descend_20 ?_
    refine z_icmp_ge hx hb 32 d_S_descend_23 (by omega) (by omega) (by decide) (fun c23 => ?_) (fun c23 => ?_)
    · exact absurd c23 (by omega)
    · refine lv_iload_n hx hb d_S_descend_26 rfl (lv_at hl 1 rfl) ?_
      refine z_bi hx hb d_S_descend_27 (by decide) ?_
      refine z_icmp_lt hx hb 38 d_S_descend_29 (by omega) (by omega) (by decide) (fun c29 => ?_) (fun c29 => ?_)
      · refine lv_iload_n hx hb d_S_descend_38 rfl (lv_at hl 1 rfl) ?_
        refine z_ic hx hb d_S_descend_39 ?_
        refine z_imul hx hb d_S_descend_40 ?_
        refine z_ist hx hb d_S_descend_41 hl (by decide) (fun x5_41 ex5_41 ls (hl : lv_has ls 6 [(5, .int (zI x5_41)), (0, .ref (ad 105)), (1, .int (zI d)), (2, .long (zL w)), (4, .int (zI bl))]) => ?_)
        have L43 : ∀ (nf : Nat) (t : Int) (τ : St) (H : Heap) (locs : List Loc), (d * 3 ≤ t ∧ t ≤ d * 3 + σ 11 d) → (dsL (ds f) d w bl (σ 11 d).toNat (d * 3) σ = dsL (ds f) d w bl (d * 3 + σ 11 d - t).toNat t τ) → (Dk σ τ) → (d * 3 + σ 11 d - t).toNat < nf → Wd D cl7 (wX ad ca) A s.heap τ H locs → ∀ ls : Array Slot, lv_has ls 6 [(5, .int (zI t)), (0, .ref (ad 105)), (1, .int (zI d)), (2, .long (zL w)), (4, .int (zI bl))] → W p l e (Rmh (4 + (f + 1))) s m ([.ref (ad 105), .int (zI d), .long (zL w), .int (zI bl)] : List Value).toArray below meth c H locs 0 0 (MQ below (Qw D cl7 (wX ad ca) A (VW (fun τ => ds (f + 1) σ d w bl = τ ∧ Dk σ τ))) ([.ref (ad 105), .int (zI d), .long (zL w), .int (zI bl)] : List Value).toArray s 0 0 A) (F0 m 43 ls []) := by
          intro nf
          induction nf with
          | zero => intro t τ H locs ht hN hk hm; exact absurd hm (Nat.not_lt_zero _)
          | succ nf ih43 =>
            intro t τ H locs ht hN hk hm43 hw ls hl
            have hSτ := hk.IS hS
            have e11 : τ 11 d = σ 11 d := by rw [hk.1 11 (by decide) (by decide) (by decide)]
            have e17 : τ 17 0 = σ 17 0 := by rw [hk.1 17 (by decide) (by decide) (by decide)]
            have h12t := hSτ.2.2.1 t
            have h13t := hSτ.2.2.2.1 t
            have h14t := hSτ.2.2.2.2 t
            refine lv_iload hx hb d_S_descend_43 (lv_at hl 0 rfl) ?_
            refine lv_aload_n hx hb d_S_descend_45 rfl (lv_at hl 1 rfl) ?_
            refine lv_iload_n hx hb d_S_descend_46 rfl (lv_at hl 2 rfl) ?_
            refine w_cvR (q0 := 5) hc hw (k_S_endOf _ _ (by omega)) yw_S_endOf yi_S_endOf lk_S_82 d_S_descend_47 rfl rfl rfl rfl hl.1 (Nat.le_of_ble_eq_true rfl) ⟨by simp only [Rmh]; omega, by simp only [Rmh]; omega⟩ ⟨Nat.zero_le _, Nat.zero_le _⟩ (fun τ47 H locs hτ47 hw => ?_)
            subst hτ47
            refine z_icmp_ge hx hb 108 d_S_descend_50 (by omega) (by omega) (by decide) (fun c50 => ?_) (fun c50 => ?_)
            · rw [show (d * 3 + σ 11 d - t).toNat = 0 by omega] at hN
              have hN : dsL (ds f) d w bl (σ 11 d).toNat (d * 3) σ = τ := hN
              refine lv_aload_n hx hb d_S_descend_108 rfl (lv_at hl 1 rfl) ?_
              refine gX_S_tried hc hw lk_S_28 d_S_descend_109 ?_
              refine lv_iload_n hx hb d_S_descend_112 rfl (lv_at hl 2 rfl) ?_
              refine z_ic hx hb d_S_descend_113 ?_
              refine stX_S_tried hc hw d_S_descend_114 (by omega) (fun H locs hw => ?_)
              refine lv_aload_n hx hb d_S_descend_115 rfl (lv_at hl 1 rfl) ?_
              refine lv_iload_n hx hb d_S_descend_116 rfl (lv_at hl 2 rfl) ?_
              refine z_ic hx hb d_S_descend_117 ?_
              refine z_iadd hx hb d_S_descend_118 ?_
              refine lv_lload_n hx hb d_S_descend_119 rfl (lv_at hl 3 rfl) ?_
              refine lv_iload hx hb d_S_descend_120 (lv_at hl 4 rfl) ?_
              have hSu : IS (up τ 15 d (-1)) := IS_of (fun g hg => up_f _ _ _ (by omega)) hSτ
              refine w_csV hc hw (ih _ _ _ _ (by show 0 ≤ d + 1 ∧ d + 1 ≤ τ 17 0; omega) (by show 0 ≤ w ∧ w ≤ sDep (d + 1); unfold sDep; omega) hbl hSu (by rw [up_o _ _ _ _ (by decide)]; exact hk.2) (by show τ 17 0 = _; omega)) yw_S_descend yi_S_descend lk_S_50 d_S_descend_122 rfl rfl hl.1 (Nat.le_of_ble_eq_true rfl) ⟨by simp only [Rmh]; omega, by simp only [Rmh]; omega⟩ ⟨Nat.zero_le _, Nat.zero_le _⟩ (fun τ122 H locs hτ122 hw => ?_)
              obtain ⟨hn122, hk122⟩ := hτ122
              exact w_vret hc hw (⟨rfl, by rw [ds_s, if_neg (by omega), hN, hn122], fun g a1 a2 a3 => by rw [hk122.1 g a1 a2 a3, up_f _ _ _ a1]; exact hk.1 g a1 a2 a3, hk122.2⟩) d_S_descend_125
            · have q : (d * 3 + σ 11 d - t).toNat = (d * 3 + σ 11 d - (t + 1)).toNat + 1 := by omega
              rw [q, dsL_s] at hN
              refine lv_iload hx hb d_S_descend_53 (lv_at hl 4 rfl) ?_
              refine lv_iload hx hb d_S_descend_55 (lv_at hl 0 rfl) ?_
              refine w_csNR hc hw (k_X_hasBit _ _ _ (by omega) (by omega)) yw_X_hasBit yi_X_hasBit lk_S_98 d_S_descend_57 rfl rfl hl.1 (Nat.le_of_ble_eq_true rfl) ⟨by simp only [Rmh]; omega, by simp only [Rmh]; omega⟩ ⟨Nat.zero_le _, Nat.zero_le _⟩ (fun τ57 H locs hτ57 hw => ?_)
              subst hτ57
              refine z_ifb_ne hx hb 102 d_S_descend_60 (by decide) (fun c60 => ?_) (fun c60 => ?_)
              · refine z_iinc (k := 0) hx hb d_S_descend_102 hl rfl (by decide) (fun x5_102 ex5_102 ls (hl : lv_has ls 6 [(5, .int (zI x5_102)), (0, .ref (ad 105)), (1, .int (zI d)), (2, .long (zL w)), (4, .int (zI bl))]) => ?_)
                refine lv_goto (tgt := 43) hx hb d_S_descend_105 (by decide) ?_
                exact ih43 x5_102 _ _ _ (by omega) (by rw [hN, ex5_102]; first | (rw [if_pos c60]; done) | (rw [if_neg c60, hn99]; done)) (by first | exact hk | exact ⟨fun g a1 a2 a3 => by rw [hk99.1 g a1 a2 a3, up_f _ _ _ a1]; exact hk.1 g a1 a2 a3, hk99.2⟩) (by omega) hw ls (lv_sub hl [0, 1, 2, 3, 4] rfl)
              · refine lv_aload_n hx hb d_S_descend_63 rfl (lv_at hl 1 rfl) ?_
                refine gX_S_tried hc hw lk_S_28 d_S_descend_64 ?_
                refine lv_iload_n hx hb d_S_descend_67 rfl (lv_at hl 2 rfl) ?_
                refine lv_aload_n hx hb d_S_descend_68 rfl (lv_at hl 1 rfl) ?_
                refine gX_S_points hc hw lk_S_18 d_S_descend_69 ?_
                refine lv_iload hx hb d_S_descend_72 (lv_at hl 0 rfl) ?_
                refine ldX_S_points hc hw d_S_descend_74 (by omega) ?_
                refine stX_S_tried hc hw d_S_descend_75 (by omega) (fun H locs hw => ?_)
                refine lv_aload_n hx hb d_S_descend_76 rfl (lv_at hl 1 rfl) ?_
                refine lv_iload_n hx hb d_S_descend_77 rfl (lv_at hl 2 rfl) ?_
                refine z_ic hx hb d_S_descend_78 ?_
                refine z_iadd hx hb d_S_descend_79 ?_
                refine lv_lload_n hx hb d_S_descend_80 rfl (lv_at hl 3 rfl) ?_
                refine lv_aload_n hx hb d_S_descend_81 rfl (lv_at hl 1 rfl) ?_
                refine gX_S_worths hc hw lk_S_21 d_S_descend_82 ?_
                refine lv_iload hx hb d_S_descend_85 (lv_at hl 0 rfl) ?_
                refine ldX_S_worths hc hw d_S_descend_87 (by omega) ?_
                refine z_ladd hx hb d_S_descend_88 ?_
                refine lv_iload hx hb d_S_descend_89 (lv_at hl 4 rfl) ?_
                refine lv_aload_n hx hb d_S_descend_91 rfl (lv_at hl 1 rfl) ?_
                refine gX_S_clashes hc hw lk_S_25 d_S_descend_92 ?_
                refine lv_iload hx hb d_S_descend_95 (lv_at hl 0 rfl) ?_
                refine ldX_S_clashes hc hw d_S_descend_97 (by omega) ?_
                refine z_ior hx hb d_S_descend_98 (⟨hbl.1, h14t.1⟩) ?_
                have hSu : IS (up τ 15 d (τ 12 t)) := IS_of (fun g hg => up_f _ _ _ (by omega)) hSτ
                refine w_csV hc hw (ih _ _ _ _ (by show 0 ≤ d + 1 ∧ d + 1 ≤ τ 17 0; omega) (by show 0 ≤ w + τ 13 t ∧ w + τ 13 t ≤ sDep (d + 1); unfold sDep; omega) (zOr_bd (k := 24) hbl h14t) hSu (by rw [up_o _ _ _ _ (by decide)]; exact hk.2) (by show τ 17 0 = _; omega)) yw_S_descend yi_S_descend lk_S_50 d_S_descend_99 rfl rfl hl.1 (Nat.le_of_ble_eq_true rfl) ⟨by simp only [Rmh]; omega, by simp only [Rmh]; omega⟩ ⟨Nat.zero_le _, Nat.zero_le _⟩ (fun τ99 H locs hτ99 hw => ?_)
                obtain ⟨hn99, hk99⟩ := hτ99
                have hn99 : ds f (up τ 15 d (τ 12 t)) (d + 1) (w + τ 13 t) (zOr bl (τ 14 t)) = τ99 := hn99
                refine z_iinc (k := 0) hx hb d_S_descend_102 hl rfl (by decide) (fun x5_102 ex5_102 ls (hl : lv_has ls 6 [(5, .int (zI x5_102)), (0, .ref (ad 105)), (1, .int (zI d)), (2, .long (zL w)), (4, .int (zI bl))]) => ?_)
                refine lv_goto (tgt := 43) hx hb d_S_descend_105 (by decide) ?_
                exact ih43 x5_102 _ _ _ (by omega) (by rw [hN, ex5_102]; first | (rw [if_pos c60]; done) | (rw [if_neg c60, hn99]; done)) (by first | exact hk | exact ⟨fun g a1 a2 a3 => by rw [hk99.1 g a1 a2 a3, up_f _ _ _ a1]; exact hk.1 g a1 a2 a3, hk99.2⟩) (by omega) hw ls (lv_sub hl [0, 1, 2, 3, 4] rfl)
        exact L43 _ x5_41 _ _ _ (by omega) (by rw [ex5_41, show (d * 3 + σ 11 d - d * 3).toNat = (σ 11 d).toNat from (by omega)]) (⟨fun g _ _ _ => rfl, h18⟩) (Nat.lt_succ_self _) hw ls (lv_sub hl [0, 1, 2, 3, 4] rfl)
      · exact absurd c29 (by omega)
  · exact w_vret hc hw (⟨rfl, by rw [ds_s, if_pos c13], fun g _ _ _ => rfl, h18⟩) d_S_descend_17
theorem k_S_descend {l : Launch} {D : va_G} {ad : Nat → Nat} {ca : Nat → ClassId} : ∀ (f : Nat) (σ : St) (d w bl : Int) (hd : 0 ≤ d ∧ d ≤ σ 17 0) (hw0 : 0 ≤ w ∧ w ≤ sDep d) (hbl : 0 ≤ bl ∧ bl < 16777216) (hS : IS σ) (h18 : -1 ≤ σ 18 0 ∧ σ 18 0 ≤ 64000008) (hf : σ 17 0 = d + f), Cw l D cl7 (tyX ca) (wX ad ca) y_S_descend c_S_descend 6 none (4 + f) [.ref (ad 105), .int (zI d), .long (zL w), .int (zI bl)] σ (VW (fun τ => ds f σ d w bl = τ ∧ Dk σ τ)) := by
  intro f
  induction f with
  | zero => intro σ d w bl hd hw0 hbl hS h18 hf; exact k_S_descend_z σ d w bl hd hw0 hbl hS h18 (by omega)
  | succ f ih => intro σ d w bl hd hw0 hbl hS h18 hf; exact k_S_descend_s f ih σ d w bl hd hw0 hbl hS h18 (by omega)
set_option maxHeartbeats 400000 in
set_option maxRecDepth 100000 in
theorem k_S_choose {l : Launch} {D : va_G} {ad : Nat → Nat} {ca : Nat → ClassId} (σ : St) (mo : Int) (hmo : 0 ≤ mo ∧ mo ≤ 8) (hI : IB σ) (hS : IS σ) : Cw l D cl7 (tyX ca) (wX ad ca) y_S_choose c_S_choose 3 none 13 [.ref (ad 105), .ref (ad 101), .int (zI mo)] σ (VW (fun τ => chS σ mo = τ ∧ IS τ ∧ ∀ g, g < 10 ∨ 20 ≤ g → τ g = σ g)) := by
  refine Cw.enter (by decide) (Nat.le_of_ble_eq_true rfl) ?_
  intro A p e s m below meth c hc ls hl hw
  have hl : lv_has ls 3 [(0, .ref (ad 105)), (1, .ref (ad 101)), (2, .int (zI mo))] := hl
  obtain ⟨hx, hb, hml, hown, hTB, hK, hr, hlk⟩ := id hc
  refine lv_aload_n hx hb d_S_choose_0 rfl (lv_at hl 0 rfl) ?_
  refine lv_aload_n hx hb d_S_choose_1 rfl (lv_at hl 1 rfl) ?_
  refine lv_iload_n hx hb d_S_choose_2 rfl (lv_at hl 2 rfl) ?_
  refine w_cvV (q0 := 5) hc hw (k_S_lookAtNets _ _ hmo hI hS) yw_S_lookAtNets yi_S_lookAtNets lk_S_34 d_S_choose_3 rfl rfl rfl rfl hl.1 (Nat.le_of_ble_eq_true rfl) ⟨Nat.le_of_ble_eq_true rfl, Nat.le_of_ble_eq_true rfl⟩ ⟨Nat.zero_le _, Nat.zero_le _⟩ (fun τ3 H locs hτ3 hw => ?_)
  obtain ⟨hn3, hs3, hf3⟩ := hτ3
  have hI3 : IB τ3 := IB_of (fun g hg => hf3 g (by omega) (by omega) (by omega) (by omega) (by omega)) hI
  refine lv_aload_n hx hb d_S_choose_6 rfl (lv_at hl 0 rfl) ?_
  refine lv_aload_n hx hb d_S_choose_7 rfl (lv_at hl 1 rfl) ?_
  refine w_cvV (q0 := 5) hc hw (k_S_markClashes _ hI3 hs3) yw_S_markClashes yi_S_markClashes lk_S_38 d_S_choose_8 rfl rfl rfl rfl hl.1 (Nat.le_of_ble_eq_true rfl) ⟨Nat.le_of_ble_eq_true rfl, Nat.le_of_ble_eq_true rfl⟩ ⟨Nat.zero_le _, Nat.zero_le _⟩ (fun τ8 H locs hτ8 hw => ?_)
  obtain ⟨hn8, hs8, hf8⟩ := hτ8
  have e8 : chA σ mo = τ8 := by unfold chA; rw [hn3]; exact hn8
  have hwp := wpF_bd hs8 (τ8 17 0).toNat 0 0 0
  have h17 := hs8.1
  refine lv_aload_n hx hb d_S_choose_11 rfl (lv_at hl 0 rfl) ?_
  refine lv_aload_n hx hb d_S_choose_12 rfl (lv_at hl 0 rfl) ?_
  refine w_cvR (q0 := 5) hc hw (k_S_worthOfPlainChoice _ hs8) yw_S_worthOfPlainChoice yi_S_worthOfPlainChoice lk_S_42 d_S_choose_13 rfl rfl rfl rfl hl.1 (Nat.le_of_ble_eq_true rfl) ⟨Nat.le_of_ble_eq_true rfl, Nat.le_of_ble_eq_true rfl⟩ ⟨Nat.zero_le _, Nat.zero_le _⟩ (fun τ13 H locs hτ13 hw => ?_)
  subst hτ13
  refine z_lc1 hx hb d_S_choose_16 ?_
  refine z_lsub hx hb d_S_choose_17 ?_
  refine pX_S_bestWorth hc hw lk_S_46 d_S_choose_18 (fun H locs hw => ?_)
  refine lv_aload_n hx hb d_S_choose_21 rfl (lv_at hl 0 rfl) ?_
  refine z_ic hx hb d_S_choose_22 ?_
  refine z_lc0 hx hb d_S_choose_23 ?_
  refine z_ic hx hb d_S_choose_24 ?_
  have hsu : IS (up τ8 18 0 (wp0 τ8 - 1)) := IS_of (fun g hg => up_f _ _ _ (by omega)) hs8
  refine w_csV hc hw (k_S_descend (τ8 17 0).toNat _ _ _ _ (by show 0 ≤ 0 ∧ 0 ≤ τ8 17 0; omega) (by decide) (by decide) hsu (by rw [up_s]; unfold wp0; omega) (by show τ8 17 0 = _; omega)) yw_S_descend yi_S_descend lk_S_50 d_S_choose_25 rfl rfl hl.1 (Nat.le_of_ble_eq_true rfl) ⟨by simp only [Rmh]; omega, by simp only [Rmh]; omega⟩ ⟨Nat.zero_le _, Nat.zero_le _⟩ (fun τ25 H locs hτ25 hw => ?_)
  obtain ⟨hn25, hk25⟩ := hτ25
  exact w_vret hc hw (⟨rfl, by unfold chS; rw [e8]; exact hn25, hk25.IS hsu, fun g hg => by rw [hk25.1 g (by omega) (by omega) (by omega), up_f _ _ _ (by omega), hf8 g (by omega)]; exact hf3 g (by omega) (by omega) (by omega) (by omega) (by omega)⟩) d_S_choose_28
set_option maxHeartbeats 400000 in
set_option maxRecDepth 100000 in
theorem k_R_explain_z {l : Launch} {D : va_G} {ad : Nat → Nat} {ca : Nat → ClassId} (σ : St) (n t : Int) (hn : 0 ≤ n ∧ n ≤ 12) (ht : 0 ≤ t ∧ t < 4096) (hO : ∀ i, 0 ≤ σ 40 i ∧ σ 40 i < 4096) (h42 : 0 ≤ σ 42 0 ∧ σ 42 0 ≤ 13) (h41 : 0 ≤ σ 41 0 ∧ σ 41 0 < 4096) (hf : n = 12) : Cw l D cl7 (tyX ca) (wX ad ca) y_R_explain c_R_explain 4 none 2 [.ref (ad 104), .int (zI n), .int (zI t)] σ (VW (fun τ => ex 0 σ n t = τ ∧ Ek σ τ)) := by
  have hpc := popc_bd t
  refine Cw.enter (by decide) (Nat.le_of_ble_eq_true rfl) ?_
  intro A p e s m below meth c hc ls hl hw
  have hl : lv_has ls 4 [(0, .ref (ad 104)), (1, .int (zI n)), (2, .int (zI t))] := hl
  obtain ⟨hx, hb, hml, hown, hTB, hK, hr, hlk⟩ := id hc
  refine lv_iload_n hx hb d_R_explain_0 rfl (lv_at hl 2 rfl) ?_
  refine w_csR hc hw (k_JI_bitCount _ _ ht) yw_JI_bitCount yi_JI_bitCount lk_R_23 d_R_explain_1 rfl rfl hl.1 (Nat.le_of_ble_eq_true rfl) ⟨Nat.le_of_ble_eq_true rfl, Nat.le_of_ble_eq_true rfl⟩ ⟨Nat.zero_le _, Nat.zero_le _⟩ (fun τ1 H locs hτ1 hw => ?_)
  subst hτ1
  refine lv_aload_n hx hb d_R_explain_4 rfl (lv_at hl 0 rfl) ?_
  refine gX_R_coverSize hc hw lk_R_29 d_R_explain_5 ?_
  refine z_icmp_lt hx hb 12 d_R_explain_8 (by omega) (by omega) (by decide) (fun c8 => ?_) (fun c8 => ?_)
  · refine lv_iload_n hx hb d_R_explain_12 rfl (lv_at hl 1 rfl) ?_
    refine z_bi hx hb d_R_explain_13 (by decide) ?_
    refine z_icmp_lt hx hb 32 d_R_explain_15 (by omega) (by omega) (by decide) (fun c15 => ?_) (fun c15 => ?_)
    · exact absurd c15 (by omega)
    · refine lv_aload_n hx hb d_R_explain_18 rfl (lv_at hl 0 rfl) ?_
      refine lv_iload_n hx hb d_R_explain_19 rfl (lv_at hl 2 rfl) ?_
      refine pX_R_cover hc hw lk_R_37 d_R_explain_20 (fun H locs hw => ?_)
      refine lv_aload_n hx hb d_R_explain_23 rfl (lv_at hl 0 rfl) ?_
      refine lv_iload_n hx hb d_R_explain_24 rfl (lv_at hl 2 rfl) ?_
      refine w_csR hc hw (k_JI_bitCount _ _ ht) yw_JI_bitCount yi_JI_bitCount lk_R_23 d_R_explain_25 rfl rfl hl.1 (Nat.le_of_ble_eq_true rfl) ⟨Nat.le_of_ble_eq_true rfl, Nat.le_of_ble_eq_true rfl⟩ ⟨Nat.zero_le _, Nat.zero_le _⟩ (fun τ25 H locs hτ25 hw => ?_)
      subst hτ25
      refine pX_R_coverSize hc hw lk_R_29 d_R_explain_28 (fun H locs hw => ?_)
      exact w_vret hc hw (⟨rfl, by unfold ex; rw [if_neg (by omega)], fun g a1 a2 => by rw [up_f _ _ _ a2, up_f _ _ _ a1], by rw [up_s]; omega, by rw [up_o _ _ _ _ (by decide), up_s]; exact ht⟩) d_R_explain_31
  · exact w_vret hc hw (⟨rfl, by unfold ex; rw [if_pos c8], fun g _ _ => rfl, h42, h41⟩) d_R_explain_11
set_option maxHeartbeats 400000 in
set_option maxRecDepth 100000 in
theorem k_R_explain_s {l : Launch} {D : va_G} {ad : Nat → Nat} {ca : Nat → ClassId} (f : Nat) (ih : ∀ (σ : St) (n t : Int) (hn : 0 ≤ n ∧ n ≤ 12) (ht : 0 ≤ t ∧ t < 4096) (hO : ∀ i, 0 ≤ σ 40 i ∧ σ 40 i < 4096) (h42 : 0 ≤ σ 42 0 ∧ σ 42 0 ≤ 13) (h41 : 0 ≤ σ 41 0 ∧ σ 41 0 < 4096) (hf : n + f = 12), Cw l D cl7 (tyX ca) (wX ad ca) y_R_explain c_R_explain 4 none (2 + f) [.ref (ad 104), .int (zI n), .int (zI t)] σ (VW (fun τ => ex f σ n t = τ ∧ Ek σ τ))) (σ : St) (n t : Int) (hn : 0 ≤ n ∧ n ≤ 12) (ht : 0 ≤ t ∧ t < 4096) (hO : ∀ i, 0 ≤ σ 40 i ∧ σ 40 i < 4096) (h42 : 0 ≤ σ 42 0 ∧ σ 42 0 ≤ 13) (h41 : 0 ≤ σ 41 0 ∧ σ 41 0 < 4096) (hf : n + f + 1 = 12) : Cw l D cl7 (tyX ca) (wX ad ca) y_R_explain c_R_explain 4 none (2 + (f + 1)) [.ref (ad 104), .int (zI n), .int (zI t)] σ (VW (fun τ => ex (f + 1) σ n t = τ ∧ Ek σ τ)) := by
  have hpc := popc_bd t
  have hOn := hO n
  have hxz := xzN_bd (t := t) hOn
  have hp2 := p2_bd (b := n) (k := 12) (by omega)
  have hzo1 := zOr_bd (k := 12) ht hp2
  have hzo2 := zOr_bd (k := 12) ht hOn
  refine Cw.enter (by decide) (Nat.le_of_ble_eq_true rfl) ?_
  intro A p e s m below meth c hc ls hl hw
  have hl : lv_has ls 4 [(0, .ref (ad 104)), (1, .int (zI n)), (2, .int (zI t))] := hl
  obtain ⟨hx, hb, hml, hown, hTB, hK, hr, hlk⟩ := id hc
  refine lv_iload_n hx hb d_R_explain_0 rfl (lv_at hl 2 rfl) ?_
  refine w_csR hc hw (k_JI_bitCount _ _ ht) yw_JI_bitCount yi_JI_bitCount lk_R_23 d_R_explain_1 rfl rfl hl.1 (Nat.le_of_ble_eq_true rfl) ⟨by simp only [Rmh]; omega, by simp only [Rmh]; omega⟩ ⟨Nat.zero_le _, Nat.zero_le _⟩ (fun τ1 H locs hτ1 hw => ?_)
  subst hτ1
  refine lv_aload_n hx hb d_R_explain_4 rfl (lv_at hl 0 rfl) ?_
  refine gX_R_coverSize hc hw lk_R_29 d_R_explain_5 ?_
  refine z_icmp_lt hx hb 12 d_R_explain_8 (by omega) (by omega) (by decide) (fun c8 => ?_) (fun c8 => ?_)
  · refine lv_iload_n hx hb d_R_explain_12 rfl (lv_at hl 1 rfl) ?_
    refine z_bi hx hb d_R_explain_13 (by decide) ?_
    refine z_icmp_lt hx hb 32 d_R_explain_15 (by omega) (by omega) (by decide) (fun c15 => ?_) (fun c15 => ?_)
    · refine lv_iload_n hx hb d_R_explain_32 rfl (lv_at hl 2 rfl) ?_
      refine lv_iload_n hx hb d_R_explain_33 rfl (lv_at hl 1 rfl) ?_
      refine w_csNR hc hw (k_X_hasBit _ _ _ (by omega) (by omega)) yw_X_hasBit yi_X_hasBit lk_R_15 d_R_explain_34 rfl rfl hl.1 (Nat.le_of_ble_eq_true rfl) ⟨by simp only [Rmh]; omega, by simp only [Rmh]; omega⟩ ⟨Nat.zero_le _, Nat.zero_le _⟩ (fun τ34 H locs hτ34 hw => ?_)
      subst hτ34
      refine z_ifb_ne hx hb 53 d_R_explain_37 (by decide) (fun c37 => ?_) (fun c37 => ?_)
      · refine z_ic hx hb d_R_explain_53 ?_
        refine lv_goto (tgt := 58) hx hb d_R_explain_54 (by decide) ?_
        refine z_ist_n hx hb d_R_explain_58 rfl hl (by decide) (fun x3_58 ex3_58 ls (hl : lv_has ls 4 [(3, .int (zI x3_58)), (0, .ref (ad 104)), (1, .int (zI n)), (2, .int (zI t))]) => ?_)
        refine lv_iload_n hx hb d_R_explain_59 rfl (lv_at hl 0 rfl) ?_
        refine z_if_ne hx hb 75 d_R_explain_60 (by omega) (by decide) (fun c60 => ?_) (fun c60 => ?_)
        · refine lv_aload_n hx hb d_R_explain_75 rfl (lv_at hl 1 rfl) ?_
          refine lv_iload_n hx hb d_R_explain_76 rfl (lv_at hl 2 rfl) ?_
          refine z_ic hx hb d_R_explain_77 ?_
          refine z_iadd hx hb d_R_explain_78 ?_
          refine lv_iload_n hx hb d_R_explain_79 rfl (lv_at hl 0 rfl) ?_
          refine z_if_eq hx hb 87 d_R_explain_80 (by omega) (by decide) (fun c80 => ?_) (fun c80 => ?_)
          · exact absurd c80 (by omega)
          · refine lv_iload_n hx hb d_R_explain_83 rfl (lv_at hl 3 rfl) ?_
            refine lv_goto (tgt := 95) hx hb d_R_explain_84 (by decide) ?_
            refine w_csV hc hw (ih _ _ _ (by omega) ht hO h42 h41 (by omega)) yw_R_explain yi_R_explain lk_R_33 d_R_explain_95 rfl rfl hl.1 (Nat.le_of_ble_eq_true rfl) ⟨by simp only [Rmh]; omega, by simp only [Rmh]; omega⟩ ⟨Nat.zero_le _, Nat.zero_le _⟩ (fun τ95 H locs hτ95 hw => ?_)
            obtain ⟨hn95, hk95⟩ := hτ95
            exact w_vret hc hw (by first | (exact ⟨rfl, by rw [ex_s, if_neg (by omega), if_pos (by first | exact Or.inl c37 | exact Or.inr c50)]; exact hn95, hk95⟩) | (exact ⟨rfl, by rw [ex_s, if_neg (by omega), if_neg (fun q => q.elim c37 c50), hn72, ← hn95, e40], fun g a1 a2 => by rw [hk95.1 g a1 a2]; exact hk72.1 g a1 a2, hk95.2⟩)) d_R_explain_98
        · exact absurd c60 (by omega)
      · refine lv_aload_n hx hb d_R_explain_40 rfl (lv_at hl 0 rfl) ?_
        refine gX_R_others hc hw lk_R_9 d_R_explain_41 ?_
        refine lv_iload_n hx hb d_R_explain_44 rfl (lv_at hl 1 rfl) ?_
        refine ldX_R_others hc hw d_R_explain_45 (by omega) ?_
        refine lv_iload_n hx hb d_R_explain_46 rfl (lv_at hl 2 rfl) ?_
        refine z_ic hx hb d_R_explain_47 ?_
        refine lv_ixor hx hb d_R_explain_48 ?_
        refine z_andn hx hb d_R_explain_49 (⟨hOn, ht.1⟩) ?_
        refine z_if_ne hx hb 57 d_R_explain_50 (by omega) (by decide) (fun c50 => ?_) (fun c50 => ?_)
        · refine z_ic hx hb d_R_explain_57 ?_
          refine z_ist_n hx hb d_R_explain_58 rfl hl (by decide) (fun x3_58 ex3_58 ls (hl : lv_has ls 4 [(3, .int (zI x3_58)), (0, .ref (ad 104)), (1, .int (zI n)), (2, .int (zI t))]) => ?_)
          refine lv_iload_n hx hb d_R_explain_59 rfl (lv_at hl 0 rfl) ?_
          refine z_if_ne hx hb 75 d_R_explain_60 (by omega) (by decide) (fun c60 => ?_) (fun c60 => ?_)
          · exact absurd c60 (by omega)
          · refine lv_aload_n hx hb d_R_explain_63 rfl (lv_at hl 1 rfl) ?_
            refine lv_iload_n hx hb d_R_explain_64 rfl (lv_at hl 2 rfl) ?_
            refine z_ic hx hb d_R_explain_65 ?_
            refine z_iadd hx hb d_R_explain_66 ?_
            refine lv_iload_n hx hb d_R_explain_67 rfl (lv_at hl 3 rfl) ?_
            refine z_ic hx hb d_R_explain_68 ?_
            refine lv_iload_n hx hb d_R_explain_69 rfl (lv_at hl 2 rfl) ?_
            refine z_shl1 hx hb d_R_explain_70 (by omega) ?_
            refine z_ior hx hb d_R_explain_71 (⟨ht.1, hp2.1⟩) ?_
            refine w_csV hc hw (ih _ _ _ (by omega) hzo1 hO h42 h41 (by omega)) yw_R_explain yi_R_explain lk_R_33 d_R_explain_72 rfl rfl hl.1 (Nat.le_of_ble_eq_true rfl) ⟨by simp only [Rmh]; omega, by simp only [Rmh]; omega⟩ ⟨Nat.zero_le _, Nat.zero_le _⟩ (fun τ72 H locs hτ72 hw => ?_)
            obtain ⟨hn72, hk72⟩ := hτ72
            have e40 : τ72 40 = σ 40 := hk72.1 40 (by decide) (by decide)
            have hO72 : ∀ i, 0 ≤ τ72 40 i ∧ τ72 40 i < 4096 := by rw [e40]; exact hO
            refine lv_aload_n hx hb d_R_explain_75 rfl (lv_at hl 1 rfl) ?_
            refine lv_iload_n hx hb d_R_explain_76 rfl (lv_at hl 2 rfl) ?_
            refine z_ic hx hb d_R_explain_77 ?_
            refine z_iadd hx hb d_R_explain_78 ?_
            refine lv_iload_n hx hb d_R_explain_79 rfl (lv_at hl 0 rfl) ?_
            refine z_if_eq hx hb 87 d_R_explain_80 (by omega) (by decide) (fun c80 => ?_) (fun c80 => ?_)
            · refine lv_iload_n hx hb d_R_explain_87 rfl (lv_at hl 3 rfl) ?_
              refine lv_aload_n hx hb d_R_explain_88 rfl (lv_at hl 1 rfl) ?_
              refine gX_R_others hc hw lk_R_9 d_R_explain_89 ?_
              refine lv_iload_n hx hb d_R_explain_92 rfl (lv_at hl 2 rfl) ?_
              refine ldX_R_others hc hw d_R_explain_93 (by omega) ?_
              refine z_ior hx hb d_R_explain_94 (⟨ht.1, by rw [e40]; exact hOn.1⟩) ?_
              refine w_csV hc hw (ih _ _ _ (by omega) (by rw [e40]; exact hzo2) hO72 hk72.2.1 hk72.2.2 (by omega)) yw_R_explain yi_R_explain lk_R_33 d_R_explain_95 rfl rfl hl.1 (Nat.le_of_ble_eq_true rfl) ⟨by simp only [Rmh]; omega, by simp only [Rmh]; omega⟩ ⟨Nat.zero_le _, Nat.zero_le _⟩ (fun τ95 H locs hτ95 hw => ?_)
              obtain ⟨hn95, hk95⟩ := hτ95
              exact w_vret hc hw (by first | (exact ⟨rfl, by rw [ex_s, if_neg (by omega), if_pos (by first | exact Or.inl c37 | exact Or.inr c50)]; exact hn95, hk95⟩) | (exact ⟨rfl, by rw [ex_s, if_neg (by omega), if_neg (fun q => q.elim c37 c50), hn72, ← hn95, e40], fun g a1 a2 => by rw [hk95.1 g a1 a2]; exact hk72.1 g a1 a2, hk95.2⟩)) d_R_explain_98
            · exact absurd c80 (by omega)
        · refine z_ic hx hb d_R_explain_53 ?_
          refine lv_goto (tgt := 58) hx hb d_R_explain_54 (by decide) ?_
          refine z_ist_n hx hb d_R_explain_58 rfl hl (by decide) (fun x3_58 ex3_58 ls (hl : lv_has ls 4 [(3, .int (zI x3_58)), (0, .ref (ad 104)), (1, .int (zI n)), (2, .int (zI t))]) => ?_)
          refine lv_iload_n hx hb d_R_explain_59 rfl (lv_at hl 0 rfl) ?_
          refine z_if_ne hx hb 75 d_R_explain_60 (by omega) (by decide) (fun c60 => ?_) (fun c60 => ?_)
          · refine lv_aload_n hx hb d_R_explain_75 rfl (lv_at hl 1 rfl) ?_
            refine lv_iload_n hx hb d_R_explain_76 rfl (lv_at hl 2 rfl) ?_
            refine z_ic hx hb d_R_explain_77 ?_
            refine z_iadd hx hb d_R_explain_78 ?_
            refine lv_iload_n hx hb d_R_explain_79 rfl (lv_at hl 0 rfl) ?_
            refine z_if_eq hx hb 87 d_R_explain_80 (by omega) (by decide) (fun c80 => ?_) (fun c80 => ?_)
            · exact absurd c80 (by omega)
            · refine lv_iload_n hx hb d_R_explain_83 rfl (lv_at hl 3 rfl) ?_
              refine lv_goto (tgt := 95) hx hb d_R_explain_84 (by decide) ?_
              refine w_csV hc hw (ih _ _ _ (by omega) ht hO h42 h41 (by omega)) yw_R_explain yi_R_explain lk_R_33 d_R_explain_95 rfl rfl hl.1 (Nat.le_of_ble_eq_true rfl) ⟨by simp only [Rmh]; omega, by simp only [Rmh]; omega⟩ ⟨Nat.zero_le _, Nat.zero_le _⟩ (fun τ95 H locs hτ95 hw => ?_)
              obtain ⟨hn95, hk95⟩ := hτ95
              exact w_vret hc hw (by first | (exact ⟨rfl, by rw [ex_s, if_neg (by omega), if_pos (by first | exact Or.inl c37 | exact Or.inr c50)]; exact hn95, hk95⟩) | (exact ⟨rfl, by rw [ex_s, if_neg (by omega), if_neg (fun q => q.elim c37 c50), hn72, ← hn95, e40], fun g a1 a2 => by rw [hk95.1 g a1 a2]; exact hk72.1 g a1 a2, hk95.2⟩)) d_R_explain_98
          · exact absurd c60 (by omega)
    · exact absurd c15 (by omega)
  · exact w_vret hc hw (⟨rfl, by rw [ex_s, if_pos c8], fun g _ _ => rfl, h42, h41⟩) d_R_explain_11
theorem k_R_explain {l : Launch} {D : va_G} {ad : Nat → Nat} {ca : Nat → ClassId} : ∀ (f : Nat) (σ : St) (n t : Int) (hn : 0 ≤ n ∧ n ≤ 12) (ht : 0 ≤ t ∧ t < 4096) (hO : ∀ i, 0 ≤ σ 40 i ∧ σ 40 i < 4096) (h42 : 0 ≤ σ 42 0 ∧ σ 42 0 ≤ 13) (h41 : 0 ≤ σ 41 0 ∧ σ 41 0 < 4096) (hf : n + f = 12), Cw l D cl7 (tyX ca) (wX ad ca) y_R_explain c_R_explain 4 none (2 + f) [.ref (ad 104), .int (zI n), .int (zI t)] σ (VW (fun τ => ex f σ n t = τ ∧ Ek σ τ)) := by
  intro f
  induction f with
  | zero => intro σ n t hn ht hO h42 h41 hf; exact k_R_explain_z σ n t hn ht hO h42 h41 (by omega)
  | succ f ih => intro σ n t hn ht hO h42 h41 hf; exact k_R_explain_s f ih σ n t hn ht hO h42 h41 (by omega)
set_option maxHeartbeats 400000 in
set_option maxRecDepth 100000 in
theorem k_R_smallestCover {l : Launch} {D : va_G} {ad : Nat → Nat} {ca : Nat → ClassId} (σ : St) (hO : ∀ i, 0 ≤ σ 40 i ∧ σ 40 i < 4096) (h42 : 0 ≤ σ 42 0 ∧ σ 42 0 ≤ 13) (h41 : 0 ≤ σ 41 0 ∧ σ 41 0 < 4096) (h43 : σ 43 0 = 0 ∨ σ 43 0 = 1) : Cw l D cl7 (tyX ca) (wX ad ca) y_R_smallestCover c_R_smallestCover 1 (some .int) 15 [.ref (ad 104)] σ (RW (.int (zI (smC σ 41 0))) (fun τ => smC σ = τ)) := by
  refine Cw.enter (by decide) (Nat.le_of_ble_eq_true rfl) ?_
  intro A p e s m below meth c hc ls hl hw
  have hl : lv_has ls 1 [(0, .ref (ad 104))] := hl
  obtain ⟨hx, hb, hml, hown, hTB, hK, hr, hlk⟩ := id hc
  refine lv_aload_n hx hb d_R_smallestCover_0 rfl (lv_at hl 0 rfl) ?_
  refine gX_R_isStale hc hw lk_R_19 d_R_smallestCover_1 ?_
  refine z_if_eq hx hb 24 d_R_smallestCover_4 (by omega) (by decide) (fun c4 => ?_) (fun c4 => ?_)
  · refine lv_aload_n hx hb d_R_smallestCover_24 rfl (lv_at hl 0 rfl) ?_
    refine gX_R_cover hc hw lk_R_37 d_R_smallestCover_25 ?_
    exact w_iret hc hw (by unfold smC; first | (rw [if_pos c4]; exact ⟨rfl, rfl⟩) | (rw [if_neg c4, hn16]; exact ⟨rfl, rfl⟩)) d_R_smallestCover_28
  · refine lv_aload_n hx hb d_R_smallestCover_7 rfl (lv_at hl 0 rfl) ?_
    refine z_bi hx hb d_R_smallestCover_8 (by decide) ?_
    refine pX_R_coverSize hc hw lk_R_29 d_R_smallestCover_10 (fun H locs hw => ?_)
    refine lv_aload_n hx hb d_R_smallestCover_13 rfl (lv_at hl 0 rfl) ?_
    refine z_ic hx hb d_R_smallestCover_14 ?_
    refine z_ic hx hb d_R_smallestCover_15 ?_
    refine w_csV hc hw (k_R_explain 12 _ _ _ (by decide) (by decide) (by rw [up_f _ _ _ (by decide)]; exact hO) (by rw [up_s]; decide) (by rw [up_o _ _ _ _ (by decide)]; exact h41) (by decide)) yw_R_explain yi_R_explain lk_R_33 d_R_smallestCover_16 rfl rfl hl.1 (Nat.le_of_ble_eq_true rfl) ⟨Nat.le_of_ble_eq_true rfl, Nat.le_of_ble_eq_true rfl⟩ ⟨Nat.zero_le _, Nat.zero_le _⟩ (fun τ16 H locs hτ16 hw => ?_)
    obtain ⟨hn16, hk16⟩ := hτ16
    refine lv_aload_n hx hb d_R_smallestCover_19 rfl (lv_at hl 0 rfl) ?_
    refine z_ic hx hb d_R_smallestCover_20 ?_
    refine pX_R_isStale hc hw lk_R_19 d_R_smallestCover_21 (by omega) (fun H locs hw => ?_)
    refine lv_aload_n hx hb d_R_smallestCover_24 rfl (lv_at hl 0 rfl) ?_
    refine gX_R_cover hc hw lk_R_37 d_R_smallestCover_25 ?_
    exact w_iret hc hw (by unfold smC; first | (rw [if_pos c4]; exact ⟨rfl, rfl⟩) | (rw [if_neg c4, hn16]; exact ⟨rfl, rfl⟩)) d_R_smallestCover_28
