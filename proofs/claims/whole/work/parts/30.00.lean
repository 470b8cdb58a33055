set_option maxHeartbeats 400000 in
set_option maxRecDepth 100000 in
theorem k_S_markClashes {l : Launch} {D : va_G} {ad : Nat → Nat} {ca : Nat → ClassId} (σ : St) (hI : IB σ) (hS : IS σ) : Cw l D cl7 (tyX ca) (wX ad ca) y_S_markClashes c_S_markClashes 5 none 3 [.ref (ad 105), .ref (ad 101)] σ (VW (fun τ => mkC σ = τ ∧ IS τ ∧ ∀ g, g ≠ 14 → τ g = σ g)) := by
  have h17 := hS.1
  have hS0 := IS_fill hS
  refine Cw.enter (by decide) (Nat.le_of_ble_eq_true rfl) ?_
  intro A p e s m below meth c hc ls hl hw
  have hl : lv_has ls 5 [(0, .ref (ad 105)), (1, .ref (ad 101))] := hl
  obtain ⟨hx, hb, hml, hown, hTB, hK, hr, hlk⟩ := id hc
  refine lv_aload_n hx hb d_S_markClashes_0 rfl (lv_at hl 0 rfl) ?_
  refine gX_S_clashes hc hw lk_S_25 d_S_markClashes_1 ?_
  refine z_ic hx hb d_S_markClashes_4 ?_
  refine w_csV hc hw (k_JA_fill _ _ (by decide)) yw_JA_fill yi_JA_fill lk_S_76 d_S_markClashes_5 rfl rfl hl.1 (Nat.le_of_ble_eq_true rfl) ⟨Nat.le_of_ble_eq_true rfl, Nat.le_of_ble_eq_true rfl⟩ ⟨Nat.zero_le _, Nat.zero_le _⟩ (fun τ5 H locs hτ5 hw => ?_)
  subst hτ5
  refine z_ic hx hb d_S_markClashes_8 ?_
  refine z_ist_n hx hb d_S_markClashes_9 rfl hl (by decide) (fun x2_9 ex2_9 ls (hl : lv_has ls 5 [(2, .int (zI x2_9)), (0, .ref (ad 105)), (1, .ref (ad 101))]) => ?_)
  have L10 : ∀ (nf : Nat) (i : Int) (τ : St) (H : Heap) (locs : List Loc), (0 ≤ i ∧ i ≤ σ 17 0) → (mkC σ = mcC (σ 17 0 - i).toNat i τ) → (IS τ) → (∀ g, g ≠ 14 → τ g = σ g) → (σ 17 0 - i).toNat < nf → Wd D cl7 (wX ad ca) A s.heap τ H locs → ∀ ls : Array Slot, lv_has ls 5 [(2, .int (zI i)), (0, .ref (ad 105)), (1, .ref (ad 101))] → W p l e (Rmh 3) s m ([.ref (ad 105), .ref (ad 101)] : List Value).toArray below meth c H locs 0 0 (MQ below (Qw D cl7 (wX ad ca) A (VW (fun τ => mkC σ = τ ∧ IS τ ∧ ∀ g, g ≠ 14 → τ g = σ g))) ([.ref (ad 105), .ref (ad 101)] : List Value).toArray s 0 0 A) (F0 m 10 ls []) := by
    intro nf
    induction nf with
    | zero => intro i τ H locs hi hN hSτ ho hm; exact absurd hm (Nat.not_lt_zero _)
    | succ nf ih10 =>
      intro i τ H locs hi hN hSτ ho hm10 hw ls hl
      have e17 : τ 17 0 = σ 17 0 := by rw [ho 17 (by decide)]
      have h11 := hSτ.2.1 i
      refine lv_iload_n hx hb d_S_markClashes_10 rfl (lv_at hl 0 rfl) ?_
      refine lv_aload_n hx hb d_S_markClashes_11 rfl (lv_at hl 1 rfl) ?_
      refine gX_S_looked hc hw lk_S_54 d_S_markClashes_12 ?_
      refine z_icmp_ge hx hb 71 d_S_markClashes_15 (by omega) (by omega) (by decide) (fun c15 => ?_) (fun c15 => ?_)
      · exact w_vret hc hw (⟨rfl, by rw [hN, show (σ 17 0 - i).toNat = 0 by omega]; rfl, hSτ, ho⟩) d_S_markClashes_71
      · have q1 : (σ 17 0 - i).toNat = (σ 17 0 - (i + 1)).toNat + 1 := by omega
        rw [q1, mcC_s] at hN
        refine lv_iload_n hx hb d_S_markClashes_18 rfl (lv_at hl 0 rfl) ?_
        refine z_ic hx hb d_S_markClashes_19 ?_
        refine z_imul hx hb d_S_markClashes_20 ?_
        refine z_ist_n hx hb d_S_markClashes_21 rfl hl (by decide) (fun x3_21 ex3_21 ls (hl : lv_has ls 5 [(3, .int (zI x3_21)), (2, .int (zI i)), (0, .ref (ad 105)), (1, .ref (ad 101))]) => ?_)
        have L22 : ∀ (nf : Nat) (t : Int) (τ2 : St) (H : Heap) (locs : List Loc), (i * 3 ≤ t ∧ t ≤ i * 3 + τ 11 i) → (mcB i (τ 11 i).toNat (i * 3) τ = mcB i (i * 3 + τ 11 i - t).toNat t τ2) → (IS τ2) → (∀ g, g ≠ 14 → τ2 g = τ g) → (i * 3 + τ 11 i - t).toNat < nf → Wd D cl7 (wX ad ca) A s.heap τ2 H locs → ∀ ls : Array Slot, lv_has ls 5 [(3, .int (zI t)), (2, .int (zI i)), (0, .ref (ad 105)), (1, .ref (ad 101))] → W p l e (Rmh 3) s m ([.ref (ad 105), .ref (ad 101)] : List Value).toArray below meth c H locs 0 0 (MQ below (Qw D cl7 (wX ad ca) A (VW (fun τ => mkC σ = τ ∧ IS τ ∧ ∀ g, g ≠ 14 → τ g = σ g))) ([.ref (ad 105), .ref (ad 101)] : List Value).toArray s 0 0 A) (F0 m 22 ls []) := by
          intro nf
          induction nf with
          | zero => intro t τ2 H locs ht hN2 hSτ2 ho2 hm; exact absurd hm (Nat.not_lt_zero _)
          | succ nf ih22 =>
            intro t τ2 H locs ht hN2 hSτ2 ho2 hm22 hw ls hl
            have e11 : τ2 11 i = τ 11 i := by rw [ho2 11 (by decide)]
            have e172 : τ2 17 0 = σ 17 0 := by rw [ho2 17 (by decide), e17]
            refine lv_iload_n hx hb d_S_markClashes_22 rfl (lv_at hl 0 rfl) ?_
            refine lv_aload_n hx hb d_S_markClashes_23 rfl (lv_at hl 2 rfl) ?_
            refine lv_iload_n hx hb d_S_markClashes_24 rfl (lv_at hl 1 rfl) ?_
            refine w_cvR (q0 := 5) hc hw (k_S_endOf _ _ (by omega)) yw_S_endOf yi_S_endOf lk_S_82 d_S_markClashes_25 rfl rfl rfl rfl hl.1 (Nat.le_of_ble_eq_true rfl) ⟨Nat.le_of_ble_eq_true rfl, Nat.le_of_ble_eq_true rfl⟩ ⟨Nat.zero_le _, Nat.zero_le _⟩ (fun τ25 H locs hτ25 hw => ?_)
            subst hτ25
            refine z_icmp_ge hx hb 65 d_S_markClashes_28 (by omega) (by omega) (by decide) (fun c28 => ?_) (fun c28 => ?_)
            · refine z_iinc (k := 1) hx hb d_S_markClashes_65 hl rfl (by decide) (fun x2_65 ex2_65 ls (hl : lv_has ls 5 [(2, .int (zI x2_65)), (3, .int (zI t)), (0, .ref (ad 105)), (1, .ref (ad 101))]) => ?_)
              refine lv_goto (tgt := 10) hx hb d_S_markClashes_68 (by decide) ?_
              exact ih10 x2_65 _ _ _ (by omega) (by rw [hN, ex2_65, hN2, show (i * 3 + τ 11 i - t).toNat = 0 by omega]; rfl) (hSτ2) (fun g h => by rw [ho2 g h]; exact ho g h) (by omega) hw ls (lv_sub hl [0, 2, 3] rfl)
            · have q2 : (i * 3 + τ 11 i - t).toNat = (i * 3 + τ 11 i - (t + 1)).toNat + 1 := by omega
              rw [q2, mcB_s] at hN2
              refine lv_iload_n hx hb d_S_markClashes_31 rfl (lv_at hl 1 rfl) ?_
              refine z_ic hx hb d_S_markClashes_32 ?_
              refine z_iadd hx hb d_S_markClashes_33 ?_
              refine z_ist hx hb d_S_markClashes_34 hl (by decide) (fun x4_34 ex4_34 ls (hl : lv_has ls 5 [(4, .int (zI x4_34)), (3, .int (zI t)), (2, .int (zI i)), (0, .ref (ad 105)), (1, .ref (ad 101))]) => ?_)
              have L36 : ∀ (nf : Nat) (k : Int) (τ3 : St) (H : Heap) (locs : List Loc), (i < k ∧ k ≤ σ 17 0) → (mcA t (τ2 17 0 - (i + 1)).toNat (i + 1) τ2 = mcA t (σ 17 0 - k).toNat k τ3) → (IS τ3) → (∀ g, g ≠ 14 → τ3 g = τ2 g) → (σ 17 0 - k).toNat < nf → Wd D cl7 (wX ad ca) A s.heap τ3 H locs → ∀ ls : Array Slot, lv_has ls 5 [(4, .int (zI k)), (3, .int (zI t)), (2, .int (zI i)), (0, .ref (ad 105)), (1, .ref (ad 101))] → W p l e (Rmh 3) s m ([.ref (ad 105), .ref (ad 101)] : List Value).toArray below meth c H locs 0 0 (MQ below (Qw D cl7 (wX ad ca) A (VW (fun τ => mkC σ = τ ∧ IS τ ∧ ∀ g, g ≠ 14 → τ g = σ g))) ([.ref (ad 105), .ref (ad 101)] : List Value).toArray s 0 0 A) (F0 m 36 ls []) := by
                intro nf
                induction nf with
                | zero => intro k τ3 H locs hk hN3 hSτ3 ho3 hm; exact absurd hm (Nat.not_lt_zero _)
                | succ nf ih36 =>
                  intro k τ3 H locs hk hN3 hSτ3 ho3 hm36 hw ls hl
                  have e173 : τ3 17 0 = σ 17 0 := by rw [ho3 17 (by decide), e172]
                  have hIτ3 : IB τ3 := IB_of (fun g hg => by rw [ho3 g (by omega), ho2 g (by omega), ho g (by omega)]) hI
                  refine lv_iload hx hb d_S_markClashes_36 (lv_at hl 0 rfl) ?_
                  refine lv_aload_n hx hb d_S_markClashes_38 rfl (lv_at hl 3 rfl) ?_
                  refine gX_S_looked hc hw lk_S_54 d_S_markClashes_39 ?_
                  refine z_icmp_ge hx hb 59 d_S_markClashes_42 (by omega) (by omega) (by decide) (fun c42 => ?_) (fun c42 => ?_)
                  · refine z_iinc (k := 1) hx hb d_S_markClashes_59 hl rfl (by decide) (fun x3_59 ex3_59 ls (hl : lv_has ls 5 [(3, .int (zI x3_59)), (4, .int (zI k)), (2, .int (zI i)), (0, .ref (ad 105)), (1, .ref (ad 101))]) => ?_)
                    refine lv_goto (tgt := 22) hx hb d_S_markClashes_62 (by decide) ?_
                    exact ih22 x3_59 _ _ _ (by omega) (by rw [hN2, ex3_59, hN3, show (σ 17 0 - k).toNat = 0 by omega]; rfl) (hSτ3) (fun g h => by rw [ho3 g h]; exact ho2 g h) (by omega) hw ls (lv_sub hl [0, 2, 3, 4] rfl)
                  · have q3 : (σ 17 0 - k).toNat = (σ 17 0 - (k + 1)).toNat + 1 := by omega
                    rw [q3, mcA_s] at hN3
                    refine lv_aload_n hx hb d_S_markClashes_45 rfl (lv_at hl 3 rfl) ?_
                    refine lv_aload_n hx hb d_S_markClashes_46 rfl (lv_at hl 4 rfl) ?_
                    refine lv_iload_n hx hb d_S_markClashes_47 rfl (lv_at hl 1 rfl) ?_
                    refine lv_iload hx hb d_S_markClashes_48 (lv_at hl 0 rfl) ?_
                    refine w_cvV (q0 := 5) hc hw (k_S_markClashesWithNet _ _ _ (by omega) (by omega) hIτ3 hSτ3) yw_S_markClashesWithNet yi_S_markClashesWithNet lk_S_86 d_S_markClashes_50 rfl rfl rfl rfl hl.1 (Nat.le_of_ble_eq_true rfl) ⟨Nat.le_of_ble_eq_true rfl, Nat.le_of_ble_eq_true rfl⟩ ⟨Nat.zero_le _, Nat.zero_le _⟩ (fun τ50 H locs hτ50 hw => ?_)
                    obtain ⟨hn50, hs50, hf50⟩ := hτ50
                    refine z_iinc (k := 0) hx hb d_S_markClashes_53 hl rfl (by decide) (fun x4_53 ex4_53 ls (hl : lv_has ls 5 [(4, .int (zI x4_53)), (3, .int (zI t)), (2, .int (zI i)), (0, .ref (ad 105)), (1, .ref (ad 101))]) => ?_)
                    refine lv_goto (tgt := 36) hx hb d_S_markClashes_56 (by decide) ?_
                    exact ih36 x4_53 _ _ _ (by omega) (by rw [hN3, ex4_53, hn50]) (hs50) (fun g h => by rw [hf50 g h]; exact ho3 g h) (by omega) hw ls (lv_sub hl [0, 1, 2, 3, 4] rfl)
              exact L36 _ x4_34 _ _ _ (by omega) (by rw [ex4_34, e172]) (hSτ2) (fun g h => rfl) (Nat.lt_succ_self _) hw ls (lv_sub hl [0, 1, 2, 3, 4] rfl)
        exact L22 _ x3_21 _ _ _ (by omega) (by rw [ex3_21, show (i * 3 + τ 11 i - i * 3).toNat = (τ 11 i).toNat from (by omega)]) (hSτ) (fun g h => rfl) (Nat.lt_succ_self _) hw ls (lv_sub hl [0, 1, 2, 3] rfl)
  exact L10 _ x2_9 _ _ _ (by omega) (by rw [ex2_9, show (σ 17 0 - 0).toNat = (σ 17 0).toNat from (by omega)]; rfl) (hS0) (fun g h => fillA_o _ _ _ _ h) (Nat.lt_succ_self _) hw ls (lv_sub hl [0, 1, 2] rfl)
