set_option maxHeartbeats 400000 in
set_option maxRecDepth 100000 in
theorem k_S_lookAtNets {l : Launch} {D : va_G} {ad : Nat → Nat} {ca : Nat → ClassId} (σ : St) (mo : Int) (hmo : 0 ≤ mo ∧ mo ≤ 8) (hI : IB σ) (hS : IS σ) : Cw l D cl7 (tyX ca) (wX ad ca) y_S_lookAtNets c_S_lookAtNets 6 none 0 [.ref (ad 105), .ref (ad 101), .int (zI mo)] σ (VW (fun τ => lkN σ mo = τ ∧ IS τ ∧ ∀ g, g ≠ 10 → g ≠ 11 → g ≠ 12 → g ≠ 13 → g ≠ 17 → τ g = σ g)) := by
  have h7 := hI.1
  refine Cw.enter (by decide) (Nat.le_of_ble_eq_true rfl) ?_
  intro A p e s m below meth c hc ls hl hw
  have hl : lv_has ls 6 [(0, .ref (ad 105)), (1, .ref (ad 101)), (2, .int (zI mo))] := hl
  obtain ⟨hx, hb, hml, hown, hTB, hK, hr, hlk⟩ := id hc
  refine lv_aload_n hx hb d_S_lookAtNets_0 rfl (lv_at hl 0 rfl) ?_
  refine z_ic hx hb d_S_lookAtNets_1 ?_
  refine pX_S_looked hc hw lk_S_54 d_S_lookAtNets_2 (fun H locs hw => ?_)
  refine z_ic hx hb d_S_lookAtNets_5 ?_
  refine z_ist_n hx hb d_S_lookAtNets_6 rfl hl (by decide) (fun x3_6 ex3_6 ls (hl : lv_has ls 6 [(3, .int (zI x3_6)), (0, .ref (ad 105)), (1, .ref (ad 101)), (2, .int (zI mo))]) => ?_)
  have L7 : ∀ (nf : Nat) (n : Int) (τ : St) (H : Heap) (locs : List Loc), (0 ≤ n ∧ n ≤ σ 7 0) → (lkN σ mo = lnF mo (σ 7 0 - n).toNat n τ) → (IS τ) → (∀ g, g ≠ 10 → g ≠ 11 → g ≠ 12 → g ≠ 13 → g ≠ 17 → τ g = σ g) → (σ 7 0 - n).toNat < nf → Wd D cl7 (wX ad ca) A s.heap τ H locs → ∀ ls : Array Slot, lv_has ls 6 [(3, .int (zI n)), (0, .ref (ad 105)), (1, .ref (ad 101)), (2, .int (zI mo))] → W p l e (Rmh 0) s m ([.ref (ad 105), .ref (ad 101), .int (zI mo)] : List Value).toArray below meth c H locs 0 0 (MQ below (Qw D cl7 (wX ad ca) A (VW (fun τ => lkN σ mo = τ ∧ IS τ ∧ ∀ g, g ≠ 10 → g ≠ 11 → g ≠ 12 → g ≠ 13 → g ≠ 17 → τ g = σ g))) ([.ref (ad 105), .ref (ad 101), .int (zI mo)] : List Value).toArray s 0 0 A) (F0 m 7 ls []) := by
    intro nf
    induction nf with
    | zero => intro n τ H locs hn hN hSτ ho hm; exact absurd hm (Nat.not_lt_zero _)
    | succ nf ih7 =>
      intro n τ H locs hn hN hSτ ho hm7 hw ls hl
      have e7 : τ 7 0 = σ 7 0 := by rw [ho 7 (by decide) (by decide) (by decide) (by decide) (by decide)]
      have hIτ : IB τ := IB_of (fun g hg => ho g (by omega) (by omega) (by omega) (by omega) (by omega)) hI
      have h0n := hIτ.2.2.2.2.2.2.2.2.2 n
      have h17 := hSτ.1
      have h1n := hIτ.2.2.2.2.2.2.2.1 n
      refine lv_iload_n hx hb d_S_lookAtNets_7 rfl (lv_at hl 0 rfl) ?_
      refine lv_aload_n hx hb d_S_lookAtNets_8 rfl (lv_at hl 2 rfl) ?_
      refine gnX_B_netCount hc hw lk_S_58 d_S_lookAtNets_9 ?_
      refine z_icmp_ge hx hb 156 d_S_lookAtNets_12 (by omega) (by omega) (by decide) (fun c12 => ?_) (fun c12 => ?_)
      · exact w_vret hc hw (⟨rfl, by rw [hN, show (σ 7 0 - n).toNat = 0 by omega]; rfl, hSτ, ho⟩) d_S_lookAtNets_156
      · have q1 : (σ 7 0 - n).toNat = (σ 7 0 - (n + 1)).toNat + 1 := by omega
        rw [q1, lnF_s] at hN
        refine lv_aload_n hx hb d_S_lookAtNets_15 rfl (lv_at hl 2 rfl) ?_
        refine gnX_B_must hc hw lk_S_63 d_S_lookAtNets_16 ?_
        refine lv_iload_n hx hb d_S_lookAtNets_19 rfl (lv_at hl 0 rfl) ?_
        refine ldX_B_must hc hw d_S_lookAtNets_20 (by omega) ?_
        refine z_if_eq hx hb 150 d_S_lookAtNets_21 (by omega) (by decide) (fun c21 => ?_) (fun c21 => ?_)
        · refine z_iinc (k := 0) hx hb d_S_lookAtNets_150 hl rfl (by decide) (fun x3_150 ex3_150 ls (hl : lv_has ls 6 [(3, .int (zI x3_150)), (0, .ref (ad 105)), (1, .ref (ad 101)), (2, .int (zI mo))]) => ?_)
          refine lv_goto (tgt := 7) hx hb d_S_lookAtNets_153 (by decide) ?_
          exact ih7 x3_150 _ _ _ (by omega) (by rw [hN, ex3_150]; first | (rw [if_neg (fun q => by omega)]; done) | (rw [if_pos ⟨by omega, by omega, by omega⟩]; unfold lnB lnI; rw [hN4, show (τ 1 n - j).toNat = 0 by omega]; rfl)) (by first | exact hSτ | (exact ⟨by rw [up_s, e174]; omega, by rw [up_f _ _ _ (by decide)]; exact hSρ.2.1, by rw [up_f _ _ _ (by decide)]; exact hSρ.2.2.1, by rw [up_f _ _ _ (by decide)]; exact hSρ.2.2.2.1, by rw [up_f _ _ _ (by decide)]; exact hSρ.2.2.2.2⟩)) (by first | exact ho | (exact fun g a1 a2 a3 a4 a5 => by rw [up_f _ _ _ a5, hoρ g a1 a2 a3 a4]; exact ho g a1 a2 a3 a4 a5)) (by omega) hw ls (lv_sub hl [0, 1, 2, 3] rfl)
        · refine lv_aload_n hx hb d_S_lookAtNets_24 rfl (lv_at hl 1 rfl) ?_
          refine gX_S_looked hc hw lk_S_54 d_S_lookAtNets_25 ?_
          refine lv_iload_n hx hb d_S_lookAtNets_28 rfl (lv_at hl 3 rfl) ?_
          refine z_icmp_ge hx hb 150 d_S_lookAtNets_29 (by omega) (by omega) (by decide) (fun c29 => ?_) (fun c29 => ?_)
          · refine z_iinc (k := 0) hx hb d_S_lookAtNets_150 hl rfl (by decide) (fun x3_150 ex3_150 ls (hl : lv_has ls 6 [(3, .int (zI x3_150)), (0, .ref (ad 105)), (1, .ref (ad 101)), (2, .int (zI mo))]) => ?_)
            refine lv_goto (tgt := 7) hx hb d_S_lookAtNets_153 (by decide) ?_
            exact ih7 x3_150 _ _ _ (by omega) (by rw [hN, ex3_150]; first | (rw [if_neg (fun q => by omega)]; done) | (rw [if_pos ⟨by omega, by omega, by omega⟩]; unfold lnB lnI; rw [hN4, show (τ 1 n - j).toNat = 0 by omega]; rfl)) (by first | exact hSτ | (exact ⟨by rw [up_s, e174]; omega, by rw [up_f _ _ _ (by decide)]; exact hSρ.2.1, by rw [up_f _ _ _ (by decide)]; exact hSρ.2.2.1, by rw [up_f _ _ _ (by decide)]; exact hSρ.2.2.2.1, by rw [up_f _ _ _ (by decide)]; exact hSρ.2.2.2.2⟩)) (by first | exact ho | (exact fun g a1 a2 a3 a4 a5 => by rw [up_f _ _ _ a5, hoρ g a1 a2 a3 a4]; exact ho g a1 a2 a3 a4 a5)) (by omega) hw ls (lv_sub hl [0, 1, 2, 3] rfl)
          · refine lv_aload_n hx hb d_S_lookAtNets_32 rfl (lv_at hl 1 rfl) ?_
            refine gX_S_looked hc hw lk_S_54 d_S_lookAtNets_33 ?_
            refine z_bi hx hb d_S_lookAtNets_36 (by decide) ?_
            refine z_icmp_ge hx hb 150 d_S_lookAtNets_38 (by omega) (by omega) (by decide) (fun c38 => ?_) (fun c38 => ?_)
            · refine z_iinc (k := 0) hx hb d_S_lookAtNets_150 hl rfl (by decide) (fun x3_150 ex3_150 ls (hl : lv_has ls 6 [(3, .int (zI x3_150)), (0, .ref (ad 105)), (1, .ref (ad 101)), (2, .int (zI mo))]) => ?_)
              refine lv_goto (tgt := 7) hx hb d_S_lookAtNets_153 (by decide) ?_
              exact ih7 x3_150 _ _ _ (by omega) (by rw [hN, ex3_150]; first | (rw [if_neg (fun q => by omega)]; done) | (rw [if_pos ⟨by omega, by omega, by omega⟩]; unfold lnB lnI; rw [hN4, show (τ 1 n - j).toNat = 0 by omega]; rfl)) (by first | exact hSτ | (exact ⟨by rw [up_s, e174]; omega, by rw [up_f _ _ _ (by decide)]; exact hSρ.2.1, by rw [up_f _ _ _ (by decide)]; exact hSρ.2.2.1, by rw [up_f _ _ _ (by decide)]; exact hSρ.2.2.2.1, by rw [up_f _ _ _ (by decide)]; exact hSρ.2.2.2.2⟩)) (by first | exact ho | (exact fun g a1 a2 a3 a4 a5 => by rw [up_f _ _ _ a5, hoρ g a1 a2 a3 a4]; exact ho g a1 a2 a3 a4 a5)) (by omega) hw ls (lv_sub hl [0, 1, 2, 3] rfl)
            · refine lv_aload_n hx hb d_S_lookAtNets_41 rfl (lv_at hl 1 rfl) ?_
              refine gX_S_nets hc hw lk_S_9 d_S_lookAtNets_42 ?_
              refine lv_aload_n hx hb d_S_lookAtNets_45 rfl (lv_at hl 1 rfl) ?_
              refine gX_S_looked hc hw lk_S_54 d_S_lookAtNets_46 ?_
              refine lv_iload_n hx hb d_S_lookAtNets_49 rfl (lv_at hl 0 rfl) ?_
              refine stX_S_nets hc hw d_S_lookAtNets_50 (by omega) (fun H locs hw => ?_)
              refine lv_aload_n hx hb d_S_lookAtNets_51 rfl (lv_at hl 1 rfl) ?_
              refine gX_S_sizes hc hw lk_S_15 d_S_lookAtNets_52 ?_
              refine lv_aload_n hx hb d_S_lookAtNets_55 rfl (lv_at hl 1 rfl) ?_
              refine gX_S_looked hc hw lk_S_54 d_S_lookAtNets_56 ?_
              refine lv_aload_n hx hb d_S_lookAtNets_59 rfl (lv_at hl 2 rfl) ?_
              refine gnX_B_sizes hc hw lk_S_67 d_S_lookAtNets_60 ?_
              refine lv_iload_n hx hb d_S_lookAtNets_63 rfl (lv_at hl 0 rfl) ?_
              refine ldX_B_sizes hc hw d_S_lookAtNets_64 (by omega) ?_
              refine stX_S_sizes hc hw d_S_lookAtNets_65 (by show 0 ≤ τ 17 0 ∧ τ 17 0 < 8; omega) (fun H locs hw => ?_)
              refine z_ic hx hb d_S_lookAtNets_66 ?_
              refine z_ist hx hb d_S_lookAtNets_67 hl (by decide) (fun x4_67 ex4_67 ls (hl : lv_has ls 6 [(4, .int (zI x4_67)), (3, .int (zI n)), (0, .ref (ad 105)), (1, .ref (ad 101)), (2, .int (zI mo))]) => ?_)
              have L69 : ∀ (nf : Nat) (j : Int) (ρ : St) (H : Heap) (locs : List Loc), (0 ≤ j ∧ j ≤ τ 1 n) → (lnP n (τ 1 n).toNat 0 (up (up τ 10 (τ 17 0) n) 11 (τ 17 0) (τ 1 n)) = lnP n (τ 1 n - j).toNat j ρ) → (IS ρ) → (∀ g, g ≠ 10 → g ≠ 11 → g ≠ 12 → g ≠ 13 → ρ g = τ g) → (τ 1 n - j).toNat < nf → Wd D cl7 (wX ad ca) A s.heap ρ H locs → ∀ ls : Array Slot, lv_has ls 6 [(4, .int (zI j)), (3, .int (zI n)), (0, .ref (ad 105)), (1, .ref (ad 101)), (2, .int (zI mo))] → W p l e (Rmh 0) s m ([.ref (ad 105), .ref (ad 101), .int (zI mo)] : List Value).toArray below meth c H locs 0 0 (MQ below (Qw D cl7 (wX ad ca) A (VW (fun τ => lkN σ mo = τ ∧ IS τ ∧ ∀ g, g ≠ 10 → g ≠ 11 → g ≠ 12 → g ≠ 13 → g ≠ 17 → τ g = σ g))) ([.ref (ad 105), .ref (ad 101), .int (zI mo)] : List Value).toArray s 0 0 A) (F0 m 69 ls []) := by
                intro nf
                induction nf with
                | zero => intro j ρ H locs hj hN4 hSρ hoρ hm; exact absurd hm (Nat.not_lt_zero _)
                | succ nf ih69 =>
                  intro j ρ H locs hj hN4 hSρ hoρ hm69 hw ls hl
                  have e174 : ρ 17 0 = τ 17 0 := by rw [hoρ 17 (by decide) (by decide) (by decide) (by decide)]
                  have e1 : ρ 1 n = τ 1 n := by rw [hoρ 1 (by decide) (by decide) (by decide) (by decide)]
                  have hIρ : IB ρ := IB_of (fun g hg => hoρ g (by omega) (by omega) (by omega) (by omega)) hIτ
                  refine lv_iload hx hb d_S_lookAtNets_69 (lv_at hl 0 rfl) ?_
                  refine lv_aload_n hx hb d_S_lookAtNets_71 rfl (lv_at hl 3 rfl) ?_
                  refine gnX_B_sizes hc hw lk_S_67 d_S_lookAtNets_72 ?_
                  refine lv_iload_n hx hb d_S_lookAtNets_75 rfl (lv_at hl 1 rfl) ?_
                  refine ldX_B_sizes hc hw d_S_lookAtNets_76 (by omega) ?_
                  refine z_icmp_ge hx hb 140 d_S_lookAtNets_77 (by omega) (by omega) (by decide) (fun c77 => ?_) (fun c77 => ?_)
                  · refine lv_aload_n hx hb d_S_lookAtNets_140 rfl (lv_at hl 2 rfl) ?_
                    refine lv_dup hx hb d_S_lookAtNets_141 rfl ?_
                    refine gX_S_looked hc hw lk_S_54 d_S_lookAtNets_142 ?_
                    refine z_ic hx hb d_S_lookAtNets_145 ?_
                    refine z_iadd hx hb d_S_lookAtNets_146 ?_
                    refine pX_S_looked hc hw lk_S_54 d_S_lookAtNets_147 (fun H locs hw => ?_)
                    refine z_iinc (k := 1) hx hb d_S_lookAtNets_150 hl rfl (by decide) (fun x3_150 ex3_150 ls (hl : lv_has ls 6 [(3, .int (zI x3_150)), (4, .int (zI j)), (0, .ref (ad 105)), (1, .ref (ad 101)), (2, .int (zI mo))]) => ?_)
                    refine lv_goto (tgt := 7) hx hb d_S_lookAtNets_153 (by decide) ?_
                    exact ih7 x3_150 _ _ _ (by omega) (by rw [hN, ex3_150]; first | (rw [if_neg (fun q => by omega)]; done) | (rw [if_pos ⟨by omega, by omega, by omega⟩]; unfold lnB lnI; rw [hN4, show (τ 1 n - j).toNat = 0 by omega]; rfl)) (by first | exact hSτ | (exact ⟨by rw [up_s, e174]; omega, by rw [up_f _ _ _ (by decide)]; exact hSρ.2.1, by rw [up_f _ _ _ (by decide)]; exact hSρ.2.2.1, by rw [up_f _ _ _ (by decide)]; exact hSρ.2.2.2.1, by rw [up_f _ _ _ (by decide)]; exact hSρ.2.2.2.2⟩)) (by first | exact ho | (exact fun g a1 a2 a3 a4 a5 => by rw [up_f _ _ _ a5, hoρ g a1 a2 a3 a4]; exact ho g a1 a2 a3 a4 a5)) (by omega) hw ls (lv_sub hl [0, 2, 3, 4] rfl)
                  · have q4 : (τ 1 n - j).toNat = (τ 1 n - (j + 1)).toNat + 1 := by omega
                    rw [q4, lnP_s] at hN4
                    have h2 := hIρ.2.2.2.2.2.2.2.2.1 (n * 3 + j)
                    have h6x := hIρ.2.2.2.2.2.2.1 (ρ 2 (n * 3 + j))
                    have h6 : 0 ≤ 8000001 - ρ 6 (ρ 2 (n * 3 + j)) ∧ 8000001 - ρ 6 (ρ 2 (n * 3 + j)) ≤ 8000001 := by omega
                    refine lv_aload_n hx hb d_S_lookAtNets_80 rfl (lv_at hl 3 rfl) ?_
                    refine gnX_B_pointsOfNets hc hw lk_S_68 d_S_lookAtNets_81 ?_
                    refine lv_iload_n hx hb d_S_lookAtNets_84 rfl (lv_at hl 1 rfl) ?_
                    refine z_ic hx hb d_S_lookAtNets_85 ?_
                    refine z_imul hx hb d_S_lookAtNets_86 ?_
                    refine lv_iload hx hb d_S_lookAtNets_87 (lv_at hl 0 rfl) ?_
                    refine z_iadd hx hb d_S_lookAtNets_89 ?_
                    refine ldX_B_pointsOfNets hc hw d_S_lookAtNets_90 (by omega) ?_
                    refine z_ist hx hb d_S_lookAtNets_91 hl (by decide) (fun x5_91 ex5_91 ls (hl : lv_has ls 6 [(5, .int (zI x5_91)), (4, .int (zI j)), (3, .int (zI n)), (0, .ref (ad 105)), (1, .ref (ad 101)), (2, .int (zI mo))]) => ?_)
                    subst ex5_91
                    refine lv_aload_n hx hb d_S_lookAtNets_93 rfl (lv_at hl 3 rfl) ?_
                    refine gX_S_points hc hw lk_S_18 d_S_lookAtNets_94 ?_
                    refine lv_aload_n hx hb d_S_lookAtNets_97 rfl (lv_at hl 3 rfl) ?_
                    refine gX_S_looked hc hw lk_S_54 d_S_lookAtNets_98 ?_
                    refine z_ic hx hb d_S_lookAtNets_101 ?_
                    refine z_imul hx hb d_S_lookAtNets_102 ?_
                    refine lv_iload hx hb d_S_lookAtNets_103 (lv_at hl 1 rfl) ?_
                    refine z_iadd hx hb d_S_lookAtNets_105 ?_
                    refine lv_iload hx hb d_S_lookAtNets_106 (lv_at hl 0 rfl) ?_
                    refine stX_S_points hc hw d_S_lookAtNets_108 (by omega) (fun H locs hw => ?_)
                    refine lv_aload_n hx hb d_S_lookAtNets_109 rfl (lv_at hl 3 rfl) ?_
                    refine gX_S_worths hc hw lk_S_21 d_S_lookAtNets_110 ?_
                    refine lv_aload_n hx hb d_S_lookAtNets_113 rfl (lv_at hl 3 rfl) ?_
                    refine gX_S_looked hc hw lk_S_54 d_S_lookAtNets_114 ?_
                    refine z_ic hx hb d_S_lookAtNets_117 ?_
                    refine z_imul hx hb d_S_lookAtNets_118 ?_
                    refine lv_iload hx hb d_S_lookAtNets_119 (lv_at hl 1 rfl) ?_
                    refine z_iadd hx hb d_S_lookAtNets_121 ?_
                    refine z_ldc2 (n := 8000001) hc lk_S_71 d_S_lookAtNets_122 (by decide) ?_
                    refine lv_aload_n hx hb d_S_lookAtNets_125 rfl (lv_at hl 4 rfl) ?_
                    refine gnX_B_weights hc hw lk_S_73 d_S_lookAtNets_126 ?_
                    refine lv_iload hx hb d_S_lookAtNets_129 (lv_at hl 0 rfl) ?_
                    refine ldX_B_weights hc hw d_S_lookAtNets_131 (by omega) ?_
                    refine z_lsub hx hb d_S_lookAtNets_132 ?_
                    refine stX_S_worths hc hw d_S_lookAtNets_133 (by show 0 ≤ ρ 17 0 * 3 + j ∧ ρ 17 0 * 3 + j < 24; omega) (fun H locs hw => ?_)
                    refine z_iinc (k := 1) hx hb d_S_lookAtNets_134 hl rfl (by decide) (fun x4_134 ex4_134 ls (hl : lv_has ls 6 [(4, .int (zI x4_134)), (5, .int (zI (ρ 2 (n * 3 + j)))), (3, .int (zI n)), (0, .ref (ad 105)), (1, .ref (ad 101)), (2, .int (zI mo))]) => ?_)
                    refine lv_goto (tgt := 69) hx hb d_S_lookAtNets_137 (by decide) ?_
                    exact ih69 x4_134 _ _ _ (by omega) (by rw [hN4, ex4_134]; rfl) (⟨by rw [up_f _ _ _ (by decide), up_f _ _ _ (by decide)]; exact hSρ.1, by rw [up_f _ _ _ (by decide), up_f _ _ _ (by decide)]; exact hSρ.2.1, fun i => by rw [up_o _ _ _ _ (by decide)]; unfold up; split; exact h2; exact hSρ.2.2.1 i, up_P (P := fun z => 0 ≤ z ∧ z ≤ 8000001) _ _ _ _ (by show 0 ≤ 8000001 - ρ 6 (ρ 2 (n * 3 + j)) ∧ 8000001 - ρ 6 (ρ 2 (n * 3 + j)) ≤ 8000001; exact h6) (by rw [up_f _ _ _ (by decide)]; exact hSρ.2.2.2.1), by rw [up_f _ _ _ (by decide), up_f _ _ _ (by decide)]; exact hSρ.2.2.2.2⟩) (fun g a1 a2 a3 a4 => by rw [up_f _ _ _ a4, up_f _ _ _ a3]; exact hoρ g a1 a2 a3 a4) (by omega) hw ls (lv_sub hl [0, 2, 3, 4, 5] rfl)
              exact L69 _ x4_67 _ _ _ (by omega) (by rw [ex4_67, show (τ 1 n - 0).toNat = (τ 1 n).toNat from (by omega)]; rfl) (⟨by rw [up_f _ _ _ (by decide), up_f _ _ _ (by decide)]; exact hSτ.1, up_P (P := fun z => 0 ≤ z ∧ z ≤ 3) _ _ _ _ (by show 0 ≤ τ 1 n ∧ τ 1 n ≤ 3; exact h1n) (by rw [up_f _ _ _ (by decide)]; exact hSτ.2.1), by rw [up_f _ _ _ (by decide), up_f _ _ _ (by decide)]; exact hSτ.2.2.1, by rw [up_f _ _ _ (by decide), up_f _ _ _ (by decide)]; exact hSτ.2.2.2.1, by rw [up_f _ _ _ (by decide), up_f _ _ _ (by decide)]; exact hSτ.2.2.2.2⟩) (fun g a1 a2 _ _ => by rw [up_f _ _ _ a2, up_f _ _ _ a1]) (Nat.lt_succ_self _) hw ls (lv_sub hl [0, 1, 2, 3, 4] rfl)
  exact L7 _ x3_6 _ _ _ (by omega) (by rw [ex3_6, show (σ 7 0 - 0).toNat = (σ 7 0).toNat from (by omega)]; rfl) (⟨by rw [up_s]; decide, by rw [up_f _ _ _ (by decide)]; exact hS.2.1, by rw [up_f _ _ _ (by decide)]; exact hS.2.2.1, by rw [up_f _ _ _ (by decide)]; exact hS.2.2.2.1, by rw [up_f _ _ _ (by decide)]; exact hS.2.2.2.2⟩) (fun g _ _ _ _ h => up_f _ _ _ h) (Nat.lt_succ_self _) hw ls (lv_sub hl [0, 1, 2, 3] rfl)
