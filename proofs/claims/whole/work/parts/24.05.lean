set_option maxHeartbeats 400000 in
set_option maxRecDepth 100000 in
theorem k_F_writeNumber {l : Launch} {D : va_G} {ad : Nat → Nat} {ca : Nat → ClassId} (σ : St) (z : Int) (hz : -1000000 ≤ z ∧ z ≤ 1000000) (hL : 0 ≤ σ 27 0 ∧ σ 27 0 ≤ 176) : Cw l D cl7 (tyX ca) (wX ad ca) y_F_writeNumber c_F_writeNumber 8 none 1 [.ref (ad 102), .long (zL z)] σ (VW (wn σ z = ·)) := by
  have hnz : ((z.natAbs : Nat) : Int) ≤ 1000000 := by omega
  have hnz0 : 0 ≤ ((z.natAbs : Nat) : Int) := Int.natCast_nonneg _
  have hwl := wl_bd 45 hL
  obtain ⟨U0, hU0⟩ : ∃ u, u = unF 6 1 ((z.natAbs : Nat) : Int) := ⟨_, rfl⟩
  refine Cw.enter (by decide) (Nat.le_of_ble_eq_true rfl) ?_
  intro A p e s m below meth c hc ls hl hw
  have hl : lv_has ls 8 [(0, .ref (ad 102)), (1, .long (zL z))] := hl
  obtain ⟨hx, hb, hml, hown, hTB, hK, hr, hlk⟩ := id hc
  refine lv_lload_n hx hb d_F_writeNumber_0 rfl (lv_at hl 1 rfl) ?_
  refine z_lc0 hx hb d_F_writeNumber_1 ?_
  refine z_lcmp_ge hx hb 12 d_F_writeNumber_2 d_F_writeNumber_3 (by omega) (by omega) (by decide) (fun c2 => ?_) (fun c2 => ?_)
  · refine lv_lload_n hx hb d_F_writeNumber_12 rfl (lv_at hl 1 rfl) ?_
    refine w_csR hc hw (k_JM_absL _ _ (by omega)) yw_JM_absL yi_JM_absL lk_F_94 d_F_writeNumber_13 rfl rfl hl.1 (Nat.le_of_ble_eq_true rfl) ⟨Nat.le_of_ble_eq_true rfl, Nat.le_of_ble_eq_true rfl⟩ ⟨Nat.zero_le _, Nat.zero_le _⟩ (fun τ13 H locs hτ13 hw => ?_)
    subst hτ13
    refine z_lst_n hx hb d_F_writeNumber_16 rfl hl (by decide) (fun x3_16 ex3_16 ls (hl : lv_has ls 8 [(3, .long (zL x3_16)), (0, .ref (ad 102)), (1, .long (zL z))]) => ?_)
    subst ex3_16
    refine z_lc1 hx hb d_F_writeNumber_17 ?_
    refine z_lst hx hb d_F_writeNumber_18 hl (by decide) (fun x5_18 ex5_18 ls (hl : lv_has ls 8 [(5, .long (zL x5_18)), (3, .long (zL ((z.natAbs : Nat) : Int))), (0, .ref (ad 102)), (1, .long (zL z))]) => ?_)
    refine z_ic hx hb d_F_writeNumber_20 ?_
    refine z_ist hx hb d_F_writeNumber_21 hl (by decide) (fun x7_21 ex7_21 ls (hl : lv_has ls 8 [(7, .int (zI x7_21)), (5, .long (zL x5_18)), (3, .long (zL ((z.natAbs : Nat) : Int))), (0, .ref (ad 102)), (1, .long (zL z))]) => ?_)
    have L23 : ∀ (n : Nat) (i : Int) (u : Int) (ρ : St) (H : Heap) (locs : List Loc), (1 ≤ i ∧ i ≤ 7) → (1 ≤ u ∧ u ≤ 10000000) → (U0 = unF (7 - i).toNat u ((z.natAbs : Nat) : Int)) → (ρ = (if z < 0 then wl σ 45 else σ)) → (7 - i).toNat < n → Wd D cl7 (wX ad ca) A s.heap ρ H locs → ∀ ls : Array Slot, lv_has ls 8 [(7, .int (zI i)), (5, .long (zL u)), (3, .long (zL ((z.natAbs : Nat) : Int))), (0, .ref (ad 102)), (1, .long (zL z))] → W p l e (Rmh 1) s m ([.ref (ad 102), .long (zL z)] : List Value).toArray below meth c H locs 0 0 (MQ below (Qw D cl7 (wX ad ca) A (VW (wn σ z = ·))) ([.ref (ad 102), .long (zL z)] : List Value).toArray s 0 0 A) (F0 m 23 ls []) := by
      intro n
      induction n with
      | zero => intro i u ρ H locs hi hu hN hρ hm; exact absurd hm (Nat.not_lt_zero _)
      | succ n ih23 =>
        intro i u ρ H locs hi hu hN hρ hm23 hw ls hl
        refine lv_iload hx hb d_F_writeNumber_23 (lv_at hl 0 rfl) ?_
        refine z_bi hx hb d_F_writeNumber_25 (by decide) ?_
        refine z_icmp_ge hx hb 55 d_F_writeNumber_27 (by omega) (by omega) (by decide) (fun c27 => ?_) (fun c27 => ?_)
        · have hU : U0 = u := by first | (rw [hN, show (7 - i).toNat = 0 by omega]; rfl) | (rw [hN, if_neg (by omega)])
          refine z_ic hx hb d_F_writeNumber_55 ?_
          refine z_ist hx hb d_F_writeNumber_56 hl (by decide) (fun x7_56 ex7_56 ls (hl : lv_has ls 8 [(7, .int (zI x7_56)), (5, .long (zL u)), (3, .long (zL ((z.natAbs : Nat) : Int))), (0, .ref (ad 102)), (1, .long (zL z))]) => ?_)
          have L58 : ∀ (n : Nat) (j : Int) (v : Int) (τ : St) (H : Heap) (locs : List Loc), (0 ≤ j ∧ j ≤ 7) → (0 ≤ v ∧ v ≤ 10000000) → (wn σ z = wnF (7 - j).toNat τ ((z.natAbs : Nat) : Int) v) → (0 ≤ τ 27 0 ∧ τ 27 0 ≤ 176) → (7 - j).toNat < n → Wd D cl7 (wX ad ca) A s.heap τ H locs → ∀ ls : Array Slot, lv_has ls 8 [(7, .int (zI j)), (5, .long (zL v)), (3, .long (zL ((z.natAbs : Nat) : Int))), (0, .ref (ad 102)), (1, .long (zL z))] → W p l e (Rmh 1) s m ([.ref (ad 102), .long (zL z)] : List Value).toArray below meth c H locs 0 0 (MQ below (Qw D cl7 (wX ad ca) A (VW (wn σ z = ·))) ([.ref (ad 102), .long (zL z)] : List Value).toArray s 0 0 A) (F0 m 58 ls []) := by
            intro n
            induction n with
            | zero => intro j v τ H locs hj hv hτ hτL hm; exact absurd hm (Nat.not_lt_zero _)
            | succ n ih58 =>
              intro j v τ H locs hj hv hτ hτL hm58 hw ls hl
              refine lv_iload hx hb d_F_writeNumber_58 (lv_at hl 0 rfl) ?_
              refine z_bi hx hb d_F_writeNumber_60 (by decide) ?_
              refine z_icmp_ge hx hb 104 d_F_writeNumber_62 (by omega) (by omega) (by decide) (fun c62 => ?_) (fun c62 => ?_)
              · exact w_vret hc hw (⟨rfl, by rw [hτ]; first | (rw [if_neg (by omega)]; done) | (rw [show (7 - j).toNat = 0 by omega]; rfl)⟩) d_F_writeNumber_104
              · have q : (7 - j).toNat = (7 - (j + 1)).toNat + 1 := by omega
                rw [q, wnF_s] at hτ
                have hdq : 0 ≤ ((z.natAbs : Nat) : Int) / v := Int.ediv_nonneg hnz0 hv.1
                refine lv_lload hx hb d_F_writeNumber_65 (lv_at hl 1 rfl) ?_
                refine z_lc0 hx hb d_F_writeNumber_67 ?_
                refine z_lcmp_le hx hb 104 d_F_writeNumber_68 d_F_writeNumber_69 (by omega) (by omega) (by decide) (fun c68 => ?_) (fun c68 => ?_)
                · exact w_vret hc hw (⟨rfl, by rw [hτ]; first | (rw [if_neg (by omega)]; done) | (rw [show (7 - j).toNat = 0 by omega]; rfl)⟩) d_F_writeNumber_104
                · refine lv_aload_n hx hb d_F_writeNumber_72 rfl (lv_at hl 3 rfl) ?_
                  refine z_ldc2 (n := 48) hc lk_F_125 d_F_writeNumber_73 (by decide) ?_
                  refine lv_lload_n hx hb d_F_writeNumber_76 rfl (lv_at hl 2 rfl) ?_
                  refine lv_lload hx hb d_F_writeNumber_77 (lv_at hl 1 rfl) ?_
                  refine z_ldiv hx hb d_F_writeNumber_79 (⟨⟨hnz0, by omega⟩, by omega, by omega⟩) ?_
                  refine z_ldc2 (n := 10) hc lk_F_123 d_F_writeNumber_80 (by decide) ?_
                  refine z_lrem hx hb d_F_writeNumber_83 (⟨⟨hdq, by have := Int.ediv_le_self v hnz0; omega⟩, by decide, by decide⟩) ?_
                  refine z_ladd hx hb d_F_writeNumber_84 ?_
                  refine z_l2i hx hb d_F_writeNumber_85 ?_
                  refine z_i2c hx hb d_F_writeNumber_86 (by have := Int.emod_nonneg (((z.natAbs : Nat) : Int) / v) (show (10 : Int) ≠ 0 by decide); have := Int.emod_lt_of_pos (((z.natAbs : Nat) : Int) / v) (show (0 : Int) < 10 by decide); omega) ?_
                  refine w_cvV (q0 := 2) hc hw (k_F_writeLetter _ _ (by have := Int.emod_nonneg (((z.natAbs : Nat) : Int) / v) (show (10 : Int) ≠ 0 by decide); have := Int.emod_lt_of_pos (((z.natAbs : Nat) : Int) / v) (show (0 : Int) < 10 by decide); omega) hτL) yw_F_writeLetter yi_F_writeLetter lk_F_115 d_F_writeNumber_87 rfl rfl rfl rfl hl.1 (Nat.le_of_ble_eq_true rfl) ⟨Nat.le_of_ble_eq_true rfl, Nat.le_of_ble_eq_true rfl⟩ ⟨Nat.zero_le _, Nat.zero_le _⟩ (fun τ87 H locs hτ87 hw => ?_)
                  subst hτ87
                  refine lv_lload hx hb d_F_writeNumber_90 (lv_at hl 1 rfl) ?_
                  refine z_ldc2 (n := 10) hc lk_F_123 d_F_writeNumber_92 (by decide) ?_
                  refine z_ldiv hx hb d_F_writeNumber_95 (by omega) ?_
                  refine z_lst hx hb d_F_writeNumber_96 hl (by decide) (fun x5_96 ex5_96 ls (hl : lv_has ls 8 [(5, .long (zL x5_96)), (7, .int (zI j)), (3, .long (zL ((z.natAbs : Nat) : Int))), (0, .ref (ad 102)), (1, .long (zL z))]) => ?_)
                  refine z_iinc (k := 1) hx hb d_F_writeNumber_98 hl rfl (by decide) (fun x7_98 ex7_98 ls (hl : lv_has ls 8 [(7, .int (zI x7_98)), (5, .long (zL x5_96)), (3, .long (zL ((z.natAbs : Nat) : Int))), (0, .ref (ad 102)), (1, .long (zL z))]) => ?_)
                  refine lv_goto (tgt := 58) hx hb d_F_writeNumber_101 (by decide) ?_
                  exact ih58 x7_98 x5_96 _ _ _ (by omega) (by rw [ex5_96]; omega) (by rw [hτ, if_pos c68, ex7_98, ex5_96]) (wl_bd _ hτL) (by omega) hw ls (lv_sub hl [0, 1, 2, 3, 4] rfl)
          exact L58 _ x7_56 u _ _ _ (by omega) (by omega) (by rw [ex7_56, show ((7 : Int) - 0).toNat = 7 from (by decide), ← hU, hU0, hρ]; rfl) (by rw [hρ]; first | (rw [if_pos (by omega)]; exact hwl) | (rw [if_neg (by omega)]; exact hL)) (Nat.lt_succ_self _) hw ls (lv_sub hl [0, 1, 2, 3, 4] rfl)
        · have q : (7 - i).toNat = (7 - (i + 1)).toNat + 1 := by omega
          rw [q, unF_s] at hN
          refine lv_lload hx hb d_F_writeNumber_30 (lv_at hl 1 rfl) ?_
          refine z_ldc2 (n := 10) hc lk_F_123 d_F_writeNumber_32 (by decide) ?_
          refine z_lmul hx hb d_F_writeNumber_35 ?_
          refine lv_lload_n hx hb d_F_writeNumber_36 rfl (lv_at hl 2 rfl) ?_
          refine z_lcmp_gt hx hb 55 d_F_writeNumber_37 d_F_writeNumber_38 (by omega) (by omega) (by decide) (fun c37 => ?_) (fun c37 => ?_)
          · have hU : U0 = u := by first | (rw [hN, show (7 - i).toNat = 0 by omega]; rfl) | (rw [hN, if_neg (by omega)])
            refine z_ic hx hb d_F_writeNumber_55 ?_
            refine z_ist hx hb d_F_writeNumber_56 hl (by decide) (fun x7_56 ex7_56 ls (hl : lv_has ls 8 [(7, .int (zI x7_56)), (5, .long (zL u)), (3, .long (zL ((z.natAbs : Nat) : Int))), (0, .ref (ad 102)), (1, .long (zL z))]) => ?_)
            have L58 : ∀ (n : Nat) (j : Int) (v : Int) (τ : St) (H : Heap) (locs : List Loc), (0 ≤ j ∧ j ≤ 7) → (0 ≤ v ∧ v ≤ 10000000) → (wn σ z = wnF (7 - j).toNat τ ((z.natAbs : Nat) : Int) v) → (0 ≤ τ 27 0 ∧ τ 27 0 ≤ 176) → (7 - j).toNat < n → Wd D cl7 (wX ad ca) A s.heap τ H locs → ∀ ls : Array Slot, lv_has ls 8 [(7, .int (zI j)), (5, .long (zL v)), (3, .long (zL ((z.natAbs : Nat) : Int))), (0, .ref (ad 102)), (1, .long (zL z))] → W p l e (Rmh 1) s m ([.ref (ad 102), .long (zL z)] : List Value).toArray below meth c H locs 0 0 (MQ below (Qw D cl7 (wX ad ca) A (VW (wn σ z = ·))) ([.ref (ad 102), .long (zL z)] : List Value).toArray s 0 0 A) (F0 m 58 ls []) := by
              intro n
              induction n with
              | zero => intro j v τ H locs hj hv hτ hτL hm; exact absurd hm (Nat.not_lt_zero _)
              | succ n ih58 =>
                intro j v τ H locs hj hv hτ hτL hm58 hw ls hl
                refine lv_iload hx hb d_F_writeNumber_58 (lv_at hl 0 rfl) ?_
                refine z_bi hx hb d_F_writeNumber_60 (by decide) ?_
                refine z_icmp_ge hx hb 104 d_F_writeNumber_62 (by omega) (by omega) (by decide) (fun c62 => ?_) (fun c62 => ?_)
                · exact w_vret hc hw (⟨rfl, by rw [hτ]; first | (rw [if_neg (by omega)]; done) | (rw [show (7 - j).toNat = 0 by omega]; rfl)⟩) d_F_writeNumber_104
                · have q : (7 - j).toNat = (7 - (j + 1)).toNat + 1 := by omega
                  rw [q, wnF_s] at hτ
                  have hdq : 0 ≤ ((z.natAbs : Nat) : Int) / v := Int.ediv_nonneg hnz0 hv.1
                  refine lv_lload hx hb d_F_writeNumber_65 (lv_at hl 1 rfl) ?_
                  refine z_lc0 hx hb d_F_writeNumber_67 ?_
                  refine z_lcmp_le hx hb 104 d_F_writeNumber_68 d_F_writeNumber_69 (by omega) (by omega) (by decide) (fun c68 => ?_) (fun c68 => ?_)
                  · exact w_vret hc hw (⟨rfl, by rw [hτ]; first | (rw [if_neg (by omega)]; done) | (rw [show (7 - j).toNat = 0 by omega]; rfl)⟩) d_F_writeNumber_104
                  · refine lv_aload_n hx hb d_F_writeNumber_72 rfl (lv_at hl 3 rfl) ?_
                    refine z_ldc2 (n := 48) hc lk_F_125 d_F_writeNumber_73 (by decide) ?_
                    refine lv_lload_n hx hb d_F_writeNumber_76 rfl (lv_at hl 2 rfl) ?_
                    refine lv_lload hx hb d_F_writeNumber_77 (lv_at hl 1 rfl) ?_
                    refine z_ldiv hx hb d_F_writeNumber_79 (⟨⟨hnz0, by omega⟩, by omega, by omega⟩) ?_
                    refine z_ldc2 (n := 10) hc lk_F_123 d_F_writeNumber_80 (by decide) ?_
                    refine z_lrem hx hb d_F_writeNumber_83 (⟨⟨hdq, by have := Int.ediv_le_self v hnz0; omega⟩, by decide, by decide⟩) ?_
                    refine z_ladd hx hb d_F_writeNumber_84 ?_
                    refine z_l2i hx hb d_F_writeNumber_85 ?_
                    refine z_i2c hx hb d_F_writeNumber_86 (by have := Int.emod_nonneg (((z.natAbs : Nat) : Int) / v) (show (10 : Int) ≠ 0 by decide); have := Int.emod_lt_of_pos (((z.natAbs : Nat) : Int) / v) (show (0 : Int) < 10 by decide); omega) ?_
                    refine w_cvV (q0 := 2) hc hw (k_F_writeLetter _ _ (by have := Int.emod_nonneg (((z.natAbs : Nat) : Int) / v) (show (10 : Int) ≠ 0 by decide); have := Int.emod_lt_of_pos (((z.natAbs : Nat) : Int) / v) (show (0 : Int) < 10 by decide); omega) hτL) yw_F_writeLetter yi_F_writeLetter lk_F_115 d_F_writeNumber_87 rfl rfl rfl rfl hl.1 (Nat.le_of_ble_eq_true rfl) ⟨Nat.le_of_ble_eq_true rfl, Nat.le_of_ble_eq_true rfl⟩ ⟨Nat.zero_le _, Nat.zero_le _⟩ (fun τ87 H locs hτ87 hw => ?_)
                    subst hτ87
                    refine lv_lload hx hb d_F_writeNumber_90 (lv_at hl 1 rfl) ?_
                    refine z_ldc2 (n := 10) hc lk_F_123 d_F_writeNumber_92 (by decide) ?_
                    refine z_ldiv hx hb d_F_writeNumber_95 (by omega) ?_
                    refine z_lst hx hb d_F_writeNumber_96 hl (by decide) (fun x5_96 ex5_96 ls (hl : lv_has ls 8 [(5, .long (zL x5_96)), (7, .int (zI j)), (3, .long (zL ((z.natAbs : Nat) : Int))), (0, .ref (ad 102)), (1, .long (zL z))]) => ?_)
                    refine z_iinc (k := 1) hx hb d_F_writeNumber_98 hl rfl (by decide) (fun x7_98 ex7_98 ls (hl : lv_has ls 8 [(7, .int (zI x7_98)), (5, .long (zL x5_96)), (3, .long (zL ((z.natAbs : Nat) : Int))), (0, .ref (ad 102)), (1, .long (zL z))]) => ?_)
                    refine lv_goto (tgt := 58) hx hb d_F_writeNumber_101 (by decide) ?_
                    exact ih58 x7_98 x5_96 _ _ _ (by omega) (by rw [ex5_96]; omega) (by rw [hτ, if_pos c68, ex7_98, ex5_96]) (wl_bd _ hτL) (by omega) hw ls (lv_sub hl [0, 1, 2, 3, 4] rfl)
            exact L58 _ x7_56 u _ _ _ (by omega) (by omega) (by rw [ex7_56, show ((7 : Int) - 0).toNat = 7 from (by decide), ← hU, hU0, hρ]; rfl) (by rw [hρ]; first | (rw [if_pos (by omega)]; exact hwl) | (rw [if_neg (by omega)]; exact hL)) (Nat.lt_succ_self _) hw ls (lv_sub hl [0, 1, 2, 3, 4] rfl)
          · refine lv_lload hx hb d_F_writeNumber_41 (lv_at hl 1 rfl) ?_
            refine z_ldc2 (n := 10) hc lk_F_123 d_F_writeNumber_43 (by decide) ?_
            refine z_lmul hx hb d_F_writeNumber_46 ?_
            refine z_lst hx hb d_F_writeNumber_47 hl (by decide) (fun x5_47 ex5_47 ls (hl : lv_has ls 8 [(5, .long (zL x5_47)), (7, .int (zI i)), (3, .long (zL ((z.natAbs : Nat) : Int))), (0, .ref (ad 102)), (1, .long (zL z))]) => ?_)
            refine z_iinc (k := 1) hx hb d_F_writeNumber_49 hl rfl (by decide) (fun x7_49 ex7_49 ls (hl : lv_has ls 8 [(7, .int (zI x7_49)), (5, .long (zL x5_47)), (3, .long (zL ((z.natAbs : Nat) : Int))), (0, .ref (ad 102)), (1, .long (zL z))]) => ?_)
            refine lv_goto (tgt := 23) hx hb d_F_writeNumber_52 (by decide) ?_
            exact ih23 x7_49 x5_47 _ _ _ (by omega) (by omega) (by rw [hN, if_pos (by omega), ex7_49, ex5_47]) (hρ) (by omega) hw ls (lv_sub hl [0, 1, 2, 3, 4] rfl)
    exact L23 _ x7_21 x5_18 _ _ _ (by omega) (by omega) (by rw [ex7_21, ex5_18, show ((7 : Int) - 1).toNat = 6 from (by decide)]; exact hU0) (by first | (rw [if_pos (by omega)]; done) | (rw [if_neg (by omega)]; done)) (Nat.lt_succ_self _) hw ls (lv_sub hl [0, 1, 2, 3, 4] rfl)
  · refine lv_aload_n hx hb d_F_writeNumber_6 rfl (lv_at hl 0 rfl) ?_
    refine z_bi hx hb d_F_writeNumber_7 (by decide) ?_
    refine w_cvV (q0 := 2) hc hw (k_F_writeLetter _ _ (by decide) hL) yw_F_writeLetter yi_F_writeLetter lk_F_115 d_F_writeNumber_9 rfl rfl rfl rfl hl.1 (Nat.le_of_ble_eq_true rfl) ⟨Nat.le_of_ble_eq_true rfl, Nat.le_of_ble_eq_true rfl⟩ ⟨Nat.zero_le _, Nat.zero_le _⟩ (fun τ9 H locs hτ9 hw => ?_)
    subst hτ9
    refine lv_lload_n hx hb d_F_writeNumber_12 rfl (lv_at hl 1 rfl) ?_
    refine w_csR hc hw (k_JM_absL _ _ (by omega)) yw_JM_absL yi_JM_absL lk_F_94 d_F_writeNumber_13 rfl rfl hl.1 (Nat.le_of_ble_eq_true rfl) ⟨Nat.le_of_ble_eq_true rfl, Nat.le_of_ble_eq_true rfl⟩ ⟨Nat.zero_le _, Nat.zero_le _⟩ (fun τ13 H locs hτ13 hw => ?_)
    subst hτ13
    refine z_lst_n hx hb d_F_writeNumber_16 rfl hl (by decide) (fun x3_16 ex3_16 ls (hl : lv_has ls 8 [(3, .long (zL x3_16)), (0, .ref (ad 102)), (1, .long (zL z))]) => ?_)
    subst ex3_16
    refine z_lc1 hx hb d_F_writeNumber_17 ?_
    refine z_lst hx hb d_F_writeNumber_18 hl (by decide) (fun x5_18 ex5_18 ls (hl : lv_has ls 8 [(5, .long (zL x5_18)), (3, .long (zL ((z.natAbs : Nat) : Int))), (0, .ref (ad 102)), (1, .long (zL z))]) => ?_)
    refine z_ic hx hb d_F_writeNumber_20 ?_
    refine z_ist hx hb d_F_writeNumber_21 hl (by decide) (fun x7_21 ex7_21 ls (hl : lv_has ls 8 [(7, .int (zI x7_21)), (5, .long (zL x5_18)), (3, .long (zL ((z.natAbs : Nat) : Int))), (0, .ref (ad 102)), (1, .long (zL z))]) => ?_)
    have L23 : ∀ (n : Nat) (i : Int) (u : Int) (ρ : St) (H : Heap) (locs : List Loc), (1 ≤ i ∧ i ≤ 7) → (1 ≤ u ∧ u ≤ 10000000) → (U0 = unF (7 - i).toNat u ((z.natAbs : Nat) : Int)) → (ρ = (if z < 0 then wl σ 45 else σ)) → (7 - i).toNat < n → Wd D cl7 (wX ad ca) A s.heap ρ H locs → ∀ ls : Array Slot, lv_has ls 8 [(7, .int (zI i)), (5, .long (zL u)), (3, .long (zL ((z.natAbs : Nat) : Int))), (0, .ref (ad 102)), (1, .long (zL z))] → W p l e (Rmh 1) s m ([.ref (ad 102), .long (zL z)] : List Value).toArray below meth c H locs 0 0 (MQ below (Qw D cl7 (wX ad ca) A (VW (wn σ z = ·))) ([.ref (ad 102), .long (zL z)] : List Value).toArray s 0 0 A) (F0 m 23 ls []) := by
      intro n
      induction n with
      | zero => intro i u ρ H locs hi hu hN hρ hm; exact absurd hm (Nat.not_lt_zero _)
      | succ n ih23 =>
        intro i u ρ H locs hi hu hN hρ hm23 hw ls hl
        refine lv_iload hx hb d_F_writeNumber_23 (lv_at hl 0 rfl) ?_
        refine z_bi hx hb d_F_writeNumber_25 (by decide) ?_
        refine z_icmp_ge hx hb 55 d_F_writeNumber_27 (by omega) (by omega) (by decide) (fun c27 => ?_) (fun c27 => ?_)
        · have hU : U0 = u := by first | (rw [hN, show (7 - i).toNat = 0 by omega]; rfl) | (rw [hN, if_neg (by omega)])
          refine z_ic hx hb d_F_writeNumber_55 ?_
          refine z_ist hx hb d_F_writeNumber_56 hl (by decide) (fun x7_56 ex7_56 ls (hl : lv_has ls 8 [(7, .int (zI x7_56)), (5, .long (zL u)), (3, .long (zL ((z.natAbs : Nat) : Int))), (0, .ref (ad 102)), (1, .long (zL z))]) => ?_)
          have L58 : ∀ (n : Nat) (j : Int) (v : Int) (τ : St) (H : Heap) (locs : List Loc), (0 ≤ j ∧ j ≤ 7) → (0 ≤ v ∧ v ≤ 10000000) → (wn σ z = wnF (7 - j).toNat τ ((z.natAbs : Nat) : Int) v) → (0 ≤ τ 27 0 ∧ τ 27 0 ≤ 176) → (7 - j).toNat < n → Wd D cl7 (wX ad ca) A s.heap τ H locs → ∀ ls : Array Slot, lv_has ls 8 [(7, .int (zI j)), (5, .long (zL v)), (3, .long (zL ((z.natAbs : Nat) : Int))), (0, .ref (ad 102)), (1, .long (zL z))] → W p l e (Rmh 1) s m ([.ref (ad 102), .long (zL z)] : List Value).toArray below meth c H locs 0 0 (MQ below (Qw D cl7 (wX ad ca) A (VW (wn σ z = ·))) ([.ref (ad 102), .long (zL z)] : List Value).toArray s 0 0 A) (F0 m 58 ls []) := by
            intro n
            induction n with
            | zero => intro j v τ H locs hj hv hτ hτL hm; exact absurd hm (Nat.not_lt_zero _)
            | succ n ih58 =>
              intro j v τ H locs hj hv hτ hτL hm58 hw ls hl
              refine lv_iload hx hb d_F_writeNumber_58 (lv_at hl 0 rfl) ?_
              refine z_bi hx hb d_F_writeNumber_60 (by decide) ?_
              refine z_icmp_ge hx hb 104 d_F_writeNumber_62 (by omega) (by omega) (by decide) (fun c62 => ?_) (fun c62 => ?_)
              · exact w_vret hc hw (⟨rfl, by rw [hτ]; first | (rw [if_neg (by omega)]; done) | (rw [show (7 - j).toNat = 0 by omega]; rfl)⟩) d_F_writeNumber_104
              · have q : (7 - j).toNat = (7 - (j + 1)).toNat + 1 := by omega
                rw [q, wnF_s] at hτ
                have hdq : 0 ≤ ((z.natAbs : Nat) : Int) / v := Int.ediv_nonneg hnz0 hv.1
                refine lv_lload hx hb d_F_writeNumber_65 (lv_at hl 1 rfl) ?_
                refine z_lc0 hx hb d_F_writeNumber_67 ?_
                refine z_lcmp_le hx hb 104 d_F_writeNumber_68 d_F_writeNumber_69 (by omega) (by omega) (by decide) (fun c68 => ?_) (fun c68 => ?_)
                · exact w_vret hc hw (⟨rfl, by rw [hτ]; first | (rw [if_neg (by omega)]; done) | (rw [show (7 - j).toNat = 0 by omega]; rfl)⟩) d_F_writeNumber_104
                · refine lv_aload_n hx hb d_F_writeNumber_72 rfl (lv_at hl 3 rfl) ?_
                  refine z_ldc2 (n := 48) hc lk_F_125 d_F_writeNumber_73 (by decide) ?_
                  refine lv_lload_n hx hb d_F_writeNumber_76 rfl (lv_at hl 2 rfl) ?_
                  refine lv_lload hx hb d_F_writeNumber_77 (lv_at hl 1 rfl) ?_
                  refine z_ldiv hx hb d_F_writeNumber_79 (⟨⟨hnz0, by omega⟩, by omega, by omega⟩) ?_
                  refine z_ldc2 (n := 10) hc lk_F_123 d_F_writeNumber_80 (by decide) ?_
                  refine z_lrem hx hb d_F_writeNumber_83 (⟨⟨hdq, by have := Int.ediv_le_self v hnz0; omega⟩, by decide, by decide⟩) ?_
                  refine z_ladd hx hb d_F_writeNumber_84 ?_
                  refine z_l2i hx hb d_F_writeNumber_85 ?_
                  refine z_i2c hx hb d_F_writeNumber_86 (by have := Int.emod_nonneg (((z.natAbs : Nat) : Int) / v) (show (10 : Int) ≠ 0 by decide); have := Int.emod_lt_of_pos (((z.natAbs : Nat) : Int) / v) (show (0 : Int) < 10 by decide); omega) ?_
                  refine w_cvV (q0 := 2) hc hw (k_F_writeLetter _ _ (by have := Int.emod_nonneg (((z.natAbs : Nat) : Int) / v) (show (10 : Int) ≠ 0 by decide); have := Int.emod_lt_of_pos (((z.natAbs : Nat) : Int) / v) (show (0 : Int) < 10 by decide); omega) hτL) yw_F_writeLetter yi_F_writeLetter lk_F_115 d_F_writeNumber_87 rfl rfl rfl rfl hl.1 (Nat.le_of_ble_eq_true rfl) ⟨Nat.le_of_ble_eq_true rfl, Nat.le_of_ble_eq_true rfl⟩ ⟨Nat.zero_le _, Nat.zero_le _⟩ (fun τ87 H locs hτ87 hw => ?_)
                  subst hτ87
                  refine lv_lload hx hb d_F_writeNumber_90 (lv_at hl 1 rfl) ?_
                  refine z_ldc2 (n := 10) hc lk_F_123 d_F_writeNumber_92 (by decide) ?_
                  refine z_ldiv hx hb d_F_writeNumber_95 (by omega) ?_
                  refine z_lst hx hb d_F_writeNumber_96 hl (by decide) (fun x5_96 ex5_96 ls (hl : lv_has ls 8 [(5, .long (zL x5_96)), (7, .int (zI j)), (3, .long (zL ((z.natAbs : Nat) : Int))), (0, .ref (ad 102)), (1, .long (zL z))]) => ?_)
                  refine z_iinc (k := 1) hx hb d_F_writeNumber_98 hl rfl (by decide) (fun x7_98 ex7_98 ls (hl : lv_has ls 8 [(7, .int (zI x7_98)), (5, .long (zL x5_96)), (3, .long (zL ((z.natAbs : Nat) : Int))), (0, .ref (ad 102)), (1, .long (zL z))]) => ?_)
                  refine lv_goto (tgt := 58) hx hb d_F_writeNumber_101 (by decide) ?_
                  exact ih58 x7_98 x5_96 _ _ _ (by omega) (by rw [ex5_96]; omega) (by rw [hτ, if_pos c68, ex7_98, ex5_96]) (wl_bd _ hτL) (by omega) hw ls (lv_sub hl [0, 1, 2, 3, 4] rfl)
          exact L58 _ x7_56 u _ _ _ (by omega) (by omega) (by rw [ex7_56, show ((7 : Int) - 0).toNat = 7 from (by decide), ← hU, hU0, hρ]; rfl) (by rw [hρ]; first | (rw [if_pos (by omega)]; exact hwl) | (rw [if_neg (by omega)]; exact hL)) (Nat.lt_succ_self _) hw ls (lv_sub hl [0, 1, 2, 3, 4] rfl)
        · have q : (7 - i).toNat = (7 - (i + 1)).toNat + 1 := by omega
          rw [q, unF_s] at hN
          refine lv_lload hx hb d_F_writeNumber_30 (lv_at hl 1 rfl) ?_
          refine z_ldc2 (n := 10) hc lk_F_123 d_F_writeNumber_32 (by decide) ?_
          refine z_lmul hx hb d_F_writeNumber_35 ?_
          refine lv_lload_n hx hb d_F_writeNumber_36 rfl (lv_at hl 2 rfl) ?_
          refine z_lcmp_gt hx hb 55 d_F_writeNumber_37 d_F_writeNumber_38 (by omega) (by omega) (by decide) (fun c37 => ?_) (fun c37 => ?_)
          · have hU : U0 = u := by first | (rw [hN, show (7 - i).toNat = 0 by omega]; rfl) | (rw [hN, if_neg (by omega)])
            refine z_ic hx hb d_F_writeNumber_55 ?_
            refine z_ist hx hb d_F_writeNumber_56 hl (by decide) (fun x7_56 ex7_56 ls (hl : lv_has ls 8 [(7, .int (zI x7_56)), (5, .long (zL u)), (3, .long (zL ((z.natAbs : Nat) : Int))), (0, .ref (ad 102)), (1, .long (zL z))]) => ?_)
            have L58 : ∀ (n : Nat) (j : Int) (v : Int) (τ : St) (H : Heap) (locs : List Loc), (0 ≤ j ∧ j ≤ 7) → (0 ≤ v ∧ v ≤ 10000000) → (wn σ z = wnF (7 - j).toNat τ ((z.natAbs : Nat) : Int) v) → (0 ≤ τ 27 0 ∧ τ 27 0 ≤ 176) → (7 - j).toNat < n → Wd D cl7 (wX ad ca) A s.heap τ H locs → ∀ ls : Array Slot, lv_has ls 8 [(7, .int (zI j)), (5, .long (zL v)), (3, .long (zL ((z.natAbs : Nat) : Int))), (0, .ref (ad 102)), (1, .long (zL z))] → W p l e (Rmh 1) s m ([.ref (ad 102), .long (zL z)] : List Value).toArray below meth c H locs 0 0 (MQ below (Qw D cl7 (wX ad ca) A (VW (wn σ z = ·))) ([.ref (ad 102), .long (zL z)] : List Value).toArray s 0 0 A) (F0 m 58 ls []) := by
              intro n
              induction n with
              | zero => intro j v τ H locs hj hv hτ hτL hm; exact absurd hm (Nat.not_lt_zero _)
              | succ n ih58 =>
                intro j v τ H locs hj hv hτ hτL hm58 hw ls hl
                refine lv_iload hx hb d_F_writeNumber_58 (lv_at hl 0 rfl) ?_
                refine z_bi hx hb d_F_writeNumber_60 (by decide) ?_
                refine z_icmp_ge hx hb 104 d_F_writeNumber_62 (by omega) (by omega) (by decide) (fun c62 => ?_) (fun c62 => ?_)
                · exact w_vret hc hw (⟨rfl, by rw [hτ]; first | (rw [if_neg (by omega)]; done) | (rw [show (7 - j).toNat = 0 by omega]; rfl)⟩) d_F_writeNumber_104
                · have q : (7 - j).toNat = (7 - (j + 1)).toNat + 1 := by omega
                  rw [q, wnF_s] at hτ
                  have hdq : 0 ≤ ((z.natAbs : Nat) : Int) / v := Int.ediv_nonneg hnz0 hv.1
                  refine lv_lload hx hb d_F_writeNumber_65 (lv_at hl 1 rfl) ?_
                  refine z_lc0 hx hb d_F_writeNumber_67 ?_
                  refine z_lcmp_le hx hb 104 d_F_writeNumber_68 d_F_writeNumber_69 (by omega) (by omega) (by decide) (fun c68 => ?_) (fun c68 => ?_)
                  · exact w_vret hc hw (⟨rfl, by rw [hτ]; first | (rw [if_neg (by omega)]; done) | (rw [show (7 - j).toNat = 0 by omega]; rfl)⟩) d_F_writeNumber_104
                  · refine lv_aload_n hx hb d_F_writeNumber_72 rfl (lv_at hl 3 rfl) ?_
                    refine z_ldc2 (n := 48) hc lk_F_125 d_F_writeNumber_73 (by decide) ?_
                    refine lv_lload_n hx hb d_F_writeNumber_76 rfl (lv_at hl 2 rfl) ?_
                    refine lv_lload hx hb d_F_writeNumber_77 (lv_at hl 1 rfl) ?_
                    refine z_ldiv hx hb d_F_writeNumber_79 (⟨⟨hnz0, by omega⟩, by omega, by omega⟩) ?_
                    refine z_ldc2 (n := 10) hc lk_F_123 d_F_writeNumber_80 (by decide) ?_
                    refine z_lrem hx hb d_F_writeNumber_83 (⟨⟨hdq, by have := Int.ediv_le_self v hnz0; omega⟩, by decide, by decide⟩) ?_
                    refine z_ladd hx hb d_F_writeNumber_84 ?_
                    refine z_l2i hx hb d_F_writeNumber_85 ?_
                    refine z_i2c hx hb d_F_writeNumber_86 (by have := Int.emod_nonneg (((z.natAbs : Nat) : Int) / v) (show (10 : Int) ≠ 0 by decide); have := Int.emod_lt_of_pos (((z.natAbs : Nat) : Int) / v) (show (0 : Int) < 10 by decide); omega) ?_
                    refine w_cvV (q0 := 2) hc hw (k_F_writeLetter _ _ (by have := Int.emod_nonneg (((z.natAbs : Nat) : Int) / v) (show (10 : Int) ≠ 0 by decide); have := Int.emod_lt_of_pos (((z.natAbs : Nat) : Int) / v) (show (0 : Int) < 10 by decide); omega) hτL) yw_F_writeLetter yi_F_writeLetter lk_F_115 d_F_writeNumber_87 rfl rfl rfl rfl hl.1 (Nat.le_of_ble_eq_true rfl) ⟨Nat.le_of_ble_eq_true rfl, Nat.le_of_ble_eq_true rfl⟩ ⟨Nat.zero_le _, Nat.zero_le _⟩ (fun τ87 H locs hτ87 hw => ?_)
                    subst hτ87
                    refine lv_lload hx hb d_F_writeNumber_90 (lv_at hl 1 rfl) ?_
                    refine z_ldc2 (n := 10) hc lk_F_123 d_F_writeNumber_92 (by decide) ?_
                    refine z_ldiv hx hb d_F_writeNumber_95 (by omega) ?_
                    refine z_lst hx hb d_F_writeNumber_96 hl (by decide) (fun x5_96 ex5_96 ls (hl : lv_has ls 8 [(5, .long (zL x5_96)), (7, .int (zI j)), (3, .long (zL ((z.natAbs : Nat) : Int))), (0, .ref (ad 102)), (1, .long (zL z))]) => ?_)
                    refine z_iinc (k := 1) hx hb d_F_writeNumber_98 hl rfl (by decide) (fun x7_98 ex7_98 ls (hl : lv_has ls 8 [(7, .int (zI x7_98)), (5, .long (zL x5_96)), (3, .long (zL ((z.natAbs : Nat) : Int))), (0, .ref (ad 102)), (1, .long (zL z))]) => ?_)
                    refine lv_goto (tgt := 58) hx hb d_F_writeNumber_101 (by decide) ?_
                    exact ih58 x7_98 x5_96 _ _ _ (by omega) (by rw [ex5_96]; omega) (by rw [hτ, if_pos c68, ex7_98, ex5_96]) (wl_bd _ hτL) (by omega) hw ls (lv_sub hl [0, 1, 2, 3, 4] rfl)
            exact L58 _ x7_56 u _ _ _ (by omega) (by omega) (by rw [ex7_56, show ((7 : Int) - 0).toNat = 7 from (by decide), ← hU, hU0, hρ]; rfl) (by rw [hρ]; first | (rw [if_pos (by omega)]; exact hwl) | (rw [if_neg (by omega)]; exact hL)) (Nat.lt_succ_self _) hw ls (lv_sub hl [0, 1, 2, 3, 4] rfl)
          · refine lv_lload hx hb d_F_writeNumber_41 (lv_at hl 1 rfl) ?_
            refine z_ldc2 (n := 10) hc lk_F_123 d_F_writeNumber_43 (by decide) ?_
            refine z_lmul hx hb d_F_writeNumber_46 ?_
            refine z_lst hx hb d_F_writeNumber_47 hl (by decide) (fun x5_47 ex5_47 ls (hl : lv_has ls 8 [(5, .long (zL x5_47)), (7, .int (zI i)), (3, .long (zL ((z.natAbs : Nat) : Int))), (0, .ref (ad 102)), (1, .long (zL z))]) => ?_)
            refine z_iinc (k := 1) hx hb d_F_writeNumber_49 hl rfl (by decide) (fun x7_49 ex7_49 ls (hl : lv_has ls 8 [(7, .int (zI x7_49)), (5, .long (zL x5_47)), (3, .long (zL ((z.natAbs : Nat) : Int))), (0, .ref (ad 102)), (1, .long (zL z))]) => ?_)
            refine lv_goto (tgt := 23) hx hb d_F_writeNumber_52 (by decide) ?_
            exact ih23 x7_49 x5_47 _ _ _ (by omega) (by omega) (by rw [hN, if_pos (by omega), ex7_49, ex5_47]) (hρ) (by omega) hw ls (lv_sub hl [0, 1, 2, 3, 4] rfl)
    exact L23 _ x7_21 x5_18 _ _ _ (by omega) (by omega) (by rw [ex7_21, ex5_18, show ((7 : Int) - 1).toNat = 6 from (by decide)]; exact hU0) (by first | (rw [if_pos (by omega)]; done) | (rw [if_neg (by omega)]; done)) (Nat.lt_succ_self _) hw ls (lv_sub hl [0, 1, 2, 3, 4] rfl)
