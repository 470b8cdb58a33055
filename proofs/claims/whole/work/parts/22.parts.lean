set_option maxHeartbeats 400000 in
set_option maxRecDepth 100000 in
theorem k_X_nth0 {l : Launch} {D : va_G} {ad : Nat → Nat} {ca : Nat → ClassId} (σ : St) (n k : Int) (hn : 0 ≤ n ∧ n ≤ 8) (hk : r32 k) : Cw l D cl7 (tyX ca) (wX ad ca) y_X_nth c_X_nth 3 (some .int) 0 [.ref (ad 20), .int (zI n), .int (zI k)] σ (RW (.int (zI (nthR σ 20 n k))) (σ = ·)) := by
  refine Cw.enter (by decide) (Nat.le_of_ble_eq_true rfl) ?_
  intro A p e s m below meth c hc ls hl hw
  have hl : lv_has ls 3 [(0, .ref (ad 20)), (1, .int (zI n)), (2, .int (zI k))] := hl
  obtain ⟨hx, hb, hml, hown, hTB, hK, hr, hlk⟩ := id hc
  refine lv_iload_n hx hb d_X_nth_0 rfl (lv_at hl 2 rfl) ?_
  refine z_if_lt hx hb 21 d_X_nth_1 (by omega) (by decide) (fun c1 => ?_) (fun c1 => ?_)
  · refine z_ic hx hb d_X_nth_21 ?_
    exact w_iret hc hw (⟨by unfold nthR; first | (exfalso; omega) | rw [if_pos (by omega)] | rw [if_neg (by omega)], rfl⟩) d_X_nth_22
  · refine lv_iload_n hx hb d_X_nth_4 rfl (lv_at hl 2 rfl) ?_
    refine lv_iload_n hx hb d_X_nth_5 rfl (lv_at hl 1 rfl) ?_
    refine z_icmp_ge hx hb 21 d_X_nth_6 (by omega) (by omega) (by decide) (fun c6 => ?_) (fun c6 => ?_)
    · refine z_ic hx hb d_X_nth_21 ?_
      exact w_iret hc hw (⟨by unfold nthR; first | (exfalso; omega) | rw [if_pos (by omega)] | rw [if_neg (by omega)], rfl⟩) d_X_nth_22
    · refine lv_iload_n hx hb d_X_nth_9 rfl (lv_at hl 2 rfl) ?_
      refine lv_aload_n hx hb d_X_nth_10 rfl (lv_at hl 0 rfl) ?_
      refine alX_F_probes hc hw d_X_nth_11 ?_
      refine z_icmp_ge hx hb 21 d_X_nth_12 (by omega) (by omega) (by decide) (fun c12 => ?_) (fun c12 => ?_)
      · refine z_ic hx hb d_X_nth_21 ?_
        exact w_iret hc hw (⟨by unfold nthR; first | (exfalso; omega) | rw [if_pos (by omega)] | rw [if_neg (by omega)], rfl⟩) d_X_nth_22
      · refine lv_aload_n hx hb d_X_nth_15 rfl (lv_at hl 0 rfl) ?_
        refine lv_iload_n hx hb d_X_nth_16 rfl (lv_at hl 2 rfl) ?_
        refine ldX_F_probes hc hw d_X_nth_17 (by omega) ?_
        refine lv_goto (tgt := 22) hx hb d_X_nth_18 (by decide) ?_
        exact w_iret hc hw (⟨by unfold nthR; first | (exfalso; omega) | rw [if_pos (by omega)] | rw [if_neg (by omega)], rfl⟩) d_X_nth_22
set_option maxHeartbeats 400000 in
set_option maxRecDepth 100000 in
theorem k_X_nth1 {l : Launch} {D : va_G} {ad : Nat → Nat} {ca : Nat → ClassId} (σ : St) (n k : Int) (hn : 0 ≤ n ∧ n ≤ 8) (hk : r32 k) : Cw l D cl7 (tyX ca) (wX ad ca) y_X_nth c_X_nth 3 (some .int) 0 [.ref (ad 21), .int (zI n), .int (zI k)] σ (RW (.int (zI (nthR σ 21 n k))) (σ = ·)) := by
  refine Cw.enter (by decide) (Nat.le_of_ble_eq_true rfl) ?_
  intro A p e s m below meth c hc ls hl hw
  have hl : lv_has ls 3 [(0, .ref (ad 21)), (1, .int (zI n)), (2, .int (zI k))] := hl
  obtain ⟨hx, hb, hml, hown, hTB, hK, hr, hlk⟩ := id hc
  refine lv_iload_n hx hb d_X_nth_0 rfl (lv_at hl 2 rfl) ?_
  refine z_if_lt hx hb 21 d_X_nth_1 (by omega) (by decide) (fun c1 => ?_) (fun c1 => ?_)
  · refine z_ic hx hb d_X_nth_21 ?_
    exact w_iret hc hw (⟨by unfold nthR; first | (exfalso; omega) | rw [if_pos (by omega)] | rw [if_neg (by omega)], rfl⟩) d_X_nth_22
  · refine lv_iload_n hx hb d_X_nth_4 rfl (lv_at hl 2 rfl) ?_
    refine lv_iload_n hx hb d_X_nth_5 rfl (lv_at hl 1 rfl) ?_
    refine z_icmp_ge hx hb 21 d_X_nth_6 (by omega) (by omega) (by decide) (fun c6 => ?_) (fun c6 => ?_)
    · refine z_ic hx hb d_X_nth_21 ?_
      exact w_iret hc hw (⟨by unfold nthR; first | (exfalso; omega) | rw [if_pos (by omega)] | rw [if_neg (by omega)], rfl⟩) d_X_nth_22
    · refine lv_iload_n hx hb d_X_nth_9 rfl (lv_at hl 2 rfl) ?_
      refine lv_aload_n hx hb d_X_nth_10 rfl (lv_at hl 0 rfl) ?_
      refine alX_F_left hc hw d_X_nth_11 ?_
      refine z_icmp_ge hx hb 21 d_X_nth_12 (by omega) (by omega) (by decide) (fun c12 => ?_) (fun c12 => ?_)
      · refine z_ic hx hb d_X_nth_21 ?_
        exact w_iret hc hw (⟨by unfold nthR; first | (exfalso; omega) | rw [if_pos (by omega)] | rw [if_neg (by omega)], rfl⟩) d_X_nth_22
      · refine lv_aload_n hx hb d_X_nth_15 rfl (lv_at hl 0 rfl) ?_
        refine lv_iload_n hx hb d_X_nth_16 rfl (lv_at hl 2 rfl) ?_
        refine ldX_F_left hc hw d_X_nth_17 (by omega) ?_
        refine lv_goto (tgt := 22) hx hb d_X_nth_18 (by decide) ?_
        exact w_iret hc hw (⟨by unfold nthR; first | (exfalso; omega) | rw [if_pos (by omega)] | rw [if_neg (by omega)], rfl⟩) d_X_nth_22
set_option maxHeartbeats 400000 in
set_option maxRecDepth 100000 in
theorem k_X_nth2 {l : Launch} {D : va_G} {ad : Nat → Nat} {ca : Nat → ClassId} (σ : St) (n k : Int) (hn : 0 ≤ n ∧ n ≤ 8) (hk : r32 k) : Cw l D cl7 (tyX ca) (wX ad ca) y_X_nth c_X_nth 3 (some .int) 0 [.ref (ad 22), .int (zI n), .int (zI k)] σ (RW (.int (zI (nthR σ 22 n k))) (σ = ·)) := by
  refine Cw.enter (by decide) (Nat.le_of_ble_eq_true rfl) ?_
  intro A p e s m below meth c hc ls hl hw
  have hl : lv_has ls 3 [(0, .ref (ad 22)), (1, .int (zI n)), (2, .int (zI k))] := hl
  obtain ⟨hx, hb, hml, hown, hTB, hK, hr, hlk⟩ := id hc
  refine lv_iload_n hx hb d_X_nth_0 rfl (lv_at hl 2 rfl) ?_
  refine z_if_lt hx hb 21 d_X_nth_1 (by omega) (by decide) (fun c1 => ?_) (fun c1 => ?_)
  · refine z_ic hx hb d_X_nth_21 ?_
    exact w_iret hc hw (⟨by unfold nthR; first | (exfalso; omega) | rw [if_pos (by omega)] | rw [if_neg (by omega)], rfl⟩) d_X_nth_22
  · refine lv_iload_n hx hb d_X_nth_4 rfl (lv_at hl 2 rfl) ?_
    refine lv_iload_n hx hb d_X_nth_5 rfl (lv_at hl 1 rfl) ?_
    refine z_icmp_ge hx hb 21 d_X_nth_6 (by omega) (by omega) (by decide) (fun c6 => ?_) (fun c6 => ?_)
    · refine z_ic hx hb d_X_nth_21 ?_
      exact w_iret hc hw (⟨by unfold nthR; first | (exfalso; omega) | rw [if_pos (by omega)] | rw [if_neg (by omega)], rfl⟩) d_X_nth_22
    · refine lv_iload_n hx hb d_X_nth_9 rfl (lv_at hl 2 rfl) ?_
      refine lv_aload_n hx hb d_X_nth_10 rfl (lv_at hl 0 rfl) ?_
      refine alX_F_flown hc hw d_X_nth_11 ?_
      refine z_icmp_ge hx hb 21 d_X_nth_12 (by omega) (by omega) (by decide) (fun c12 => ?_) (fun c12 => ?_)
      · refine z_ic hx hb d_X_nth_21 ?_
        exact w_iret hc hw (⟨by unfold nthR; first | (exfalso; omega) | rw [if_pos (by omega)] | rw [if_neg (by omega)], rfl⟩) d_X_nth_22
      · refine lv_aload_n hx hb d_X_nth_15 rfl (lv_at hl 0 rfl) ?_
        refine lv_iload_n hx hb d_X_nth_16 rfl (lv_at hl 2 rfl) ?_
        refine ldX_F_flown hc hw d_X_nth_17 (by omega) ?_
        refine lv_goto (tgt := 22) hx hb d_X_nth_18 (by decide) ?_
        exact w_iret hc hw (⟨by unfold nthR; first | (exfalso; omega) | rw [if_pos (by omega)] | rw [if_neg (by omega)], rfl⟩) d_X_nth_22
set_option maxHeartbeats 400000 in
set_option maxRecDepth 100000 in
theorem k_X_nth3 {l : Launch} {D : va_G} {ad : Nat → Nat} {ca : Nat → ClassId} (σ : St) (n k : Int) (hn : 0 ≤ n ∧ n ≤ 8) (hk : r32 k) : Cw l D cl7 (tyX ca) (wX ad ca) y_X_nth c_X_nth 3 (some .int) 0 [.ref (ad 23), .int (zI n), .int (zI k)] σ (RW (.int (zI (nthR σ 23 n k))) (σ = ·)) := by
  refine Cw.enter (by decide) (Nat.le_of_ble_eq_true rfl) ?_
  intro A p e s m below meth c hc ls hl hw
  have hl : lv_has ls 3 [(0, .ref (ad 23)), (1, .int (zI n)), (2, .int (zI k))] := hl
  obtain ⟨hx, hb, hml, hown, hTB, hK, hr, hlk⟩ := id hc
  refine lv_iload_n hx hb d_X_nth_0 rfl (lv_at hl 2 rfl) ?_
  refine z_if_lt hx hb 21 d_X_nth_1 (by omega) (by decide) (fun c1 => ?_) (fun c1 => ?_)
  · refine z_ic hx hb d_X_nth_21 ?_
    exact w_iret hc hw (⟨by unfold nthR; first | (exfalso; omega) | rw [if_pos (by omega)] | rw [if_neg (by omega)], rfl⟩) d_X_nth_22
  · refine lv_iload_n hx hb d_X_nth_4 rfl (lv_at hl 2 rfl) ?_
    refine lv_iload_n hx hb d_X_nth_5 rfl (lv_at hl 1 rfl) ?_
    refine z_icmp_ge hx hb 21 d_X_nth_6 (by omega) (by omega) (by decide) (fun c6 => ?_) (fun c6 => ?_)
    · refine z_ic hx hb d_X_nth_21 ?_
      exact w_iret hc hw (⟨by unfold nthR; first | (exfalso; omega) | rw [if_pos (by omega)] | rw [if_neg (by omega)], rfl⟩) d_X_nth_22
    · refine lv_iload_n hx hb d_X_nth_9 rfl (lv_at hl 2 rfl) ?_
      refine lv_aload_n hx hb d_X_nth_10 rfl (lv_at hl 0 rfl) ?_
      refine alX_F_sorted hc hw d_X_nth_11 ?_
      refine z_icmp_ge hx hb 21 d_X_nth_12 (by omega) (by omega) (by decide) (fun c12 => ?_) (fun c12 => ?_)
      · refine z_ic hx hb d_X_nth_21 ?_
        exact w_iret hc hw (⟨by unfold nthR; first | (exfalso; omega) | rw [if_pos (by omega)] | rw [if_neg (by omega)], rfl⟩) d_X_nth_22
      · refine lv_aload_n hx hb d_X_nth_15 rfl (lv_at hl 0 rfl) ?_
        refine lv_iload_n hx hb d_X_nth_16 rfl (lv_at hl 2 rfl) ?_
        refine ldX_F_sorted hc hw d_X_nth_17 (by omega) ?_
        refine lv_goto (tgt := 22) hx hb d_X_nth_18 (by decide) ?_
        exact w_iret hc hw (⟨by unfold nthR; first | (exfalso; omega) | rw [if_pos (by omega)] | rw [if_neg (by omega)], rfl⟩) d_X_nth_22
set_option maxHeartbeats 400000 in
set_option maxRecDepth 100000 in
theorem k_JA_fill {l : Launch} {D : va_G} {ad : Nat → Nat} {ca : Nat → ClassId} (σ : St) (v : Int) (hv : r32 v) : Cw l D cl7 (tyX ca) (wX ad ca) y_JA_fill c_JA_fill 4 none 0 [.ref (ad 14), .int (zI v)] σ (VW (fillA σ 14 24 v = ·)) := by
  refine Cw.enterF (by decide +kernel) (Nat.le_of_ble_eq_true rfl) ?_
  intro A p e s m below meth c hc ls hl hw
  have hl : lv_has ls 4 [(0, .ref (ad 14)), (1, .int (zI v))] := hl
  obtain ⟨hx, hb, hml, hown, hTB, hK, hr, hlk⟩ := id hc
  refine z_ic hx hb d_JA_fill_0 ?_
  refine z_ist_n hx hb d_JA_fill_1 rfl hl (by decide) (fun x2_1 ex2_1 ls (hl : lv_has ls 4 [(2, .int (zI x2_1)), (0, .ref (ad 14)), (1, .int (zI v))]) => ?_)
  refine lv_aload_n hx hb d_JA_fill_2 rfl (lv_at hl 1 rfl) ?_
  refine alX_S_clashes hc hw d_JA_fill_3 ?_
  refine z_ist_n hx hb d_JA_fill_4 rfl hl (by decide) (fun x3_4 ex3_4 ls (hl : lv_has ls 4 [(3, .int (zI x3_4)), (2, .int (zI x2_1)), (0, .ref (ad 14)), (1, .int (zI v))]) => ?_)
  have L5 : ∀ (n : Nat) (i : Int) (τ : St) (H : Heap) (locs : List Loc), (0 ≤ i ∧ i ≤ 24) → (τ = fillA σ 14 i v) → (24 - i).toNat < n → Wd D cl7 (wX ad ca) A s.heap τ H locs → ∀ ls : Array Slot, lv_has ls 4 [(2, .int (zI i)), (3, .int (zI x3_4)), (0, .ref (ad 14)), (1, .int (zI v))] → W p l e (Rmh 0) s m ([.ref (ad 14), .int (zI v)] : List Value).toArray below meth c H locs 0 0 (MQ below (Qw D cl7 (wX ad ca) A (VW (fillA σ 14 24 v = ·))) ([.ref (ad 14), .int (zI v)] : List Value).toArray s 0 0 A) (F0 m 5 ls []) := by
    intro n
    induction n with
    | zero => intro i τ H locs hi hτ hm; exact absurd hm (Nat.not_lt_zero _)
    | succ n ih5 =>
      intro i τ H locs hi hτ hm5 hw ls hl
      refine lv_iload_n hx hb d_JA_fill_5 rfl (lv_at hl 0 rfl) ?_
      refine lv_iload_n hx hb d_JA_fill_6 rfl (lv_at hl 1 rfl) ?_
      refine z_icmp_ge hx hb 20 d_JA_fill_7 (by omega) (by omega) (by decide) (fun c7 => ?_) (fun c7 => ?_)
      · exact w_vret hc hw (⟨rfl, by rw [hτ, show i = 24 by omega]⟩) d_JA_fill_20
      · refine lv_aload_n hx hb d_JA_fill_10 rfl (lv_at hl 2 rfl) ?_
        refine lv_iload_n hx hb d_JA_fill_11 rfl (lv_at hl 0 rfl) ?_
        refine lv_iload_n hx hb d_JA_fill_12 rfl (lv_at hl 3 rfl) ?_
        refine stX_S_clashes hc hw d_JA_fill_13 (by omega) (fun H locs hw => ?_)
        refine z_iinc (k := 0) hx hb d_JA_fill_14 hl rfl (by decide) (fun x2_14 ex2_14 ls (hl : lv_has ls 4 [(2, .int (zI x2_14)), (3, .int (zI x3_4)), (0, .ref (ad 14)), (1, .int (zI v))]) => ?_)
        refine lv_goto (tgt := 5) hx hb d_JA_fill_17 (by decide) ?_
        exact ih5 x2_14 _ _ _ (by omega) (by rw [hτ, fillA_s σ 14 i v hi.1, ex2_14]) (by omega) hw ls (lv_sub hl [0, 1, 2, 3] rfl)
  exact L5 _ x2_1 _ _ _ (by omega) (by subst_vars; exact (fillA_0 σ 14 v).symm) (Nat.lt_succ_self _) hw ls (lv_sub hl [1, 0, 2, 3] rfl)
set_option maxHeartbeats 400000 in
set_option maxRecDepth 100000 in
theorem k_X_nthBit {l : Launch} {D : va_G} {ad : Nat → Nat} {ca : Nat → ClassId} (σ : St) (a k : Int) (ha : 0 ≤ a ∧ a < 4096) (hk : r32 k) : Cw l D cl7 (tyX ca) (wX ad ca) y_X_nthBit c_X_nthBit 4 (some .int) 1 [.int (zI a), .int (zI k)] σ (RW (.int (zI (nbF a k 12 0 0))) (σ = ·)) := by
  generalize hN0 : nbF a k 12 0 0 = N0
  refine Cw.enter (by decide) (Nat.le_of_ble_eq_true rfl) ?_
  intro A p e s m below meth c hc ls hl hw
  have hl : lv_has ls 4 [(0, .int (zI a)), (1, .int (zI k))] := hl
  obtain ⟨hx, hb, hml, hown, hTB, hK, hr, hlk⟩ := id hc
  refine z_ic hx hb d_X_nthBit_0 ?_
  refine z_ist_n hx hb d_X_nthBit_1 rfl hl (by decide) (fun x2_1 ex2_1 ls (hl : lv_has ls 4 [(2, .int (zI x2_1)), (0, .int (zI a)), (1, .int (zI k))]) => ?_)
  refine z_ic hx hb d_X_nthBit_2 ?_
  refine z_ist_n hx hb d_X_nthBit_3 rfl hl (by decide) (fun x3_3 ex3_3 ls (hl : lv_has ls 4 [(3, .int (zI x3_3)), (2, .int (zI x2_1)), (0, .int (zI a)), (1, .int (zI k))]) => ?_)
  have L4 : ∀ (n : Nat) (net : Int) (bf : Int) (H : Heap) (locs : List Loc), (0 ≤ net ∧ net ≤ 12 ∧ 0 ≤ bf ∧ bf ≤ net) → (N0 = nbF a k (12 - net).toNat net bf) → (12 - net).toNat < n → Wd D cl7 (wX ad ca) A s.heap σ H locs → ∀ ls : Array Slot, lv_has ls 4 [(3, .int (zI net)), (2, .int (zI bf)), (0, .int (zI a)), (1, .int (zI k))] → W p l e (Rmh 1) s m ([.int (zI a), .int (zI k)] : List Value).toArray below meth c H locs 0 0 (MQ below (Qw D cl7 (wX ad ca) A (RW (.int (zI N0)) (σ = ·))) ([.int (zI a), .int (zI k)] : List Value).toArray s 0 0 A) (F0 m 4 ls []) := by
    intro n
    induction n with
    | zero => intro net bf  H locs hi hN hm; exact absurd hm (Nat.not_lt_zero _)
    | succ n ih4 =>
      intro net bf  H locs hi hN hm4 hw ls hl
      refine lv_iload_n hx hb d_X_nthBit_4 rfl (lv_at hl 0 rfl) ?_
      refine z_bi hx hb d_X_nthBit_5 (by decide) ?_
      refine z_icmp_ge hx hb 34 d_X_nthBit_7 (by omega) (by omega) (by decide) (fun c7 => ?_) (fun c7 => ?_)
      · refine z_ic hx hb d_X_nthBit_34 ?_
        exact w_iret hc hw (⟨by rw [hN, show (12 - net).toNat = 0 by omega]; rfl, rfl⟩) d_X_nthBit_35
      · have q : (12 - net).toNat = (12 - (net + 1)).toNat + 1 := by omega
        rw [q, nbF_s] at hN
        refine lv_iload_n hx hb d_X_nthBit_10 rfl (lv_at hl 2 rfl) ?_
        refine lv_iload_n hx hb d_X_nthBit_11 rfl (lv_at hl 0 rfl) ?_
        refine w_csR hc hw (k_X_hasBit _ _ _ (by omega) (by omega)) yw_X_hasBit yi_X_hasBit lk_X_203 d_X_nthBit_12 rfl rfl hl.1 (Nat.le_of_ble_eq_true rfl) ⟨Nat.le_of_ble_eq_true rfl, Nat.le_of_ble_eq_true rfl⟩ ⟨Nat.zero_le _, Nat.zero_le _⟩ (fun τ12 H locs hτ12 hw => ?_)
        subst hτ12
        refine z_ifb_eq hx hb 28 d_X_nthBit_15 (by decide) (fun c15 => ?_) (fun c15 => ?_)
        · refine z_iinc (k := 0) hx hb d_X_nthBit_28 hl rfl (by decide) (fun x3_28 ex3_28 ls (hl : lv_has ls 4 [(3, .int (zI x3_28)), (2, .int (zI bf)), (0, .int (zI a)), (1, .int (zI k))]) => ?_)
          refine lv_goto (tgt := 4) hx hb d_X_nthBit_31 (by decide) ?_
          exact ih4 x3_28 bf _ _ (by omega) (by rw [hN, show (12 - x3_28).toNat = (12 - (net + 1)).toNat from (by omega), ex3_28]; first | (rw [if_neg c15]; done) | (rw [if_pos c15, if_neg c20, ex2_25])) (by omega) hw ls (lv_sub hl [0, 1, 2, 3] rfl)
        · refine lv_iload_n hx hb d_X_nthBit_18 rfl (lv_at hl 1 rfl) ?_
          refine lv_iload_n hx hb d_X_nthBit_19 rfl (lv_at hl 3 rfl) ?_
          refine z_icmp_ne hx hb 25 d_X_nthBit_20 (by omega) (by omega) (by decide) (fun c20 => ?_) (fun c20 => ?_)
          · refine z_iinc (k := 1) hx hb d_X_nthBit_25 hl rfl (by decide) (fun x2_25 ex2_25 ls (hl : lv_has ls 4 [(2, .int (zI x2_25)), (3, .int (zI net)), (0, .int (zI a)), (1, .int (zI k))]) => ?_)
            refine z_iinc (k := 1) hx hb d_X_nthBit_28 hl rfl (by decide) (fun x3_28 ex3_28 ls (hl : lv_has ls 4 [(3, .int (zI x3_28)), (2, .int (zI x2_25)), (0, .int (zI a)), (1, .int (zI k))]) => ?_)
            refine lv_goto (tgt := 4) hx hb d_X_nthBit_31 (by decide) ?_
            exact ih4 x3_28 x2_25 _ _ (by omega) (by rw [hN, show (12 - x3_28).toNat = (12 - (net + 1)).toNat from (by omega), ex3_28]; first | (rw [if_neg c15]; done) | (rw [if_pos c15, if_neg c20, ex2_25])) (by omega) hw ls (lv_sub hl [0, 1, 2, 3] rfl)
          · refine lv_iload_n hx hb d_X_nthBit_23 rfl (lv_at hl 0 rfl) ?_
            exact w_iret hc hw (⟨by rw [hN, if_pos c15, if_pos c20], rfl⟩) d_X_nthBit_24
  exact L4 _ x3_3 x2_1 _ _ (by omega) (by rw [ex3_3, ex2_1, show ((12 : Int) - 0).toNat = 12 from (by decide)]; exact hN0.symm) (Nat.lt_succ_self _) hw ls (lv_sub hl [0, 1, 2, 3] rfl)
set_option maxHeartbeats 400000 in
set_option maxRecDepth 100000 in
theorem k_R_countOf {l : Launch} {D : va_G} {ad : Nat → Nat} {ca : Nat → ClassId} (σ : St) (n : Int) (hn : 0 ≤ n ∧ n < 12) (hO : ∀ i, 0 ≤ σ 40 i ∧ σ 40 i < 4096) : Cw l D cl7 (tyX ca) (wX ad ca) y_R_countOf c_R_countOf 2 (some .int) 1 [.ref (ad 104), .int (zI n)] σ (RW (.int (zI (popc (σ 40 n)))) (σ = ·)) := by
  refine Cw.enter (by decide) (Nat.le_of_ble_eq_true rfl) ?_
  intro A p e s m below meth c hc ls hl hw
  have hl : lv_has ls 2 [(0, .ref (ad 104)), (1, .int (zI n))] := hl
  obtain ⟨hx, hb, hml, hown, hTB, hK, hr, hlk⟩ := id hc
  refine lv_aload_n hx hb d_R_countOf_0 rfl (lv_at hl 0 rfl) ?_
  refine gX_R_others hc hw lk_R_9 d_R_countOf_1 ?_
  refine lv_iload_n hx hb d_R_countOf_4 rfl (lv_at hl 1 rfl) ?_
  refine ldX_R_others hc hw d_R_countOf_5 (by omega) ?_
  refine w_csR hc hw (k_JI_bitCount _ _ (hO n)) yw_JI_bitCount yi_JI_bitCount lk_R_23 d_R_countOf_6 rfl rfl hl.1 (Nat.le_of_ble_eq_true rfl) ⟨Nat.le_of_ble_eq_true rfl, Nat.le_of_ble_eq_true rfl⟩ ⟨Nat.zero_le _, Nat.zero_le _⟩ (fun τ6 H locs hτ6 hw => ?_)
  subst hτ6
  exact w_iret hc hw (⟨rfl, rfl⟩) d_R_countOf_9
set_option maxHeartbeats 400000 in
set_option maxRecDepth 100000 in
theorem k_R_add {l : Launch} {D : va_G} {ad : Nat → Nat} {ca : Nat → ClassId} (σ : St) (a b : Int) (ha : 0 ≤ a ∧ a < 12) (hb2 : 0 ≤ b ∧ b < 12) (hO : ∀ i, 0 ≤ σ 40 i ∧ σ 40 i < 4096) : Cw l D cl7 (tyX ca) (wX ad ca) y_R_add c_R_add 3 (some .boolean) 1 [.ref (ad 104), .int (zI a), .int (zI b)] σ (RW (.int (zI (bI (¬ zB (σ 40 a) b)))) ((if zB (σ 40 a) b then σ else rAdd σ a b) = ·)) := by
  have hOa := hO a
  have hOb := hO b
  have hpa := p2_bd (k := 12) ha
  have hpb := p2_bd (k := 12) hb2
  refine Cw.enter (by decide) (Nat.le_of_ble_eq_true rfl) ?_
  intro A p e s m below meth c hc ls hl hw
  have hl : lv_has ls 3 [(0, .ref (ad 104)), (1, .int (zI a)), (2, .int (zI b))] := hl
  obtain ⟨hx, hb, hml, hown, hTB, hK, hr, hlk⟩ := id hc
  refine lv_aload_n hx hb d_R_add_0 rfl (lv_at hl 0 rfl) ?_
  refine gX_R_others hc hw lk_R_9 d_R_add_1 ?_
  refine lv_iload_n hx hb d_R_add_4 rfl (lv_at hl 1 rfl) ?_
  refine ldX_R_others hc hw d_R_add_5 (by omega) ?_
  refine lv_iload_n hx hb d_R_add_6 rfl (lv_at hl 2 rfl) ?_
  refine w_csNR hc hw (k_X_hasBit _ _ _ (by omega) (by omega)) yw_X_hasBit yi_X_hasBit lk_R_15 d_R_add_7 rfl rfl hl.1 (Nat.le_of_ble_eq_true rfl) ⟨Nat.le_of_ble_eq_true rfl, Nat.le_of_ble_eq_true rfl⟩ ⟨Nat.zero_le _, Nat.zero_le _⟩ (fun τ7 H locs hτ7 hw => ?_)
  subst hτ7
  refine z_ifb_eq hx hb 15 d_R_add_10 (by decide) (fun c10 => ?_) (fun c10 => ?_)
  · refine lv_aload_n hx hb d_R_add_15 rfl (lv_at hl 0 rfl) ?_
    refine gX_R_others hc hw lk_R_9 d_R_add_16 ?_
    refine lv_iload_n hx hb d_R_add_19 rfl (lv_at hl 1 rfl) ?_
    refine lv_dup2_11 hx hb d_R_add_20 rfl rfl ?_
    refine ldX_R_others hc hw d_R_add_21 (by omega) ?_
    refine z_ic hx hb d_R_add_22 ?_
    refine lv_iload_n hx hb d_R_add_23 rfl (lv_at hl 2 rfl) ?_
    refine z_shl1 hx hb d_R_add_24 (by omega) ?_
    refine z_ior hx hb d_R_add_25 (⟨hOa.1, hpb.1⟩) ?_
    refine stX_R_others hc hw d_R_add_26 (by omega) (fun H locs hw => ?_)
    refine lv_aload_n hx hb d_R_add_27 rfl (lv_at hl 0 rfl) ?_
    refine gX_R_others hc hw lk_R_9 d_R_add_28 ?_
    refine lv_iload_n hx hb d_R_add_31 rfl (lv_at hl 2 rfl) ?_
    refine lv_dup2_11 hx hb d_R_add_32 rfl rfl ?_
    refine ldX_R_others hc hw d_R_add_33 (by omega) ?_
    refine z_ic hx hb d_R_add_34 ?_
    refine lv_iload_n hx hb d_R_add_35 rfl (lv_at hl 1 rfl) ?_
    refine z_shl1 hx hb d_R_add_36 (by omega) ?_
    refine z_ior hx hb d_R_add_37 (⟨by unfold up; split; exact (zOr_bd (k := 12) hOa hpb).1; exact hOb.1, hpa.1⟩) ?_
    refine stX_R_others hc hw d_R_add_38 (by omega) (fun H locs hw => ?_)
    refine lv_aload_n hx hb d_R_add_39 rfl (lv_at hl 0 rfl) ?_
    refine z_ic hx hb d_R_add_40 ?_
    refine pX_R_isStale hc hw lk_R_19 d_R_add_41 (by omega) (fun H locs hw => ?_)
    refine z_ic hx hb d_R_add_44 ?_
    exact w_zret hc hw (by omega) (⟨by rw [bI_t c10], if_neg c10⟩) d_R_add_45
  · refine z_ic hx hb d_R_add_13 ?_
    exact w_zret hc hw (by omega) (⟨by rw [bI_f (fun q => q c10)], if_pos c10⟩) d_R_add_14
set_option maxHeartbeats 400000 in
set_option maxRecDepth 100000 in
theorem k_P_pairOf {l : Launch} {D : va_G} {ad : Nat → Nat} {ca : Nat → ClassId} (σ : St) (a b : Int) (ha : 0 ≤ a ∧ a < 12) (hb2 : 0 ≤ b ∧ b < 12) : Cw l D cl7 (tyX ca) (wX ad ca) y_P_pairOf c_P_pairOf 2 (some .int) 1 [.int (zI a), .int (zI b)] σ (RW (.int (zI (prOf a b))) (σ = ·)) := by
  refine Cw.enter (by decide) (Nat.le_of_ble_eq_true rfl) ?_
  intro A p e s m below meth c hc ls hl hw
  have hl : lv_has ls 2 [(0, .int (zI a)), (1, .int (zI b))] := hl
  obtain ⟨hx, hb, hml, hown, hTB, hK, hr, hlk⟩ := id hc
  refine lv_iload_n hx hb d_P_pairOf_0 rfl (lv_at hl 0 rfl) ?_
  refine lv_iload_n hx hb d_P_pairOf_1 rfl (lv_at hl 1 rfl) ?_
  refine w_csR hc hw (k_JM_min _ _ _ (by omega) (by omega)) yw_JM_min yi_JM_min lk_P_47 d_P_pairOf_2 rfl rfl hl.1 (Nat.le_of_ble_eq_true rfl) ⟨Nat.le_of_ble_eq_true rfl, Nat.le_of_ble_eq_true rfl⟩ ⟨Nat.zero_le _, Nat.zero_le _⟩ (fun τ2 H locs hτ2 hw => ?_)
  subst hτ2
  refine z_bi hx hb d_P_pairOf_5 (by decide) ?_
  refine z_imul hx hb d_P_pairOf_7 ?_
  refine lv_iload_n hx hb d_P_pairOf_8 rfl (lv_at hl 0 rfl) ?_
  refine lv_iload_n hx hb d_P_pairOf_9 rfl (lv_at hl 1 rfl) ?_
  refine w_csR hc hw (k_JM_max _ _ _ (by omega) (by omega)) yw_JM_max yi_JM_max lk_P_50 d_P_pairOf_10 rfl rfl hl.1 (Nat.le_of_ble_eq_true rfl) ⟨Nat.le_of_ble_eq_true rfl, Nat.le_of_ble_eq_true rfl⟩ ⟨Nat.zero_le _, Nat.zero_le _⟩ (fun τ10 H locs hτ10 hw => ?_)
  subst hτ10
  refine z_iadd hx hb d_P_pairOf_13 ?_
  exact w_iret hc hw (⟨rfl, rfl⟩) d_P_pairOf_14
set_option maxHeartbeats 400000 in
set_option maxRecDepth 100000 in
theorem k_P_addInverse0 {l : Launch} {D : va_G} {ad : Nat → Nat} {ca : Nat → ClassId} (σ : St) (pp r : Int) (hp : 0 ≤ pp ∧ pp < 144) (hC : ∀ i, 0 ≤ σ 30 i ∧ σ 30 i ≤ 4) : Cw l D cl7 (tyX ca) (wX ad ca) y_P_addInverse c_P_addInverse 7 none 0 [.ref (ad 103), .int (zI 0), .int (zI pp), .long (zL r)] σ (VW (pInv 0 σ pp r = ·)) := by
  have hCp := hC pp
  refine Cw.enter (by decide) (Nat.le_of_ble_eq_true rfl) ?_
  intro A p e s m below meth c hc ls hl hw
  have hl : lv_has ls 7 [(0, .ref (ad 103)), (1, .int (zI 0)), (2, .int (zI pp)), (3, .long (zL r))] := hl
  obtain ⟨hx, hb, hml, hown, hTB, hK, hr, hlk⟩ := id hc
  refine lv_aload_n hx hb d_P_addInverse_0 rfl (lv_at hl 0 rfl) ?_
  refine gX_P_counts hc hw lk_P_11 d_P_addInverse_1 ?_
  refine lv_iload_n hx hb d_P_addInverse_4 rfl (lv_at hl 2 rfl) ?_
  refine ldX_P_counts hc hw d_P_addInverse_5 (by omega) ?_
  refine z_if_ne hx hb 13 d_P_addInverse_6 (by omega) (by decide) (fun c6 => ?_) (fun c6 => ?_)
  · refine lv_aload_n hx hb d_P_addInverse_13 rfl (lv_at hl 0 rfl) ?_
    refine gX_P_below hc hw lk_P_23 d_P_addInverse_14 ?_
    refine lv_iload_n hx hb d_P_addInverse_17 rfl (lv_at hl 1 rfl) ?_
    refine laX_P_below0 hc hw d_P_addInverse_18 ?_
    refine lv_iload_n hx hb d_P_addInverse_19 rfl (lv_at hl 2 rfl) ?_
    refine ldX_P_below0 hc hw d_P_addInverse_20 (by omega) ?_
    refine z_lst hx hb d_P_addInverse_21 hl (by decide) (fun x5_21 ex5_21 ls (hl : lv_has ls 7 [(5, .long (zL x5_21)), (0, .ref (ad 103)), (1, .int (zI 0)), (2, .int (zI pp)), (3, .long (zL r))]) => ?_)
    subst ex5_21
    refine lv_aload_n hx hb d_P_addInverse_23 rfl (lv_at hl 1 rfl) ?_
    refine gX_P_above hc hw lk_P_20 d_P_addInverse_24 ?_
    refine lv_iload_n hx hb d_P_addInverse_27 rfl (lv_at hl 2 rfl) ?_
    refine laX_P_above0 hc hw d_P_addInverse_28 ?_
    refine lv_iload_n hx hb d_P_addInverse_29 rfl (lv_at hl 3 rfl) ?_
    refine lv_aload_n hx hb d_P_addInverse_30 rfl (lv_at hl 1 rfl) ?_
    refine gX_P_above hc hw lk_P_20 d_P_addInverse_31 ?_
    refine lv_iload_n hx hb d_P_addInverse_34 rfl (lv_at hl 2 rfl) ?_
    refine laX_P_above0 hc hw d_P_addInverse_35 ?_
    refine lv_iload_n hx hb d_P_addInverse_36 rfl (lv_at hl 3 rfl) ?_
    refine ldX_P_above0 hc hw d_P_addInverse_37 (by omega) ?_
    refine lv_lload_n hx hb d_P_addInverse_38 rfl (lv_at hl 4 rfl) ?_
    refine z_lmul hx hb d_P_addInverse_39 ?_
    refine lv_lload hx hb d_P_addInverse_40 (lv_at hl 0 rfl) ?_
    refine z_ladd hx hb d_P_addInverse_42 ?_
    refine stX_P_above0 hc hw d_P_addInverse_43 (by omega) (fun H locs hw => ?_)
    refine lv_aload_n hx hb d_P_addInverse_44 rfl (lv_at hl 1 rfl) ?_
    refine gX_P_below hc hw lk_P_23 d_P_addInverse_45 ?_
    refine lv_iload_n hx hb d_P_addInverse_48 rfl (lv_at hl 2 rfl) ?_
    refine laX_P_below0 hc hw d_P_addInverse_49 ?_
    refine lv_iload_n hx hb d_P_addInverse_50 rfl (lv_at hl 3 rfl) ?_
    refine lv_lload hx hb d_P_addInverse_51 (lv_at hl 0 rfl) ?_
    refine lv_lload_n hx hb d_P_addInverse_53 rfl (lv_at hl 4 rfl) ?_
    refine z_lmul hx hb d_P_addInverse_54 ?_
    refine stX_P_below0 hc hw d_P_addInverse_55 (by omega) (fun H locs hw => ?_)
    exact w_vret hc hw (⟨rfl, by unfold pInv; simp [c6]⟩) d_P_addInverse_56
  · refine z_lc1 hx hb d_P_addInverse_9 ?_
    refine lv_goto (tgt := 21) hx hb d_P_addInverse_10 (by decide) ?_
    refine z_lst hx hb d_P_addInverse_21 hl (by decide) (fun x5_21 ex5_21 ls (hl : lv_has ls 7 [(5, .long (zL x5_21)), (0, .ref (ad 103)), (1, .int (zI 0)), (2, .int (zI pp)), (3, .long (zL r))]) => ?_)
    subst ex5_21
    refine lv_aload_n hx hb d_P_addInverse_23 rfl (lv_at hl 1 rfl) ?_
    refine gX_P_above hc hw lk_P_20 d_P_addInverse_24 ?_
    refine lv_iload_n hx hb d_P_addInverse_27 rfl (lv_at hl 2 rfl) ?_
    refine laX_P_above0 hc hw d_P_addInverse_28 ?_
    refine lv_iload_n hx hb d_P_addInverse_29 rfl (lv_at hl 3 rfl) ?_
    refine lv_aload_n hx hb d_P_addInverse_30 rfl (lv_at hl 1 rfl) ?_
    refine gX_P_above hc hw lk_P_20 d_P_addInverse_31 ?_
    refine lv_iload_n hx hb d_P_addInverse_34 rfl (lv_at hl 2 rfl) ?_
    refine laX_P_above0 hc hw d_P_addInverse_35 ?_
    refine lv_iload_n hx hb d_P_addInverse_36 rfl (lv_at hl 3 rfl) ?_
    refine ldX_P_above0 hc hw d_P_addInverse_37 (by omega) ?_
    refine lv_lload_n hx hb d_P_addInverse_38 rfl (lv_at hl 4 rfl) ?_
    refine z_lmul hx hb d_P_addInverse_39 ?_
    refine lv_lload hx hb d_P_addInverse_40 (lv_at hl 0 rfl) ?_
    refine z_ladd hx hb d_P_addInverse_42 ?_
    refine stX_P_above0 hc hw d_P_addInverse_43 (by omega) (fun H locs hw => ?_)
    refine lv_aload_n hx hb d_P_addInverse_44 rfl (lv_at hl 1 rfl) ?_
    refine gX_P_below hc hw lk_P_23 d_P_addInverse_45 ?_
    refine lv_iload_n hx hb d_P_addInverse_48 rfl (lv_at hl 2 rfl) ?_
    refine laX_P_below0 hc hw d_P_addInverse_49 ?_
    refine lv_iload_n hx hb d_P_addInverse_50 rfl (lv_at hl 3 rfl) ?_
    refine lv_lload hx hb d_P_addInverse_51 (lv_at hl 0 rfl) ?_
    refine lv_lload_n hx hb d_P_addInverse_53 rfl (lv_at hl 4 rfl) ?_
    refine z_lmul hx hb d_P_addInverse_54 ?_
    refine stX_P_below0 hc hw d_P_addInverse_55 (by omega) (fun H locs hw => ?_)
    exact w_vret hc hw (⟨rfl, by unfold pInv; simp [c6]⟩) d_P_addInverse_56
set_option maxHeartbeats 400000 in
set_option maxRecDepth 100000 in
theorem k_P_addInverse1 {l : Launch} {D : va_G} {ad : Nat → Nat} {ca : Nat → ClassId} (σ : St) (pp r : Int) (hp : 0 ≤ pp ∧ pp < 144) (hC : ∀ i, 0 ≤ σ 30 i ∧ σ 30 i ≤ 4) : Cw l D cl7 (tyX ca) (wX ad ca) y_P_addInverse c_P_addInverse 7 none 0 [.ref (ad 103), .int (zI 1), .int (zI pp), .long (zL r)] σ (VW (pInv 1 σ pp r = ·)) := by
  have hCp := hC pp
  refine Cw.enter (by decide) (Nat.le_of_ble_eq_true rfl) ?_
  intro A p e s m below meth c hc ls hl hw
  have hl : lv_has ls 7 [(0, .ref (ad 103)), (1, .int (zI 1)), (2, .int (zI pp)), (3, .long (zL r))] := hl
  obtain ⟨hx, hb, hml, hown, hTB, hK, hr, hlk⟩ := id hc
  refine lv_aload_n hx hb d_P_addInverse_0 rfl (lv_at hl 0 rfl) ?_
  refine gX_P_counts hc hw lk_P_11 d_P_addInverse_1 ?_
  refine lv_iload_n hx hb d_P_addInverse_4 rfl (lv_at hl 2 rfl) ?_
  refine ldX_P_counts hc hw d_P_addInverse_5 (by omega) ?_
  refine z_if_ne hx hb 13 d_P_addInverse_6 (by omega) (by decide) (fun c6 => ?_) (fun c6 => ?_)
  · refine lv_aload_n hx hb d_P_addInverse_13 rfl (lv_at hl 0 rfl) ?_
    refine gX_P_below hc hw lk_P_23 d_P_addInverse_14 ?_
    refine lv_iload_n hx hb d_P_addInverse_17 rfl (lv_at hl 1 rfl) ?_
    refine laX_P_below1 hc hw d_P_addInverse_18 ?_
    refine lv_iload_n hx hb d_P_addInverse_19 rfl (lv_at hl 2 rfl) ?_
    refine ldX_P_below1 hc hw d_P_addInverse_20 (by omega) ?_
    refine z_lst hx hb d_P_addInverse_21 hl (by decide) (fun x5_21 ex5_21 ls (hl : lv_has ls 7 [(5, .long (zL x5_21)), (0, .ref (ad 103)), (1, .int (zI 1)), (2, .int (zI pp)), (3, .long (zL r))]) => ?_)
    subst ex5_21
    refine lv_aload_n hx hb d_P_addInverse_23 rfl (lv_at hl 1 rfl) ?_
    refine gX_P_above hc hw lk_P_20 d_P_addInverse_24 ?_
    refine lv_iload_n hx hb d_P_addInverse_27 rfl (lv_at hl 2 rfl) ?_
    refine laX_P_above1 hc hw d_P_addInverse_28 ?_
    refine lv_iload_n hx hb d_P_addInverse_29 rfl (lv_at hl 3 rfl) ?_
    refine lv_aload_n hx hb d_P_addInverse_30 rfl (lv_at hl 1 rfl) ?_
    refine gX_P_above hc hw lk_P_20 d_P_addInverse_31 ?_
    refine lv_iload_n hx hb d_P_addInverse_34 rfl (lv_at hl 2 rfl) ?_
    refine laX_P_above1 hc hw d_P_addInverse_35 ?_
    refine lv_iload_n hx hb d_P_addInverse_36 rfl (lv_at hl 3 rfl) ?_
    refine ldX_P_above1 hc hw d_P_addInverse_37 (by omega) ?_
    refine lv_lload_n hx hb d_P_addInverse_38 rfl (lv_at hl 4 rfl) ?_
    refine z_lmul hx hb d_P_addInverse_39 ?_
    refine lv_lload hx hb d_P_addInverse_40 (lv_at hl 0 rfl) ?_
    refine z_ladd hx hb d_P_addInverse_42 ?_
    refine stX_P_above1 hc hw d_P_addInverse_43 (by omega) (fun H locs hw => ?_)
    refine lv_aload_n hx hb d_P_addInverse_44 rfl (lv_at hl 1 rfl) ?_
    refine gX_P_below hc hw lk_P_23 d_P_addInverse_45 ?_
    refine lv_iload_n hx hb d_P_addInverse_48 rfl (lv_at hl 2 rfl) ?_
    refine laX_P_below1 hc hw d_P_addInverse_49 ?_
    refine lv_iload_n hx hb d_P_addInverse_50 rfl (lv_at hl 3 rfl) ?_
    refine lv_lload hx hb d_P_addInverse_51 (lv_at hl 0 rfl) ?_
    refine lv_lload_n hx hb d_P_addInverse_53 rfl (lv_at hl 4 rfl) ?_
    refine z_lmul hx hb d_P_addInverse_54 ?_
    refine stX_P_below1 hc hw d_P_addInverse_55 (by omega) (fun H locs hw => ?_)
    exact w_vret hc hw (⟨rfl, by unfold pInv; simp [c6]⟩) d_P_addInverse_56
  · refine z_lc1 hx hb d_P_addInverse_9 ?_
    refine lv_goto (tgt := 21) hx hb d_P_addInverse_10 (by decide) ?_
    refine z_lst hx hb d_P_addInverse_21 hl (by decide) (fun x5_21 ex5_21 ls (hl : lv_has ls 7 [(5, .long (zL x5_21)), (0, .ref (ad 103)), (1, .int (zI 1)), (2, .int (zI pp)), (3, .long (zL r))]) => ?_)
    subst ex5_21
    refine lv_aload_n hx hb d_P_addInverse_23 rfl (lv_at hl 1 rfl) ?_
    refine gX_P_above hc hw lk_P_20 d_P_addInverse_24 ?_
    refine lv_iload_n hx hb d_P_addInverse_27 rfl (lv_at hl 2 rfl) ?_
    refine laX_P_above1 hc hw d_P_addInverse_28 ?_
    refine lv_iload_n hx hb d_P_addInverse_29 rfl (lv_at hl 3 rfl) ?_
    refine lv_aload_n hx hb d_P_addInverse_30 rfl (lv_at hl 1 rfl) ?_
    refine gX_P_above hc hw lk_P_20 d_P_addInverse_31 ?_
    refine lv_iload_n hx hb d_P_addInverse_34 rfl (lv_at hl 2 rfl) ?_
    refine laX_P_above1 hc hw d_P_addInverse_35 ?_
    refine lv_iload_n hx hb d_P_addInverse_36 rfl (lv_at hl 3 rfl) ?_
    refine ldX_P_above1 hc hw d_P_addInverse_37 (by omega) ?_
    refine lv_lload_n hx hb d_P_addInverse_38 rfl (lv_at hl 4 rfl) ?_
    refine z_lmul hx hb d_P_addInverse_39 ?_
    refine lv_lload hx hb d_P_addInverse_40 (lv_at hl 0 rfl) ?_
    refine z_ladd hx hb d_P_addInverse_42 ?_
    refine stX_P_above1 hc hw d_P_addInverse_43 (by omega) (fun H locs hw => ?_)
    refine lv_aload_n hx hb d_P_addInverse_44 rfl (lv_at hl 1 rfl) ?_
    refine gX_P_below hc hw lk_P_23 d_P_addInverse_45 ?_
    refine lv_iload_n hx hb d_P_addInverse_48 rfl (lv_at hl 2 rfl) ?_
    refine laX_P_below1 hc hw d_P_addInverse_49 ?_
    refine lv_iload_n hx hb d_P_addInverse_50 rfl (lv_at hl 3 rfl) ?_
    refine lv_lload hx hb d_P_addInverse_51 (lv_at hl 0 rfl) ?_
    refine lv_lload_n hx hb d_P_addInverse_53 rfl (lv_at hl 4 rfl) ?_
    refine z_lmul hx hb d_P_addInverse_54 ?_
    refine stX_P_below1 hc hw d_P_addInverse_55 (by omega) (fun H locs hw => ?_)
    exact w_vret hc hw (⟨rfl, by unfold pInv; simp [c6]⟩) d_P_addInverse_56
set_option maxHeartbeats 400000 in
set_option maxRecDepth 100000 in
theorem k_P_areBetween {l : Launch} {D : va_G} {ad : Nat → Nat} {ca : Nat → ClassId} (σ : St) (a b : Int) (ha : 0 ≤ a ∧ a < 12) (hb2 : 0 ≤ b ∧ b < 12) (hJ : ∀ i, 0 ≤ σ 31 i ∧ σ 31 i < 4096) : Cw l D cl7 (tyX ca) (wX ad ca) y_P_areBetween c_P_areBetween 3 (some .boolean) 1 [.ref (ad 103), .int (zI a), .int (zI b)] σ (RW (.int (zI (bI (zB (σ 31 a) b)))) (σ = ·)) := by
  refine Cw.enter (by decide) (Nat.le_of_ble_eq_true rfl) ?_
  intro A p e s m below meth c hc ls hl hw
  have hl : lv_has ls 3 [(0, .ref (ad 103)), (1, .int (zI a)), (2, .int (zI b))] := hl
  obtain ⟨hx, hb, hml, hown, hTB, hK, hr, hlk⟩ := id hc
  refine lv_aload_n hx hb d_P_areBetween_0 rfl (lv_at hl 0 rfl) ?_
  refine gX_P_joined hc hw lk_P_15 d_P_areBetween_1 ?_
  refine lv_iload_n hx hb d_P_areBetween_4 rfl (lv_at hl 1 rfl) ?_
  refine ldX_P_joined hc hw d_P_areBetween_5 (by omega) ?_
  refine lv_iload_n hx hb d_P_areBetween_6 rfl (lv_at hl 2 rfl) ?_
  refine w_csNR hc hw (k_X_hasBit _ _ _ (by have := hJ a; omega) (by omega)) yw_X_hasBit yi_X_hasBit lk_P_34 d_P_areBetween_7 rfl rfl hl.1 (Nat.le_of_ble_eq_true rfl) ⟨Nat.le_of_ble_eq_true rfl, Nat.le_of_ble_eq_true rfl⟩ ⟨Nat.zero_le _, Nat.zero_le _⟩ (fun τ7 H locs hτ7 hw => ?_)
  subst hτ7
  exact w_zret hc hw (bI_01 _) (⟨rfl, rfl⟩) d_P_areBetween_10
set_option maxHeartbeats 400000 in
set_option maxRecDepth 100000 in
theorem k_P_joinedToBoth {l : Launch} {D : va_G} {ad : Nat → Nat} {ca : Nat → ClassId} (σ : St) (a b : Int) (ha : 0 ≤ a ∧ a < 12) (hb2 : 0 ≤ b ∧ b < 12) (hJ : ∀ i, 0 ≤ σ 31 i ∧ σ 31 i < 4096) : Cw l D cl7 (tyX ca) (wX ad ca) y_P_joinedToBoth c_P_joinedToBoth 3 (some .int) 0 [.ref (ad 103), .int (zI a), .int (zI b)] σ (RW (.int (zI (zAnd (σ 31 a) (σ 31 b)))) (σ = ·)) := by
  refine Cw.enter (by decide) (Nat.le_of_ble_eq_true rfl) ?_
  intro A p e s m below meth c hc ls hl hw
  have hl : lv_has ls 3 [(0, .ref (ad 103)), (1, .int (zI a)), (2, .int (zI b))] := hl
  obtain ⟨hx, hb, hml, hown, hTB, hK, hr, hlk⟩ := id hc
  refine lv_aload_n hx hb d_P_joinedToBoth_0 rfl (lv_at hl 0 rfl) ?_
  refine gX_P_joined hc hw lk_P_15 d_P_joinedToBoth_1 ?_
  refine lv_iload_n hx hb d_P_joinedToBoth_4 rfl (lv_at hl 1 rfl) ?_
  refine ldX_P_joined hc hw d_P_joinedToBoth_5 (by omega) ?_
  refine lv_aload_n hx hb d_P_joinedToBoth_6 rfl (lv_at hl 0 rfl) ?_
  refine gX_P_joined hc hw lk_P_15 d_P_joinedToBoth_7 ?_
  refine lv_iload_n hx hb d_P_joinedToBoth_10 rfl (lv_at hl 2 rfl) ?_
  refine ldX_P_joined hc hw d_P_joinedToBoth_11 (by omega) ?_
  refine z_iand hx hb d_P_joinedToBoth_12 (⟨(hJ a).1, (hJ b).1⟩) ?_
  exact w_iret hc hw (⟨rfl, rfl⟩) d_P_joinedToBoth_13
set_option maxHeartbeats 400000 in
set_option maxRecDepth 100000 in
theorem k_P_commonDivisor {l : Launch} {D : va_G} {ad : Nat → Nat} {ca : Nat → ClassId} (σ : St) (a b : Int) (ha : 0 ≤ a ∧ a < 4611686018427387904) (hb2 : 0 ≤ b ∧ b < 4611686018427387904) : Cw l D cl7 (tyX ca) (wX ad ca) y_P_commonDivisor c_P_commonDivisor 11 (some .long) 0 [.long (zL a), .long (zL b)] σ (RW (.long (zL (gcdF 200 a b))) (σ = ·)) := by
  generalize hN0 : gcdF 200 a b = N0
  refine Cw.enter (by decide) (Nat.le_of_ble_eq_true rfl) ?_
  intro A p e s m below meth c hc ls hl hw
  have hl : lv_has ls 11 [(0, .long (zL a)), (2, .long (zL b))] := hl
  obtain ⟨hx, hb, hml, hown, hTB, hK, hr, hlk⟩ := id hc
  refine lv_lload_n hx hb d_P_commonDivisor_0 rfl (lv_at hl 0 rfl) ?_
  refine z_lst hx hb d_P_commonDivisor_1 hl (by decide) (fun x4_1 ex4_1 ls (hl : lv_has ls 11 [(4, .long (zL x4_1)), (0, .long (zL a)), (2, .long (zL b))]) => ?_)
  refine lv_lload_n hx hb d_P_commonDivisor_3 rfl (lv_at hl 2 rfl) ?_
  refine z_lst hx hb d_P_commonDivisor_4 hl (by decide) (fun x6_4 ex6_4 ls (hl : lv_has ls 11 [(6, .long (zL x6_4)), (4, .long (zL x4_1)), (0, .long (zL a)), (2, .long (zL b))]) => ?_)
  refine z_ic hx hb d_P_commonDivisor_6 ?_
  refine z_ist hx hb d_P_commonDivisor_7 hl (by decide) (fun x8_7 ex8_7 ls (hl : lv_has ls 11 [(8, .int (zI x8_7)), (6, .long (zL x6_4)), (4, .long (zL x4_1)), (0, .long (zL a)), (2, .long (zL b))]) => ?_)
  have L9 : ∀ (n : Nat) (i : Int) (g : Int) (t : Int) (H : Heap) (locs : List Loc), (0 ≤ i ∧ i ≤ 200) → (0 ≤ g ∧ g < 4611686018427387904) → (0 ≤ t ∧ t < 4611686018427387904) → (N0 = gcdF (200 - i).toNat g t) → (200 - i).toNat < n → Wd D cl7 (wX ad ca) A s.heap σ H locs → ∀ ls : Array Slot, lv_has ls 11 [(8, .int (zI i)), (4, .long (zL g)), (6, .long (zL t)), (0, .long (zL a)), (2, .long (zL b))] → W p l e (Rmh 0) s m ([.long (zL a), .long (zL b)] : List Value).toArray below meth c H locs 0 0 (MQ below (Qw D cl7 (wX ad ca) A (RW (.long (zL N0)) (σ = ·))) ([.long (zL a), .long (zL b)] : List Value).toArray s 0 0 A) (F0 m 9 ls []) := by
    intro n
    induction n with
    | zero => intro i g t  H locs hi hg ht hN hm; exact absurd hm (Nat.not_lt_zero _)
    | succ n ih9 =>
      intro i g t  H locs hi hg ht hN hm9 hw ls hl
      refine lv_iload hx hb d_P_commonDivisor_9 (lv_at hl 0 rfl) ?_
      refine z_si hx hb d_P_commonDivisor_11 (by decide) ?_
      refine z_icmp_ge hx hb 45 d_P_commonDivisor_14 (by omega) (by omega) (by decide) (fun c14 => ?_) (fun c14 => ?_)
      · refine lv_lload hx hb d_P_commonDivisor_45 (lv_at hl 1 rfl) ?_
        exact w_lret hc hw (⟨by rw [hN]; first | (rw [if_pos c20]) | (rw [show (200 - i).toNat = 0 by omega]; rfl), rfl⟩) d_P_commonDivisor_47
      · have q : (200 - i).toNat = (200 - (i + 1)).toNat + 1 := by omega
        rw [q, gcdF_s] at hN
        refine lv_lload hx hb d_P_commonDivisor_17 (lv_at hl 2 rfl) ?_
        refine z_lc0 hx hb d_P_commonDivisor_19 ?_
        refine z_lcmp_eq hx hb 45 d_P_commonDivisor_20 d_P_commonDivisor_21 (by omega) (by omega) (by decide) (fun c20 => ?_) (fun c20 => ?_)
        · refine lv_lload hx hb d_P_commonDivisor_45 (lv_at hl 1 rfl) ?_
          exact w_lret hc hw (⟨by rw [hN]; first | (rw [if_pos c20]) | (rw [show (200 - i).toNat = 0 by omega]; rfl), rfl⟩) d_P_commonDivisor_47
        · refine lv_lload hx hb d_P_commonDivisor_24 (lv_at hl 1 rfl) ?_
          refine lv_lload hx hb d_P_commonDivisor_26 (lv_at hl 2 rfl) ?_
          refine z_lrem hx hb d_P_commonDivisor_28 (by omega) ?_
          refine z_lst hx hb d_P_commonDivisor_29 hl (by decide) (fun x9_29 ex9_29 ls (hl : lv_has ls 11 [(9, .long (zL x9_29)), (8, .int (zI i)), (4, .long (zL g)), (6, .long (zL t)), (0, .long (zL a)), (2, .long (zL b))]) => ?_)
          refine lv_lload hx hb d_P_commonDivisor_31 (lv_at hl 3 rfl) ?_
          refine z_lst hx hb d_P_commonDivisor_33 hl (by decide) (fun x4_33 ex4_33 ls (hl : lv_has ls 11 [(4, .long (zL x4_33)), (9, .long (zL x9_29)), (8, .int (zI i)), (6, .long (zL t)), (0, .long (zL a)), (2, .long (zL b))]) => ?_)
          refine lv_lload hx hb d_P_commonDivisor_35 (lv_at hl 1 rfl) ?_
          refine z_lst hx hb d_P_commonDivisor_37 hl (by decide) (fun x6_37 ex6_37 ls (hl : lv_has ls 11 [(6, .long (zL x6_37)), (4, .long (zL x4_33)), (9, .long (zL x9_29)), (8, .int (zI i)), (0, .long (zL a)), (2, .long (zL b))]) => ?_)
          refine z_iinc (k := 3) hx hb d_P_commonDivisor_39 hl rfl (by decide) (fun x8_39 ex8_39 ls (hl : lv_has ls 11 [(8, .int (zI x8_39)), (6, .long (zL x6_37)), (4, .long (zL x4_33)), (9, .long (zL x9_29)), (0, .long (zL a)), (2, .long (zL b))]) => ?_)
          refine lv_goto (tgt := 9) hx hb d_P_commonDivisor_42 (by decide) ?_
          exact ih9 x8_39 x4_33 x6_37 _ _ (by omega) (by omega) (by rw [ex6_37, ex9_29]; exact ⟨Int.emod_nonneg _ c20, by have := Int.emod_lt_of_pos g (show 0 < t by omega); omega⟩) (by rw [hN, show (200 - x8_39).toNat = (200 - (i + 1)).toNat from (by omega), if_neg c20, ex4_33, ex6_37, ex9_29]) (by omega) hw ls (lv_sub hl [0, 2, 1, 4, 5] rfl)
  exact L9 _ x8_7 x4_1 x6_4 _ _ (by omega) (by omega) (by omega) (by rw [ex8_7, ex4_1, ex6_4, show ((200 : Int) - 0).toNat = 200 from (by decide)]; exact hN0.symm) (Nat.lt_succ_self _) hw ls (lv_sub hl [0, 2, 1, 3, 4] rfl)
set_option maxHeartbeats 400000 in
set_option maxRecDepth 100000 in
theorem k_P_add {l : Launch} {D : va_G} {ad : Nat → Nat} {ca : Nat → ClassId} (σ : St) (a b lo hi : Int) (ha : 0 ≤ a ∧ a < 12) (hb2 : 0 ≤ b ∧ b < 12) (hC : ∀ i, 0 ≤ σ 30 i ∧ σ 30 i ≤ 4) (hJ : ∀ i, 0 ≤ σ 31 i ∧ σ 31 i < 4096) : Cw l D cl7 (tyX ca) (wX ad ca) y_P_add c_P_add 8 (some .boolean) 2 [.ref (ad 103), .int (zI a), .int (zI b), .long (zL lo), .long (zL hi)] σ (RW (.int (zI (bI (σ 30 (prOf a b) < 4)))) (pAdd σ a b lo hi = ·)) := by
  have hpr : 0 ≤ prOf a b ∧ prOf a b < 144 := by unfold prOf; omega
  have hCp := hC (prOf a b)
  have hJa := hJ a
  have hJb := hJ b
  have hpa := p2_bd (k := 12) ha
  have hpb := p2_bd (k := 12) hb2
  refine Cw.enter (by decide) (Nat.le_of_ble_eq_true rfl) ?_
  intro A p e s m below meth c hc ls hl hw
  have hl : lv_has ls 8 [(0, .ref (ad 103)), (1, .int (zI a)), (2, .int (zI b)), (3, .long (zL lo)), (5, .long (zL hi))] := hl
  obtain ⟨hx, hb, hml, hown, hTB, hK, hr, hlk⟩ := id hc
  refine lv_iload_n hx hb d_P_add_0 rfl (lv_at hl 1 rfl) ?_
  refine lv_iload_n hx hb d_P_add_1 rfl (lv_at hl 2 rfl) ?_
  refine w_csR hc hw (k_P_pairOf _ _ _ ha hb2) yw_P_pairOf yi_P_pairOf lk_P_26 d_P_add_2 rfl rfl hl.1 (Nat.le_of_ble_eq_true rfl) ⟨Nat.le_of_ble_eq_true rfl, Nat.le_of_ble_eq_true rfl⟩ ⟨Nat.zero_le _, Nat.zero_le _⟩ (fun τ2 H locs hτ2 hw => ?_)
  subst hτ2
  refine z_ist hx hb d_P_add_5 hl (by decide) (fun x7_5 ex7_5 ls (hl : lv_has ls 8 [(7, .int (zI x7_5)), (0, .ref (ad 103)), (1, .int (zI a)), (2, .int (zI b)), (3, .long (zL lo)), (5, .long (zL hi))]) => ?_)
  subst ex7_5
  refine lv_aload_n hx hb d_P_add_7 rfl (lv_at hl 1 rfl) ?_
  refine gX_P_counts hc hw lk_P_11 d_P_add_8 ?_
  refine lv_iload hx hb d_P_add_11 (lv_at hl 0 rfl) ?_
  refine ldX_P_counts hc hw d_P_add_13 (by omega) ?_
  refine z_ic hx hb d_P_add_14 ?_
  refine z_icmp_lt hx hb 20 d_P_add_15 (by omega) (by omega) (by decide) (fun c15 => ?_) (fun c15 => ?_)
  · refine lv_aload_n hx hb d_P_add_20 rfl (lv_at hl 1 rfl) ?_
    refine z_ic hx hb d_P_add_21 ?_
    refine lv_iload hx hb d_P_add_22 (lv_at hl 0 rfl) ?_
    refine lv_lload_n hx hb d_P_add_24 rfl (lv_at hl 4 rfl) ?_
    refine w_cvV (q0 := 3) hc hw (k_P_addInverse0 _ _ _ hpr hC) yw_P_addInverse yi_P_addInverse lk_P_30 d_P_add_25 rfl rfl rfl rfl hl.1 (Nat.le_of_ble_eq_true rfl) ⟨Nat.le_of_ble_eq_true rfl, Nat.le_of_ble_eq_true rfl⟩ ⟨Nat.zero_le _, Nat.zero_le _⟩ (fun τ25 H locs hτ25 hw => ?_)
    subst hτ25
    refine lv_aload_n hx hb d_P_add_28 rfl (lv_at hl 1 rfl) ?_
    refine z_ic hx hb d_P_add_29 ?_
    refine lv_iload hx hb d_P_add_30 (lv_at hl 0 rfl) ?_
    refine lv_lload hx hb d_P_add_32 (lv_at hl 5 rfl) ?_
    refine w_cvV (q0 := 3) hc hw (k_P_addInverse1 _ _ _ hpr hC) yw_P_addInverse yi_P_addInverse lk_P_30 d_P_add_34 rfl rfl rfl rfl hl.1 (Nat.le_of_ble_eq_true rfl) ⟨Nat.le_of_ble_eq_true rfl, Nat.le_of_ble_eq_true rfl⟩ ⟨Nat.zero_le _, Nat.zero_le _⟩ (fun τ34 H locs hτ34 hw => ?_)
    subst hτ34
    refine lv_aload_n hx hb d_P_add_37 rfl (lv_at hl 1 rfl) ?_
    refine gX_P_counts hc hw lk_P_11 d_P_add_38 ?_
    refine lv_iload hx hb d_P_add_41 (lv_at hl 0 rfl) ?_
    refine lv_dup2_11 hx hb d_P_add_43 rfl rfl ?_
    refine ldX_P_counts hc hw d_P_add_44 (by omega) ?_
    refine z_ic hx hb d_P_add_45 ?_
    refine z_iadd hx hb d_P_add_46 ?_
    refine stX_P_counts hc hw d_P_add_47 (by omega) (fun H locs hw => ?_)
    refine lv_aload_n hx hb d_P_add_48 rfl (lv_at hl 1 rfl) ?_
    refine gX_P_joined hc hw lk_P_15 d_P_add_49 ?_
    refine lv_iload_n hx hb d_P_add_52 rfl (lv_at hl 2 rfl) ?_
    refine lv_dup2_11 hx hb d_P_add_53 rfl rfl ?_
    refine ldX_P_joined hc hw d_P_add_54 (by omega) ?_
    refine z_ic hx hb d_P_add_55 ?_
    refine lv_iload_n hx hb d_P_add_56 rfl (lv_at hl 3 rfl) ?_
    refine z_shl1 hx hb d_P_add_57 (by omega) ?_
    refine z_ior hx hb d_P_add_58 (⟨hJa.1, hpb.1⟩) ?_
    refine stX_P_joined hc hw d_P_add_59 (by omega) (fun H locs hw => ?_)
    refine lv_aload_n hx hb d_P_add_60 rfl (lv_at hl 1 rfl) ?_
    refine gX_P_joined hc hw lk_P_15 d_P_add_61 ?_
    refine lv_iload_n hx hb d_P_add_64 rfl (lv_at hl 3 rfl) ?_
    refine lv_dup2_11 hx hb d_P_add_65 rfl rfl ?_
    refine ldX_P_joined hc hw d_P_add_66 (by omega) ?_
    refine z_ic hx hb d_P_add_67 ?_
    refine lv_iload_n hx hb d_P_add_68 rfl (lv_at hl 2 rfl) ?_
    refine z_shl1 hx hb d_P_add_69 (by omega) ?_
    refine z_ior hx hb d_P_add_70 (⟨by show 0 ≤ up (pCnt (pInv 1 (pInv 0 σ (prOf a b) lo) (prOf a b) hi) (prOf a b)) 31 a (zOr (σ 31 a) ((2 ^ b.toNat : Nat) : Int)) 31 b; unfold up; split; exact (zOr_bd (k := 12) hJa hpb).1; exact hJb.1, hpa.1⟩) ?_
    refine stX_P_joined hc hw d_P_add_71 (by omega) (fun H locs hw => ?_)
    refine z_ic hx hb d_P_add_72 ?_
    exact w_zret hc hw (by omega) (⟨by rw [bI_t (by omega)], by unfold pAdd; rw [if_neg (by omega)]; rfl⟩) d_P_add_73
  · refine z_ic hx hb d_P_add_18 ?_
    exact w_zret hc hw (by omega) (⟨by rw [bI_f (by omega)], by unfold pAdd; rw [if_pos (by omega)]⟩) d_P_add_19
set_option maxHeartbeats 400000 in
set_option maxRecDepth 100000 in
theorem k_P_termOfSpan00 {l : Launch} {D : va_G} {ad : Nat → Nat} {ca : Nat → ClassId} (σ : St) (a b : Int) (ha : 0 ≤ a ∧ a < 12) (hb2 : 0 ≤ b ∧ b < 12) (h1 : 0 ≤ σ 34 (prOf a b) ∧ σ 34 (prOf a b) < 4611686018427387904) (h2 : 0 ≤ σ 32 (prOf a b) ∧ σ 32 (prOf a b) < 4611686018427387904) : Cw l D cl7 (tyX ca) (wX ad ca) y_P_termOfSpan c_P_termOfSpan 12 (some .long) 2 [.ref (ad 103), .int (zI a), .int (zI b), .int (zI 0), .int (zI 0)] σ (RW (.long (zL (σ 34 (prOf a b) / max 1 (gcdF 200 (σ 34 (prOf a b)) (σ 32 (prOf a b)))))) (σ = ·)) := by
  have hpr : 0 ≤ prOf a b ∧ prOf a b < 144 := by unfold prOf; omega
  have hg := gcdF_bd 200 _ _ h1.1 h2.1 h1.2 h2.2
  refine Cw.enter (by decide) (Nat.le_of_ble_eq_true rfl) ?_
  intro A p e s m below meth c hc ls hl hw
  have hl : lv_has ls 12 [(0, .ref (ad 103)), (1, .int (zI a)), (2, .int (zI b)), (3, .int (zI 0)), (4, .int (zI 0))] := hl
  obtain ⟨hx, hb, hml, hown, hTB, hK, hr, hlk⟩ := id hc
  refine lv_iload_n hx hb d_P_termOfSpan_0 rfl (lv_at hl 1 rfl) ?_
  refine lv_iload_n hx hb d_P_termOfSpan_1 rfl (lv_at hl 2 rfl) ?_
  refine w_csR hc hw (k_P_pairOf _ _ _ ha hb2) yw_P_pairOf yi_P_pairOf lk_P_26 d_P_termOfSpan_2 rfl rfl hl.1 (Nat.le_of_ble_eq_true rfl) ⟨Nat.le_of_ble_eq_true rfl, Nat.le_of_ble_eq_true rfl⟩ ⟨Nat.zero_le _, Nat.zero_le _⟩ (fun τ2 H locs hτ2 hw => ?_)
  subst hτ2
  refine z_ist hx hb d_P_termOfSpan_5 hl (by decide) (fun x5_5 ex5_5 ls (hl : lv_has ls 12 [(5, .int (zI x5_5)), (0, .ref (ad 103)), (1, .int (zI a)), (2, .int (zI b)), (3, .int (zI 0)), (4, .int (zI 0))]) => ?_)
  subst ex5_5
  refine lv_aload_n hx hb d_P_termOfSpan_7 rfl (lv_at hl 1 rfl) ?_
  refine gX_P_below hc hw lk_P_23 d_P_termOfSpan_8 ?_
  refine lv_iload_n hx hb d_P_termOfSpan_11 rfl (lv_at hl 4 rfl) ?_
  refine laX_P_below0 hc hw d_P_termOfSpan_12 ?_
  refine lv_iload hx hb d_P_termOfSpan_13 (lv_at hl 0 rfl) ?_
  refine ldX_P_below0 hc hw d_P_termOfSpan_15 (by omega) ?_
  refine z_lst hx hb d_P_termOfSpan_16 hl (by decide) (fun x6_16 ex6_16 ls (hl : lv_has ls 12 [(6, .long (zL x6_16)), (5, .int (zI (prOf a b))), (0, .ref (ad 103)), (1, .int (zI a)), (2, .int (zI b)), (3, .int (zI 0)), (4, .int (zI 0))]) => ?_)
  subst ex6_16
  refine lv_aload_n hx hb d_P_termOfSpan_18 rfl (lv_at hl 2 rfl) ?_
  refine gX_P_above hc hw lk_P_20 d_P_termOfSpan_19 ?_
  refine lv_iload_n hx hb d_P_termOfSpan_22 rfl (lv_at hl 5 rfl) ?_
  refine laX_P_above0 hc hw d_P_termOfSpan_23 ?_
  refine lv_iload hx hb d_P_termOfSpan_24 (lv_at hl 1 rfl) ?_
  refine ldX_P_above0 hc hw d_P_termOfSpan_26 (by omega) ?_
  refine z_lst hx hb d_P_termOfSpan_27 hl (by decide) (fun x8_27 ex8_27 ls (hl : lv_has ls 12 [(8, .long (zL x8_27)), (6, .long (zL (σ 34 (prOf a b)))), (5, .int (zI (prOf a b))), (0, .ref (ad 103)), (1, .int (zI a)), (2, .int (zI b)), (3, .int (zI 0)), (4, .int (zI 0))]) => ?_)
  subst ex8_27
  refine z_lc1 hx hb d_P_termOfSpan_29 ?_
  refine lv_lload hx hb d_P_termOfSpan_30 (lv_at hl 1 rfl) ?_
  refine lv_lload hx hb d_P_termOfSpan_32 (lv_at hl 0 rfl) ?_
  refine w_csR hc hw (k_P_commonDivisor _ _ _ h1 h2) yw_P_commonDivisor yi_P_commonDivisor lk_P_38 d_P_termOfSpan_34 rfl rfl hl.1 (Nat.le_of_ble_eq_true rfl) ⟨Nat.le_of_ble_eq_true rfl, Nat.le_of_ble_eq_true rfl⟩ ⟨Nat.zero_le _, Nat.zero_le _⟩ (fun τ34 H locs hτ34 hw => ?_)
  subst hτ34
  refine w_csR hc hw (k_JM_maxL _ _ _ (by omega) (by omega)) yw_JM_maxL yi_JM_maxL lk_P_42 d_P_termOfSpan_37 rfl rfl hl.1 (Nat.le_of_ble_eq_true rfl) ⟨Nat.le_of_ble_eq_true rfl, Nat.le_of_ble_eq_true rfl⟩ ⟨Nat.zero_le _, Nat.zero_le _⟩ (fun τ37 H locs hτ37 hw => ?_)
  subst hτ37
  refine z_lst hx hb d_P_termOfSpan_40 hl (by decide) (fun x10_40 ex10_40 ls (hl : lv_has ls 12 [(10, .long (zL x10_40)), (8, .long (zL (σ 32 (prOf a b)))), (6, .long (zL (σ 34 (prOf a b)))), (5, .int (zI (prOf a b))), (0, .ref (ad 103)), (1, .int (zI a)), (2, .int (zI b)), (3, .int (zI 0)), (4, .int (zI 0))]) => ?_)
  subst ex10_40
  refine lv_iload hx hb d_P_termOfSpan_42 (lv_at hl 8 rfl) ?_
  refine z_if_ne hx hb 52 d_P_termOfSpan_44 (by omega) (by decide) (fun c44 => ?_) (fun c44 => ?_)
  · exact absurd c44 (by decide)
  · refine lv_lload hx hb d_P_termOfSpan_47 (lv_at hl 2 rfl) ?_
    refine lv_goto (tgt := 54) hx hb d_P_termOfSpan_49 (by decide) ?_
    refine lv_lload hx hb d_P_termOfSpan_54 (lv_at hl 0 rfl) ?_
    refine z_ldiv hx hb d_P_termOfSpan_56 (by omega) ?_
    exact w_lret hc hw (⟨rfl, rfl⟩) d_P_termOfSpan_57
set_option maxHeartbeats 400000 in
set_option maxRecDepth 100000 in
theorem k_P_termOfSpan01 {l : Launch} {D : va_G} {ad : Nat → Nat} {ca : Nat → ClassId} (σ : St) (a b : Int) (ha : 0 ≤ a ∧ a < 12) (hb2 : 0 ≤ b ∧ b < 12) (h1 : 0 ≤ σ 34 (prOf a b) ∧ σ 34 (prOf a b) < 4611686018427387904) (h2 : 0 ≤ σ 32 (prOf a b) ∧ σ 32 (prOf a b) < 4611686018427387904) : Cw l D cl7 (tyX ca) (wX ad ca) y_P_termOfSpan c_P_termOfSpan 12 (some .long) 2 [.ref (ad 103), .int (zI a), .int (zI b), .int (zI 0), .int (zI 1)] σ (RW (.long (zL (σ 32 (prOf a b) / max 1 (gcdF 200 (σ 34 (prOf a b)) (σ 32 (prOf a b)))))) (σ = ·)) := by
  have hpr : 0 ≤ prOf a b ∧ prOf a b < 144 := by unfold prOf; omega
  have hg := gcdF_bd 200 _ _ h1.1 h2.1 h1.2 h2.2
  refine Cw.enter (by decide) (Nat.le_of_ble_eq_true rfl) ?_
  intro A p e s m below meth c hc ls hl hw
  have hl : lv_has ls 12 [(0, .ref (ad 103)), (1, .int (zI a)), (2, .int (zI b)), (3, .int (zI 0)), (4, .int (zI 1))] := hl
  obtain ⟨hx, hb, hml, hown, hTB, hK, hr, hlk⟩ := id hc
  refine lv_iload_n hx hb d_P_termOfSpan_0 rfl (lv_at hl 1 rfl) ?_
  refine lv_iload_n hx hb d_P_termOfSpan_1 rfl (lv_at hl 2 rfl) ?_
  refine w_csR hc hw (k_P_pairOf _ _ _ ha hb2) yw_P_pairOf yi_P_pairOf lk_P_26 d_P_termOfSpan_2 rfl rfl hl.1 (Nat.le_of_ble_eq_true rfl) ⟨Nat.le_of_ble_eq_true rfl, Nat.le_of_ble_eq_true rfl⟩ ⟨Nat.zero_le _, Nat.zero_le _⟩ (fun τ2 H locs hτ2 hw => ?_)
  subst hτ2
  refine z_ist hx hb d_P_termOfSpan_5 hl (by decide) (fun x5_5 ex5_5 ls (hl : lv_has ls 12 [(5, .int (zI x5_5)), (0, .ref (ad 103)), (1, .int (zI a)), (2, .int (zI b)), (3, .int (zI 0)), (4, .int (zI 1))]) => ?_)
  subst ex5_5
  refine lv_aload_n hx hb d_P_termOfSpan_7 rfl (lv_at hl 1 rfl) ?_
  refine gX_P_below hc hw lk_P_23 d_P_termOfSpan_8 ?_
  refine lv_iload_n hx hb d_P_termOfSpan_11 rfl (lv_at hl 4 rfl) ?_
  refine laX_P_below0 hc hw d_P_termOfSpan_12 ?_
  refine lv_iload hx hb d_P_termOfSpan_13 (lv_at hl 0 rfl) ?_
  refine ldX_P_below0 hc hw d_P_termOfSpan_15 (by omega) ?_
  refine z_lst hx hb d_P_termOfSpan_16 hl (by decide) (fun x6_16 ex6_16 ls (hl : lv_has ls 12 [(6, .long (zL x6_16)), (5, .int (zI (prOf a b))), (0, .ref (ad 103)), (1, .int (zI a)), (2, .int (zI b)), (3, .int (zI 0)), (4, .int (zI 1))]) => ?_)
  subst ex6_16
  refine lv_aload_n hx hb d_P_termOfSpan_18 rfl (lv_at hl 2 rfl) ?_
  refine gX_P_above hc hw lk_P_20 d_P_termOfSpan_19 ?_
  refine lv_iload_n hx hb d_P_termOfSpan_22 rfl (lv_at hl 5 rfl) ?_
  refine laX_P_above0 hc hw d_P_termOfSpan_23 ?_
  refine lv_iload hx hb d_P_termOfSpan_24 (lv_at hl 1 rfl) ?_
  refine ldX_P_above0 hc hw d_P_termOfSpan_26 (by omega) ?_
  refine z_lst hx hb d_P_termOfSpan_27 hl (by decide) (fun x8_27 ex8_27 ls (hl : lv_has ls 12 [(8, .long (zL x8_27)), (6, .long (zL (σ 34 (prOf a b)))), (5, .int (zI (prOf a b))), (0, .ref (ad 103)), (1, .int (zI a)), (2, .int (zI b)), (3, .int (zI 0)), (4, .int (zI 1))]) => ?_)
  subst ex8_27
  refine z_lc1 hx hb d_P_termOfSpan_29 ?_
  refine lv_lload hx hb d_P_termOfSpan_30 (lv_at hl 1 rfl) ?_
  refine lv_lload hx hb d_P_termOfSpan_32 (lv_at hl 0 rfl) ?_
  refine w_csR hc hw (k_P_commonDivisor _ _ _ h1 h2) yw_P_commonDivisor yi_P_commonDivisor lk_P_38 d_P_termOfSpan_34 rfl rfl hl.1 (Nat.le_of_ble_eq_true rfl) ⟨Nat.le_of_ble_eq_true rfl, Nat.le_of_ble_eq_true rfl⟩ ⟨Nat.zero_le _, Nat.zero_le _⟩ (fun τ34 H locs hτ34 hw => ?_)
  subst hτ34
  refine w_csR hc hw (k_JM_maxL _ _ _ (by omega) (by omega)) yw_JM_maxL yi_JM_maxL lk_P_42 d_P_termOfSpan_37 rfl rfl hl.1 (Nat.le_of_ble_eq_true rfl) ⟨Nat.le_of_ble_eq_true rfl, Nat.le_of_ble_eq_true rfl⟩ ⟨Nat.zero_le _, Nat.zero_le _⟩ (fun τ37 H locs hτ37 hw => ?_)
  subst hτ37
  refine z_lst hx hb d_P_termOfSpan_40 hl (by decide) (fun x10_40 ex10_40 ls (hl : lv_has ls 12 [(10, .long (zL x10_40)), (8, .long (zL (σ 32 (prOf a b)))), (6, .long (zL (σ 34 (prOf a b)))), (5, .int (zI (prOf a b))), (0, .ref (ad 103)), (1, .int (zI a)), (2, .int (zI b)), (3, .int (zI 0)), (4, .int (zI 1))]) => ?_)
  subst ex10_40
  refine lv_iload hx hb d_P_termOfSpan_42 (lv_at hl 8 rfl) ?_
  refine z_if_ne hx hb 52 d_P_termOfSpan_44 (by omega) (by decide) (fun c44 => ?_) (fun c44 => ?_)
  · refine lv_lload hx hb d_P_termOfSpan_52 (lv_at hl 1 rfl) ?_
    refine lv_lload hx hb d_P_termOfSpan_54 (lv_at hl 0 rfl) ?_
    refine z_ldiv hx hb d_P_termOfSpan_56 (by omega) ?_
    exact w_lret hc hw (⟨rfl, rfl⟩) d_P_termOfSpan_57
  · exact absurd c44 (by decide)
set_option maxHeartbeats 400000 in
set_option maxRecDepth 100000 in
theorem k_P_termOfSpan10 {l : Launch} {D : va_G} {ad : Nat → Nat} {ca : Nat → ClassId} (σ : St) (a b : Int) (ha : 0 ≤ a ∧ a < 12) (hb2 : 0 ≤ b ∧ b < 12) (h1 : 0 ≤ σ 35 (prOf a b) ∧ σ 35 (prOf a b) < 4611686018427387904) (h2 : 0 ≤ σ 33 (prOf a b) ∧ σ 33 (prOf a b) < 4611686018427387904) : Cw l D cl7 (tyX ca) (wX ad ca) y_P_termOfSpan c_P_termOfSpan 12 (some .long) 2 [.ref (ad 103), .int (zI a), .int (zI b), .int (zI 1), .int (zI 0)] σ (RW (.long (zL (σ 35 (prOf a b) / max 1 (gcdF 200 (σ 35 (prOf a b)) (σ 33 (prOf a b)))))) (σ = ·)) := by
  have hpr : 0 ≤ prOf a b ∧ prOf a b < 144 := by unfold prOf; omega
  have hg := gcdF_bd 200 _ _ h1.1 h2.1 h1.2 h2.2
  refine Cw.enter (by decide) (Nat.le_of_ble_eq_true rfl) ?_
  intro A p e s m below meth c hc ls hl hw
  have hl : lv_has ls 12 [(0, .ref (ad 103)), (1, .int (zI a)), (2, .int (zI b)), (3, .int (zI 1)), (4, .int (zI 0))] := hl
  obtain ⟨hx, hb, hml, hown, hTB, hK, hr, hlk⟩ := id hc
  refine lv_iload_n hx hb d_P_termOfSpan_0 rfl (lv_at hl 1 rfl) ?_
  refine lv_iload_n hx hb d_P_termOfSpan_1 rfl (lv_at hl 2 rfl) ?_
  refine w_csR hc hw (k_P_pairOf _ _ _ ha hb2) yw_P_pairOf yi_P_pairOf lk_P_26 d_P_termOfSpan_2 rfl rfl hl.1 (Nat.le_of_ble_eq_true rfl) ⟨Nat.le_of_ble_eq_true rfl, Nat.le_of_ble_eq_true rfl⟩ ⟨Nat.zero_le _, Nat.zero_le _⟩ (fun τ2 H locs hτ2 hw => ?_)
  subst hτ2
  refine z_ist hx hb d_P_termOfSpan_5 hl (by decide) (fun x5_5 ex5_5 ls (hl : lv_has ls 12 [(5, .int (zI x5_5)), (0, .ref (ad 103)), (1, .int (zI a)), (2, .int (zI b)), (3, .int (zI 1)), (4, .int (zI 0))]) => ?_)
  subst ex5_5
  refine lv_aload_n hx hb d_P_termOfSpan_7 rfl (lv_at hl 1 rfl) ?_
  refine gX_P_below hc hw lk_P_23 d_P_termOfSpan_8 ?_
  refine lv_iload_n hx hb d_P_termOfSpan_11 rfl (lv_at hl 4 rfl) ?_
  refine laX_P_below1 hc hw d_P_termOfSpan_12 ?_
  refine lv_iload hx hb d_P_termOfSpan_13 (lv_at hl 0 rfl) ?_
  refine ldX_P_below1 hc hw d_P_termOfSpan_15 (by omega) ?_
  refine z_lst hx hb d_P_termOfSpan_16 hl (by decide) (fun x6_16 ex6_16 ls (hl : lv_has ls 12 [(6, .long (zL x6_16)), (5, .int (zI (prOf a b))), (0, .ref (ad 103)), (1, .int (zI a)), (2, .int (zI b)), (3, .int (zI 1)), (4, .int (zI 0))]) => ?_)
  subst ex6_16
  refine lv_aload_n hx hb d_P_termOfSpan_18 rfl (lv_at hl 2 rfl) ?_
  refine gX_P_above hc hw lk_P_20 d_P_termOfSpan_19 ?_
  refine lv_iload_n hx hb d_P_termOfSpan_22 rfl (lv_at hl 5 rfl) ?_
  refine laX_P_above1 hc hw d_P_termOfSpan_23 ?_
  refine lv_iload hx hb d_P_termOfSpan_24 (lv_at hl 1 rfl) ?_
  refine ldX_P_above1 hc hw d_P_termOfSpan_26 (by omega) ?_
  refine z_lst hx hb d_P_termOfSpan_27 hl (by decide) (fun x8_27 ex8_27 ls (hl : lv_has ls 12 [(8, .long (zL x8_27)), (6, .long (zL (σ 35 (prOf a b)))), (5, .int (zI (prOf a b))), (0, .ref (ad 103)), (1, .int (zI a)), (2, .int (zI b)), (3, .int (zI 1)), (4, .int (zI 0))]) => ?_)
  subst ex8_27
  refine z_lc1 hx hb d_P_termOfSpan_29 ?_
  refine lv_lload hx hb d_P_termOfSpan_30 (lv_at hl 1 rfl) ?_
  refine lv_lload hx hb d_P_termOfSpan_32 (lv_at hl 0 rfl) ?_
  refine w_csR hc hw (k_P_commonDivisor _ _ _ h1 h2) yw_P_commonDivisor yi_P_commonDivisor lk_P_38 d_P_termOfSpan_34 rfl rfl hl.1 (Nat.le_of_ble_eq_true rfl) ⟨Nat.le_of_ble_eq_true rfl, Nat.le_of_ble_eq_true rfl⟩ ⟨Nat.zero_le _, Nat.zero_le _⟩ (fun τ34 H locs hτ34 hw => ?_)
  subst hτ34
  refine w_csR hc hw (k_JM_maxL _ _ _ (by omega) (by omega)) yw_JM_maxL yi_JM_maxL lk_P_42 d_P_termOfSpan_37 rfl rfl hl.1 (Nat.le_of_ble_eq_true rfl) ⟨Nat.le_of_ble_eq_true rfl, Nat.le_of_ble_eq_true rfl⟩ ⟨Nat.zero_le _, Nat.zero_le _⟩ (fun τ37 H locs hτ37 hw => ?_)
  subst hτ37
  refine z_lst hx hb d_P_termOfSpan_40 hl (by decide) (fun x10_40 ex10_40 ls (hl : lv_has ls 12 [(10, .long (zL x10_40)), (8, .long (zL (σ 33 (prOf a b)))), (6, .long (zL (σ 35 (prOf a b)))), (5, .int (zI (prOf a b))), (0, .ref (ad 103)), (1, .int (zI a)), (2, .int (zI b)), (3, .int (zI 1)), (4, .int (zI 0))]) => ?_)
  subst ex10_40
  refine lv_iload hx hb d_P_termOfSpan_42 (lv_at hl 8 rfl) ?_
  refine z_if_ne hx hb 52 d_P_termOfSpan_44 (by omega) (by decide) (fun c44 => ?_) (fun c44 => ?_)
  · exact absurd c44 (by decide)
  · refine lv_lload hx hb d_P_termOfSpan_47 (lv_at hl 2 rfl) ?_
    refine lv_goto (tgt := 54) hx hb d_P_termOfSpan_49 (by decide) ?_
    refine lv_lload hx hb d_P_termOfSpan_54 (lv_at hl 0 rfl) ?_
    refine z_ldiv hx hb d_P_termOfSpan_56 (by omega) ?_
    exact w_lret hc hw (⟨rfl, rfl⟩) d_P_termOfSpan_57
set_option maxHeartbeats 400000 in
set_option maxRecDepth 100000 in
theorem k_P_termOfSpan11 {l : Launch} {D : va_G} {ad : Nat → Nat} {ca : Nat → ClassId} (σ : St) (a b : Int) (ha : 0 ≤ a ∧ a < 12) (hb2 : 0 ≤ b ∧ b < 12) (h1 : 0 ≤ σ 35 (prOf a b) ∧ σ 35 (prOf a b) < 4611686018427387904) (h2 : 0 ≤ σ 33 (prOf a b) ∧ σ 33 (prOf a b) < 4611686018427387904) : Cw l D cl7 (tyX ca) (wX ad ca) y_P_termOfSpan c_P_termOfSpan 12 (some .long) 2 [.ref (ad 103), .int (zI a), .int (zI b), .int (zI 1), .int (zI 1)] σ (RW (.long (zL (σ 33 (prOf a b) / max 1 (gcdF 200 (σ 35 (prOf a b)) (σ 33 (prOf a b)))))) (σ = ·)) := by
  have hpr : 0 ≤ prOf a b ∧ prOf a b < 144 := by unfold prOf; omega
  have hg := gcdF_bd 200 _ _ h1.1 h2.1 h1.2 h2.2
  refine Cw.enter (by decide) (Nat.le_of_ble_eq_true rfl) ?_
  intro A p e s m below meth c hc ls hl hw
  have hl : lv_has ls 12 [(0, .ref (ad 103)), (1, .int (zI a)), (2, .int (zI b)), (3, .int (zI 1)), (4, .int (zI 1))] := hl
  obtain ⟨hx, hb, hml, hown, hTB, hK, hr, hlk⟩ := id hc
  refine lv_iload_n hx hb d_P_termOfSpan_0 rfl (lv_at hl 1 rfl) ?_
  refine lv_iload_n hx hb d_P_termOfSpan_1 rfl (lv_at hl 2 rfl) ?_
  refine w_csR hc hw (k_P_pairOf _ _ _ ha hb2) yw_P_pairOf yi_P_pairOf lk_P_26 d_P_termOfSpan_2 rfl rfl hl.1 (Nat.le_of_ble_eq_true rfl) ⟨Nat.le_of_ble_eq_true rfl, Nat.le_of_ble_eq_true rfl⟩ ⟨Nat.zero_le _, Nat.zero_le _⟩ (fun τ2 H locs hτ2 hw => ?_)
  subst hτ2
  refine z_ist hx hb d_P_termOfSpan_5 hl (by decide) (fun x5_5 ex5_5 ls (hl : lv_has ls 12 [(5, .int (zI x5_5)), (0, .ref (ad 103)), (1, .int (zI a)), (2, .int (zI b)), (3, .int (zI 1)), (4, .int (zI 1))]) => ?_)
  subst ex5_5
  refine lv_aload_n hx hb d_P_termOfSpan_7 rfl (lv_at hl 1 rfl) ?_
  refine gX_P_below hc hw lk_P_23 d_P_termOfSpan_8 ?_
  refine lv_iload_n hx hb d_P_termOfSpan_11 rfl (lv_at hl 4 rfl) ?_
  refine laX_P_below1 hc hw d_P_termOfSpan_12 ?_
  refine lv_iload hx hb d_P_termOfSpan_13 (lv_at hl 0 rfl) ?_
  refine ldX_P_below1 hc hw d_P_termOfSpan_15 (by omega) ?_
  refine z_lst hx hb d_P_termOfSpan_16 hl (by decide) (fun x6_16 ex6_16 ls (hl : lv_has ls 12 [(6, .long (zL x6_16)), (5, .int (zI (prOf a b))), (0, .ref (ad 103)), (1, .int (zI a)), (2, .int (zI b)), (3, .int (zI 1)), (4, .int (zI 1))]) => ?_)
  subst ex6_16
  refine lv_aload_n hx hb d_P_termOfSpan_18 rfl (lv_at hl 2 rfl) ?_
  refine gX_P_above hc hw lk_P_20 d_P_termOfSpan_19 ?_
  refine lv_iload_n hx hb d_P_termOfSpan_22 rfl (lv_at hl 5 rfl) ?_
  refine laX_P_above1 hc hw d_P_termOfSpan_23 ?_
  refine lv_iload hx hb d_P_termOfSpan_24 (lv_at hl 1 rfl) ?_
  refine ldX_P_above1 hc hw d_P_termOfSpan_26 (by omega) ?_
  refine z_lst hx hb d_P_termOfSpan_27 hl (by decide) (fun x8_27 ex8_27 ls (hl : lv_has ls 12 [(8, .long (zL x8_27)), (6, .long (zL (σ 35 (prOf a b)))), (5, .int (zI (prOf a b))), (0, .ref (ad 103)), (1, .int (zI a)), (2, .int (zI b)), (3, .int (zI 1)), (4, .int (zI 1))]) => ?_)
  subst ex8_27
  refine z_lc1 hx hb d_P_termOfSpan_29 ?_
  refine lv_lload hx hb d_P_termOfSpan_30 (lv_at hl 1 rfl) ?_
  refine lv_lload hx hb d_P_termOfSpan_32 (lv_at hl 0 rfl) ?_
  refine w_csR hc hw (k_P_commonDivisor _ _ _ h1 h2) yw_P_commonDivisor yi_P_commonDivisor lk_P_38 d_P_termOfSpan_34 rfl rfl hl.1 (Nat.le_of_ble_eq_true rfl) ⟨Nat.le_of_ble_eq_true rfl, Nat.le_of_ble_eq_true rfl⟩ ⟨Nat.zero_le _, Nat.zero_le _⟩ (fun τ34 H locs hτ34 hw => ?_)
  subst hτ34
  refine w_csR hc hw (k_JM_maxL _ _ _ (by omega) (by omega)) yw_JM_maxL yi_JM_maxL lk_P_42 d_P_termOfSpan_37 rfl rfl hl.1 (Nat.le_of_ble_eq_true rfl) ⟨Nat.le_of_ble_eq_true rfl, Nat.le_of_ble_eq_true rfl⟩ ⟨Nat.zero_le _, Nat.zero_le _⟩ (fun τ37 H locs hτ37 hw => ?_)
  subst hτ37
  refine z_lst hx hb d_P_termOfSpan_40 hl (by decide) (fun x10_40 ex10_40 ls (hl : lv_has ls 12 [(10, .long (zL x10_40)), (8, .long (zL (σ 33 (prOf a b)))), (6, .long (zL (σ 35 (prOf a b)))), (5, .int (zI (prOf a b))), (0, .ref (ad 103)), (1, .int (zI a)), (2, .int (zI b)), (3, .int (zI 1)), (4, .int (zI 1))]) => ?_)
  subst ex10_40
  refine lv_iload hx hb d_P_termOfSpan_42 (lv_at hl 8 rfl) ?_
  refine z_if_ne hx hb 52 d_P_termOfSpan_44 (by omega) (by decide) (fun c44 => ?_) (fun c44 => ?_)
  · refine lv_lload hx hb d_P_termOfSpan_52 (lv_at hl 1 rfl) ?_
    refine lv_lload hx hb d_P_termOfSpan_54 (lv_at hl 0 rfl) ?_
    refine z_ldiv hx hb d_P_termOfSpan_56 (by omega) ?_
    exact w_lret hc hw (⟨rfl, rfl⟩) d_P_termOfSpan_57
  · exact absurd c44 (by decide)
