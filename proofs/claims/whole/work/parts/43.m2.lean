set_option maxHeartbeats 400000 in
set_option maxRecDepth 100000 in
theorem k_M_bits {l : Launch} {D : va_G} {ad : Nat → Nat} {ca : Nat → ClassId} (μ : St) (a : Int) (ha : 0 ≤ a ∧ a < 4096) : Cw l D cl7 (tyM ca) (wM ad ca) y_M_bits c_M_bits 3 (some .int) 0 [.int (zI a)] μ (RW (.int (zI (popc a))) (μ = ·)) := by
  refine Cw.enter (by decide) (Nat.le_of_ble_eq_true rfl) ?_
  intro A p e s m below meth c hc ls hl hw
  have hl : lv_has ls 3 [(0, .int (zI a))] := hl
  obtain ⟨hx, hb, hml, hown, hTB, hK, hr, hlk⟩ := id hc
  refine z_ic hx hb d_M_bits_0 ?_
  refine z_ist_n hx hb d_M_bits_1 rfl hl (by decide) (fun x1_1 ex1_1 ls (hl : lv_has ls 3 [(1, .int (zI x1_1)), (0, .int (zI a))]) => ?_)
  refine lv_iload_n hx hb d_M_bits_2 rfl (lv_at hl 1 rfl) ?_
  refine z_ist_n hx hb d_M_bits_3 rfl hl (by decide) (fun x2_3 ex2_3 ls (hl : lv_has ls 3 [(2, .int (zI x2_3)), (1, .int (zI x1_1)), (0, .int (zI a))]) => ?_)
  have L4 : ∀ (nf : Nat) (v : Int) (n : Int) (H : Heap) (locs : List Loc), (0 ≤ v ∧ v < 4096) → (popc a = n + popc v) → (v).toNat < nf → Wd D cl7 (wM ad ca) A s.heap μ H locs → ∀ ls : Array Slot, lv_has ls 3 [(2, .int (zI v)), (1, .int (zI n)), (0, .int (zI a))] → W p l e (Rmh 0) s m ([.int (zI a)] : List Value).toArray below meth c H locs 0 0 (MQ below (Qw D cl7 (wM ad ca) A (RW (.int (zI (popc a))) (μ = ·))) ([.int (zI a)] : List Value).toArray s 0 0 A) (F0 m 4 ls []) := by
    intro nf
    induction nf with
    | zero => intro v n  H locs hv hN hm; exact absurd hm (Nat.not_lt_zero _)
    | succ nf ih4 =>
      intro v n  H locs hv hN hm4 hw ls hl
      refine lv_iload_n hx hb d_M_bits_4 rfl (lv_at hl 0 rfl) ?_
      refine z_if_eq hx hb 21 d_M_bits_5 (by omega) (by decide) (fun c5 => ?_) (fun c5 => ?_)
      · refine lv_iload_n hx hb d_M_bits_21 rfl (lv_at hl 1 rfl) ?_
        exact w_iret hc hw (⟨by rw [hN, c5, popc_0, Int.add_zero], rfl⟩) d_M_bits_22
      · refine lv_iload_n hx hb d_M_bits_8 rfl (lv_at hl 1 rfl) ?_
        refine lv_iload_n hx hb d_M_bits_9 rfl (lv_at hl 0 rfl) ?_
        refine z_ic hx hb d_M_bits_10 ?_
        refine z_iand hx hb d_M_bits_11 (⟨hv.1, by decide⟩) ?_
        rw [zAnd_one hv.1]
        refine z_iadd hx hb d_M_bits_12 ?_
        refine z_ist_n hx hb d_M_bits_13 rfl hl (by decide) (fun x1_13 ex1_13 ls (hl : lv_has ls 3 [(1, .int (zI x1_13)), (2, .int (zI v)), (0, .int (zI a))]) => ?_)
        refine lv_iload_n hx hb d_M_bits_14 rfl (lv_at hl 1 rfl) ?_
        refine z_ic hx hb d_M_bits_15 ?_
        refine z_ishr hx hb d_M_bits_16 (by omega) ?_
        rw [shr_one hv.1]
        refine z_ist_n hx hb d_M_bits_17 rfl hl (by decide) (fun x2_17 ex2_17 ls (hl : lv_has ls 3 [(2, .int (zI x2_17)), (1, .int (zI x1_13)), (0, .int (zI a))]) => ?_)
        refine lv_goto (tgt := 4) hx hb d_M_bits_18 (by decide) ?_
        exact ih4 x2_17 x1_13 _ _ (by rw [ex2_17]; omega) (by rw [hN, popc_step hv, ex1_13, ex2_17]; omega) (by rw [ex2_17]; omega) hw ls (lv_sub hl [0, 1, 2] rfl)
  exact L4 _ x2_3 x1_1 _ _ (by omega) (by rw [ex1_1, ex2_3]; omega) (Nat.lt_succ_self _) hw ls (lv_sub hl [0, 1, 2] rfl)
set_option maxHeartbeats 400000 in
set_option maxRecDepth 100000 in
theorem k_M_explains {l : Launch} {D : va_G} {ad : Nat → Nat} {ca : Nat → ClassId} (μ : St) (a : Int) (ha : 0 ≤ a ∧ a < 4096) (hI : 0 ≤ μ 1 0 ∧ μ 1 0 ≤ 12) (hO : ∀ i, 0 ≤ μ 21 i ∧ μ 21 i < 4096) : Cw l D cl7 (tyM ca) (wM ad ca) y_M_explains c_M_explains 3 (some .boolean) 0 [.ref (ad 100), .int (zI a)] μ (RW (.int (zI (bI (exPl μ a)))) (μ = ·)) := by
  refine Cw.enter (by decide) (Nat.le_of_ble_eq_true rfl) ?_
  intro A p e s m below meth c hc ls hl hw
  have hl : lv_has ls 3 [(0, .ref (ad 100)), (1, .int (zI a))] := hl
  obtain ⟨hx, hb, hml, hown, hTB, hK, hr, hlk⟩ := id hc
  refine z_ic hx hb d_M_explains_0 ?_
  refine z_ist_n hx hb d_M_explains_1 rfl hl (by decide) (fun x2_1 ex2_1 ls (hl : lv_has ls 3 [(2, .int (zI x2_1)), (0, .ref (ad 100)), (1, .int (zI a))]) => ?_)
  have L2 : ∀ (nf : Nat) (n : Int) (H : Heap) (locs : List Loc), (0 ≤ n ∧ n ≤ μ 1 0) → (exB μ a (μ 1 0).toNat 0 = exB μ a (μ 1 0 - n).toNat n) → (μ 1 0 - n).toNat < nf → Wd D cl7 (wM ad ca) A s.heap μ H locs → ∀ ls : Array Slot, lv_has ls 3 [(2, .int (zI n)), (0, .ref (ad 100)), (1, .int (zI a))] → W p l e (Rmh 0) s m ([.ref (ad 100), .int (zI a)] : List Value).toArray below meth c H locs 0 0 (MQ below (Qw D cl7 (wM ad ca) A (RW (.int (zI (bI (exPl μ a)))) (μ = ·))) ([.ref (ad 100), .int (zI a)] : List Value).toArray s 0 0 A) (F0 m 2 ls []) := by
    intro nf
    induction nf with
    | zero => intro n  H locs hn hN hm; exact absurd hm (Nat.not_lt_zero _)
    | succ nf ih2 =>
      intro n  H locs hn hN hm2 hw ls hl
      refine lv_iload_n hx hb d_M_explains_2 rfl (lv_at hl 0 rfl) ?_
      refine lv_aload_n hx hb d_M_explains_3 rfl (lv_at hl 1 rfl) ?_
      refine gM_M_nets hc hw lk_M_64 d_M_explains_4 ?_
      refine z_icmp_ge hx hb 39 d_M_explains_7 (by omega) (by omega) (by decide) (fun c7 => ?_) (fun c7 => ?_)
      · refine z_ic hx hb d_M_explains_39 ?_
        exact w_zret hc hw (by omega) (⟨by rw [bI_t (by unfold exPl; rw [hN, show (μ 1 0 - n).toNat = 0 by omega]; rfl)], rfl⟩) d_M_explains_40
      · have q : (μ 1 0 - n).toNat = (μ 1 0 - (n + 1)).toNat + 1 := by omega
        rw [q, exB_s] at hN
        have hOn := hO n
        have hxz := xzN_bd (t := a) hOn
        refine lv_iload_n hx hb d_M_explains_10 rfl (lv_at hl 2 rfl) ?_
        refine lv_iload_n hx hb d_M_explains_11 rfl (lv_at hl 0 rfl) ?_
        refine z_ishr hx hb d_M_explains_12 (by omega) ?_
        refine z_ic hx hb d_M_explains_13 ?_
        refine z_iand hx hb d_M_explains_14 (⟨Int.natCast_nonneg _, by decide⟩) ?_
        rw [zAnd1 a n ha.1]
        refine z_ifb_ne hx hb 33 d_M_explains_15 (by decide) (fun c15 => ?_) (fun c15 => ?_)
        · refine z_iinc (k := 0) hx hb d_M_explains_33 hl rfl (by decide) (fun x2_33 ex2_33 ls (hl : lv_has ls 3 [(2, .int (zI x2_33)), (0, .ref (ad 100)), (1, .int (zI a))]) => ?_)
          refine lv_goto (tgt := 2) hx hb d_M_explains_36 (by decide) ?_
          exact ih2 x2_33 _ _ (by omega) (by rw [hN, ex2_33]; first | (rw [if_neg (fun q => q.1 c15)]; done) | (rw [if_neg (fun q => q.2 c28)]; done)) (by omega) hw ls (lv_sub hl [0, 1, 2] rfl)
        · refine lv_aload_n hx hb d_M_explains_18 rfl (lv_at hl 1 rfl) ?_
          refine gM_M_failed hc hw lk_M_51 d_M_explains_19 ?_
          refine lv_iload_n hx hb d_M_explains_22 rfl (lv_at hl 0 rfl) ?_
          refine ldM_M_failed hc hw d_M_explains_23 (by omega) ?_
          refine lv_iload_n hx hb d_M_explains_24 rfl (lv_at hl 2 rfl) ?_
          refine z_ic hx hb d_M_explains_25 ?_
          refine lv_ixor hx hb d_M_explains_26 ?_
          refine z_andn hx hb d_M_explains_27 (⟨hOn, ha.1⟩) ?_
          refine z_if_eq hx hb 33 d_M_explains_28 (by omega) (by decide) (fun c28 => ?_) (fun c28 => ?_)
          · refine z_iinc (k := 0) hx hb d_M_explains_33 hl rfl (by decide) (fun x2_33 ex2_33 ls (hl : lv_has ls 3 [(2, .int (zI x2_33)), (0, .ref (ad 100)), (1, .int (zI a))]) => ?_)
            refine lv_goto (tgt := 2) hx hb d_M_explains_36 (by decide) ?_
            exact ih2 x2_33 _ _ (by omega) (by rw [hN, ex2_33]; first | (rw [if_neg (fun q => q.1 c15)]; done) | (rw [if_neg (fun q => q.2 c28)]; done)) (by omega) hw ls (lv_sub hl [0, 1, 2] rfl)
          · refine z_ic hx hb d_M_explains_31 ?_
            exact w_zret hc hw (by omega) (⟨by rw [bI_f (fun z => by unfold exPl at z; rw [hN, if_pos ⟨c15, c28⟩] at z; cases z)], rfl⟩) d_M_explains_32
  exact L2 _ x2_1 _ _ (by omega) (by rw [ex2_1, show (μ 1 0 - 0).toNat = (μ 1 0).toNat from (by omega)]) (Nat.lt_succ_self _) hw ls (lv_sub hl [0, 1, 2] rfl)
set_option maxHeartbeats 400000 in
set_option maxRecDepth 100000 in
theorem k_M_comesFirst {l : Launch} {D : va_G} {ad : Nat → Nat} {ca : Nat → ClassId} (μ : St) (a b : Int) (ha : 0 ≤ a ∧ a < 4096) (hb2 : 0 ≤ b ∧ b < 4096) (hne : ¬ a = b) : Cw l D cl7 (tyM ca) (wM ad ca) y_M_comesFirst c_M_comesFirst 4 (some .boolean) 0 [.int (zI a), .int (zI b)] μ (RW (.int (zI (bI (cmF a b)))) (μ = ·)) := by
  have hx2 := zXor_bd ha hb2
  obtain ⟨L0, hL0⟩ : ∃ z, z = lbF (zXor a b) 12 0 := ⟨_, rfl⟩
  refine Cw.enter (by decide) (Nat.le_of_ble_eq_true rfl) ?_
  intro A p e s m below meth c hc ls hl hw
  have hl : lv_has ls 4 [(0, .int (zI a)), (1, .int (zI b))] := hl
  obtain ⟨hx, hb, hml, hown, hTB, hK, hr, hlk⟩ := id hc
  refine lv_iload_n hx hb d_M_comesFirst_0 rfl (lv_at hl 0 rfl) ?_
  refine lv_iload_n hx hb d_M_comesFirst_1 rfl (lv_at hl 1 rfl) ?_
  refine z_ixor hx hb d_M_comesFirst_2 (by omega) ?_
  refine z_ist_n hx hb d_M_comesFirst_3 rfl hl (by decide) (fun x2_3 ex2_3 ls (hl : lv_has ls 4 [(2, .int (zI x2_3)), (0, .int (zI a)), (1, .int (zI b))]) => ?_)
  subst ex2_3
  refine z_ic hx hb d_M_comesFirst_4 ?_
  refine z_ist_n hx hb d_M_comesFirst_5 rfl hl (by decide) (fun x3_5 ex3_5 ls (hl : lv_has ls 4 [(3, .int (zI x3_5)), (2, .int (zI (zXor a b))), (0, .int (zI a)), (1, .int (zI b))]) => ?_)
  have L6 : ∀ (nf : Nat) (i : Int) (H : Heap) (locs : List Loc), (0 ≤ i ∧ i ≤ 12) → (L0 = lbF (zXor a b) (12 - i).toNat i) → (∀ j, 0 ≤ j → j < i → ¬ zB (zXor a b) j) → (12 - i).toNat < nf → Wd D cl7 (wM ad ca) A s.heap μ H locs → ∀ ls : Array Slot, lv_has ls 4 [(3, .int (zI i)), (2, .int (zI (zXor a b))), (0, .int (zI a)), (1, .int (zI b))] → W p l e (Rmh 0) s m ([.int (zI a), .int (zI b)] : List Value).toArray below meth c H locs 0 0 (MQ below (Qw D cl7 (wM ad ca) A (RW (.int (zI (bI (cmF a b)))) (μ = ·))) ([.int (zI a), .int (zI b)] : List Value).toArray s 0 0 A) (F0 m 6 ls []) := by
    intro nf
    induction nf with
    | zero => intro i  H locs hi hN hno hm; exact absurd hm (Nat.not_lt_zero _)
    | succ nf ih6 =>
      intro i  H locs hi hN hno hm6 hw ls hl
      have hi12 : i < 12 := by rcases Int.lt_or_le i 12 with q | q; exact q; exact absurd (zXor_0 ha.1 hb2.1 (bits_0 hx2 (fun j h0 h1 => hno j h0 (by omega)))) hne
      have q : (12 - i).toNat = (12 - (i + 1)).toNat + 1 := by omega
      rw [q, lbF_s] at hN
      refine lv_iload_n hx hb d_M_comesFirst_6 rfl (lv_at hl 1 rfl) ?_
      refine lv_iload_n hx hb d_M_comesFirst_7 rfl (lv_at hl 0 rfl) ?_
      refine z_ishr hx hb d_M_comesFirst_8 (by omega) ?_
      refine z_ic hx hb d_M_comesFirst_9 ?_
      refine z_iand hx hb d_M_comesFirst_10 (⟨Int.natCast_nonneg _, by decide⟩) ?_
      rw [zAnd1 (zXor a b) i hx2.1]
      refine z_ifb_ne hx hb 20 d_M_comesFirst_11 (by decide) (fun c11 => ?_) (fun c11 => ?_)
      · rw [if_pos c11] at hN
        refine lv_iload_n hx hb d_M_comesFirst_20 rfl (lv_at hl 2 rfl) ?_
        refine lv_iload_n hx hb d_M_comesFirst_21 rfl (lv_at hl 0 rfl) ?_
        refine z_ishr hx hb d_M_comesFirst_22 (by omega) ?_
        refine z_ic hx hb d_M_comesFirst_23 ?_
        refine z_iand hx hb d_M_comesFirst_24 (⟨Int.natCast_nonneg _, by decide⟩) ?_
        refine z_ic hx hb d_M_comesFirst_25 ?_
        rw [zAnd1 a i ha.1]
        refine z_icmp_ne hx hb 33 d_M_comesFirst_26 (by have := bI_r (zB a i); omega) (by have := bI_r (zB a i); omega) (by decide) (fun c26 => ?_) (fun c26 => ?_)
        · refine z_ic hx hb d_M_comesFirst_33 ?_
          exact w_zret hc hw (by omega) (⟨by congr 3; unfold cmF; rw [← hL0, hN]; have := bI_01 (zB a i); omega, rfl⟩) d_M_comesFirst_34
        · refine z_ic hx hb d_M_comesFirst_29 ?_
          refine lv_goto (tgt := 34) hx hb d_M_comesFirst_30 (by decide) ?_
          exact w_zret hc hw (by omega) (⟨by congr 3; unfold cmF; rw [← hL0, hN]; have := bI_01 (zB a i); omega, rfl⟩) d_M_comesFirst_34
      · refine z_iinc (k := 0) hx hb d_M_comesFirst_14 hl rfl (by decide) (fun x3_14 ex3_14 ls (hl : lv_has ls 4 [(3, .int (zI x3_14)), (2, .int (zI (zXor a b))), (0, .int (zI a)), (1, .int (zI b))]) => ?_)
        refine lv_goto (tgt := 6) hx hb d_M_comesFirst_17 (by decide) ?_
        exact ih6 x3_14 _ _ (by omega) (by rw [hN, if_neg c11, ex3_14]) (fun j h0 h1 => by by_cases z : j = i; rw [z]; exact c11; exact hno j h0 (by omega)) (by omega) hw ls (lv_sub hl [0, 1, 2, 3] rfl)
  exact L6 _ x3_5 _ _ (by omega) (by rw [ex3_5, show ((12 : Int) - 0).toNat = 12 from (by decide)]; exact hL0) (fun j h0 h1 => by omega) (Nat.lt_succ_self _) hw ls (lv_sub hl [0, 1, 2, 3] rfl)
set_option maxHeartbeats 400000 in
set_option maxRecDepth 100000 in
theorem k_M_suspectSet {l : Launch} {D : va_G} {ad : Nat → Nat} {ca : Nat → ClassId} (μ : St) (hI : 0 ≤ μ 1 0 ∧ μ 1 0 ≤ 12) (hO : ∀ i, 0 ≤ μ 21 i ∧ μ 21 i < 4096) : Cw l D cl7 (tyM ca) (wM ad ca) y_M_suspectSet c_M_suspectSet 5 (some .int) 1 [.ref (ad 100)] μ (RW (.int (zI (suS μ))) (μ = ·)) := by
  have hp := Nat.pow_le_pow_right (n := 2) (by decide) (show (μ 1 0).toNat ≤ 12 by omega)
  have hp : ((2 ^ (μ 1 0).toNat : Nat) : Int) ≤ 4096 := Int.ofNat_le.mpr hp
  have hp0 : 0 ≤ ((2 ^ (μ 1 0).toNat : Nat) : Int) := Int.natCast_nonneg _
  refine Cw.enter (by decide) (Nat.le_of_ble_eq_true rfl) ?_
  intro A p e s m below meth c hc ls hl hw
  have hl : lv_has ls 5 [(0, .ref (ad 100))] := hl
  obtain ⟨hx, hb, hml, hown, hTB, hK, hr, hlk⟩ := id hc
  refine z_si hx hb d_M_suspectSet_0 (by decide) ?_
  refine z_ist_n hx hb d_M_suspectSet_3 rfl hl (by decide) (fun x1_3 ex1_3 ls (hl : lv_has ls 5 [(1, .int (zI x1_3)), (0, .ref (ad 100))]) => ?_)
  refine z_ic hx hb d_M_suspectSet_4 ?_
  refine z_ist_n hx hb d_M_suspectSet_5 rfl hl (by decide) (fun x2_5 ex2_5 ls (hl : lv_has ls 5 [(2, .int (zI x2_5)), (1, .int (zI x1_3)), (0, .ref (ad 100))]) => ?_)
  have L6 : ∀ (nf : Nat) (v : Int) (t : Int) (H : Heap) (locs : List Loc), (0 ≤ v ∧ v ≤ ((2 ^ (μ 1 0).toNat : Nat) : Int)) → (0 ≤ t ∧ t < 4096) → (suS μ = ssF μ (((2 ^ (μ 1 0).toNat : Nat) : Int) - v).toNat v t) → (((2 ^ (μ 1 0).toNat : Nat) : Int) - v).toNat < nf → Wd D cl7 (wM ad ca) A s.heap μ H locs → ∀ ls : Array Slot, lv_has ls 5 [(2, .int (zI v)), (1, .int (zI t)), (0, .ref (ad 100))] → W p l e (Rmh 1) s m ([.ref (ad 100)] : List Value).toArray below meth c H locs 0 0 (MQ below (Qw D cl7 (wM ad ca) A (RW (.int (zI (suS μ))) (μ = ·))) ([.ref (ad 100)] : List Value).toArray s 0 0 A) (F0 m 6 ls []) := by
    intro nf
    induction nf with
    | zero => intro v t  H locs hv ht hN hm; exact absurd hm (Nat.not_lt_zero _)
    | succ nf ih6 =>
      intro v t  H locs hv ht hN hm6 hw ls hl
      have hpt := popc_bd t
      have hpv := popc_bd v
      refine lv_iload_n hx hb d_M_suspectSet_6 rfl (lv_at hl 0 rfl) ?_
      refine z_ic hx hb d_M_suspectSet_7 ?_
      refine lv_aload_n hx hb d_M_suspectSet_8 rfl (lv_at hl 2 rfl) ?_
      refine gM_M_nets hc hw lk_M_64 d_M_suspectSet_9 ?_
      refine z_shl1 hx hb d_M_suspectSet_12 (by omega) ?_
      refine z_icmp_ge hx hb 71 d_M_suspectSet_13 (by omega) (by omega) (by decide) (fun c13 => ?_) (fun c13 => ?_)
      · refine lv_iload_n hx hb d_M_suspectSet_71 rfl (lv_at hl 1 rfl) ?_
        exact w_iret hc hw (⟨by rw [hN, show (((2 ^ (μ 1 0).toNat : Nat) : Int) - v).toNat = 0 by omega]; rfl, rfl⟩) d_M_suspectSet_72
      · have q : (((2 ^ (μ 1 0).toNat : Nat) : Int) - v).toNat = (((2 ^ (μ 1 0).toNat : Nat) : Int) - (v + 1)).toNat + 1 := by omega
        rw [q, ssF_s] at hN
        refine lv_aload_n hx hb d_M_suspectSet_16 rfl (lv_at hl 2 rfl) ?_
        refine lv_iload_n hx hb d_M_suspectSet_17 rfl (lv_at hl 0 rfl) ?_
        refine w_cvR (q0 := 0) hc hw (k_M_explains _ _ (by omega) hI hO) yw_M_explains yi_M_explains lk_M_132 d_M_suspectSet_18 rfl rfl rfl rfl hl.1 (Nat.le_of_ble_eq_true rfl) ⟨Nat.le_of_ble_eq_true rfl, Nat.le_of_ble_eq_true rfl⟩ ⟨Nat.zero_le _, Nat.zero_le _⟩ (fun τ18 H locs hτ18 hw => ?_)
        subst hτ18
        refine z_ifb_ne hx hb 27 d_M_suspectSet_21 (by decide) (fun c21 => ?_) (fun c21 => ?_)
        · refine lv_iload_n hx hb d_M_suspectSet_27 rfl (lv_at hl 0 rfl) ?_
          refine w_csR hc hw (k_M_bits _ _ (by omega)) yw_M_bits yi_M_bits lk_M_135 d_M_suspectSet_28 rfl rfl hl.1 (Nat.le_of_ble_eq_true rfl) ⟨Nat.le_of_ble_eq_true rfl, Nat.le_of_ble_eq_true rfl⟩ ⟨Nat.zero_le _, Nat.zero_le _⟩ (fun τ28 H locs hτ28 hw => ?_)
          subst hτ28
          refine z_ist_n hx hb d_M_suspectSet_31 rfl hl (by decide) (fun x3_31 ex3_31 ls (hl : lv_has ls 5 [(3, .int (zI x3_31)), (2, .int (zI v)), (1, .int (zI t)), (0, .ref (ad 100))]) => ?_)
          refine lv_iload_n hx hb d_M_suspectSet_32 rfl (lv_at hl 2 rfl) ?_
          refine w_csR hc hw (k_M_bits _ _ (by omega)) yw_M_bits yi_M_bits lk_M_135 d_M_suspectSet_33 rfl rfl hl.1 (Nat.le_of_ble_eq_true rfl) ⟨Nat.le_of_ble_eq_true rfl, Nat.le_of_ble_eq_true rfl⟩ ⟨Nat.zero_le _, Nat.zero_le _⟩ (fun τ33 H locs hτ33 hw => ?_)
          subst hτ33
          refine z_ist hx hb d_M_suspectSet_36 hl (by decide) (fun x4_36 ex4_36 ls (hl : lv_has ls 5 [(4, .int (zI x4_36)), (3, .int (zI x3_31)), (2, .int (zI v)), (1, .int (zI t)), (0, .ref (ad 100))]) => ?_)
          refine lv_iload_n hx hb d_M_suspectSet_38 rfl (lv_at hl 1 rfl) ?_
          refine lv_iload hx hb d_M_suspectSet_39 (lv_at hl 0 rfl) ?_
          refine z_icmp_lt hx hb 63 d_M_suspectSet_41 (by omega) (by omega) (by decide) (fun c41 => ?_) (fun c41 => ?_)
          · refine lv_iload_n hx hb d_M_suspectSet_63 rfl (lv_at hl 2 rfl) ?_
            refine z_ist_n hx hb d_M_suspectSet_64 rfl hl (by decide) (fun x1_64 ex1_64 ls (hl : lv_has ls 5 [(1, .int (zI x1_64)), (4, .int (zI x4_36)), (3, .int (zI x3_31)), (2, .int (zI v)), (0, .ref (ad 100))]) => ?_)
            refine z_iinc (k := 3) hx hb d_M_suspectSet_65 hl rfl (by decide) (fun x2_65 ex2_65 ls (hl : lv_has ls 5 [(2, .int (zI x2_65)), (1, .int (zI x1_64)), (4, .int (zI x4_36)), (3, .int (zI x3_31)), (0, .ref (ad 100))]) => ?_)
            refine lv_goto (tgt := 6) hx hb d_M_suspectSet_68 (by decide) ?_
            exact ih6 x2_65 x1_64 _ _ (by omega) (by omega) (by rw [hN, ex2_65]; first | (rw [if_neg (fun z => c21 z.1)]; done) | (rw [if_pos ⟨c21, Or.inl (by omega)⟩, ex1_64]; done) | (rw [if_pos ⟨c21, Or.inr ⟨by omega, by omega, c60⟩⟩, ex1_64]; done) | (rw [if_neg (fun z => z.2.elim (fun z => by omega) (fun z => c60 z.2.2))]; done) | (rw [if_neg (fun z => z.2.elim (fun z => by omega) (fun z => by omega))]; done)) (by omega) hw ls (lv_sub hl [0, 1, 4] rfl)
          · refine lv_iload_n hx hb d_M_suspectSet_44 rfl (lv_at hl 1 rfl) ?_
            refine lv_iload hx hb d_M_suspectSet_45 (lv_at hl 0 rfl) ?_
            refine z_icmp_ne hx hb 65 d_M_suspectSet_47 (by omega) (by omega) (by decide) (fun c47 => ?_) (fun c47 => ?_)
            · refine z_iinc (k := 2) hx hb d_M_suspectSet_65 hl rfl (by decide) (fun x2_65 ex2_65 ls (hl : lv_has ls 5 [(2, .int (zI x2_65)), (4, .int (zI x4_36)), (3, .int (zI x3_31)), (1, .int (zI t)), (0, .ref (ad 100))]) => ?_)
              refine lv_goto (tgt := 6) hx hb d_M_suspectSet_68 (by decide) ?_
              exact ih6 x2_65 t _ _ (by omega) (by omega) (by rw [hN, ex2_65]; first | (rw [if_neg (fun z => c21 z.1)]; done) | (rw [if_pos ⟨c21, Or.inl (by omega)⟩, ex1_64]; done) | (rw [if_pos ⟨c21, Or.inr ⟨by omega, by omega, c60⟩⟩, ex1_64]; done) | (rw [if_neg (fun z => z.2.elim (fun z => by omega) (fun z => c60 z.2.2))]; done) | (rw [if_neg (fun z => z.2.elim (fun z => by omega) (fun z => by omega))]; done)) (by omega) hw ls (lv_sub hl [0, 3, 4] rfl)
            · refine lv_iload_n hx hb d_M_suspectSet_50 rfl (lv_at hl 2 rfl) ?_
              refine lv_iload_n hx hb d_M_suspectSet_51 rfl (lv_at hl 3 rfl) ?_
              refine z_icmp_eq hx hb 65 d_M_suspectSet_52 (by omega) (by omega) (by decide) (fun c52 => ?_) (fun c52 => ?_)
              · refine z_iinc (k := 2) hx hb d_M_suspectSet_65 hl rfl (by decide) (fun x2_65 ex2_65 ls (hl : lv_has ls 5 [(2, .int (zI x2_65)), (4, .int (zI x4_36)), (3, .int (zI x3_31)), (1, .int (zI t)), (0, .ref (ad 100))]) => ?_)
                refine lv_goto (tgt := 6) hx hb d_M_suspectSet_68 (by decide) ?_
                exact ih6 x2_65 t _ _ (by omega) (by omega) (by rw [hN, ex2_65]; first | (rw [if_neg (fun z => c21 z.1)]; done) | (rw [if_pos ⟨c21, Or.inl (by omega)⟩, ex1_64]; done) | (rw [if_pos ⟨c21, Or.inr ⟨by omega, by omega, c60⟩⟩, ex1_64]; done) | (rw [if_neg (fun z => z.2.elim (fun z => by omega) (fun z => c60 z.2.2))]; done) | (rw [if_neg (fun z => z.2.elim (fun z => by omega) (fun z => by omega))]; done)) (by omega) hw ls (lv_sub hl [0, 3, 4] rfl)
              · refine lv_iload_n hx hb d_M_suspectSet_55 rfl (lv_at hl 2 rfl) ?_
                refine lv_iload_n hx hb d_M_suspectSet_56 rfl (lv_at hl 3 rfl) ?_
                refine w_csR hc hw (k_M_comesFirst _ _ _ (by omega) ht (by omega)) yw_M_comesFirst yi_M_comesFirst lk_M_139 d_M_suspectSet_57 rfl rfl hl.1 (Nat.le_of_ble_eq_true rfl) ⟨Nat.le_of_ble_eq_true rfl, Nat.le_of_ble_eq_true rfl⟩ ⟨Nat.zero_le _, Nat.zero_le _⟩ (fun τ57 H locs hτ57 hw => ?_)
                subst hτ57
                refine z_ifb_eq hx hb 65 d_M_suspectSet_60 (by decide) (fun c60 => ?_) (fun c60 => ?_)
                · refine z_iinc (k := 2) hx hb d_M_suspectSet_65 hl rfl (by decide) (fun x2_65 ex2_65 ls (hl : lv_has ls 5 [(2, .int (zI x2_65)), (4, .int (zI x4_36)), (3, .int (zI x3_31)), (1, .int (zI t)), (0, .ref (ad 100))]) => ?_)
                  refine lv_goto (tgt := 6) hx hb d_M_suspectSet_68 (by decide) ?_
                  exact ih6 x2_65 t _ _ (by omega) (by omega) (by rw [hN, ex2_65]; first | (rw [if_neg (fun z => c21 z.1)]; done) | (rw [if_pos ⟨c21, Or.inl (by omega)⟩, ex1_64]; done) | (rw [if_pos ⟨c21, Or.inr ⟨by omega, by omega, c60⟩⟩, ex1_64]; done) | (rw [if_neg (fun z => z.2.elim (fun z => by omega) (fun z => c60 z.2.2))]; done) | (rw [if_neg (fun z => z.2.elim (fun z => by omega) (fun z => by omega))]; done)) (by omega) hw ls (lv_sub hl [0, 3, 4] rfl)
                · refine lv_iload_n hx hb d_M_suspectSet_63 rfl (lv_at hl 2 rfl) ?_
                  refine z_ist_n hx hb d_M_suspectSet_64 rfl hl (by decide) (fun x1_64 ex1_64 ls (hl : lv_has ls 5 [(1, .int (zI x1_64)), (4, .int (zI x4_36)), (3, .int (zI x3_31)), (2, .int (zI v)), (0, .ref (ad 100))]) => ?_)
                  refine z_iinc (k := 3) hx hb d_M_suspectSet_65 hl rfl (by decide) (fun x2_65 ex2_65 ls (hl : lv_has ls 5 [(2, .int (zI x2_65)), (1, .int (zI x1_64)), (4, .int (zI x4_36)), (3, .int (zI x3_31)), (0, .ref (ad 100))]) => ?_)
                  refine lv_goto (tgt := 6) hx hb d_M_suspectSet_68 (by decide) ?_
                  exact ih6 x2_65 x1_64 _ _ (by omega) (by omega) (by rw [hN, ex2_65]; first | (rw [if_neg (fun z => c21 z.1)]; done) | (rw [if_pos ⟨c21, Or.inl (by omega)⟩, ex1_64]; done) | (rw [if_pos ⟨c21, Or.inr ⟨by omega, by omega, c60⟩⟩, ex1_64]; done) | (rw [if_neg (fun z => z.2.elim (fun z => by omega) (fun z => c60 z.2.2))]; done) | (rw [if_neg (fun z => z.2.elim (fun z => by omega) (fun z => by omega))]; done)) (by omega) hw ls (lv_sub hl [0, 1, 4] rfl)
        · refine lv_goto (tgt := 65) hx hb d_M_suspectSet_24 (by decide) ?_
          refine z_iinc (k := 0) hx hb d_M_suspectSet_65 hl rfl (by decide) (fun x2_65 ex2_65 ls (hl : lv_has ls 5 [(2, .int (zI x2_65)), (1, .int (zI t)), (0, .ref (ad 100))]) => ?_)
          refine lv_goto (tgt := 6) hx hb d_M_suspectSet_68 (by decide) ?_
          exact ih6 x2_65 t _ _ (by omega) (by omega) (by rw [hN, ex2_65]; first | (rw [if_neg (fun z => c21 z.1)]; done) | (rw [if_pos ⟨c21, Or.inl (by omega)⟩, ex1_64]; done) | (rw [if_pos ⟨c21, Or.inr ⟨by omega, by omega, c60⟩⟩, ex1_64]; done) | (rw [if_neg (fun z => z.2.elim (fun z => by omega) (fun z => c60 z.2.2))]; done) | (rw [if_neg (fun z => z.2.elim (fun z => by omega) (fun z => by omega))]; done)) (by omega) hw ls (lv_sub hl [0, 1, 2] rfl)
  exact L6 _ x2_5 x1_3 _ _ (by omega) (by omega) (by rw [ex2_5, ex1_3, show (((2 ^ (μ 1 0).toNat : Nat) : Int) - 0).toNat = 2 ^ (μ 1 0).toNat from (by rw [Int.sub_zero, Int.toNat_natCast])]; rfl) (Nat.lt_succ_self _) hw ls (lv_sub hl [0, 1, 2] rfl)
set_option maxHeartbeats 400000 in
set_option maxRecDepth 100000 in
theorem k_M_suspects {l : Launch} {D : va_G} {ad : Nat → Nat} {ca : Nat → ClassId} (μ : St) (hI : 0 ≤ μ 1 0 ∧ μ 1 0 ≤ 12) (hO : ∀ i, 0 ≤ μ 21 i ∧ μ 21 i < 4096) : Cw l D cl7 (tyM ca) (wM ad ca) y_M_suspects c_M_suspects 1 (some .int) 2 [.ref (ad 100)] μ (RW (.int (zI (popc (suS (up μ 0 0 0))))) (up μ 0 0 0 = ·)) := by
  refine Cw.enter (by decide) (Nat.le_of_ble_eq_true rfl) ?_
  intro A p e s m below meth c hc ls hl hw
  have hl : lv_has ls 1 [(0, .ref (ad 100))] := hl
  obtain ⟨hx, hb, hml, hown, hTB, hK, hr, hlk⟩ := id hc
  refine lv_aload_n hx hb d_M_suspects_0 rfl (lv_at hl 0 rfl) ?_
  refine z_ic hx hb d_M_suspects_1 ?_
  refine pM_M_thrown hc hw lk_M_60 d_M_suspects_2 (fun H locs hw => ?_)
  refine lv_aload_n hx hb d_M_suspects_5 rfl (lv_at hl 0 rfl) ?_
  refine w_cvR (q0 := 0) hc hw (k_M_suspectSet _ hI hO) yw_M_suspectSet yi_M_suspectSet lk_M_142 d_M_suspects_6 rfl rfl rfl rfl hl.1 (Nat.le_of_ble_eq_true rfl) ⟨Nat.le_of_ble_eq_true rfl, Nat.le_of_ble_eq_true rfl⟩ ⟨Nat.zero_le _, Nat.zero_le _⟩ (fun τ6 H locs hτ6 hw => ?_)
  subst hτ6
  refine w_csR hc hw (k_M_bits _ _ (suS_bd (μ := up μ 0 0 0) hI)) yw_M_bits yi_M_bits lk_M_135 d_M_suspects_9 rfl rfl hl.1 (Nat.le_of_ble_eq_true rfl) ⟨Nat.le_of_ble_eq_true rfl, Nat.le_of_ble_eq_true rfl⟩ ⟨Nat.zero_le _, Nat.zero_le _⟩ (fun τ9 H locs hτ9 hw => ?_)
  subst hτ9
  exact w_iret hc hw (⟨rfl, rfl⟩) d_M_suspects_12
set_option maxHeartbeats 400000 in
set_option maxRecDepth 100000 in
theorem k_M_faults {l : Launch} {D : va_G} {ad : Nat → Nat} {ca : Nat → ClassId} (μ : St) (k : Int) (hk : r32 k) (hI : 0 ≤ μ 1 0 ∧ μ 1 0 ≤ 12) (hO : ∀ i, 0 ≤ μ 21 i ∧ μ 21 i < 4096) : Cw l D cl7 (tyM ca) (wM ad ca) y_M_faults c_M_faults 2 (some .int) 1 [.ref (ad 100), .int (zI k)] μ (RW (.int (zI (if 0 ≤ k ∧ k < μ 1 0 then popc (μ 21 k) else 0))) (up μ 0 0 (if 0 ≤ k ∧ k < μ 1 0 then 0 else 1) = ·)) := by
  refine Cw.enter (by decide) (Nat.le_of_ble_eq_true rfl) ?_
  intro A p e s m below meth c hc ls hl hw
  have hl : lv_has ls 2 [(0, .ref (ad 100)), (1, .int (zI k))] := hl
  obtain ⟨hx, hb, hml, hown, hTB, hK, hr, hlk⟩ := id hc
  refine lv_aload_n hx hb d_M_faults_0 rfl (lv_at hl 0 rfl) ?_
  refine lv_aload_n hx hb d_M_faults_1 rfl (lv_at hl 0 rfl) ?_
  refine lv_iload_n hx hb d_M_faults_2 rfl (lv_at hl 1 rfl) ?_
  refine w_cvR (q0 := 0) hc hw (k_M_isNet _ _ hk hI) yw_M_isNet yi_M_isNet lk_M_80 d_M_faults_3 rfl rfl rfl rfl hl.1 (Nat.le_of_ble_eq_true rfl) ⟨Nat.le_of_ble_eq_true rfl, Nat.le_of_ble_eq_true rfl⟩ ⟨Nat.zero_le _, Nat.zero_le _⟩ (fun τ3 H locs hτ3 hw => ?_)
  subst hτ3
  refine z_ifb_eq hx hb 13 d_M_faults_6 (by decide) (fun c6 => ?_) (fun c6 => ?_)
  · refine z_ic hx hb d_M_faults_13 ?_
    refine pM_M_thrown hc hw lk_M_60 d_M_faults_14 (fun H locs hw => ?_)
    refine lv_aload_n hx hb d_M_faults_17 rfl (lv_at hl 0 rfl) ?_
    refine gM_M_thrown hc hw lk_M_60 d_M_faults_18 ?_
    simp only [up_s]
    refine z_if_ne hx hb 36 d_M_faults_21 (by omega) (by decide) (fun c21 => ?_) (fun c21 => ?_)
    · refine z_ic hx hb d_M_faults_36 ?_
      exact w_iret hc hw (by first | (rw [if_pos (by omega), if_pos (by omega)]; exact ⟨rfl, rfl⟩) | (rw [if_neg (by omega), if_neg (by omega)]; exact ⟨rfl, rfl⟩)) d_M_faults_37
    · exact absurd c21 (by omega)
  · refine z_ic hx hb d_M_faults_9 ?_
    refine lv_goto (tgt := 14) hx hb d_M_faults_10 (by decide) ?_
    refine pM_M_thrown hc hw lk_M_60 d_M_faults_14 (fun H locs hw => ?_)
    refine lv_aload_n hx hb d_M_faults_17 rfl (lv_at hl 0 rfl) ?_
    refine gM_M_thrown hc hw lk_M_60 d_M_faults_18 ?_
    simp only [up_s]
    refine z_if_ne hx hb 36 d_M_faults_21 (by omega) (by decide) (fun c21 => ?_) (fun c21 => ?_)
    · exact absurd c21 (by omega)
    · refine lv_aload_n hx hb d_M_faults_24 rfl (lv_at hl 0 rfl) ?_
      refine gM_M_failed hc hw lk_M_51 d_M_faults_25 ?_
      refine lv_iload_n hx hb d_M_faults_28 rfl (lv_at hl 1 rfl) ?_
      refine ldM_M_failed hc hw d_M_faults_29 (by omega) ?_
      refine w_csR hc hw (k_M_bits _ _ (hO k)) yw_M_bits yi_M_bits lk_M_135 d_M_faults_30 rfl rfl hl.1 (Nat.le_of_ble_eq_true rfl) ⟨Nat.le_of_ble_eq_true rfl, Nat.le_of_ble_eq_true rfl⟩ ⟨Nat.zero_le _, Nat.zero_le _⟩ (fun τ30 H locs hτ30 hw => ?_)
      subst hτ30
      refine lv_goto (tgt := 37) hx hb d_M_faults_33 (by decide) ?_
      exact w_iret hc hw (by first | (rw [if_pos (by omega), if_pos (by omega)]; exact ⟨rfl, rfl⟩) | (rw [if_neg (by omega), if_neg (by omega)]; exact ⟨rfl, rfl⟩)) d_M_faults_37
set_option maxHeartbeats 400000 in
set_option maxRecDepth 100000 in
theorem k_M_fail {l : Launch} {D : va_G} {ad : Nat → Nat} {ca : Nat → ClassId} (μ : St) (r : Int) (hr2 : r32 r) (hI : 0 ≤ μ 1 0 ∧ μ 1 0 ≤ 12) (hO : ∀ i, 0 ≤ μ 21 i ∧ μ 21 i < 4096) : Cw l D cl7 (tyM ca) (wM ad ca) y_M_fail c_M_fail 4 (some .boolean) 1 [.ref (ad 100), .int (zI r)] μ (RW (.int (zI (bI (fOk μ r ∧ ¬ (r / 16 = r % 16 ∨ zB (μ 21 (r / 16)) (r % 16)))))) (mFail μ r = ·)) := by
  have hOa := hO (r / 16)
  have hOb := hO (r % 16)
  refine Cw.enter (by decide) (Nat.le_of_ble_eq_true rfl) ?_
  intro A p e s m below meth c hc ls hl hw
  have hl : lv_has ls 4 [(0, .ref (ad 100)), (1, .int (zI r))] := hl
  obtain ⟨hx, hb, hml, hown, hTB, hK, hr, hlk⟩ := id hc
  refine lv_aload_n hx hb d_M_fail_0 rfl (lv_at hl 0 rfl) ?_
  refine lv_iload_n hx hb d_M_fail_1 rfl (lv_at hl 1 rfl) ?_
  refine z_if_lt hx hb 31 d_M_fail_2 (by omega) (by decide) (fun c2 => ?_) (fun c2 => ?_)
  · refine z_ic hx hb d_M_fail_31 ?_
    refine pM_M_thrown hc hw lk_M_60 d_M_fail_32 (fun H locs hw => ?_)
    refine lv_aload_n hx hb d_M_fail_35 rfl (lv_at hl 0 rfl) ?_
    refine gM_M_thrown hc hw lk_M_60 d_M_fail_36 ?_
    simp only [up_s]
    refine z_if_eq hx hb 44 d_M_fail_39 (by omega) (by decide) (fun c39 => ?_) (fun c39 => ?_)
    · exact absurd c39 (by omega)
    · refine z_ic hx hb d_M_fail_42 ?_
      exact w_zret hc hw (by omega) (by have z : ¬ fOk μ r := (fun q => by omega); unfold mFail; rw [bI_f (fun q => z q.1), if_pos z]; exact ⟨rfl, rfl⟩) d_M_fail_43
  · refine lv_aload_n hx hb d_M_fail_5 rfl (lv_at hl 0 rfl) ?_
    refine lv_iload_n hx hb d_M_fail_6 rfl (lv_at hl 1 rfl) ?_
    refine z_bi hx hb d_M_fail_7 (by decide) ?_
    refine z_idiv hx hb d_M_fail_9 (by omega) ?_
    refine w_cvR (q0 := 0) hc hw (k_M_isNet _ _ (by omega) hI) yw_M_isNet yi_M_isNet lk_M_80 d_M_fail_10 rfl rfl rfl rfl hl.1 (Nat.le_of_ble_eq_true rfl) ⟨Nat.le_of_ble_eq_true rfl, Nat.le_of_ble_eq_true rfl⟩ ⟨Nat.zero_le _, Nat.zero_le _⟩ (fun τ10 H locs hτ10 hw => ?_)
    subst hτ10
    refine z_ifb_eq hx hb 31 d_M_fail_13 (by decide) (fun c13 => ?_) (fun c13 => ?_)
    · refine z_ic hx hb d_M_fail_31 ?_
      refine pM_M_thrown hc hw lk_M_60 d_M_fail_32 (fun H locs hw => ?_)
      refine lv_aload_n hx hb d_M_fail_35 rfl (lv_at hl 0 rfl) ?_
      refine gM_M_thrown hc hw lk_M_60 d_M_fail_36 ?_
      simp only [up_s]
      refine z_if_eq hx hb 44 d_M_fail_39 (by omega) (by decide) (fun c39 => ?_) (fun c39 => ?_)
      · exact absurd c39 (by omega)
      · refine z_ic hx hb d_M_fail_42 ?_
        exact w_zret hc hw (by omega) (by have z : ¬ fOk μ r := (fun q => by omega); unfold mFail; rw [bI_f (fun q => z q.1), if_pos z]; exact ⟨rfl, rfl⟩) d_M_fail_43
    · refine lv_aload_n hx hb d_M_fail_16 rfl (lv_at hl 0 rfl) ?_
      refine lv_iload_n hx hb d_M_fail_17 rfl (lv_at hl 1 rfl) ?_
      refine z_bi hx hb d_M_fail_18 (by decide) ?_
      refine z_irem hx hb d_M_fail_20 (by omega) ?_
      refine w_cvR (q0 := 0) hc hw (k_M_isNet _ _ (by omega) hI) yw_M_isNet yi_M_isNet lk_M_80 d_M_fail_21 rfl rfl rfl rfl hl.1 (Nat.le_of_ble_eq_true rfl) ⟨Nat.le_of_ble_eq_true rfl, Nat.le_of_ble_eq_true rfl⟩ ⟨Nat.zero_le _, Nat.zero_le _⟩ (fun τ21 H locs hτ21 hw => ?_)
      subst hτ21
      refine z_ifb_eq hx hb 31 d_M_fail_24 (by decide) (fun c24 => ?_) (fun c24 => ?_)
      · refine z_ic hx hb d_M_fail_31 ?_
        refine pM_M_thrown hc hw lk_M_60 d_M_fail_32 (fun H locs hw => ?_)
        refine lv_aload_n hx hb d_M_fail_35 rfl (lv_at hl 0 rfl) ?_
        refine gM_M_thrown hc hw lk_M_60 d_M_fail_36 ?_
        simp only [up_s]
        refine z_if_eq hx hb 44 d_M_fail_39 (by omega) (by decide) (fun c39 => ?_) (fun c39 => ?_)
        · exact absurd c39 (by omega)
        · refine z_ic hx hb d_M_fail_42 ?_
          exact w_zret hc hw (by omega) (by have z : ¬ fOk μ r := (fun q => by omega); unfold mFail; rw [bI_f (fun q => z q.1), if_pos z]; exact ⟨rfl, rfl⟩) d_M_fail_43
      · refine z_ic hx hb d_M_fail_27 ?_
        refine lv_goto (tgt := 32) hx hb d_M_fail_28 (by decide) ?_
        refine pM_M_thrown hc hw lk_M_60 d_M_fail_32 (fun H locs hw => ?_)
        refine lv_aload_n hx hb d_M_fail_35 rfl (lv_at hl 0 rfl) ?_
        refine gM_M_thrown hc hw lk_M_60 d_M_fail_36 ?_
        simp only [up_s]
        refine z_if_eq hx hb 44 d_M_fail_39 (by omega) (by decide) (fun c39 => ?_) (fun c39 => ?_)
        · refine lv_iload_n hx hb d_M_fail_44 rfl (lv_at hl 1 rfl) ?_
          refine z_bi hx hb d_M_fail_45 (by decide) ?_
          refine z_idiv hx hb d_M_fail_47 (by omega) ?_
          refine z_ist_n hx hb d_M_fail_48 rfl hl (by decide) (fun x2_48 ex2_48 ls (hl : lv_has ls 4 [(2, .int (zI x2_48)), (0, .ref (ad 100)), (1, .int (zI r))]) => ?_)
          refine lv_iload_n hx hb d_M_fail_49 rfl (lv_at hl 2 rfl) ?_
          refine z_bi hx hb d_M_fail_50 (by decide) ?_
          refine z_irem hx hb d_M_fail_52 (by omega) ?_
          refine z_ist_n hx hb d_M_fail_53 rfl hl (by decide) (fun x3_53 ex3_53 ls (hl : lv_has ls 4 [(3, .int (zI x3_53)), (2, .int (zI x2_48)), (0, .ref (ad 100)), (1, .int (zI r))]) => ?_)
          subst ex2_48
          subst ex3_53
          have e21 : ∀ i, up μ 0 0 0 21 i = μ 21 i := fun i => up_o _ _ _ _ (by decide)
          have hok : fOk μ r := ⟨by omega, by omega, by omega⟩
          refine lv_iload_n hx hb d_M_fail_54 rfl (lv_at hl 1 rfl) ?_
          refine lv_iload_n hx hb d_M_fail_55 rfl (lv_at hl 0 rfl) ?_
          refine z_icmp_eq hx hb 73 d_M_fail_56 (by omega) (by omega) (by decide) (fun c56 => ?_) (fun c56 => ?_)
          · refine z_ic hx hb d_M_fail_73 ?_
            exact w_zret hc hw (by omega) (by have z : r / 16 = r % 16 ∨ zB (μ 21 (r / 16)) (r % 16) := (by first | exact Or.inl c56 | exact Or.inr (bI_1.mp c70)); unfold mFail; rw [bI_f (fun q => q.2 z), if_neg (fun q => q hok), if_pos z]; exact ⟨rfl, rfl⟩) d_M_fail_74
          · refine lv_aload_n hx hb d_M_fail_59 rfl (lv_at hl 2 rfl) ?_
            refine gM_M_failed hc hw lk_M_51 d_M_fail_60 ?_
            refine lv_iload_n hx hb d_M_fail_63 rfl (lv_at hl 1 rfl) ?_
            refine ldM_M_failed hc hw d_M_fail_64 (by omega) ?_
            refine lv_iload_n hx hb d_M_fail_65 rfl (lv_at hl 0 rfl) ?_
            refine z_ishr hx hb d_M_fail_66 (by rw [e21]; omega) ?_
            refine z_ic hx hb d_M_fail_67 ?_
            refine z_iand hx hb d_M_fail_68 (⟨Int.natCast_nonneg _, by decide⟩) ?_
            refine z_ic hx hb d_M_fail_69 ?_
            rw [e21, zAnd1 (μ 21 (r / 16)) (r % 16) hOa.1]
            refine z_icmp_ne hx hb 75 d_M_fail_70 (by have := bI_r (zB (μ 21 (r / 16)) (r % 16)); omega) (by have := bI_r (zB (μ 21 (r / 16)) (r % 16)); omega) (by decide) (fun c70 => ?_) (fun c70 => ?_)
            · refine lv_aload_n hx hb d_M_fail_75 rfl (lv_at hl 2 rfl) ?_
              refine gM_M_failed hc hw lk_M_51 d_M_fail_76 ?_
              refine lv_iload_n hx hb d_M_fail_79 rfl (lv_at hl 1 rfl) ?_
              refine lv_aload_n hx hb d_M_fail_80 rfl (lv_at hl 2 rfl) ?_
              refine gM_M_failed hc hw lk_M_51 d_M_fail_81 ?_
              refine lv_iload_n hx hb d_M_fail_84 rfl (lv_at hl 1 rfl) ?_
              refine ldM_M_failed hc hw d_M_fail_85 (by omega) ?_
              refine z_ic hx hb d_M_fail_86 ?_
              refine lv_iload_n hx hb d_M_fail_87 rfl (lv_at hl 0 rfl) ?_
              refine z_shl1 hx hb d_M_fail_88 (by omega) ?_
              refine z_ior hx hb d_M_fail_89 (⟨by rw [e21]; exact hOa.1, Int.natCast_nonneg _⟩) ?_
              refine stM_M_failed hc hw d_M_fail_90 (by omega) (fun H locs hw => ?_)
              have hpb := p2_bd (b := r % 16) (k := 12) (by omega)
              have hpa := p2_bd (b := r / 16) (k := 12) (by omega)
              refine lv_aload_n hx hb d_M_fail_91 rfl (lv_at hl 2 rfl) ?_
              refine gM_M_failed hc hw lk_M_51 d_M_fail_92 ?_
              refine lv_iload_n hx hb d_M_fail_95 rfl (lv_at hl 0 rfl) ?_
              refine lv_aload_n hx hb d_M_fail_96 rfl (lv_at hl 2 rfl) ?_
              refine gM_M_failed hc hw lk_M_51 d_M_fail_97 ?_
              refine lv_iload_n hx hb d_M_fail_100 rfl (lv_at hl 0 rfl) ?_
              refine ldM_M_failed hc hw d_M_fail_101 (by omega) ?_
              refine z_ic hx hb d_M_fail_102 ?_
              refine lv_iload_n hx hb d_M_fail_103 rfl (lv_at hl 1 rfl) ?_
              refine z_shl1 hx hb d_M_fail_104 (by omega) ?_
              refine z_ior hx hb d_M_fail_105 (⟨by rw [e21]; unfold up; split; exact (zOr_bd (k := 12) hOa hpb).1; simp; exact hOb.1, hpa.1⟩) ?_
              refine stM_M_failed hc hw d_M_fail_106 (by omega) (fun H locs hw => ?_)
              refine z_ic hx hb d_M_fail_107 ?_
              exact w_zret hc hw (by omega) (by have z : ¬ (r / 16 = r % 16 ∨ zB (μ 21 (r / 16)) (r % 16)) := (fun q => q.elim c56 (fun q => c70 (bI_1.mpr q))); unfold mFail; rw [bI_t ⟨hok, z⟩, if_neg (fun q => q hok), if_neg z]; exact ⟨rfl, rfl⟩) d_M_fail_108
            · refine z_ic hx hb d_M_fail_73 ?_
              exact w_zret hc hw (by omega) (by have z : r / 16 = r % 16 ∨ zB (μ 21 (r / 16)) (r % 16) := (by first | exact Or.inl c56 | exact Or.inr (bI_1.mp c70)); unfold mFail; rw [bI_f (fun q => q.2 z), if_neg (fun q => q hok), if_pos z]; exact ⟨rfl, rfl⟩) d_M_fail_74
        · exact absurd c39 (by omega)
