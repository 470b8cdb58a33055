set_option maxHeartbeats 400000 in
set_option maxRecDepth 100000 in
theorem k_F_planFlight {l : Launch} {D : va_G} {ad : Nat → Nat} {ca : Nat → ClassId} (σ : St) (hI : IB σ) (hn : 0 ≤ σ 25 0 ∧ σ 25 0 ≤ 8) (hP : ∀ i, 0 ≤ i → i < σ 25 0 → 0 ≤ σ 20 i ∧ σ 20 i < 36) : Cw l D cl7 (tyX ca) (wX ad ca) y_F_planFlight c_F_planFlight 9 none 2 [.ref (ad 102), .ref (ad 101)] σ (VW ((pf σ (σ 25 0).toNat).1 = ·)) := by
  refine Cw.enter (by decide) (Nat.le_of_ble_eq_true rfl) ?_
  intro A p e s m below meth c hc ls hl hw
  have hl : lv_has ls 9 [(0, .ref (ad 102)), (1, .ref (ad 101))] := hl
  obtain ⟨hx, hb, hml, hown, hTB, hK, hr, hlk⟩ := id hc
  refine lv_aload_n hx hb d_F_planFlight_0 rfl (lv_at hl 0 rfl) ?_
  refine gX_F_probes hc hw lk_F_9 d_F_planFlight_1 ?_
  refine z_ic hx hb d_F_planFlight_4 ?_
  refine lv_aload_n hx hb d_F_planFlight_5 rfl (lv_at hl 0 rfl) ?_
  refine gX_F_flown hc hw lk_F_18 d_F_planFlight_6 ?_
  refine z_ic hx hb d_F_planFlight_9 ?_
  refine lv_aload_n hx hb d_F_planFlight_10 rfl (lv_at hl 0 rfl) ?_
  refine gX_F_probeCount hc hw lk_F_58 d_F_planFlight_11 ?_
  refine cpX_20_22 hc hw hl.1 lk_F_77 d_F_planFlight_14 (by omega) (Nat.le_of_ble_eq_true rfl) (Nat.le_of_ble_eq_true rfl) (fun H locs hw => ?_)
  refine lv_aload_n hx hb d_F_planFlight_17 rfl (lv_at hl 0 rfl) ?_
  refine z_lc0 hx hb d_F_planFlight_18 ?_
  refine pX_F_flightTime hc hw lk_F_83 d_F_planFlight_19 (fun H locs hw => ?_)
  refine z_lc0 hx hb d_F_planFlight_22 ?_
  refine z_lst_n hx hb d_F_planFlight_23 rfl hl (by decide) (fun x2_23 ex2_23 ls (hl : lv_has ls 9 [(2, .long (zL x2_23)), (0, .ref (ad 102)), (1, .ref (ad 101))]) => ?_)
  refine z_lc0 hx hb d_F_planFlight_24 ?_
  refine z_lst hx hb d_F_planFlight_25 hl (by decide) (fun x4_25 ex4_25 ls (hl : lv_has ls 9 [(4, .long (zL x4_25)), (2, .long (zL x2_23)), (0, .ref (ad 102)), (1, .ref (ad 101))]) => ?_)
  refine z_ic hx hb d_F_planFlight_27 ?_
  refine z_ist hx hb d_F_planFlight_28 hl (by decide) (fun x6_28 ex6_28 ls (hl : lv_has ls 9 [(6, .int (zI x6_28)), (4, .long (zL x4_25)), (2, .long (zL x2_23)), (0, .ref (ad 102)), (1, .ref (ad 101))]) => ?_)
  have L30 : ∀ (n : Nat) (i : Int) (x : Int) (y : Int) (τ : St) (H : Heap) (locs : List Loc), (0 ≤ i ∧ i ≤ σ 25 0) → ((τ, x, y) = pf σ i.toNat) → (-1000000 ≤ x ∧ x ≤ 1000000) → (-1000000 ≤ y ∧ y ≤ 1000000) → (∀ j, 0 ≤ j → j < σ 25 0 → 0 ≤ τ 22 j ∧ τ 22 j < 36) → (∀ g, g ≠ 22 → g ≠ 28 → τ g = σ g) → (σ 25 0 - i).toNat < n → Wd D cl7 (wX ad ca) A s.heap τ H locs → ∀ ls : Array Slot, lv_has ls 9 [(6, .int (zI i)), (2, .long (zL x)), (4, .long (zL y)), (0, .ref (ad 102)), (1, .ref (ad 101))] → W p l e (Rmh 2) s m ([.ref (ad 102), .ref (ad 101)] : List Value).toArray below meth c H locs 0 0 (MQ below (Qw D cl7 (wX ad ca) A (VW ((pf σ (σ 25 0).toNat).1 = ·))) ([.ref (ad 102), .ref (ad 101)] : List Value).toArray s 0 0 A) (F0 m 30 ls []) := by
    intro n
    induction n with
    | zero => intro i x y τ H locs hi hτ hx2 hy2 hF ho hm; exact absurd hm (Nat.not_lt_zero _)
    | succ n ih30 =>
      intro i x y τ H locs hi hτ hx2 hy2 hF ho hm30 hw ls hl
      have ei : ((i.toNat : Nat) : Int) = i := Int.toNat_of_nonneg hi.1
      have e25 : τ 25 0 = σ 25 0 := by rw [ho 25 (by decide) (by decide)]
      have hIτ : IB τ := IB_of (fun g hg => ho g (by omega) (by omega)) hI
      refine lv_iload hx hb d_F_planFlight_30 (lv_at hl 0 rfl) ?_
      refine lv_aload_n hx hb d_F_planFlight_32 rfl (lv_at hl 3 rfl) ?_
      refine gX_F_probeCount hc hw lk_F_58 d_F_planFlight_33 ?_
      refine z_icmp_ge hx hb 143 d_F_planFlight_36 (by omega) (by omega) (by decide) (fun c36 => ?_) (fun c36 => ?_)
      · exact w_vret hc hw (⟨rfl, by rw [show σ 25 0 = i by omega, ← hτ]⟩) d_F_planFlight_143
      · refine lv_aload_n hx hb d_F_planFlight_39 rfl (lv_at hl 3 rfl) ?_
        refine lv_aload_n hx hb d_F_planFlight_40 rfl (lv_at hl 4 rfl) ?_
        refine lv_iload hx hb d_F_planFlight_41 (lv_at hl 0 rfl) ?_
        refine lv_lload_n hx hb d_F_planFlight_43 rfl (lv_at hl 1 rfl) ?_
        refine lv_lload hx hb d_F_planFlight_44 (lv_at hl 2 rfl) ?_
        refine w_cvR (q0 := 2) hc hw (k_F_placeOfNearest _ _ _ _ hIτ (by omega) (by omega) (fun j h0 h1 => hF j h0 (by omega)) hx2 hy2) yw_F_placeOfNearest yi_F_placeOfNearest lk_F_87 d_F_planFlight_46 rfl rfl rfl rfl hl.1 (Nat.le_of_ble_eq_true rfl) ⟨Nat.le_of_ble_eq_true rfl, Nat.le_of_ble_eq_true rfl⟩ ⟨Nat.zero_le _, Nat.zero_le _⟩ (fun τ46 H locs hτ46 hw => ?_)
        subst hτ46
        refine z_ist hx hb d_F_planFlight_49 hl (by decide) (fun x7_49 ex7_49 ls (hl : lv_has ls 9 [(7, .int (zI x7_49)), (6, .int (zI i)), (2, .long (zL x)), (4, .long (zL y)), (0, .ref (ad 102)), (1, .ref (ad 101))]) => ?_)
        rw [e25] at ex7_49
        subst ex7_49
        have hpn := pnF_bd τ x y (σ 25 0 - (i + 1)).toNat (i + 1) i i (by omega) (by omega)
        have hq8 := hF (pnF τ x y (σ 25 0 - (i + 1)).toNat (i + 1) i) (by omega) (by omega)
        refine lv_aload_n hx hb d_F_planFlight_51 rfl (lv_at hl 4 rfl) ?_
        refine gX_F_flown hc hw lk_F_18 d_F_planFlight_52 ?_
        refine lv_iload hx hb d_F_planFlight_55 (lv_at hl 0 rfl) ?_
        refine ldX_F_flown hc hw d_F_planFlight_57 (by omega) ?_
        refine z_ist hx hb d_F_planFlight_58 hl (by decide) (fun x8_58 ex8_58 ls (hl : lv_has ls 9 [(8, .int (zI x8_58)), (7, .int (zI (pnF τ x y (σ 25 0 - (i + 1)).toNat (i + 1) i))), (6, .int (zI i)), (2, .long (zL x)), (4, .long (zL y)), (0, .ref (ad 102)), (1, .ref (ad 101))]) => ?_)
        subst ex8_58
        refine lv_aload_n hx hb d_F_planFlight_60 rfl (lv_at hl 5 rfl) ?_
        refine gX_F_flown hc hw lk_F_18 d_F_planFlight_61 ?_
        refine lv_iload hx hb d_F_planFlight_64 (lv_at hl 1 rfl) ?_
        refine lv_aload_n hx hb d_F_planFlight_66 rfl (lv_at hl 5 rfl) ?_
        refine gX_F_flown hc hw lk_F_18 d_F_planFlight_67 ?_
        refine lv_iload hx hb d_F_planFlight_70 (lv_at hl 2 rfl) ?_
        refine ldX_F_flown hc hw d_F_planFlight_72 (by omega) ?_
        refine stX_F_flown hc hw d_F_planFlight_73 (by omega) (fun H locs hw => ?_)
        refine lv_aload_n hx hb d_F_planFlight_74 rfl (lv_at hl 5 rfl) ?_
        refine gX_F_flown hc hw lk_F_18 d_F_planFlight_75 ?_
        refine lv_iload hx hb d_F_planFlight_78 (lv_at hl 2 rfl) ?_
        refine lv_iload hx hb d_F_planFlight_80 (lv_at hl 0 rfl) ?_
        refine stX_F_flown hc hw d_F_planFlight_82 (by omega) (fun H locs hw => ?_)
        refine lv_aload_n hx hb d_F_planFlight_83 rfl (lv_at hl 5 rfl) ?_
        refine lv_dup hx hb d_F_planFlight_84 rfl ?_
        refine gX_F_flightTime hc hw lk_F_83 d_F_planFlight_85 ?_
        refine lv_aload_n hx hb d_F_planFlight_88 rfl (lv_at hl 6 rfl) ?_
        refine gnX_B_xs hc hw lk_F_91 d_F_planFlight_89 ?_
        refine lv_iload hx hb d_F_planFlight_92 (lv_at hl 0 rfl) ?_
        refine ldX_B_xs hc hw d_F_planFlight_94 (by omega) ?_
        refine lv_lload_n hx hb d_F_planFlight_95 rfl (lv_at hl 3 rfl) ?_
        refine z_lsub hx hb d_F_planFlight_96 ?_
        refine w_csR hc hw (k_JM_absL _ _ (by have a1 := hIτ.2.2.2.1 (τ 22 (pnF τ x y (σ 25 0 - (i + 1)).toNat (i + 1) i)); have a2 := hIτ.2.2.2.2.1 (τ 22 (pnF τ x y (σ 25 0 - (i + 1)).toNat (i + 1) i)); first | (show r64 (τ 3 (τ 22 (pnF τ x y (σ 25 0 - (i + 1)).toNat (i + 1) i)) - x); omega) | (show r64 (τ 4 (τ 22 (pnF τ x y (σ 25 0 - (i + 1)).toNat (i + 1) i)) - y); omega))) yw_JM_absL yi_JM_absL lk_F_94 d_F_planFlight_97 rfl rfl hl.1 (Nat.le_of_ble_eq_true rfl) ⟨Nat.le_of_ble_eq_true rfl, Nat.le_of_ble_eq_true rfl⟩ ⟨Nat.zero_le _, Nat.zero_le _⟩ (fun τ97 H locs hτ97 hw => ?_)
        subst hτ97
        refine lv_aload_n hx hb d_F_planFlight_100 rfl (lv_at hl 6 rfl) ?_
        refine gnX_B_ys hc hw lk_F_100 d_F_planFlight_101 ?_
        refine lv_iload hx hb d_F_planFlight_104 (lv_at hl 0 rfl) ?_
        refine ldX_B_ys hc hw d_F_planFlight_106 (by omega) ?_
        refine lv_lload hx hb d_F_planFlight_107 (lv_at hl 4 rfl) ?_
        refine z_lsub hx hb d_F_planFlight_109 ?_
        refine w_csR hc hw (k_JM_absL _ _ (by have a1 := hIτ.2.2.2.1 (τ 22 (pnF τ x y (σ 25 0 - (i + 1)).toNat (i + 1) i)); have a2 := hIτ.2.2.2.2.1 (τ 22 (pnF τ x y (σ 25 0 - (i + 1)).toNat (i + 1) i)); first | (show r64 (τ 3 (τ 22 (pnF τ x y (σ 25 0 - (i + 1)).toNat (i + 1) i)) - x); omega) | (show r64 (τ 4 (τ 22 (pnF τ x y (σ 25 0 - (i + 1)).toNat (i + 1) i)) - y); omega))) yw_JM_absL yi_JM_absL lk_F_94 d_F_planFlight_110 rfl rfl hl.1 (Nat.le_of_ble_eq_true rfl) ⟨Nat.le_of_ble_eq_true rfl, Nat.le_of_ble_eq_true rfl⟩ ⟨Nat.zero_le _, Nat.zero_le _⟩ (fun τ110 H locs hτ110 hw => ?_)
        subst hτ110
        refine w_csR hc hw (k_JM_maxL _ _ _ (by have a1 := hIτ.2.2.2.1 (τ 22 (pnF τ x y (σ 25 0 - (i + 1)).toNat (i + 1) i)); show r64 (((τ 3 (τ 22 (pnF τ x y (σ 25 0 - (i + 1)).toNat (i + 1) i)) - x).natAbs : Nat) : Int); omega) (by have a2 := hIτ.2.2.2.2.1 (τ 22 (pnF τ x y (σ 25 0 - (i + 1)).toNat (i + 1) i)); show r64 (((τ 4 (τ 22 (pnF τ x y (σ 25 0 - (i + 1)).toNat (i + 1) i)) - y).natAbs : Nat) : Int); omega)) yw_JM_maxL yi_JM_maxL lk_F_103 d_F_planFlight_113 rfl rfl hl.1 (Nat.le_of_ble_eq_true rfl) ⟨Nat.le_of_ble_eq_true rfl, Nat.le_of_ble_eq_true rfl⟩ ⟨Nat.zero_le _, Nat.zero_le _⟩ (fun τ113 H locs hτ113 hw => ?_)
        subst hτ113
        refine z_ladd hx hb d_F_planFlight_116 ?_
        refine pX_F_flightTime hc hw lk_F_83 d_F_planFlight_117 (fun H locs hw => ?_)
        refine lv_aload_n hx hb d_F_planFlight_120 rfl (lv_at hl 6 rfl) ?_
        refine gnX_B_xs hc hw lk_F_91 d_F_planFlight_121 ?_
        refine lv_iload hx hb d_F_planFlight_124 (lv_at hl 0 rfl) ?_
        refine ldX_B_xs hc hw d_F_planFlight_126 (by omega) ?_
        refine z_lst_n hx hb d_F_planFlight_127 rfl hl (by decide) (fun x2_127 ex2_127 ls (hl : lv_has ls 9 [(2, .long (zL x2_127)), (8, .int (zI (τ 22 (pnF τ x y (σ 25 0 - (i + 1)).toNat (i + 1) i)))), (7, .int (zI (pnF τ x y (σ 25 0 - (i + 1)).toNat (i + 1) i))), (6, .int (zI i)), (4, .long (zL y)), (0, .ref (ad 102)), (1, .ref (ad 101))]) => ?_)
        refine lv_aload_n hx hb d_F_planFlight_128 rfl (lv_at hl 6 rfl) ?_
        refine gnX_B_ys hc hw lk_F_100 d_F_planFlight_129 ?_
        refine lv_iload hx hb d_F_planFlight_132 (lv_at hl 1 rfl) ?_
        refine ldX_B_ys hc hw d_F_planFlight_134 (by omega) ?_
        refine z_lst hx hb d_F_planFlight_135 hl (by decide) (fun x4_135 ex4_135 ls (hl : lv_has ls 9 [(4, .long (zL x4_135)), (2, .long (zL x2_127)), (8, .int (zI (τ 22 (pnF τ x y (σ 25 0 - (i + 1)).toNat (i + 1) i)))), (7, .int (zI (pnF τ x y (σ 25 0 - (i + 1)).toNat (i + 1) i))), (6, .int (zI i)), (0, .ref (ad 102)), (1, .ref (ad 101))]) => ?_)
        refine z_iinc (k := 4) hx hb d_F_planFlight_137 hl rfl (by decide) (fun x6_137 ex6_137 ls (hl : lv_has ls 9 [(6, .int (zI x6_137)), (4, .long (zL x4_135)), (2, .long (zL x2_127)), (8, .int (zI (τ 22 (pnF τ x y (σ 25 0 - (i + 1)).toNat (i + 1) i)))), (7, .int (zI (pnF τ x y (σ 25 0 - (i + 1)).toNat (i + 1) i))), (0, .ref (ad 102)), (1, .ref (ad 101))]) => ?_)
        refine lv_goto (tgt := 30) hx hb d_F_planFlight_140 (by decide) ?_
        exact ih30 x6_137 x2_127 x4_135 _ _ _ (by omega) (by rw [show x6_137.toNat = i.toNat + 1 from (by omega), pf_s, ← hτ, ei]; subst ex2_127 ex4_135; rfl) (by rw [ex2_127]; exact hIτ.2.2.2.1 _) (by rw [ex4_135]; exact hIτ.2.2.2.2.1 _) (fun j h0 h1 => by rw [up_o _ _ _ _ (by decide)]; unfold up; split; exact hq8; split; exact hF i hi.1 (by omega); exact hF j h0 h1) (fun g h0 h1 => by rw [up_f _ _ _ h1, up_f _ _ _ h0, up_f _ _ _ h0]; exact ho g h0 h1) (by omega) hw ls (lv_sub hl [0, 2, 1, 5, 6] rfl)
  exact L30 _ x6_28 x2_23 x4_25 _ _ _ (by omega) (by rw [ex6_28, ex2_23, ex4_25]; rfl) (by omega) (by omega) (fun j h0 h1 => by rw [up_o _ _ _ _ (by decide), cpS_i _ _ _ _ h0 h1]; exact hP j h0 h1) (fun g h0 h1 => by rw [up_f _ _ _ h1, cpS_o _ _ _ _ h0]) (Nat.lt_succ_self _) hw ls (lv_sub hl [0, 2, 1, 3, 4] rfl)
set_option maxHeartbeats 400000 in
set_option maxRecDepth 100000 in
theorem k_F_sortByPlace {l : Launch} {D : va_G} {ad : Nat → Nat} {ca : Nat → ClassId} (σ : St) (hI : IB σ) (hn : 0 ≤ σ 25 0 ∧ σ 25 0 ≤ 8) (hP : ∀ i, 0 ≤ i → i < σ 25 0 → 0 ≤ σ 20 i ∧ σ 20 i < 36) : Cw l D cl7 (tyX ca) (wX ad ca) y_F_sortByPlace c_F_sortByPlace 4 none 1 [.ref (ad 102), .ref (ad 101)] σ (VW (so σ (σ 25 0).toNat = ·)) := by
  refine Cw.enter (by decide) (Nat.le_of_ble_eq_true rfl) ?_
  intro A p e s m below meth c hc ls hl hw
  have hl : lv_has ls 4 [(0, .ref (ad 102)), (1, .ref (ad 101))] := hl
  obtain ⟨hx, hb, hml, hown, hTB, hK, hr, hlk⟩ := id hc
  refine z_ic hx hb d_F_sortByPlace_0 ?_
  refine z_ist_n hx hb d_F_sortByPlace_1 rfl hl (by decide) (fun x2_1 ex2_1 ls (hl : lv_has ls 4 [(2, .int (zI x2_1)), (0, .ref (ad 102)), (1, .ref (ad 101))]) => ?_)
  have L2 : ∀ (n : Nat) (i : Int) (τ : St) (H : Heap) (locs : List Loc), (0 ≤ i ∧ i ≤ σ 25 0) → (τ = so σ i.toNat) → (∀ j, 0 ≤ j → j < i → 0 ≤ τ 23 j ∧ τ 23 j < 36) → (σ 25 0 - i).toNat < n → Wd D cl7 (wX ad ca) A s.heap τ H locs → ∀ ls : Array Slot, lv_has ls 4 [(2, .int (zI i)), (0, .ref (ad 102)), (1, .ref (ad 101))] → W p l e (Rmh 1) s m ([.ref (ad 102), .ref (ad 101)] : List Value).toArray below meth c H locs 0 0 (MQ below (Qw D cl7 (wX ad ca) A (VW (so σ (σ 25 0).toNat = ·))) ([.ref (ad 102), .ref (ad 101)] : List Value).toArray s 0 0 A) (F0 m 2 ls []) := by
    intro n
    induction n with
    | zero => intro i τ H locs hi hτ hF hm; exact absurd hm (Nat.not_lt_zero _)
    | succ n ih2 =>
      intro i τ H locs hi hτ hF hm2 hw ls hl
      have ei : ((i.toNat : Nat) : Int) = i := Int.toNat_of_nonneg hi.1
      have ho : ∀ g, g ≠ 23 → τ g = σ g := fun g h => by rw [hτ]; exact so_o σ _ g h
      have e25 : τ 25 0 = σ 25 0 := by rw [ho 25 (by decide)]
      refine lv_iload_n hx hb d_F_sortByPlace_2 rfl (lv_at hl 0 rfl) ?_
      refine lv_aload_n hx hb d_F_sortByPlace_3 rfl (lv_at hl 1 rfl) ?_
      refine gX_F_probeCount hc hw lk_F_58 d_F_sortByPlace_4 ?_
      refine z_icmp_ge hx hb 75 d_F_sortByPlace_7 (by omega) (by omega) (by decide) (fun c7 => ?_) (fun c7 => ?_)
      · exact w_vret hc hw (⟨rfl, by rw [hτ, show i = σ 25 0 by omega]⟩) d_F_sortByPlace_75
      · refine lv_iload_n hx hb d_F_sortByPlace_10 rfl (lv_at hl 0 rfl) ?_
        refine z_ist_n hx hb d_F_sortByPlace_11 rfl hl (by decide) (fun x3_11 ex3_11 ls (hl : lv_has ls 4 [(3, .int (zI x3_11)), (2, .int (zI i)), (0, .ref (ad 102)), (1, .ref (ad 101))]) => ?_)
        have L12 : ∀ (n : Nat) (k : Int) (ρ : St) (H : Heap) (locs : List Loc), (0 ≤ k ∧ k ≤ i) → (insF (τ 20 i) i.toNat τ = insF (τ 20 i) k.toNat ρ) → (∀ g, g ≠ 23 → ρ g = τ g) → (∀ j, 0 ≤ j → j ≤ i → j ≠ k → 0 ≤ ρ 23 j ∧ ρ 23 j < 36) → (k).toNat < n → Wd D cl7 (wX ad ca) A s.heap ρ H locs → ∀ ls : Array Slot, lv_has ls 4 [(3, .int (zI k)), (2, .int (zI i)), (0, .ref (ad 102)), (1, .ref (ad 101))] → W p l e (Rmh 1) s m ([.ref (ad 102), .ref (ad 101)] : List Value).toArray below meth c H locs 0 0 (MQ below (Qw D cl7 (wX ad ca) A (VW (so σ (σ 25 0).toNat = ·))) ([.ref (ad 102), .ref (ad 101)] : List Value).toArray s 0 0 A) (F0 m 12 ls []) := by
          intro n
          induction n with
          | zero => intro k ρ H locs hk hN hoρ hG hm; exact absurd hm (Nat.not_lt_zero _)
          | succ n ih12 =>
            intro k ρ H locs hk hN hoρ hG hm12 hw ls hl
            have e20 : ρ 20 i = τ 20 i := by rw [hoρ 20 (by decide)]
            have hIρ : IB ρ := IB_of (fun g hg => by rw [hoρ g (by omega), ho g (by omega)]) hI
            have hPi : 0 ≤ τ 20 i ∧ τ 20 i < 36 := by rw [ho 20 (by decide)]; exact hP i hi.1 (by omega)
            refine lv_iload_n hx hb d_F_sortByPlace_12 rfl (lv_at hl 0 rfl) ?_
            refine z_if_le hx hb 57 d_F_sortByPlace_13 (by omega) (by decide) (fun c13 => ?_) (fun c13 => ?_)
            · refine lv_aload_n hx hb d_F_sortByPlace_57 rfl (lv_at hl 2 rfl) ?_
              refine gX_F_sorted hc hw lk_F_21 d_F_sortByPlace_58 ?_
              refine lv_iload_n hx hb d_F_sortByPlace_61 rfl (lv_at hl 0 rfl) ?_
              refine lv_aload_n hx hb d_F_sortByPlace_62 rfl (lv_at hl 2 rfl) ?_
              refine gX_F_probes hc hw lk_F_9 d_F_sortByPlace_63 ?_
              refine lv_iload_n hx hb d_F_sortByPlace_66 rfl (lv_at hl 1 rfl) ?_
              refine ldX_F_probes hc hw d_F_sortByPlace_67 (by omega) ?_
              refine stX_F_sorted hc hw d_F_sortByPlace_68 (by omega) (fun H locs hw => ?_)
              refine z_iinc (k := 1) hx hb d_F_sortByPlace_69 hl rfl (by decide) (fun x2_69 ex2_69 ls (hl : lv_has ls 4 [(2, .int (zI x2_69)), (3, .int (zI k)), (0, .ref (ad 102)), (1, .ref (ad 101))]) => ?_)
              refine lv_goto (tgt := 2) hx hb d_F_sortByPlace_72 (by decide) ?_
              exact ih2 x2_69 _ _ _ (by omega) (by rw [show x2_69.toNat = i.toNat + 1 from (by omega)]; simp only [so, ei]; rw [← hτ, hN]; first | (rw [show k.toNat = 0 by omega, show k = 0 by omega, e20]; rfl) | (rw [← e20, if_neg c34, ek]; done)) (fun j h0 h1 => by unfold up; split; rw [e20]; exact hPi; rename_i hq; exact hG j h0 (by omega) (fun q => hq ⟨rfl, q⟩)) (by omega) hw ls (lv_sub hl [0, 2, 3] rfl)
            · have q : k.toNat = (k - 1).toNat + 1 := by omega
              have ek : k - 1 + 1 = k := by omega
              have ek1 : (((k - 1).toNat : Nat) : Int) = k - 1 := by omega
              rw [q, insF_s, ek1] at hN
              refine lv_aload_n hx hb d_F_sortByPlace_16 rfl (lv_at hl 3 rfl) ?_
              refine lv_aload_n hx hb d_F_sortByPlace_17 rfl (lv_at hl 2 rfl) ?_
              refine gX_F_probes hc hw lk_F_9 d_F_sortByPlace_18 ?_
              refine lv_iload_n hx hb d_F_sortByPlace_21 rfl (lv_at hl 1 rfl) ?_
              refine ldX_F_probes hc hw d_F_sortByPlace_22 (by omega) ?_
              refine lv_aload_n hx hb d_F_sortByPlace_23 rfl (lv_at hl 2 rfl) ?_
              refine gX_F_sorted hc hw lk_F_21 d_F_sortByPlace_24 ?_
              refine lv_iload_n hx hb d_F_sortByPlace_27 rfl (lv_at hl 0 rfl) ?_
              refine z_ic hx hb d_F_sortByPlace_28 ?_
              refine z_isub hx hb d_F_sortByPlace_29 ?_
              refine ldX_F_sorted hc hw d_F_sortByPlace_30 (by omega) ?_
              refine w_cvR (q0 := 1) hc hw (k_B_isBeforeByPlace _ _ _ (by rw [e20]; exact hPi) (hG (k - 1) (by omega) (by omega) (by omega)) hIρ) yw_B_isBeforeByPlace yi_B_isBeforeByPlace lk_F_111 d_F_sortByPlace_31 rfl rfl rfl rfl hl.1 (Nat.le_of_ble_eq_true rfl) ⟨Nat.le_of_ble_eq_true rfl, Nat.le_of_ble_eq_true rfl⟩ ⟨Nat.zero_le _, Nat.zero_le _⟩ (fun τ31 H locs hτ31 hw => ?_)
              subst hτ31
              refine z_ifb_eq hx hb 57 d_F_sortByPlace_34 (by decide) (fun c34 => ?_) (fun c34 => ?_)
              · refine lv_aload_n hx hb d_F_sortByPlace_57 rfl (lv_at hl 2 rfl) ?_
                refine gX_F_sorted hc hw lk_F_21 d_F_sortByPlace_58 ?_
                refine lv_iload_n hx hb d_F_sortByPlace_61 rfl (lv_at hl 0 rfl) ?_
                refine lv_aload_n hx hb d_F_sortByPlace_62 rfl (lv_at hl 2 rfl) ?_
                refine gX_F_probes hc hw lk_F_9 d_F_sortByPlace_63 ?_
                refine lv_iload_n hx hb d_F_sortByPlace_66 rfl (lv_at hl 1 rfl) ?_
                refine ldX_F_probes hc hw d_F_sortByPlace_67 (by omega) ?_
                refine stX_F_sorted hc hw d_F_sortByPlace_68 (by omega) (fun H locs hw => ?_)
                refine z_iinc (k := 1) hx hb d_F_sortByPlace_69 hl rfl (by decide) (fun x2_69 ex2_69 ls (hl : lv_has ls 4 [(2, .int (zI x2_69)), (3, .int (zI k)), (0, .ref (ad 102)), (1, .ref (ad 101))]) => ?_)
                refine lv_goto (tgt := 2) hx hb d_F_sortByPlace_72 (by decide) ?_
                exact ih2 x2_69 _ _ _ (by omega) (by rw [show x2_69.toNat = i.toNat + 1 from (by omega)]; simp only [so, ei]; rw [← hτ, hN]; first | (rw [show k.toNat = 0 by omega, show k = 0 by omega, e20]; rfl) | (rw [← e20, if_neg c34, ek]; done)) (fun j h0 h1 => by unfold up; split; rw [e20]; exact hPi; rename_i hq; exact hG j h0 (by omega) (fun q => hq ⟨rfl, q⟩)) (by omega) hw ls (lv_sub hl [0, 2, 3] rfl)
              · refine lv_aload_n hx hb d_F_sortByPlace_37 rfl (lv_at hl 2 rfl) ?_
                refine gX_F_sorted hc hw lk_F_21 d_F_sortByPlace_38 ?_
                refine lv_iload_n hx hb d_F_sortByPlace_41 rfl (lv_at hl 0 rfl) ?_
                refine lv_aload_n hx hb d_F_sortByPlace_42 rfl (lv_at hl 2 rfl) ?_
                refine gX_F_sorted hc hw lk_F_21 d_F_sortByPlace_43 ?_
                refine lv_iload_n hx hb d_F_sortByPlace_46 rfl (lv_at hl 0 rfl) ?_
                refine z_ic hx hb d_F_sortByPlace_47 ?_
                refine z_isub hx hb d_F_sortByPlace_48 ?_
                refine ldX_F_sorted hc hw d_F_sortByPlace_49 (by omega) ?_
                refine stX_F_sorted hc hw d_F_sortByPlace_50 (by omega) (fun H locs hw => ?_)
                refine z_iinc (k := 0) hx hb d_F_sortByPlace_51 hl rfl (by decide) (fun x3_51 ex3_51 ls (hl : lv_has ls 4 [(3, .int (zI x3_51)), (2, .int (zI i)), (0, .ref (ad 102)), (1, .ref (ad 101))]) => ?_)
                refine lv_goto (tgt := 12) hx hb d_F_sortByPlace_54 (by decide) ?_
                exact ih12 x3_51 _ _ _ (by omega) (by rw [hN, if_pos (by rw [← e20]; exact c34), show x3_51.toNat = (k - 1).toNat from (by omega), ek]) (fun g h => by rw [up_f _ _ _ h]; exact hoρ g h) (fun j h0 h1 h2 => by unfold up; split; exact hG (k - 1) (by omega) (by omega) (by omega); rename_i hq; exact hG j h0 h1 (fun q => hq ⟨rfl, q⟩)) (by omega) hw ls (lv_sub hl [0, 1, 2, 3] rfl)
        exact L12 _ x3_11 _ _ _ (by omega) (by rw [ex3_11]) (fun g h => rfl) (fun j h0 h1 h2 => hF j h0 (by omega)) (Nat.lt_succ_self _) hw ls (lv_sub hl [0, 1, 2, 3] rfl)
  exact L2 _ x2_1 _ _ _ (by omega) (by rw [ex2_1]; rfl) (fun j h0 h1 => by omega) (Nat.lt_succ_self _) hw ls (lv_sub hl [0, 1, 2] rfl)
set_option maxHeartbeats 400000 in
set_option maxRecDepth 100000 in
theorem k_F_build {l : Launch} {D : va_G} {ad : Nat → Nat} {ca : Nat → ClassId} (σ : St) (hI : IB σ) (hn : 0 ≤ σ 17 0 ∧ σ 17 0 ≤ 8) (hB : ∀ i, 0 ≤ i → i < σ 17 0 → σ 16 i = -1 ∨ (0 ≤ σ 16 i ∧ σ 16 i < 36)) : Cw l D cl7 (tyX ca) (wX ad ca) y_F_build c_F_build 3 none 3 [.ref (ad 102), .ref (ad 101), .ref (ad 105)] σ (VW (fB σ = ·)) := by
  have hm := cntM_bd hI.2.2.2.2.2.2.2.2.2 (σ 7 0).toNat
  have h7 := hI.1
  have u17 : ∀ v, up σ 29 0 v 17 0 = σ 17 0 := fun v => up_o _ _ _ _ (by decide)
  have u16 : ∀ v i, up σ 29 0 v 16 i = σ 16 i := fun v i => up_o _ _ _ _ (by decide)
  have hI1 : IB (fB1 σ) := IB_of (fun g hg => up_f _ _ _ (by omega)) hI
  have hI2 : IB (fB2 σ) := IB_of (fun g hg => tk_o _ _ g (by omega)) hI1
  have hbd2 := tk_bd (fB1 σ) (σ 17 0).toNat
  have hn2 : 0 ≤ fB2 σ 25 0 ∧ fB2 σ 25 0 ≤ 8 := by unfold fB2; omega
  have hP2 : ∀ j, 0 ≤ j → j < fB2 σ 25 0 → 0 ≤ fB2 σ 20 j ∧ fB2 σ 20 j < 36 := tk_pr (σ := fB1 σ) (σ 17 0).toNat (fun i h0 h1 => by unfold fB1; rw [u16]; exact hB i h0 (by omega))
  have o3 : ∀ g, g ≠ 22 ∧ g ≠ 28 → fB3 σ g = fB2 σ g := fun g h => pf_o _ _ g h
  have hI3 : IB (fB3 σ) := IB_of (fun g hg => o3 g (by omega)) hI2
  have o4 : ∀ g, g ≠ 23 → fB4 σ g = fB3 σ g := fun g h => so_o _ _ g h
  have hI4 : IB (fB4 σ) := IB_of (fun g hg => o4 g (by omega)) hI3
  have e253 : fB3 σ 25 0 = fB2 σ 25 0 := by rw [o3 25 (by decide)]
  have e254 : fB4 σ 25 0 = fB2 σ 25 0 := by rw [o4 25 (by decide), e253]
  have hP3 : ∀ j, 0 ≤ j → j < fB3 σ 25 0 → 0 ≤ fB3 σ 20 j ∧ fB3 σ 20 j < 36 := fun j h0 h1 => by rw [o3 20 (by decide)]; exact hP2 j h0 (by omega)
  have hP4 : ∀ j, 0 ≤ j → j < fB4 σ 25 0 → 0 ≤ fB4 σ 23 j ∧ fB4 σ 23 j < 36 := fun j h0 h1 => so_in (σ := fB3 σ) (fB3 σ 25 0).toNat (fun i a b => hP3 i a (by omega)) j h0 (by omega)
  refine Cw.enter (by decide) (Nat.le_of_ble_eq_true rfl) ?_
  intro A p e s m below meth c hc ls hl hw
  have hl : lv_has ls 3 [(0, .ref (ad 102)), (1, .ref (ad 101)), (2, .ref (ad 105))] := hl
  obtain ⟨hx, hb, hml, hown, hTB, hK, hr, hlk⟩ := id hc
  refine lv_aload_n hx hb d_F_build_0 rfl (lv_at hl 0 rfl) ?_
  refine lv_aload_n hx hb d_F_build_1 rfl (lv_at hl 2 rfl) ?_
  refine gnX_S_looked hc hw lk_F_28 d_F_build_2 ?_
  refine lv_aload_n hx hb d_F_build_5 rfl (lv_at hl 1 rfl) ?_
  refine w_cvR (q0 := 1) hc hw (k_B_countOfMust _ hI) yw_B_countOfMust yi_B_countOfMust lk_F_34 d_F_build_6 rfl rfl rfl rfl hl.1 (Nat.le_of_ble_eq_true rfl) ⟨Nat.le_of_ble_eq_true rfl, Nat.le_of_ble_eq_true rfl⟩ ⟨Nat.zero_le _, Nat.zero_le _⟩ (fun τ6 H locs hτ6 hw => ?_)
  subst hτ6
  refine z_icmp_ne hx hb 16 d_F_build_9 (by omega) (by omega) (by decide) (fun c9 => ?_) (fun c9 => ?_)
  · refine z_ic hx hb d_F_build_16 ?_
    refine pX_F_sawAll hc hw lk_F_40 d_F_build_17 (by omega) (fun H locs hw => ?_)
    have hw : Wd D cl7 (wX ad ca) A s.heap (fB1 σ) H locs := by unfold fB1; first | (rw [bI_t (by omega)]; exact hw) | (rw [bI_f (by omega)]; exact hw)
    refine lv_aload_n hx hb d_F_build_20 rfl (lv_at hl 0 rfl) ?_
    refine lv_aload_n hx hb d_F_build_21 rfl (lv_at hl 2 rfl) ?_
    refine w_cvV (q0 := 2) hc hw (k_F_takeProbes (fB1 σ) (by unfold fB1; rw [u17]; exact hn) (fun i h0 h1 => by unfold fB1 at h1 ⊢; rw [u17] at h1; rw [u16]; have := hB i h0 h1; omega)) yw_F_takeProbes yi_F_takeProbes lk_F_44 d_F_build_22 rfl rfl rfl rfl hl.1 (Nat.le_of_ble_eq_true rfl) ⟨Nat.le_of_ble_eq_true rfl, Nat.le_of_ble_eq_true rfl⟩ ⟨Nat.zero_le _, Nat.zero_le _⟩ (fun τ22 H locs hτ22 hw => ?_)
    have eτ : fB2 σ = τ22 := by unfold fB2; rw [← hτ22]; unfold fB1; rw [u17]
    subst eτ
    refine lv_aload_n hx hb d_F_build_25 rfl (lv_at hl 0 rfl) ?_
    refine lv_aload_n hx hb d_F_build_26 rfl (lv_at hl 1 rfl) ?_
    refine w_cvV (q0 := 2) hc hw (k_F_planFlight _ hI2 hn2 hP2) yw_F_planFlight yi_F_planFlight lk_F_48 d_F_build_27 rfl rfl rfl rfl hl.1 (Nat.le_of_ble_eq_true rfl) ⟨Nat.le_of_ble_eq_true rfl, Nat.le_of_ble_eq_true rfl⟩ ⟨Nat.zero_le _, Nat.zero_le _⟩ (fun τ27 H locs hτ27 hw => ?_)
    have hw : Wd D cl7 (wX ad ca) A s.heap (fB3 σ) H locs := by rw [← hτ27] at hw; exact hw
    refine lv_aload_n hx hb d_F_build_30 rfl (lv_at hl 0 rfl) ?_
    refine lv_aload_n hx hb d_F_build_31 rfl (lv_at hl 1 rfl) ?_
    refine w_cvV (q0 := 2) hc hw (k_F_sortByPlace _ hI3 (by omega) hP3) yw_F_sortByPlace yi_F_sortByPlace lk_F_52 d_F_build_32 rfl rfl rfl rfl hl.1 (Nat.le_of_ble_eq_true rfl) ⟨Nat.le_of_ble_eq_true rfl, Nat.le_of_ble_eq_true rfl⟩ ⟨Nat.zero_le _, Nat.zero_le _⟩ (fun τ32 H locs hτ32 hw => ?_)
    have hw : Wd D cl7 (wX ad ca) A s.heap (fB4 σ) H locs := by rw [← hτ32] at hw; exact hw
    refine lv_aload_n hx hb d_F_build_35 rfl (lv_at hl 0 rfl) ?_
    refine lv_aload_n hx hb d_F_build_36 rfl (lv_at hl 1 rfl) ?_
    refine w_cvV (q0 := 2) hc hw (k_F_writeText _ hI4 (by omega) hP4) yw_F_writeText yi_F_writeText lk_F_55 d_F_build_37 rfl rfl rfl rfl hl.1 (Nat.le_of_ble_eq_true rfl) ⟨Nat.le_of_ble_eq_true rfl, Nat.le_of_ble_eq_true rfl⟩ ⟨Nat.zero_le _, Nat.zero_le _⟩ (fun τ37 H locs hτ37 hw => ?_)
    have hw : Wd D cl7 (wX ad ca) A s.heap (fB σ) H locs := by rw [← hτ37] at hw; exact hw
    exact w_vret hc hw (⟨rfl, rfl⟩) d_F_build_40
  · refine z_ic hx hb d_F_build_12 ?_
    refine lv_goto (tgt := 17) hx hb d_F_build_13 (by decide) ?_
    refine pX_F_sawAll hc hw lk_F_40 d_F_build_17 (by omega) (fun H locs hw => ?_)
    have hw : Wd D cl7 (wX ad ca) A s.heap (fB1 σ) H locs := by unfold fB1; first | (rw [bI_t (by omega)]; exact hw) | (rw [bI_f (by omega)]; exact hw)
    refine lv_aload_n hx hb d_F_build_20 rfl (lv_at hl 0 rfl) ?_
    refine lv_aload_n hx hb d_F_build_21 rfl (lv_at hl 2 rfl) ?_
    refine w_cvV (q0 := 2) hc hw (k_F_takeProbes (fB1 σ) (by unfold fB1; rw [u17]; exact hn) (fun i h0 h1 => by unfold fB1 at h1 ⊢; rw [u17] at h1; rw [u16]; have := hB i h0 h1; omega)) yw_F_takeProbes yi_F_takeProbes lk_F_44 d_F_build_22 rfl rfl rfl rfl hl.1 (Nat.le_of_ble_eq_true rfl) ⟨Nat.le_of_ble_eq_true rfl, Nat.le_of_ble_eq_true rfl⟩ ⟨Nat.zero_le _, Nat.zero_le _⟩ (fun τ22 H locs hτ22 hw => ?_)
    have eτ : fB2 σ = τ22 := by unfold fB2; rw [← hτ22]; unfold fB1; rw [u17]
    subst eτ
    refine lv_aload_n hx hb d_F_build_25 rfl (lv_at hl 0 rfl) ?_
    refine lv_aload_n hx hb d_F_build_26 rfl (lv_at hl 1 rfl) ?_
    refine w_cvV (q0 := 2) hc hw (k_F_planFlight _ hI2 hn2 hP2) yw_F_planFlight yi_F_planFlight lk_F_48 d_F_build_27 rfl rfl rfl rfl hl.1 (Nat.le_of_ble_eq_true rfl) ⟨Nat.le_of_ble_eq_true rfl, Nat.le_of_ble_eq_true rfl⟩ ⟨Nat.zero_le _, Nat.zero_le _⟩ (fun τ27 H locs hτ27 hw => ?_)
    have hw : Wd D cl7 (wX ad ca) A s.heap (fB3 σ) H locs := by rw [← hτ27] at hw; exact hw
    refine lv_aload_n hx hb d_F_build_30 rfl (lv_at hl 0 rfl) ?_
    refine lv_aload_n hx hb d_F_build_31 rfl (lv_at hl 1 rfl) ?_
    refine w_cvV (q0 := 2) hc hw (k_F_sortByPlace _ hI3 (by omega) hP3) yw_F_sortByPlace yi_F_sortByPlace lk_F_52 d_F_build_32 rfl rfl rfl rfl hl.1 (Nat.le_of_ble_eq_true rfl) ⟨Nat.le_of_ble_eq_true rfl, Nat.le_of_ble_eq_true rfl⟩ ⟨Nat.zero_le _, Nat.zero_le _⟩ (fun τ32 H locs hτ32 hw => ?_)
    have hw : Wd D cl7 (wX ad ca) A s.heap (fB4 σ) H locs := by rw [← hτ32] at hw; exact hw
    refine lv_aload_n hx hb d_F_build_35 rfl (lv_at hl 0 rfl) ?_
    refine lv_aload_n hx hb d_F_build_36 rfl (lv_at hl 1 rfl) ?_
    refine w_cvV (q0 := 2) hc hw (k_F_writeText _ hI4 (by omega) hP4) yw_F_writeText yi_F_writeText lk_F_55 d_F_build_37 rfl rfl rfl rfl hl.1 (Nat.le_of_ble_eq_true rfl) ⟨Nat.le_of_ble_eq_true rfl, Nat.le_of_ble_eq_true rfl⟩ ⟨Nat.zero_le _, Nat.zero_le _⟩ (fun τ37 H locs hτ37 hw => ?_)
    have hw : Wd D cl7 (wX ad ca) A s.heap (fB σ) H locs := by rw [← hτ37] at hw; exact hw
    exact w_vret hc hw (⟨rfl, rfl⟩) d_F_build_40
