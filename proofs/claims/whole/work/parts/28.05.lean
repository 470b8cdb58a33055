set_option maxHeartbeats 400000 in
set_option maxRecDepth 100000 in
theorem k_S_markClashesWithNet {l : Launch} {D : va_G} {ad : Nat → Nat} {ca : Nat → ClassId} (σ : St) (t i : Int) (ht : 0 ≤ t ∧ t < 24) (hi : 0 ≤ i ∧ i < 8) (hI : IB σ) (hS : IS σ) : Cw l D cl7 (tyX ca) (wX ad ca) y_S_markClashesWithNet c_S_markClashesWithNet 5 none 2 [.ref (ad 105), .ref (ad 101), .int (zI t), .int (zI i)] σ (VW (fun τ => mcN t (σ 11 i).toNat (i * 3) σ = τ ∧ IS τ ∧ ∀ g, g ≠ 14 → τ g = σ g)) := by
  have h11 := hS.2.1 i
  refine Cw.enter (by decide) (Nat.le_of_ble_eq_true rfl) ?_
  intro A p e s m below meth c hc ls hl hw
  have hl : lv_has ls 5 [(0, .ref (ad 105)), (1, .ref (ad 101)), (2, .int (zI t)), (3, .int (zI i))] := hl
  obtain ⟨hx, hb, hml, hown, hTB, hK, hr, hlk⟩ := id hc
  refine lv_iload_n hx hb d_S_markClashesWithNet_0 rfl (lv_at hl 3 rfl) ?_
  refine z_ic hx hb d_S_markClashesWithNet_1 ?_
  refine z_imul hx hb d_S_markClashesWithNet_2 ?_
  refine z_ist hx hb d_S_markClashesWithNet_3 hl (by decide) (fun x4_3 ex4_3 ls (hl : lv_has ls 5 [(4, .int (zI x4_3)), (0, .ref (ad 105)), (1, .ref (ad 101)), (2, .int (zI t)), (3, .int (zI i))]) => ?_)
  have L5 : ∀ (n : Nat) (u : Int) (τ : St) (H : Heap) (locs : List Loc), (i * 3 ≤ u ∧ u ≤ i * 3 + σ 11 i) → (mcN t (σ 11 i).toNat (i * 3) σ = mcN t (i * 3 + σ 11 i - u).toNat u τ) → (IS τ) → (∀ g, g ≠ 14 → τ g = σ g) → (i * 3 + σ 11 i - u).toNat < n → Wd D cl7 (wX ad ca) A s.heap τ H locs → ∀ ls : Array Slot, lv_has ls 5 [(4, .int (zI u)), (0, .ref (ad 105)), (1, .ref (ad 101)), (2, .int (zI t)), (3, .int (zI i))] → W p l e (Rmh 2) s m ([.ref (ad 105), .ref (ad 101), .int (zI t), .int (zI i)] : List Value).toArray below meth c H locs 0 0 (MQ below (Qw D cl7 (wX ad ca) A (VW (fun τ => mcN t (σ 11 i).toNat (i * 3) σ = τ ∧ IS τ ∧ ∀ g, g ≠ 14 → τ g = σ g))) ([.ref (ad 105), .ref (ad 101), .int (zI t), .int (zI i)] : List Value).toArray s 0 0 A) (F0 m 5 ls []) := by
    intro n
    induction n with
    | zero => intro u τ H locs hu hN hSτ ho hm; exact absurd hm (Nat.not_lt_zero _)
    | succ n ih5 =>
      intro u τ H locs hu hN hSτ ho hm5 hw ls hl
      have hIτ : IB τ := IB_of (fun g hg => ho g (by omega)) hI
      have e11 : τ 11 i = σ 11 i := by rw [ho 11 (by decide)]
      have h12t := hSτ.2.2.1 t
      have h12u := hSτ.2.2.1 u
      have h14t := hSτ.2.2.2.2 t
      refine lv_iload hx hb d_S_markClashesWithNet_5 (lv_at hl 0 rfl) ?_
      refine lv_aload_n hx hb d_S_markClashesWithNet_7 rfl (lv_at hl 1 rfl) ?_
      refine lv_iload_n hx hb d_S_markClashesWithNet_8 rfl (lv_at hl 4 rfl) ?_
      refine w_cvR (q0 := 5) hc hw (k_S_endOf _ _ (by omega)) yw_S_endOf yi_S_endOf lk_S_82 d_S_markClashesWithNet_9 rfl rfl rfl rfl hl.1 (Nat.le_of_ble_eq_true rfl) ⟨Nat.le_of_ble_eq_true rfl, Nat.le_of_ble_eq_true rfl⟩ ⟨Nat.zero_le _, Nat.zero_le _⟩ (fun τ9 H locs hτ9 hw => ?_)
      subst hτ9
      refine z_icmp_ge hx hb 54 d_S_markClashesWithNet_12 (by omega) (by omega) (by decide) (fun c12 => ?_) (fun c12 => ?_)
      · exact w_vret hc hw (⟨rfl, by rw [hN, show (i * 3 + σ 11 i - u).toNat = 0 by omega]; rfl, hSτ, ho⟩) d_S_markClashesWithNet_54
      · have q : (i * 3 + σ 11 i - u).toNat = (i * 3 + σ 11 i - (u + 1)).toNat + 1 := by omega
        rw [q, mcN_s] at hN
        have hpu := p2_bd (b := u) (k := 24) (by omega)
        have hSn : IS (up τ 14 t (zOr (τ 14 t) ((2 ^ u.toNat : Nat) : Int))) := ⟨by rw [up_f _ _ _ (by decide)]; exact hSτ.1, by rw [up_f _ _ _ (by decide)]; exact hSτ.2.1, by rw [up_f _ _ _ (by decide)]; exact hSτ.2.2.1, by rw [up_f _ _ _ (by decide)]; exact hSτ.2.2.2.1, fun j => by unfold up; split; exact zOr_bd (k := 24) h14t hpu; exact hSτ.2.2.2.2 j⟩
        refine lv_aload_n hx hb d_S_markClashesWithNet_15 rfl (lv_at hl 2 rfl) ?_
        refine lv_aload_n hx hb d_S_markClashesWithNet_16 rfl (lv_at hl 1 rfl) ?_
        refine gX_S_points hc hw lk_S_18 d_S_markClashesWithNet_17 ?_
        refine lv_iload_n hx hb d_S_markClashesWithNet_20 rfl (lv_at hl 3 rfl) ?_
        refine ldX_S_points hc hw d_S_markClashesWithNet_21 (by omega) ?_
        refine lv_aload_n hx hb d_S_markClashesWithNet_22 rfl (lv_at hl 1 rfl) ?_
        refine gX_S_points hc hw lk_S_18 d_S_markClashesWithNet_23 ?_
        refine lv_iload hx hb d_S_markClashesWithNet_26 (lv_at hl 0 rfl) ?_
        refine ldX_S_points hc hw d_S_markClashesWithNet_28 (by omega) ?_
        refine w_cvR (q0 := 1) hc hw (k_B_canBothBeProbes _ _ _ (by omega) (by omega) hIτ) yw_B_canBothBeProbes yi_B_canBothBeProbes lk_S_90 d_S_markClashesWithNet_29 rfl rfl rfl rfl hl.1 (Nat.le_of_ble_eq_true rfl) ⟨Nat.le_of_ble_eq_true rfl, Nat.le_of_ble_eq_true rfl⟩ ⟨Nat.zero_le _, Nat.zero_le _⟩ (fun τ29 H locs hτ29 hw => ?_)
        subst hτ29
        refine z_ifb_ne hx hb 48 d_S_markClashesWithNet_32 (by decide) (fun c32 => ?_) (fun c32 => ?_)
        · refine z_iinc (k := 0) hx hb d_S_markClashesWithNet_48 hl rfl (by decide) (fun x4_48 ex4_48 ls (hl : lv_has ls 5 [(4, .int (zI x4_48)), (0, .ref (ad 105)), (1, .ref (ad 101)), (2, .int (zI t)), (3, .int (zI i))]) => ?_)
          refine lv_goto (tgt := 5) hx hb d_S_markClashesWithNet_51 (by decide) ?_
          exact ih5 x4_48 _ _ _ (by omega) (by rw [hN, ex4_48]; first | (rw [if_pos c32]; done) | (rw [if_neg c32]; done)) (by first | exact hSτ | exact hSn) (by first | exact ho | exact (fun g h => by rw [up_f _ _ _ h]; exact ho g h)) (by omega) hw ls (lv_sub hl [0, 1, 2, 3, 4] rfl)
        · refine lv_aload_n hx hb d_S_markClashesWithNet_35 rfl (lv_at hl 1 rfl) ?_
          refine gX_S_clashes hc hw lk_S_25 d_S_markClashesWithNet_36 ?_
          refine lv_iload_n hx hb d_S_markClashesWithNet_39 rfl (lv_at hl 3 rfl) ?_
          refine lv_dup2_11 hx hb d_S_markClashesWithNet_40 rfl rfl ?_
          refine ldX_S_clashes hc hw d_S_markClashesWithNet_41 (by omega) ?_
          refine z_ic hx hb d_S_markClashesWithNet_42 ?_
          refine lv_iload hx hb d_S_markClashesWithNet_43 (lv_at hl 0 rfl) ?_
          refine z_shl1 hx hb d_S_markClashesWithNet_45 (by omega) ?_
          refine z_ior hx hb d_S_markClashesWithNet_46 (⟨h14t.1, hpu.1⟩) ?_
          refine stX_S_clashes hc hw d_S_markClashesWithNet_47 (by omega) (fun H locs hw => ?_)
          refine z_iinc (k := 0) hx hb d_S_markClashesWithNet_48 hl rfl (by decide) (fun x4_48 ex4_48 ls (hl : lv_has ls 5 [(4, .int (zI x4_48)), (0, .ref (ad 105)), (1, .ref (ad 101)), (2, .int (zI t)), (3, .int (zI i))]) => ?_)
          refine lv_goto (tgt := 5) hx hb d_S_markClashesWithNet_51 (by decide) ?_
          exact ih5 x4_48 _ _ _ (by omega) (by rw [hN, ex4_48]; first | (rw [if_pos c32]; done) | (rw [if_neg c32]; done)) (by first | exact hSτ | exact hSn) (by first | exact ho | exact (fun g h => by rw [up_f _ _ _ h]; exact ho g h)) (by omega) hw ls (lv_sub hl [0, 1, 2, 3, 4] rfl)
  exact L5 _ x4_3 _ _ _ (by omega) (by rw [ex4_3, show (i * 3 + σ 11 i - i * 3).toNat = (σ 11 i).toNat from (by omega)]) (hS) (fun g h => rfl) (Nat.lt_succ_self _) hw ls (lv_sub hl [0, 1, 2, 3, 4] rfl)
