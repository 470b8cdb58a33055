set_option maxHeartbeats 400000 in
set_option maxRecDepth 100000 in
theorem k_S_bestSlot {l : Launch} {D : va_G} {ad : Nat → Nat} {ca : Nat → ClassId} (σ : St) (i bl : Int) (hi : 0 ≤ i ∧ i < 8) (hbl : 0 ≤ bl ∧ bl < 16777216) (hS : IS σ) : Cw l D cl7 (tyX ca) (wX ad ca) y_S_bestSlot c_S_bestSlot 5 (some .int) 1 [.ref (ad 105), .int (zI i), .int (zI bl)] σ (RW (.int (zI (bs σ i bl))) (σ = ·)) := by
  have h11 := hS.2.1 i
  refine Cw.enter (by decide) (Nat.le_of_ble_eq_true rfl) ?_
  intro A p e s m below meth c hc ls hl hw
  have hl : lv_has ls 5 [(0, .ref (ad 105)), (1, .int (zI i)), (2, .int (zI bl))] := hl
  obtain ⟨hx, hb, hml, hown, hTB, hK, hr, hlk⟩ := id hc
  refine z_ic hx hb d_S_bestSlot_0 ?_
  refine z_ist_n hx hb d_S_bestSlot_1 rfl hl (by decide) (fun x3_1 ex3_1 ls (hl : lv_has ls 5 [(3, .int (zI x3_1)), (0, .ref (ad 105)), (1, .int (zI i)), (2, .int (zI bl))]) => ?_)
  refine lv_iload_n hx hb d_S_bestSlot_2 rfl (lv_at hl 2 rfl) ?_
  refine z_ic hx hb d_S_bestSlot_3 ?_
  refine z_imul hx hb d_S_bestSlot_4 ?_
  refine z_ist hx hb d_S_bestSlot_5 hl (by decide) (fun x4_5 ex4_5 ls (hl : lv_has ls 5 [(4, .int (zI x4_5)), (3, .int (zI x3_1)), (0, .ref (ad 105)), (1, .int (zI i)), (2, .int (zI bl))]) => ?_)
  have L7 : ∀ (n : Nat) (t : Int) (fd : Int) (H : Heap) (locs : List Loc), (i * 3 ≤ t ∧ t ≤ i * 3 + σ 11 i) → (fd = -1 ∨ (i * 3 ≤ fd ∧ fd < t)) → (bs σ i bl = bsF σ bl (i * 3 + σ 11 i - t).toNat t fd) → (i * 3 + σ 11 i - t).toNat < n → Wd D cl7 (wX ad ca) A s.heap σ H locs → ∀ ls : Array Slot, lv_has ls 5 [(4, .int (zI t)), (3, .int (zI fd)), (0, .ref (ad 105)), (1, .int (zI i)), (2, .int (zI bl))] → W p l e (Rmh 1) s m ([.ref (ad 105), .int (zI i), .int (zI bl)] : List Value).toArray below meth c H locs 0 0 (MQ below (Qw D cl7 (wX ad ca) A (RW (.int (zI (bs σ i bl))) (σ = ·))) ([.ref (ad 105), .int (zI i), .int (zI bl)] : List Value).toArray s 0 0 A) (F0 m 7 ls []) := by
    intro n
    induction n with
    | zero => intro t fd  H locs ht hf hN hm; exact absurd hm (Nat.not_lt_zero _)
    | succ n ih7 =>
      intro t fd  H locs ht hf hN hm7 hw ls hl
      refine lv_iload hx hb d_S_bestSlot_7 (lv_at hl 0 rfl) ?_
      refine lv_aload_n hx hb d_S_bestSlot_9 rfl (lv_at hl 2 rfl) ?_
      refine lv_iload_n hx hb d_S_bestSlot_10 rfl (lv_at hl 3 rfl) ?_
      refine w_cvR (q0 := 5) hc hw (k_S_endOf _ _ (by omega)) yw_S_endOf yi_S_endOf lk_S_82 d_S_bestSlot_11 rfl rfl rfl rfl hl.1 (Nat.le_of_ble_eq_true rfl) ⟨Nat.le_of_ble_eq_true rfl, Nat.le_of_ble_eq_true rfl⟩ ⟨Nat.zero_le _, Nat.zero_le _⟩ (fun τ11 H locs hτ11 hw => ?_)
      subst hτ11
      refine z_icmp_ge hx hb 57 d_S_bestSlot_14 (by omega) (by omega) (by decide) (fun c14 => ?_) (fun c14 => ?_)
      · refine lv_iload_n hx hb d_S_bestSlot_57 rfl (lv_at hl 1 rfl) ?_
        exact w_iret hc hw (⟨by rw [hN, show (i * 3 + σ 11 i - t).toNat = 0 by omega]; rfl, rfl⟩) d_S_bestSlot_58
      · have q : (i * 3 + σ 11 i - t).toNat = (i * 3 + σ 11 i - (t + 1)).toNat + 1 := by omega
        rw [q, bsF_s] at hN
        have h13t := hS.2.2.2.1 t
        have h13f := hS.2.2.2.1 fd
        refine lv_iload_n hx hb d_S_bestSlot_17 rfl (lv_at hl 4 rfl) ?_
        refine lv_iload hx hb d_S_bestSlot_18 (lv_at hl 0 rfl) ?_
        refine w_csNR hc hw (k_X_hasBit _ _ _ (by omega) (by omega)) yw_X_hasBit yi_X_hasBit lk_S_98 d_S_bestSlot_20 rfl rfl hl.1 (Nat.le_of_ble_eq_true rfl) ⟨Nat.le_of_ble_eq_true rfl, Nat.le_of_ble_eq_true rfl⟩ ⟨Nat.zero_le _, Nat.zero_le _⟩ (fun τ20 H locs hτ20 hw => ?_)
        subst hτ20
        refine z_ifb_ne hx hb 51 d_S_bestSlot_23 (by decide) (fun c23 => ?_) (fun c23 => ?_)
        · refine z_iinc (k := 0) hx hb d_S_bestSlot_51 hl rfl (by decide) (fun x4_51 ex4_51 ls (hl : lv_has ls 5 [(4, .int (zI x4_51)), (3, .int (zI fd)), (0, .ref (ad 105)), (1, .int (zI i)), (2, .int (zI bl))]) => ?_)
          refine lv_goto (tgt := 7) hx hb d_S_bestSlot_54 (by decide) ?_
          exact ih7 x4_51 fd _ _ (by omega) (by omega) (by rw [hN, ex4_51]; first | (rw [if_neg (fun q => q.1 c23)]; done) | (rw [if_pos ⟨c23, by omega⟩, ex3_50]; done) | (rw [if_neg (fun q => by omega)]; done)) (by omega) hw ls (lv_sub hl [0, 1, 2, 3, 4] rfl)
        · refine lv_iload_n hx hb d_S_bestSlot_26 rfl (lv_at hl 1 rfl) ?_
          refine z_ic hx hb d_S_bestSlot_27 ?_
          refine z_icmp_eq hx hb 48 d_S_bestSlot_28 (by omega) (by omega) (by decide) (fun c28 => ?_) (fun c28 => ?_)
          · refine lv_iload hx hb d_S_bestSlot_48 (lv_at hl 0 rfl) ?_
            refine z_ist_n hx hb d_S_bestSlot_50 rfl hl (by decide) (fun x3_50 ex3_50 ls (hl : lv_has ls 5 [(3, .int (zI x3_50)), (4, .int (zI t)), (0, .ref (ad 105)), (1, .int (zI i)), (2, .int (zI bl))]) => ?_)
            refine z_iinc (k := 1) hx hb d_S_bestSlot_51 hl rfl (by decide) (fun x4_51 ex4_51 ls (hl : lv_has ls 5 [(4, .int (zI x4_51)), (3, .int (zI x3_50)), (0, .ref (ad 105)), (1, .int (zI i)), (2, .int (zI bl))]) => ?_)
            refine lv_goto (tgt := 7) hx hb d_S_bestSlot_54 (by decide) ?_
            exact ih7 x4_51 x3_50 _ _ (by omega) (by omega) (by rw [hN, ex4_51]; first | (rw [if_neg (fun q => q.1 c23)]; done) | (rw [if_pos ⟨c23, by omega⟩, ex3_50]; done) | (rw [if_neg (fun q => by omega)]; done)) (by omega) hw ls (lv_sub hl [0, 1, 2, 3, 4] rfl)
          · refine lv_aload_n hx hb d_S_bestSlot_31 rfl (lv_at hl 2 rfl) ?_
            refine gX_S_worths hc hw lk_S_21 d_S_bestSlot_32 ?_
            refine lv_iload hx hb d_S_bestSlot_35 (lv_at hl 0 rfl) ?_
            refine ldX_S_worths hc hw d_S_bestSlot_37 (by omega) ?_
            refine lv_aload_n hx hb d_S_bestSlot_38 rfl (lv_at hl 2 rfl) ?_
            refine gX_S_worths hc hw lk_S_21 d_S_bestSlot_39 ?_
            refine lv_iload_n hx hb d_S_bestSlot_42 rfl (lv_at hl 1 rfl) ?_
            refine ldX_S_worths hc hw d_S_bestSlot_43 (by omega) ?_
            refine z_lcmp_le hx hb 51 d_S_bestSlot_44 d_S_bestSlot_45 (by omega) (by omega) (by decide) (fun c44 => ?_) (fun c44 => ?_)
            · refine z_iinc (k := 0) hx hb d_S_bestSlot_51 hl rfl (by decide) (fun x4_51 ex4_51 ls (hl : lv_has ls 5 [(4, .int (zI x4_51)), (3, .int (zI fd)), (0, .ref (ad 105)), (1, .int (zI i)), (2, .int (zI bl))]) => ?_)
              refine lv_goto (tgt := 7) hx hb d_S_bestSlot_54 (by decide) ?_
              exact ih7 x4_51 fd _ _ (by omega) (by omega) (by rw [hN, ex4_51]; first | (rw [if_neg (fun q => q.1 c23)]; done) | (rw [if_pos ⟨c23, by omega⟩, ex3_50]; done) | (rw [if_neg (fun q => by omega)]; done)) (by omega) hw ls (lv_sub hl [0, 1, 2, 3, 4] rfl)
            · refine lv_iload hx hb d_S_bestSlot_48 (lv_at hl 0 rfl) ?_
              refine z_ist_n hx hb d_S_bestSlot_50 rfl hl (by decide) (fun x3_50 ex3_50 ls (hl : lv_has ls 5 [(3, .int (zI x3_50)), (4, .int (zI t)), (0, .ref (ad 105)), (1, .int (zI i)), (2, .int (zI bl))]) => ?_)
              refine z_iinc (k := 1) hx hb d_S_bestSlot_51 hl rfl (by decide) (fun x4_51 ex4_51 ls (hl : lv_has ls 5 [(4, .int (zI x4_51)), (3, .int (zI x3_50)), (0, .ref (ad 105)), (1, .int (zI i)), (2, .int (zI bl))]) => ?_)
              refine lv_goto (tgt := 7) hx hb d_S_bestSlot_54 (by decide) ?_
              exact ih7 x4_51 x3_50 _ _ (by omega) (by omega) (by rw [hN, ex4_51]; first | (rw [if_neg (fun q => q.1 c23)]; done) | (rw [if_pos ⟨c23, by omega⟩, ex3_50]; done) | (rw [if_neg (fun q => by omega)]; done)) (by omega) hw ls (lv_sub hl [0, 1, 2, 3, 4] rfl)
  exact L7 _ x4_5 x3_1 _ _ (by omega) (by omega) (by rw [ex4_5, ex3_1, show (i * 3 + σ 11 i - i * 3).toNat = (σ 11 i).toNat from (by omega)]; rfl) (Nat.lt_succ_self _) hw ls (lv_sub hl [0, 1, 2, 3, 4] rfl)
