set_option maxHeartbeats 400000 in
set_option maxRecDepth 100000 in
theorem k_F_sumOfForces {l : Launch} {D : va_G} {ad : Nat → Nat} {ca : Nat → ClassId} (σ : St) (hn : 0 ≤ σ 25 0 ∧ σ 25 0 ≤ 8) (hP : ∀ i, 0 ≤ i → i < σ 25 0 → 0 ≤ σ 20 i ∧ σ 20 i < 36) : Cw l D cl7 (tyX ca) (wX ad ca) y_F_sumOfForces c_F_sumOfForces 5 (some .long) 0 [.ref (ad 102), .ref (ad 101)] σ (RW (.long (zL (sumF σ (σ 25 0).toNat))) (σ = ·)) := by
  refine Cw.enter (by decide) (Nat.le_of_ble_eq_true rfl) ?_
  intro A p e s m below meth c hc ls hl hw
  have hl : lv_has ls 5 [(0, .ref (ad 102)), (1, .ref (ad 101))] := hl
  obtain ⟨hx, hb, hml, hown, hTB, hK, hr, hlk⟩ := id hc
  refine z_lc0 hx hb d_F_sumOfForces_0 ?_
  refine z_lst_n hx hb d_F_sumOfForces_1 rfl hl (by decide) (fun x2_1 ex2_1 ls (hl : lv_has ls 5 [(2, .long (zL x2_1)), (0, .ref (ad 102)), (1, .ref (ad 101))]) => ?_)
  refine z_ic hx hb d_F_sumOfForces_2 ?_
  refine z_ist hx hb d_F_sumOfForces_3 hl (by decide) (fun x4_3 ex4_3 ls (hl : lv_has ls 5 [(4, .int (zI x4_3)), (2, .long (zL x2_1)), (0, .ref (ad 102)), (1, .ref (ad 101))]) => ?_)
  have L5 : ∀ (n : Nat) (i : Int) (t : Int) (H : Heap) (locs : List Loc), (0 ≤ i ∧ i ≤ σ 25 0) → (t = sumF σ i.toNat) → (σ 25 0 - i).toNat < n → Wd D cl7 (wX ad ca) A s.heap σ H locs → ∀ ls : Array Slot, lv_has ls 5 [(4, .int (zI i)), (2, .long (zL t)), (0, .ref (ad 102)), (1, .ref (ad 101))] → W p l e (Rmh 0) s m ([.ref (ad 102), .ref (ad 101)] : List Value).toArray below meth c H locs 0 0 (MQ below (Qw D cl7 (wX ad ca) A (RW (.long (zL (sumF σ (σ 25 0).toNat))) (σ = ·))) ([.ref (ad 102), .ref (ad 101)] : List Value).toArray s 0 0 A) (F0 m 5 ls []) := by
    intro n
    induction n with
    | zero => intro i t  H locs hi ht hm; exact absurd hm (Nat.not_lt_zero _)
    | succ n ih5 =>
      intro i t  H locs hi ht hm5 hw ls hl
      refine lv_iload hx hb d_F_sumOfForces_5 (lv_at hl 0 rfl) ?_
      refine lv_aload_n hx hb d_F_sumOfForces_7 rfl (lv_at hl 2 rfl) ?_
      refine gX_F_probeCount hc hw lk_F_58 d_F_sumOfForces_8 ?_
      refine z_icmp_ge hx hb 35 d_F_sumOfForces_11 (by omega) (by omega) (by decide) (fun c11 => ?_) (fun c11 => ?_)
      · refine lv_lload_n hx hb d_F_sumOfForces_35 rfl (lv_at hl 1 rfl) ?_
        exact w_lret hc hw (⟨by rw [ht, show i = σ 25 0 by omega], rfl⟩) d_F_sumOfForces_36
      · refine lv_lload_n hx hb d_F_sumOfForces_14 rfl (lv_at hl 1 rfl) ?_
        refine lv_aload_n hx hb d_F_sumOfForces_15 rfl (lv_at hl 3 rfl) ?_
        refine gnX_B_weights hc hw lk_F_61 d_F_sumOfForces_16 ?_
        refine lv_aload_n hx hb d_F_sumOfForces_19 rfl (lv_at hl 2 rfl) ?_
        refine gX_F_probes hc hw lk_F_9 d_F_sumOfForces_20 ?_
        refine lv_iload hx hb d_F_sumOfForces_23 (lv_at hl 0 rfl) ?_
        refine ldX_F_probes hc hw d_F_sumOfForces_25 (by omega) ?_
        refine ldX_B_weights hc hw d_F_sumOfForces_26 (hP i hi.1 c11) ?_
        refine z_ladd hx hb d_F_sumOfForces_27 ?_
        refine z_lst_n hx hb d_F_sumOfForces_28 rfl hl (by decide) (fun x2_28 ex2_28 ls (hl : lv_has ls 5 [(2, .long (zL x2_28)), (4, .int (zI i)), (0, .ref (ad 102)), (1, .ref (ad 101))]) => ?_)
        refine z_iinc (k := 1) hx hb d_F_sumOfForces_29 hl rfl (by decide) (fun x4_29 ex4_29 ls (hl : lv_has ls 5 [(4, .int (zI x4_29)), (2, .long (zL x2_28)), (0, .ref (ad 102)), (1, .ref (ad 101))]) => ?_)
        refine lv_goto (tgt := 5) hx hb d_F_sumOfForces_32 (by decide) ?_
        exact ih5 x4_29 x2_28 _ _ (by omega) (by rw [ex2_28, ht, show x4_29.toNat = i.toNat + 1 from (by omega)]; simp only [sumF]; rw [Int.toNat_of_nonneg hi.1]) (by omega) hw ls (lv_sub hl [0, 1, 2, 3] rfl)
  exact L5 _ x4_3 x2_1 _ _ (by omega) (by rw [ex2_1, ex4_3]; rfl) (Nat.lt_succ_self _) hw ls (lv_sub hl [0, 1, 2, 3] rfl)
