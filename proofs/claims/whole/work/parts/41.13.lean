set_option maxHeartbeats 400000 in
set_option maxRecDepth 100000 in
theorem k_M_forces {l : Launch} {D : va_G} {ad : Nat → Nat} {ca : Nat → ClassId} (μ : St) (hn : 0 ≤ μ 17 0 ∧ μ 17 0 ≤ 8) (hP : ∀ i, 0 ≤ i → i < μ 17 0 → 0 ≤ μ 18 i ∧ μ 18 i < 36) : Cw l D cl7 (tyM ca) (wM ad ca) y_M_forces c_M_forces 4 (some .long) 0 [.ref (ad 100)] μ (RW (.long (zL (mSumF μ (μ 17 0).toNat))) (up μ 0 0 0 = ·)) := by
  refine Cw.enter (by decide) (Nat.le_of_ble_eq_true rfl) ?_
  intro A p e s m below meth c hc ls hl hw
  have hl : lv_has ls 4 [(0, .ref (ad 100))] := hl
  obtain ⟨hx, hb, hml, hown, hTB, hK, hr, hlk⟩ := id hc
  refine lv_aload_n hx hb d_M_forces_0 rfl (lv_at hl 0 rfl) ?_
  refine z_ic hx hb d_M_forces_1 ?_
  refine pM_M_thrown hc hw lk_M_60 d_M_forces_2 (fun H locs hw => ?_)
  refine z_lc0 hx hb d_M_forces_5 ?_
  refine z_lst_n hx hb d_M_forces_6 rfl hl (by decide) (fun x1_6 ex1_6 ls (hl : lv_has ls 4 [(1, .long (zL x1_6)), (0, .ref (ad 100))]) => ?_)
  refine z_ic hx hb d_M_forces_7 ?_
  refine z_ist_n hx hb d_M_forces_8 rfl hl (by decide) (fun x3_8 ex3_8 ls (hl : lv_has ls 4 [(3, .int (zI x3_8)), (1, .long (zL x1_6)), (0, .ref (ad 100))]) => ?_)
  have L9 : ∀ (nf : Nat) (i : Int) (t : Int) (ν : St) (H : Heap) (locs : List Loc), (0 ≤ i ∧ i ≤ μ 17 0) → (t = mSumF μ i.toNat) → (ν = up μ 0 0 0) → (μ 17 0 - i).toNat < nf → Wd D cl7 (wM ad ca) A s.heap ν H locs → ∀ ls : Array Slot, lv_has ls 4 [(3, .int (zI i)), (1, .long (zL t)), (0, .ref (ad 100))] → W p l e (Rmh 0) s m ([.ref (ad 100)] : List Value).toArray below meth c H locs 0 0 (MQ below (Qw D cl7 (wM ad ca) A (RW (.long (zL (mSumF μ (μ 17 0).toNat))) (up μ 0 0 0 = ·))) ([.ref (ad 100)] : List Value).toArray s 0 0 A) (F0 m 9 ls []) := by
    intro nf
    induction nf with
    | zero => intro i t ν H locs hi ht hν hm; exact absurd hm (Nat.not_lt_zero _)
    | succ nf ih9 =>
      intro i t ν H locs hi ht hν hm9 hw ls hl
      subst hν
      have e17 : up μ 0 0 0 17 0 = μ 17 0 := up_o _ _ _ _ (by decide)
      refine lv_iload_n hx hb d_M_forces_9 rfl (lv_at hl 0 rfl) ?_
      refine lv_aload_n hx hb d_M_forces_10 rfl (lv_at hl 2 rfl) ?_
      refine gM_M_probes hc hw lk_M_121 d_M_forces_11 ?_
      refine z_icmp_ge hx hb 37 d_M_forces_14 (by omega) (by omega) (by decide) (fun c14 => ?_) (fun c14 => ?_)
      · refine lv_lload_n hx hb d_M_forces_37 rfl (lv_at hl 1 rfl) ?_
        exact w_lret hc hw (⟨by rw [ht, show i = μ 17 0 by omega], rfl⟩) d_M_forces_38
      · refine lv_lload_n hx hb d_M_forces_17 rfl (lv_at hl 1 rfl) ?_
        refine lv_aload_n hx hb d_M_forces_18 rfl (lv_at hl 2 rfl) ?_
        refine gM_M_forces hc hw lk_M_30 d_M_forces_19 ?_
        refine lv_aload_n hx hb d_M_forces_22 rfl (lv_at hl 2 rfl) ?_
        refine gM_M_probe hc hw lk_M_42 d_M_forces_23 ?_
        refine lv_iload_n hx hb d_M_forces_26 rfl (lv_at hl 0 rfl) ?_
        refine ldM_M_probe hc hw d_M_forces_27 (by omega) ?_
        refine ldM_M_forces hc hw d_M_forces_28 (hP i hi.1 (by omega)) ?_
        refine z_ladd hx hb d_M_forces_29 ?_
        refine z_lst_n hx hb d_M_forces_30 rfl hl (by decide) (fun x1_30 ex1_30 ls (hl : lv_has ls 4 [(1, .long (zL x1_30)), (3, .int (zI i)), (0, .ref (ad 100))]) => ?_)
        refine z_iinc (k := 1) hx hb d_M_forces_31 hl rfl (by decide) (fun x3_31 ex3_31 ls (hl : lv_has ls 4 [(3, .int (zI x3_31)), (1, .long (zL x1_30)), (0, .ref (ad 100))]) => ?_)
        refine lv_goto (tgt := 9) hx hb d_M_forces_34 (by decide) ?_
        exact ih9 x3_31 x1_30 _ _ _ (by omega) (by rw [ex1_30, ht, show x3_31.toNat = i.toNat + 1 from (by omega)]; simp only [mSumF]; rw [Int.toNat_of_nonneg hi.1]; rfl) (rfl) (by omega) hw ls (lv_sub hl [0, 1, 2] rfl)
  exact L9 _ x3_8 x1_6 _ _ _ (by omega) (by rw [ex1_6, ex3_8]; rfl) (rfl) (Nat.lt_succ_self _) hw ls (lv_sub hl [0, 1, 2] rfl)
