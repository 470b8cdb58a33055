set_option maxHeartbeats 400000 in
set_option maxRecDepth 100000 in
theorem k_F_takeProbes {l : Launch} {D : va_G} {ad : Nat → Nat} {ca : Nat → ClassId} (σ : St) (hn : 0 ≤ σ 17 0 ∧ σ 17 0 ≤ 8) (hB : ∀ i, 0 ≤ i → i < σ 17 0 → r32 (σ 16 i)) : Cw l D cl7 (tyX ca) (wX ad ca) y_F_takeProbes c_F_takeProbes 3 none 0 [.ref (ad 102), .ref (ad 105)] σ (VW (tk σ (σ 17 0).toNat = ·)) := by
  refine Cw.enter (by decide) (Nat.le_of_ble_eq_true rfl) ?_
  intro A p e s m below meth c hc ls hl hw
  have hl : lv_has ls 3 [(0, .ref (ad 102)), (1, .ref (ad 105))] := hl
  obtain ⟨hx, hb, hml, hown, hTB, hK, hr, hlk⟩ := id hc
  refine lv_aload_n hx hb d_F_takeProbes_0 rfl (lv_at hl 0 rfl) ?_
  refine z_ic hx hb d_F_takeProbes_1 ?_
  refine pX_F_probeCount hc hw lk_F_58 d_F_takeProbes_2 (fun H locs hw => ?_)
  refine lv_aload_n hx hb d_F_takeProbes_5 rfl (lv_at hl 0 rfl) ?_
  refine z_ic hx hb d_F_takeProbes_6 ?_
  refine pX_F_leftCount hc hw lk_F_68 d_F_takeProbes_7 (fun H locs hw => ?_)
  refine z_ic hx hb d_F_takeProbes_10 ?_
  refine z_ist_n hx hb d_F_takeProbes_11 rfl hl (by decide) (fun x2_11 ex2_11 ls (hl : lv_has ls 3 [(2, .int (zI x2_11)), (0, .ref (ad 102)), (1, .ref (ad 105))]) => ?_)
  have L12 : ∀ (n : Nat) (i : Int) (τ : St) (H : Heap) (locs : List Loc), (0 ≤ i ∧ i ≤ σ 17 0) → (τ = tk σ i.toNat) → (σ 17 0 - i).toNat < n → Wd D cl7 (wX ad ca) A s.heap τ H locs → ∀ ls : Array Slot, lv_has ls 3 [(2, .int (zI i)), (0, .ref (ad 102)), (1, .ref (ad 105))] → W p l e (Rmh 0) s m ([.ref (ad 102), .ref (ad 105)] : List Value).toArray below meth c H locs 0 0 (MQ below (Qw D cl7 (wX ad ca) A (VW (tk σ (σ 17 0).toNat = ·))) ([.ref (ad 102), .ref (ad 105)] : List Value).toArray s 0 0 A) (F0 m 12 ls []) := by
    intro n
    induction n with
    | zero => intro i τ H locs hi hτ hm; exact absurd hm (Nat.not_lt_zero _)
    | succ n ih12 =>
      intro i τ H locs hi hτ hm12 hw ls hl
      subst hτ
      have ei : ((i.toNat : Nat) : Int) = i := Int.toNat_of_nonneg hi.1
      have e17 : tk σ i.toNat 17 0 = σ 17 0 := by rw [tk_o σ _ 17 (by decide)]
      have e16 : tk σ i.toNat 16 i = σ 16 i := by rw [tk_o σ _ 16 (by decide)]
      have hbd := tk_bd σ i.toNat
      refine lv_iload_n hx hb d_F_takeProbes_12 rfl (lv_at hl 0 rfl) ?_
      refine lv_aload_n hx hb d_F_takeProbes_13 rfl (lv_at hl 2 rfl) ?_
      refine gnX_S_looked hc hw lk_F_28 d_F_takeProbes_14 ?_
      refine z_icmp_ge hx hb 89 d_F_takeProbes_17 (by omega) (by omega) (by decide) (fun c17 => ?_) (fun c17 => ?_)
      · exact w_vret hc hw (⟨rfl, by rw [show i = σ 17 0 by omega]⟩) d_F_takeProbes_89
      · have hb16 := hB i hi.1 (by omega)
        refine lv_aload_n hx hb d_F_takeProbes_20 rfl (lv_at hl 2 rfl) ?_
        refine gnX_S_best hc hw lk_F_71 d_F_takeProbes_21 ?_
        refine lv_iload_n hx hb d_F_takeProbes_24 rfl (lv_at hl 0 rfl) ?_
        refine ldX_S_best hc hw d_F_takeProbes_25 (by omega) ?_
        refine z_ic hx hb d_F_takeProbes_26 ?_
        refine z_icmp_ne hx hb 58 d_F_takeProbes_27 (by omega) (by omega) (by decide) (fun c27 => ?_) (fun c27 => ?_)
        · refine lv_aload_n hx hb d_F_takeProbes_58 rfl (lv_at hl 1 rfl) ?_
          refine gX_F_probes hc hw lk_F_9 d_F_takeProbes_59 ?_
          refine lv_aload_n hx hb d_F_takeProbes_62 rfl (lv_at hl 1 rfl) ?_
          refine gX_F_probeCount hc hw lk_F_58 d_F_takeProbes_63 ?_
          refine lv_aload_n hx hb d_F_takeProbes_66 rfl (lv_at hl 2 rfl) ?_
          refine gnX_S_best hc hw lk_F_71 d_F_takeProbes_67 ?_
          refine lv_iload_n hx hb d_F_takeProbes_70 rfl (lv_at hl 0 rfl) ?_
          refine ldX_S_best hc hw d_F_takeProbes_71 (by omega) ?_
          refine stX_F_probes hc hw d_F_takeProbes_72 (by omega) (fun H locs hw => ?_)
          refine lv_aload_n hx hb d_F_takeProbes_73 rfl (lv_at hl 1 rfl) ?_
          refine lv_dup hx hb d_F_takeProbes_74 rfl ?_
          refine gX_F_probeCount hc hw lk_F_58 d_F_takeProbes_75 ?_
          refine z_ic hx hb d_F_takeProbes_78 ?_
          refine z_iadd hx hb d_F_takeProbes_79 ?_
          refine pX_F_probeCount hc hw lk_F_58 d_F_takeProbes_80 (fun H locs hw => ?_)
          refine z_iinc (k := 0) hx hb d_F_takeProbes_83 hl rfl (by decide) (fun x2_83 ex2_83 ls (hl : lv_has ls 3 [(2, .int (zI x2_83)), (0, .ref (ad 102)), (1, .ref (ad 105))]) => ?_)
          refine lv_goto (tgt := 12) hx hb d_F_takeProbes_86 (by decide) ?_
          exact ih12 x2_83 _ _ _ (by omega) (by rw [show x2_83.toNat = i.toNat + 1 from (by omega)]; simp only [tk, ei]; first | (rw [if_pos c27]; rfl) | (rw [if_neg c27]; rfl)) (by omega) hw ls (lv_sub hl [0, 1, 2] rfl)
        · refine lv_aload_n hx hb d_F_takeProbes_30 rfl (lv_at hl 1 rfl) ?_
          refine gX_F_left hc hw lk_F_15 d_F_takeProbes_31 ?_
          refine lv_aload_n hx hb d_F_takeProbes_34 rfl (lv_at hl 1 rfl) ?_
          refine gX_F_leftCount hc hw lk_F_68 d_F_takeProbes_35 ?_
          refine lv_aload_n hx hb d_F_takeProbes_38 rfl (lv_at hl 2 rfl) ?_
          refine gnX_S_nets hc hw lk_F_74 d_F_takeProbes_39 ?_
          refine lv_iload_n hx hb d_F_takeProbes_42 rfl (lv_at hl 0 rfl) ?_
          refine ldX_S_nets hc hw d_F_takeProbes_43 (by omega) ?_
          refine stX_F_left hc hw d_F_takeProbes_44 (by omega) (fun H locs hw => ?_)
          refine lv_aload_n hx hb d_F_takeProbes_45 rfl (lv_at hl 1 rfl) ?_
          refine lv_dup hx hb d_F_takeProbes_46 rfl ?_
          refine gX_F_leftCount hc hw lk_F_68 d_F_takeProbes_47 ?_
          refine z_ic hx hb d_F_takeProbes_50 ?_
          refine z_iadd hx hb d_F_takeProbes_51 ?_
          refine pX_F_leftCount hc hw lk_F_68 d_F_takeProbes_52 (fun H locs hw => ?_)
          refine lv_goto (tgt := 83) hx hb d_F_takeProbes_55 (by decide) ?_
          refine z_iinc (k := 0) hx hb d_F_takeProbes_83 hl rfl (by decide) (fun x2_83 ex2_83 ls (hl : lv_has ls 3 [(2, .int (zI x2_83)), (0, .ref (ad 102)), (1, .ref (ad 105))]) => ?_)
          refine lv_goto (tgt := 12) hx hb d_F_takeProbes_86 (by decide) ?_
          exact ih12 x2_83 _ _ _ (by omega) (by rw [show x2_83.toNat = i.toNat + 1 from (by omega)]; simp only [tk, ei]; first | (rw [if_pos c27]; rfl) | (rw [if_neg c27]; rfl)) (by omega) hw ls (lv_sub hl [0, 1, 2] rfl)
  exact L12 _ x2_11 _ _ _ (by omega) (by rw [ex2_11]; rfl) (Nat.lt_succ_self _) hw ls (lv_sub hl [0, 1, 2] rfl)
