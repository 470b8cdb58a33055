set_option maxHeartbeats 400000 in
set_option maxRecDepth 100000 in
theorem k_R_explain_s {l : Launch} {D : va_G} {ad : Nat → Nat} {ca : Nat → ClassId} (f : Nat) (ih : ∀ (σ : St) (n t : Int) (hn : 0 ≤ n ∧ n ≤ 12) (ht : 0 ≤ t ∧ t < 4096) (hO : ∀ i, 0 ≤ σ 40 i ∧ σ 40 i < 4096) (h42 : 0 ≤ σ 42 0 ∧ σ 42 0 ≤ 13) (h41 : 0 ≤ σ 41 0 ∧ σ 41 0 < 4096) (hf : n + f = 12), Cw l D cl7 (tyX ca) (wX ad ca) y_R_explain c_R_explain 4 none (2 + f) [.ref (ad 104), .int (zI n), .int (zI t)] σ (VW (fun τ => ex f σ n t = τ ∧ Ek σ τ))) (σ : St) (n t : Int) (hn : 0 ≤ n ∧ n ≤ 12) (ht : 0 ≤ t ∧ t < 4096) (hO : ∀ i, 0 ≤ σ 40 i ∧ σ 40 i < 4096) (h42 : 0 ≤ σ 42 0 ∧ σ 42 0 ≤ 13) (h41 : 0 ≤ σ 41 0 ∧ σ 41 0 < 4096) (hf : n + f + 1 = 12) : Cw l D cl7 (tyX ca) (wX ad ca) y_R_explain c_R_explain 4 none (2 + (f + 1)) [.ref (ad 104), .int (zI n), .int (zI t)] σ (VW (fun τ => ex (f + 1) σ n t = τ ∧ Ek σ τ)) := by
  have hpc := popc_bd t
  have hOn := hO n
  have hxz := xzN_bd (t := t) hOn
  have hp2 := p2_bd (b := n) (k := 12) (by omega)
  have hzo1 := zOr_bd (k := 12) ht hp2
  have hzo2 := zOr_bd (k := 12) ht hOn
  refine Cw.enter (by decide) (Nat.le_of_ble_eq_true rfl) ?_
  intro A p e s m below meth c hc ls hl hw
  have hl : lv_has ls 4 [(0, .ref (ad 104)), (1, .int (zI n)), (2, .int (zI t))] := hl
  obtain ⟨hx, hb, hml, hown, hTB, hK, hr, hlk⟩ := id hc
  refine lv_iload_n hx hb d_R_explain_0 rfl (lv_at hl 2 rfl) ?_
  refine w_csR hc hw (k_JI_bitCount _ _ ht) yw_JI_bitCount yi_JI_bitCount lk_R_23 d_R_explain_1 rfl rfl hl.1 (Nat.le_of_ble_eq_true rfl) ⟨by simp only [Rmh]; omega, by simp only [Rmh]; omega⟩ ⟨Nat.zero_le _, Nat.zero_le _⟩ (fun τ1 H locs hτ1 hw => ?_)
  subst hτ1
  refine lv_aload_n hx hb d_R_explain_4 rfl (lv_at hl 0 rfl) ?_
  refine gX_R_coverSize hc hw lk_R_29 d_R_explain_5 ?_
  refine z_icmp_lt hx hb 12 d_R_explain_8 (by omega) (by omega) (by decide) (fun c8 => ?_) (fun c8 => ?_)
  · refine lv_iload_n hx hb d_R_explain_12 rfl (lv_at hl 1 rfl) ?_
    refine z_bi hx hb d_R_explain_13 (by decide) ?_
    refine z_icmp_lt hx hb 32 d_R_explain_15 (by omega) (by omega) (by decide) (fun c15 => ?_) (fun c15 => ?_)
    · refine lv_iload_n hx hb d_R_explain_32 rfl (lv_at hl 2 rfl) ?_
      refine lv_iload_n hx hb d_R_explain_33 rfl (lv_at hl 1 rfl) ?_
      refine w_csNR hc hw (k_X_hasBit _ _ _ (by omega) (by omega)) yw_X_hasBit yi_X_hasBit lk_R_15 d_R_explain_34 rfl rfl hl.1 (Nat.le_of_ble_eq_true rfl) ⟨by simp only [Rmh]; omega, by simp only [Rmh]; omega⟩ ⟨Nat.zero_le _, Nat.zero_le _⟩ (fun τ34 H locs hτ34 hw => ?_)
      subst hτ34
      refine z_ifb_ne hx hb 53 d_R_explain_37 (by decide) (fun c37 => ?_) (fun c37 => ?_)
      · refine z_ic hx hb d_R_explain_53 ?_
        refine lv_goto (tgt := 58) hx hb d_R_explain_54 (by decide) ?_
        refine z_ist_n hx hb d_R_explain_58 rfl hl (by decide) (fun x3_58 ex3_58 ls (hl : lv_has ls 4 [(3, .int (zI x3_58)), (0, .ref (ad 104)), (1, .int (zI n)), (2, .int (zI t))]) => ?_)
        refine lv_iload_n hx hb d_R_explain_59 rfl (lv_at hl 0 rfl) ?_
        refine z_if_ne hx hb 75 d_R_explain_60 (by omega) (by decide) (fun c60 => ?_) (fun c60 => ?_)
        · refine lv_aload_n hx hb d_R_explain_75 rfl (lv_at hl 1 rfl) ?_
          refine lv_iload_n hx hb d_R_explain_76 rfl (lv_at hl 2 rfl) ?_
          refine z_ic hx hb d_R_explain_77 ?_
          refine z_iadd hx hb d_R_explain_78 ?_
          refine lv_iload_n hx hb d_R_explain_79 rfl (lv_at hl 0 rfl) ?_
          refine z_if_eq hx hb 87 d_R_explain_80 (by omega) (by decide) (fun c80 => ?_) (fun c80 => ?_)
          · exact absurd c80 (by omega)
          · refine lv_iload_n hx hb d_R_explain_83 rfl (lv_at hl 3 rfl) ?_
            refine lv_goto (tgt := 95) hx hb d_R_explain_84 (by decide) ?_
            refine w_csV hc hw ((by first | exact ih _ _ _ (by omega) ht hO h42 h41 (by omega) | exact ih _ _ _ (by omega) (by rw [e40]; exact hzo2) hO72 hk72.2.1 hk72.2.2 (by omega) : Cw l D cl7 (tyX ca) (wX ad ca) y_R_explain c_R_explain 4 none (2 + f) _ _ (VW _))) yw_R_explain yi_R_explain lk_R_33 d_R_explain_95 rfl rfl hl.1 (Nat.le_of_ble_eq_true rfl) ⟨by simp only [Rmh]; omega, by simp only [Rmh]; omega⟩ ⟨Nat.zero_le _, Nat.zero_le _⟩ (fun τ95 H locs hτ95 hw => ?_)
            obtain ⟨hn95, hk95⟩ := hτ95
            exact w_vret hc hw (by first | (exact ⟨rfl, by rw [ex_s, if_neg (by omega), if_pos (by first | exact Or.inl c37 | exact Or.inr c50)]; exact hn95, hk95⟩) | (exact ⟨rfl, by rw [ex_s, if_neg (by omega), if_neg (fun q => q.elim c37 c50), hn72, ← hn95, e40], fun g a1 a2 => by rw [hk95.1 g a1 a2]; exact hk72.1 g a1 a2, hk95.2⟩)) d_R_explain_98
        · exact absurd c60 (by omega)
      · refine lv_aload_n hx hb d_R_explain_40 rfl (lv_at hl 0 rfl) ?_
        refine gX_R_others hc hw lk_R_9 d_R_explain_41 ?_
        refine lv_iload_n hx hb d_R_explain_44 rfl (lv_at hl 1 rfl) ?_
        refine ldX_R_others hc hw d_R_explain_45 (by omega) ?_
        refine lv_iload_n hx hb d_R_explain_46 rfl (lv_at hl 2 rfl) ?_
        refine z_ic hx hb d_R_explain_47 ?_
        refine lv_ixor hx hb d_R_explain_48 ?_
        refine z_andn hx hb d_R_explain_49 (⟨hOn, ht.1⟩) ?_
        refine z_if_ne hx hb 57 d_R_explain_50 (by omega) (by decide) (fun c50 => ?_) (fun c50 => ?_)
        · refine z_ic hx hb d_R_explain_57 ?_
          refine z_ist_n hx hb d_R_explain_58 rfl hl (by decide) (fun x3_58 ex3_58 ls (hl : lv_has ls 4 [(3, .int (zI x3_58)), (0, .ref (ad 104)), (1, .int (zI n)), (2, .int (zI t))]) => ?_)
          refine lv_iload_n hx hb d_R_explain_59 rfl (lv_at hl 0 rfl) ?_
          refine z_if_ne hx hb 75 d_R_explain_60 (by omega) (by decide) (fun c60 => ?_) (fun c60 => ?_)
          · exact absurd c60 (by omega)
          · refine lv_aload_n hx hb d_R_explain_63 rfl (lv_at hl 1 rfl) ?_
            refine lv_iload_n hx hb d_R_explain_64 rfl (lv_at hl 2 rfl) ?_
            refine z_ic hx hb d_R_explain_65 ?_
            refine z_iadd hx hb d_R_explain_66 ?_
            refine lv_iload_n hx hb d_R_explain_67 rfl (lv_at hl 3 rfl) ?_
            refine z_ic hx hb d_R_explain_68 ?_
            refine lv_iload_n hx hb d_R_explain_69 rfl (lv_at hl 2 rfl) ?_
            refine z_shl1 hx hb d_R_explain_70 (by omega) ?_
            refine z_ior hx hb d_R_explain_71 (⟨ht.1, hp2.1⟩) ?_
            refine w_csV hc hw (ih _ _ _ (by omega) hzo1 hO h42 h41 (by omega)) yw_R_explain yi_R_explain lk_R_33 d_R_explain_72 rfl rfl hl.1 (Nat.le_of_ble_eq_true rfl) ⟨by simp only [Rmh]; omega, by simp only [Rmh]; omega⟩ ⟨Nat.zero_le _, Nat.zero_le _⟩ (fun τ72 H locs hτ72 hw => ?_)
            obtain ⟨hn72, hk72⟩ := hτ72
            have e40 : τ72 40 = σ 40 := hk72.1 40 (by decide) (by decide)
            have hO72 : ∀ i, 0 ≤ τ72 40 i ∧ τ72 40 i < 4096 := by rw [e40]; exact hO
            refine lv_aload_n hx hb d_R_explain_75 rfl (lv_at hl 1 rfl) ?_
            refine lv_iload_n hx hb d_R_explain_76 rfl (lv_at hl 2 rfl) ?_
            refine z_ic hx hb d_R_explain_77 ?_
            refine z_iadd hx hb d_R_explain_78 ?_
            refine lv_iload_n hx hb d_R_explain_79 rfl (lv_at hl 0 rfl) ?_
            refine z_if_eq hx hb 87 d_R_explain_80 (by omega) (by decide) (fun c80 => ?_) (fun c80 => ?_)
            · refine lv_iload_n hx hb d_R_explain_87 rfl (lv_at hl 3 rfl) ?_
              refine lv_aload_n hx hb d_R_explain_88 rfl (lv_at hl 1 rfl) ?_
              refine gX_R_others hc hw lk_R_9 d_R_explain_89 ?_
              refine lv_iload_n hx hb d_R_explain_92 rfl (lv_at hl 2 rfl) ?_
              refine ldX_R_others hc hw d_R_explain_93 (by omega) ?_
              refine z_ior hx hb d_R_explain_94 (⟨ht.1, by rw [e40]; exact hOn.1⟩) ?_
              refine w_csV hc hw ((by first | exact ih _ _ _ (by omega) ht hO h42 h41 (by omega) | exact ih _ _ _ (by omega) (by rw [e40]; exact hzo2) hO72 hk72.2.1 hk72.2.2 (by omega) : Cw l D cl7 (tyX ca) (wX ad ca) y_R_explain c_R_explain 4 none (2 + f) _ _ (VW _))) yw_R_explain yi_R_explain lk_R_33 d_R_explain_95 rfl rfl hl.1 (Nat.le_of_ble_eq_true rfl) ⟨by simp only [Rmh]; omega, by simp only [Rmh]; omega⟩ ⟨Nat.zero_le _, Nat.zero_le _⟩ (fun τ95 H locs hτ95 hw => ?_)
              obtain ⟨hn95, hk95⟩ := hτ95
              exact w_vret hc hw (by first | (exact ⟨rfl, by rw [ex_s, if_neg (by omega), if_pos (by first | exact Or.inl c37 | exact Or.inr c50)]; exact hn95, hk95⟩) | (exact ⟨rfl, by rw [ex_s, if_neg (by omega), if_neg (fun q => q.elim c37 c50), hn72, ← hn95, e40], fun g a1 a2 => by rw [hk95.1 g a1 a2]; exact hk72.1 g a1 a2, hk95.2⟩)) d_R_explain_98
            · exact absurd c80 (by omega)
        · refine z_ic hx hb d_R_explain_53 ?_
          refine lv_goto (tgt := 58) hx hb d_R_explain_54 (by decide) ?_
          refine z_ist_n hx hb d_R_explain_58 rfl hl (by decide) (fun x3_58 ex3_58 ls (hl : lv_has ls 4 [(3, .int (zI x3_58)), (0, .ref (ad 104)), (1, .int (zI n)), (2, .int (zI t))]) => ?_)
          refine lv_iload_n hx hb d_R_explain_59 rfl (lv_at hl 0 rfl) ?_
          refine z_if_ne hx hb 75 d_R_explain_60 (by omega) (by decide) (fun c60 => ?_) (fun c60 => ?_)
          · refine lv_aload_n hx hb d_R_explain_75 rfl (lv_at hl 1 rfl) ?_
            refine lv_iload_n hx hb d_R_explain_76 rfl (lv_at hl 2 rfl) ?_
            refine z_ic hx hb d_R_explain_77 ?_
            refine z_iadd hx hb d_R_explain_78 ?_
            refine lv_iload_n hx hb d_R_explain_79 rfl (lv_at hl 0 rfl) ?_
            refine z_if_eq hx hb 87 d_R_explain_80 (by omega) (by decide) (fun c80 => ?_) (fun c80 => ?_)
            · exact absurd c80 (by omega)
            · refine lv_iload_n hx hb d_R_explain_83 rfl (lv_at hl 3 rfl) ?_
              refine lv_goto (tgt := 95) hx hb d_R_explain_84 (by decide) ?_
              refine w_csV hc hw ((by first | exact ih _ _ _ (by omega) ht hO h42 h41 (by omega) | exact ih _ _ _ (by omega) (by rw [e40]; exact hzo2) hO72 hk72.2.1 hk72.2.2 (by omega) : Cw l D cl7 (tyX ca) (wX ad ca) y_R_explain c_R_explain 4 none (2 + f) _ _ (VW _))) yw_R_explain yi_R_explain lk_R_33 d_R_explain_95 rfl rfl hl.1 (Nat.le_of_ble_eq_true rfl) ⟨by simp only [Rmh]; omega, by simp only [Rmh]; omega⟩ ⟨Nat.zero_le _, Nat.zero_le _⟩ (fun τ95 H locs hτ95 hw => ?_)
              obtain ⟨hn95, hk95⟩ := hτ95
              exact w_vret hc hw (by first | (exact ⟨rfl, by rw [ex_s, if_neg (by omega), if_pos (by first | exact Or.inl c37 | exact Or.inr c50)]; exact hn95, hk95⟩) | (exact ⟨rfl, by rw [ex_s, if_neg (by omega), if_neg (fun q => q.elim c37 c50), hn72, ← hn95, e40], fun g a1 a2 => by rw [hk95.1 g a1 a2]; exact hk72.1 g a1 a2, hk95.2⟩)) d_R_explain_98
          · exact absurd c60 (by omega)
    · exact absurd c15 (by omega)
  · exact w_vret hc hw (⟨rfl, by rw [ex_s, if_pos c8], fun g _ _ => rfl, h42, h41⟩) d_R_explain_11
