set_option maxHeartbeats 400000 in
set_option maxRecDepth 100000 in
theorem k_S_descend_s {l : Launch} {D : va_G} {ad : Nat → Nat} {ca : Nat → ClassId} (f : Nat) (ih : ∀ (σ : St) (d w bl : Int) (hd : 0 ≤ d ∧ d ≤ σ 17 0) (hw0 : 0 ≤ w ∧ w ≤ sDep d) (hbl : 0 ≤ bl ∧ bl < 16777216) (hS : IS σ) (h18 : -1 ≤ σ 18 0 ∧ σ 18 0 ≤ 64000008) (hf : σ 17 0 = d + f), Cw l D cl7 (tyX ca) (wX ad ca) y_S_descend c_S_descend 6 none (4 + f) [.ref (ad 105), .int (zI d), .long (zL w), .int (zI bl)] σ (VW (fun τ => ds f σ d w bl = τ ∧ Dk σ τ))) (σ : St) (d w bl : Int) (hd : 0 ≤ d ∧ d ≤ σ 17 0) (hw0 : 0 ≤ w ∧ w ≤ sDep d) (hbl : 0 ≤ bl ∧ bl < 16777216) (hS : IS σ) (h18 : -1 ≤ σ 18 0 ∧ σ 18 0 ≤ 64000008) (hf : σ 17 0 = d + f + 1) : Cw l D cl7 (tyX ca) (wX ad ca) y_S_descend c_S_descend 6 none (4 + (f + 1)) [.ref (ad 105), .int (zI d), .long (zL w), .int (zI bl)] σ (VW (fun τ => ds (f + 1) σ d w bl = τ ∧ Dk σ τ)) := by
  have h17 := hS.1
  unfold sDep at hw0
  have hmw := mwF_bd hS bl (σ 17 0 - d).toNat d 0
  have hmw1 : 0 ≤ mw σ d bl ∧ mw σ d bl ≤ 64000008 := by unfold mw; omega
  have h11d := hS.2.1 d
  refine Cw.enter (by decide) (Nat.le_of_ble_eq_true rfl) ?_
  intro A p e s m below meth c hc ls hl hw
  have hl : lv_has ls 6 [(0, .ref (ad 105)), (1, .int (zI d)), (2, .long (zL w)), (4, .int (zI bl))] := hl
  obtain ⟨hx, hb, hml, hown, hTB, hK, hr, hlk⟩ := id hc
  refine lv_lload_n hx hb d_S_descend_0 rfl (lv_at hl 2 rfl) ?_
  refine lv_aload_n hx hb d_S_descend_1 rfl (lv_at hl 0 rfl) ?_
  refine lv_iload_n hx hb d_S_descend_2 rfl (lv_at hl 1 rfl) ?_
  refine lv_iload hx hb d_S_descend_3 (lv_at hl 3 rfl) ?_
  refine w_cvR (q0 := 5) hc hw (k_S_mostWorthFrom _ _ _ (by omega) hbl hS) yw_S_mostWorthFrom yi_S_mostWorthFrom lk_S_101 d_S_descend_5 rfl rfl rfl rfl hl.1 (Nat.le_of_ble_eq_true rfl) ⟨by simp only [Rmh]; omega, by simp only [Rmh]; omega⟩ ⟨Nat.zero_le _, Nat.zero_le _⟩ (fun τ5 H locs hτ5 hw => ?_)
  subst hτ5
  refine z_ladd hx hb d_S_descend_8 ?_
  refine lv_aload_n hx hb d_S_descend_9 rfl (lv_at hl 0 rfl) ?_
  refine gX_S_bestWorth hc hw lk_S_46 d_S_descend_10 ?_
  refine z_lcmp_gt hx hb 18 d_S_descend_13 d_S_descend_14 (by omega) (by omega) (by decide) (fun c13 => ?_) (fun c13 => ?_)
  · refine lv_iload_n hx hb d_S_descend_18 rfl (lv_at hl 1 rfl) ?_
    refine lv_aload_n hx hb d_S_descend_19 rfl (lv_at hl 0 rfl) ?_
    refine gX_S_looked hc hw lk_S_54 d_S_descend_20 ?_
    refine z_icmp_ge hx hb 32 d_S_descend_23 (by omega) (by omega) (by decide) (fun c23 => ?_) (fun c23 => ?_)
    · exact absurd c23 (by omega)
    · refine lv_iload_n hx hb d_S_descend_26 rfl (lv_at hl 1 rfl) ?_
      refine z_bi hx hb d_S_descend_27 (by decide) ?_
      refine z_icmp_lt hx hb 38 d_S_descend_29 (by omega) (by omega) (by decide) (fun c29 => ?_) (fun c29 => ?_)
      · refine lv_iload_n hx hb d_S_descend_38 rfl (lv_at hl 1 rfl) ?_
        refine z_ic hx hb d_S_descend_39 ?_
        refine z_imul hx hb d_S_descend_40 ?_
        refine z_ist hx hb d_S_descend_41 hl (by decide) (fun x5_41 ex5_41 ls (hl : lv_has ls 6 [(5, .int (zI x5_41)), (0, .ref (ad 105)), (1, .int (zI d)), (2, .long (zL w)), (4, .int (zI bl))]) => ?_)
        have L43 : ∀ (nf : Nat) (t : Int) (τ : St) (H : Heap) (locs : List Loc), (d * 3 ≤ t ∧ t ≤ d * 3 + σ 11 d) → (dsL (ds f) d w bl (σ 11 d).toNat (d * 3) σ = dsL (ds f) d w bl (d * 3 + σ 11 d - t).toNat t τ) → (Dk σ τ) → (d * 3 + σ 11 d - t).toNat < nf → Wd D cl7 (wX ad ca) A s.heap τ H locs → ∀ ls : Array Slot, lv_has ls 6 [(5, .int (zI t)), (0, .ref (ad 105)), (1, .int (zI d)), (2, .long (zL w)), (4, .int (zI bl))] → W p l e (Rmh (4 + (f + 1))) s m ([.ref (ad 105), .int (zI d), .long (zL w), .int (zI bl)] : List Value).toArray below meth c H locs 0 0 (MQ below (Qw D cl7 (wX ad ca) A (VW (fun τ => ds (f + 1) σ d w bl = τ ∧ Dk σ τ))) ([.ref (ad 105), .int (zI d), .long (zL w), .int (zI bl)] : List Value).toArray s 0 0 A) (F0 m 43 ls []) := by
          intro nf
          induction nf with
          | zero => intro t τ H locs ht hN hk hm; exact absurd hm (Nat.not_lt_zero _)
          | succ nf ih43 =>
            intro t τ H locs ht hN hk hm43 hw ls hl
            have hSτ := hk.IS hS
            have e11 : τ 11 d = σ 11 d := by rw [hk.1 11 (by decide) (by decide) (by decide)]
            have e17 : τ 17 0 = σ 17 0 := by rw [hk.1 17 (by decide) (by decide) (by decide)]
            have h12t := hSτ.2.2.1 t
            have h13t := hSτ.2.2.2.1 t
            have h14t := hSτ.2.2.2.2 t
            refine lv_iload hx hb d_S_descend_43 (lv_at hl 0 rfl) ?_
            refine lv_aload_n hx hb d_S_descend_45 rfl (lv_at hl 1 rfl) ?_
            refine lv_iload_n hx hb d_S_descend_46 rfl (lv_at hl 2 rfl) ?_
            refine w_cvR (q0 := 5) hc hw (k_S_endOf _ _ (by omega)) yw_S_endOf yi_S_endOf lk_S_82 d_S_descend_47 rfl rfl rfl rfl hl.1 (Nat.le_of_ble_eq_true rfl) ⟨by simp only [Rmh]; omega, by simp only [Rmh]; omega⟩ ⟨Nat.zero_le _, Nat.zero_le _⟩ (fun τ47 H locs hτ47 hw => ?_)
            subst hτ47
            refine z_icmp_ge hx hb 108 d_S_descend_50 (by omega) (by omega) (by decide) (fun c50 => ?_) (fun c50 => ?_)
            · rw [show (d * 3 + σ 11 d - t).toNat = 0 by omega] at hN
              have hN : dsL (ds f) d w bl (σ 11 d).toNat (d * 3) σ = τ := hN
              refine lv_aload_n hx hb d_S_descend_108 rfl (lv_at hl 1 rfl) ?_
              refine gX_S_tried hc hw lk_S_28 d_S_descend_109 ?_
              refine lv_iload_n hx hb d_S_descend_112 rfl (lv_at hl 2 rfl) ?_
              refine z_ic hx hb d_S_descend_113 ?_
              refine stX_S_tried hc hw d_S_descend_114 (by omega) (fun H locs hw => ?_)
              refine lv_aload_n hx hb d_S_descend_115 rfl (lv_at hl 1 rfl) ?_
              refine lv_iload_n hx hb d_S_descend_116 rfl (lv_at hl 2 rfl) ?_
              refine z_ic hx hb d_S_descend_117 ?_
              refine z_iadd hx hb d_S_descend_118 ?_
              refine lv_lload_n hx hb d_S_descend_119 rfl (lv_at hl 3 rfl) ?_
              refine lv_iload hx hb d_S_descend_120 (lv_at hl 4 rfl) ?_
              have hSu : IS (up τ 15 d (-1)) := IS_of (fun g hg => up_f _ _ _ (by omega)) hSτ
              refine w_csV hc hw (ih _ _ _ _ (by show 0 ≤ d + 1 ∧ d + 1 ≤ τ 17 0; omega) (by show 0 ≤ w ∧ w ≤ sDep (d + 1); unfold sDep; omega) hbl hSu (by rw [up_o _ _ _ _ (by decide)]; exact hk.2) (by show τ 17 0 = _; omega)) yw_S_descend yi_S_descend lk_S_50 d_S_descend_122 rfl rfl hl.1 (Nat.le_of_ble_eq_true rfl) ⟨by simp only [Rmh]; omega, by simp only [Rmh]; omega⟩ ⟨Nat.zero_le _, Nat.zero_le _⟩ (fun τ122 H locs hτ122 hw => ?_)
              obtain ⟨hn122, hk122⟩ := hτ122
              exact w_vret hc hw (⟨rfl, by rw [ds_s, if_neg (by omega), hN, hn122], fun g a1 a2 a3 => by rw [hk122.1 g a1 a2 a3, up_f _ _ _ a1]; exact hk.1 g a1 a2 a3, hk122.2⟩) d_S_descend_125
            · have q : (d * 3 + σ 11 d - t).toNat = (d * 3 + σ 11 d - (t + 1)).toNat + 1 := by omega
              rw [q, dsL_s] at hN
              refine lv_iload hx hb d_S_descend_53 (lv_at hl 4 rfl) ?_
              refine lv_iload hx hb d_S_descend_55 (lv_at hl 0 rfl) ?_
              refine w_csNR hc hw (k_X_hasBit _ _ _ (by omega) (by omega)) yw_X_hasBit yi_X_hasBit lk_S_98 d_S_descend_57 rfl rfl hl.1 (Nat.le_of_ble_eq_true rfl) ⟨by simp only [Rmh]; omega, by simp only [Rmh]; omega⟩ ⟨Nat.zero_le _, Nat.zero_le _⟩ (fun τ57 H locs hτ57 hw => ?_)
              subst hτ57
              refine z_ifb_ne hx hb 102 d_S_descend_60 (by decide) (fun c60 => ?_) (fun c60 => ?_)
              · refine z_iinc (k := 0) hx hb d_S_descend_102 hl rfl (by decide) (fun x5_102 ex5_102 ls (hl : lv_has ls 6 [(5, .int (zI x5_102)), (0, .ref (ad 105)), (1, .int (zI d)), (2, .long (zL w)), (4, .int (zI bl))]) => ?_)
                refine lv_goto (tgt := 43) hx hb d_S_descend_105 (by decide) ?_
                exact ih43 x5_102 _ _ _ (by omega) (by rw [hN, ex5_102]; first | (rw [if_pos c60]; done) | (rw [if_neg c60, hn99]; done)) (by first | exact hk | exact ⟨fun g a1 a2 a3 => by rw [hk99.1 g a1 a2 a3, up_f _ _ _ a1]; exact hk.1 g a1 a2 a3, hk99.2⟩) (by omega) hw ls (lv_sub hl [0, 1, 2, 3, 4] rfl)
              · refine lv_aload_n hx hb d_S_descend_63 rfl (lv_at hl 1 rfl) ?_
                refine gX_S_tried hc hw lk_S_28 d_S_descend_64 ?_
                refine lv_iload_n hx hb d_S_descend_67 rfl (lv_at hl 2 rfl) ?_
                refine lv_aload_n hx hb d_S_descend_68 rfl (lv_at hl 1 rfl) ?_
                refine gX_S_points hc hw lk_S_18 d_S_descend_69 ?_
                refine lv_iload hx hb d_S_descend_72 (lv_at hl 0 rfl) ?_
                refine ldX_S_points hc hw d_S_descend_74 (by omega) ?_
                refine stX_S_tried hc hw d_S_descend_75 (by omega) (fun H locs hw => ?_)
                refine lv_aload_n hx hb d_S_descend_76 rfl (lv_at hl 1 rfl) ?_
                refine lv_iload_n hx hb d_S_descend_77 rfl (lv_at hl 2 rfl) ?_
                refine z_ic hx hb d_S_descend_78 ?_
                refine z_iadd hx hb d_S_descend_79 ?_
                refine lv_lload_n hx hb d_S_descend_80 rfl (lv_at hl 3 rfl) ?_
                refine lv_aload_n hx hb d_S_descend_81 rfl (lv_at hl 1 rfl) ?_
                refine gX_S_worths hc hw lk_S_21 d_S_descend_82 ?_
                refine lv_iload hx hb d_S_descend_85 (lv_at hl 0 rfl) ?_
                refine ldX_S_worths hc hw d_S_descend_87 (by omega) ?_
                refine z_ladd hx hb d_S_descend_88 ?_
                refine lv_iload hx hb d_S_descend_89 (lv_at hl 4 rfl) ?_
                refine lv_aload_n hx hb d_S_descend_91 rfl (lv_at hl 1 rfl) ?_
                refine gX_S_clashes hc hw lk_S_25 d_S_descend_92 ?_
                refine lv_iload hx hb d_S_descend_95 (lv_at hl 0 rfl) ?_
                refine ldX_S_clashes hc hw d_S_descend_97 (by omega) ?_
                refine z_ior hx hb d_S_descend_98 (⟨hbl.1, h14t.1⟩) ?_
                have hSu : IS (up τ 15 d (τ 12 t)) := IS_of (fun g hg => up_f _ _ _ (by omega)) hSτ
                refine w_csV hc hw (ih _ _ _ _ (by show 0 ≤ d + 1 ∧ d + 1 ≤ τ 17 0; omega) (by show 0 ≤ w + τ 13 t ∧ w + τ 13 t ≤ sDep (d + 1); unfold sDep; omega) (zOr_bd (k := 24) hbl h14t) hSu (by rw [up_o _ _ _ _ (by decide)]; exact hk.2) (by show τ 17 0 = _; omega)) yw_S_descend yi_S_descend lk_S_50 d_S_descend_99 rfl rfl hl.1 (Nat.le_of_ble_eq_true rfl) ⟨by simp only [Rmh]; omega, by simp only [Rmh]; omega⟩ ⟨Nat.zero_le _, Nat.zero_le _⟩ (fun τ99 H locs hτ99 hw => ?_)
                obtain ⟨hn99, hk99⟩ := hτ99
                have hn99 : ds f (up τ 15 d (τ 12 t)) (d + 1) (w + τ 13 t) (zOr bl (τ 14 t)) = τ99 := hn99
                refine z_iinc (k := 0) hx hb d_S_descend_102 hl rfl (by decide) (fun x5_102 ex5_102 ls (hl : lv_has ls 6 [(5, .int (zI x5_102)), (0, .ref (ad 105)), (1, .int (zI d)), (2, .long (zL w)), (4, .int (zI bl))]) => ?_)
                refine lv_goto (tgt := 43) hx hb d_S_descend_105 (by decide) ?_
                exact ih43 x5_102 _ _ _ (by omega) (by rw [hN, ex5_102]; first | (rw [if_pos c60]; done) | (rw [if_neg c60, hn99]; done)) (by first | exact hk | exact ⟨fun g a1 a2 a3 => by rw [hk99.1 g a1 a2 a3, up_f _ _ _ a1]; exact hk.1 g a1 a2 a3, hk99.2⟩) (by omega) hw ls (lv_sub hl [0, 1, 2, 3, 4] rfl)
        exact L43 _ x5_41 _ _ _ (by omega) (by rw [ex5_41, show (d * 3 + σ 11 d - d * 3).toNat = (σ 11 d).toNat from (by omega)]) (⟨fun g _ _ _ => rfl, h18⟩) (Nat.lt_succ_self _) hw ls (lv_sub hl [0, 1, 2, 3, 4] rfl)
      · exact absurd c29 (by omega)
  · exact w_vret hc hw (⟨rfl, by rw [ds_s, if_pos c13], fun g _ _ _ => rfl, h18⟩) d_S_descend_17
