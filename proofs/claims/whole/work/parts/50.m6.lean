/-- the first nets that must be reached -/
def rnF (mo : Int) : Nat → Int → St × Int → St × Int
  | 0, _, t => t
  | f + 1, n, t => rnF mo f (n + 1) (if t.1 2 n = 0 then t else if t.1 12 0 < mo then (up (up t.1 13 (t.1 12 0) n) 12 0 (t.1 12 0 + 1), t.2 + 1) else (t.1, t.2 + 1))
theorem rnF_s (mo : Int) (f : Nat) (n : Int) (t : St × Int) : rnF mo (f + 1) n t = rnF mo f (n + 1) (if t.1 2 n = 0 then t else if t.1 12 0 < mo then (up (up t.1 13 (t.1 12 0) n) 12 0 (t.1 12 0 + 1), t.2 + 1) else (t.1, t.2 + 1)) := rfl
def rn0 (μ : St) : St := up (up (up μ 0 0 0) 11 0 1) 12 0 0
def rn1 (μ : St) (mo : Int) : St × Int := rnF mo (μ 1 0).toNat 0 (rn0 μ, 0)
def rn2 (μ : St) (mo : Int) : St := up (rn1 μ mo).1 16 0 (bI ((rn1 μ mo).1 12 0 = (rn1 μ mo).2))
def rn3 (μ : St) (mo : Int) : St := (cmT (rn2 μ mo)).1
def rpF (μ : St) : Nat → St
  | 0 => up μ 17 0 0
  | n + 1 => if rpF μ n 15 n = 3 then rpF μ n else up (up (rpF μ n) 18 (rpF μ n 17 0) (mPA (rpF μ n) n (rpF μ n 15 n))) 17 0 (rpF μ n 17 0 + 1)
def rn4 (μ : St) (mo : Int) : St := rpF (rn3 μ mo) (rn3 μ mo 12 0).toNat
def mRunT (mo : Int) : Int := if 0 ≤ mo ∧ mo ≤ 8 then 0 else 1
def mRun (μ : St) (mo : Int) : St := if 0 ≤ mo ∧ mo ≤ 8 then rn4 μ mo else up μ 0 0 1
def mRunR (μ : St) (mo : Int) : Int := if 0 ≤ mo ∧ mo ≤ 8 then rn4 μ mo 17 0 else 0
theorem rpF_o (μ : St) (n g : Nat) (h : g ≠ 17 ∧ g ≠ 18) : rpF μ n g = μ g := by
  induction n with
  | zero => exact up_f _ _ _ h.1
  | succ n ih =>
    unfold rpF; split
    · exact ih
    · rw [up_f _ _ _ h.1, up_f _ _ _ h.2, ih]
theorem rpF_bd (μ : St) (n : Nat) : 0 ≤ rpF μ n 17 0 ∧ rpF μ n 17 0 ≤ n := by
  induction n with
  | zero => unfold rpF; rw [up_s]; omega
  | succ n ih =>
    unfold rpF; split
    · omega
    · rw [up_s]; omega
set_option maxHeartbeats 400000 in
set_option maxRecDepth 100000 in
theorem k_M_run {l : Launch} {D : va_G} {ad : Nat → Nat} {ca : Nat → ClassId} (μ : St) (mo : Int) (hmo : r64 mo) (hI : IMB μ) (hD : Dg μ) (h13 : ∀ k, 0 ≤ μ 13 k ∧ μ 13 k < 12) (h15 : ∀ i, 0 ≤ μ 15 i ∧ μ 15 i ≤ 3) (h15r : ∀ ν : St, ν = rn3 μ mo → ∀ i, 0 ≤ ν 15 i ∧ ν 15 i ≤ 3) : Cw l D cl7 (tyM ca) (wM ad ca) y_M_run c_M_run 5 (some .int) 3 [.ref (ad 100), .long (zL mo)] μ (RW (.int (zI (mRunR μ mo))) (mRun μ mo = ·)) := by
  have h1 := hI.1
  refine Cw.enter (by decide) (Nat.le_of_ble_eq_true rfl) ?_
  intro A p e s m below meth c hc ls hl hw
  have hl : lv_has ls 5 [(0, .ref (ad 100)), (1, .long (zL mo))] := hl
  obtain ⟨hx, hb, hml, hown, hTB, hK, hr, hlk⟩ := id hc
  refine lv_aload_n hx hb d_M_run_0 rfl (lv_at hl 0 rfl) ?_
  refine lv_lload_n hx hb d_M_run_1 rfl (lv_at hl 1 rfl) ?_
  refine z_lc0 hx hb d_M_run_2 ?_
  refine z_lcmp_lt hx hb 19 d_M_run_3 d_M_run_4 (by omega) (by omega) (by decide) (fun c3 => ?_) (fun c3 => ?_)
  · refine z_ic hx hb d_M_run_19 ?_
    refine pM_M_thrown hc hw lk_M_60 d_M_run_20 (fun H locs hw => ?_)
    refine lv_aload_n hx hb d_M_run_23 rfl (lv_at hl 0 rfl) ?_
    refine gM_M_thrown hc hw lk_M_60 d_M_run_24 ?_
    simp only [up_s]
    refine z_if_eq hx hb 32 d_M_run_27 (by omega) (by decide) (fun c27 => ?_) (fun c27 => ?_)
    · exact absurd c27 (by omega)
    · refine z_ic hx hb d_M_run_30 ?_
      exact w_iret hc hw (by have z : ¬ (0 ≤ mo ∧ mo ≤ 8) := (by omega); unfold mRunR mRun; rw [if_neg z, if_neg z]; exact ⟨rfl, rfl⟩) d_M_run_31
  · refine lv_lload_n hx hb d_M_run_7 rfl (lv_at hl 1 rfl) ?_
    refine z_ldc2 (n := 8) hc lk_M_109 d_M_run_8 (by decide) ?_
    refine z_lcmp_gt hx hb 19 d_M_run_11 d_M_run_12 (by omega) (by omega) (by decide) (fun c11 => ?_) (fun c11 => ?_)
    · refine z_ic hx hb d_M_run_19 ?_
      refine pM_M_thrown hc hw lk_M_60 d_M_run_20 (fun H locs hw => ?_)
      refine lv_aload_n hx hb d_M_run_23 rfl (lv_at hl 0 rfl) ?_
      refine gM_M_thrown hc hw lk_M_60 d_M_run_24 ?_
      simp only [up_s]
      refine z_if_eq hx hb 32 d_M_run_27 (by omega) (by decide) (fun c27 => ?_) (fun c27 => ?_)
      · exact absurd c27 (by omega)
      · refine z_ic hx hb d_M_run_30 ?_
        exact w_iret hc hw (by have z : ¬ (0 ≤ mo ∧ mo ≤ 8) := (by omega); unfold mRunR mRun; rw [if_neg z, if_neg z]; exact ⟨rfl, rfl⟩) d_M_run_31
    · refine z_ic hx hb d_M_run_15 ?_
      refine lv_goto (tgt := 20) hx hb d_M_run_16 (by decide) ?_
      refine pM_M_thrown hc hw lk_M_60 d_M_run_20 (fun H locs hw => ?_)
      refine lv_aload_n hx hb d_M_run_23 rfl (lv_at hl 0 rfl) ?_
      refine gM_M_thrown hc hw lk_M_60 d_M_run_24 ?_
      simp only [up_s]
      refine z_if_eq hx hb 32 d_M_run_27 (by omega) (by decide) (fun c27 => ?_) (fun c27 => ?_)
      · have hmr : 0 ≤ mo ∧ mo ≤ 8 := by omega
        refine lv_aload_n hx hb d_M_run_32 rfl (lv_at hl 0 rfl) ?_
        refine z_ic hx hb d_M_run_33 ?_
        refine pM_M_ran hc hw lk_M_111 d_M_run_34 (by omega) (fun H locs hw => ?_)
        refine lv_aload_n hx hb d_M_run_37 rfl (lv_at hl 0 rfl) ?_
        refine z_ic hx hb d_M_run_38 ?_
        refine pM_M_looked hc hw lk_M_91 d_M_run_39 (fun H locs hw => ?_)
        refine z_ic hx hb d_M_run_42 ?_
        refine z_ist_n hx hb d_M_run_43 rfl hl (by decide) (fun x3_43 ex3_43 ls (hl : lv_has ls 5 [(3, .int (zI x3_43)), (0, .ref (ad 100)), (1, .long (zL mo))]) => ?_)
        refine z_ic hx hb d_M_run_44 ?_
        refine z_ist hx hb d_M_run_45 hl (by decide) (fun x4_45 ex4_45 ls (hl : lv_has ls 5 [(4, .int (zI x4_45)), (3, .int (zI x3_43)), (0, .ref (ad 100)), (1, .long (zL mo))]) => ?_)
        have L47 : ∀ (nf : Nat) (n : Int) (al : Int) (ν : St) (H : Heap) (locs : List Loc), (0 ≤ n ∧ n ≤ μ 1 0) → (0 ≤ al ∧ al ≤ n) → (rn1 μ mo = rnF mo (μ 1 0 - n).toNat n (ν, al)) → (0 ≤ ν 12 0 ∧ ν 12 0 ≤ 8) → (∀ k, 0 ≤ ν 13 k ∧ ν 13 k < 12) → (∀ g, g ≠ 0 → g ≠ 11 → g ≠ 12 → g ≠ 13 → ν g = μ g) → (μ 1 0 - n).toNat < nf → Wd D cl7 (wM ad ca) A s.heap ν H locs → ∀ ls : Array Slot, lv_has ls 5 [(4, .int (zI n)), (3, .int (zI al)), (0, .ref (ad 100)), (1, .long (zL mo))] → W p l e (Rmh 3) s m ([.ref (ad 100), .long (zL mo)] : List Value).toArray below meth c H locs 0 0 (MQ below (Qw D cl7 (wM ad ca) A (RW (.int (zI (mRunR μ mo))) (mRun μ mo = ·))) ([.ref (ad 100), .long (zL mo)] : List Value).toArray s 0 0 A) (F0 m 47 ls []) := by
          intro nf
          induction nf with
          | zero => intro n al ν H locs hn hal hN hlk h13n ho hm; exact absurd hm (Nat.not_lt_zero _)
          | succ nf ih47 =>
            intro n al ν H locs hn hal hN hlk h13n ho hm47 hw ls hl
            have e1 : ν 1 0 = μ 1 0 := by rw [ho 1 (by decide) (by decide) (by decide) (by decide)]
            have hIν : IMB ν := IMB_of (fun g hg => ho g (by omega) (by omega) (by omega) (by omega)) hI
            have h2n := hIν.2.2.2.2.2.2.2.2.2 n
            refine lv_iload hx hb d_M_run_47 (lv_at hl 0 rfl) ?_
            refine lv_aload_n hx hb d_M_run_49 rfl (lv_at hl 2 rfl) ?_
            refine gM_M_nets hc hw lk_M_64 d_M_run_50 ?_
            refine z_icmp_ge hx hb 109 d_M_run_53 (by omega) (by omega) (by decide) (fun c53 => ?_) (fun c53 => ?_)
            · have hN1 : rn1 μ mo = (ν, al) := by rw [hN, show (μ 1 0 - n).toNat = 0 by omega]; rfl
              refine lv_aload_n hx hb d_M_run_109 rfl (lv_at hl 2 rfl) ?_
              refine lv_aload_n hx hb d_M_run_110 rfl (lv_at hl 2 rfl) ?_
              refine gM_M_looked hc hw lk_M_91 d_M_run_111 ?_
              refine lv_iload_n hx hb d_M_run_114 rfl (lv_at hl 1 rfl) ?_
              refine z_icmp_ne hx hb 122 d_M_run_115 (by omega) (by omega) (by decide) (fun c115 => ?_) (fun c115 => ?_)
              · refine z_ic hx hb d_M_run_122 ?_
                refine pM_M_isProved hc hw lk_M_115 d_M_run_123 (by omega) (fun H locs hw => ?_)
                have hw : Wd D cl7 (wM ad ca) A s.heap (rn2 μ mo) H locs := by unfold rn2; rw [hN1]; first | (rw [bI_t (by omega)]; exact hw) | (rw [bI_f (by omega)]; exact hw)
                have o2 : ∀ g, g ≠ 16 → rn2 μ mo g = ν g := fun g h => by unfold rn2; rw [hN1]; exact up_f _ _ _ h
                refine lv_aload_n hx hb d_M_run_126 rfl (lv_at hl 2 rfl) ?_
                refine w_cvV (q0 := 0) hc hw (k_M_choose (rn2 μ mo) (IMB_of (fun g hg => o2 g (by omega)) hIν) (by rw [o2 12 (by decide)]; exact hlk) (Dg_of (by rw [o2 14 (by decide), ho 14 (by decide) (by decide) (by decide) (by decide)]) hD) (by rw [o2 13 (by decide)]; exact h13n)) yw_M_choose yi_M_choose lk_M_118 d_M_run_127 rfl rfl rfl rfl hl.1 (Nat.le_of_ble_eq_true rfl) ⟨Nat.le_of_ble_eq_true rfl, Nat.le_of_ble_eq_true rfl⟩ ⟨Nat.zero_le _, Nat.zero_le _⟩ (fun τ127 H locs hτ127 hw => ?_)
                obtain ⟨hc1, hcD, hco⟩ := hτ127
                obtain ⟨ξ, hξ⟩ : ∃ z, z = τ127 := ⟨_, rfl⟩
                subst hξ
                have hξe : rn3 μ mo = ξ := hc1
                have hξ15 := h15r ξ hξe.symm
                have hξ12 : 0 ≤ ξ 12 0 ∧ ξ 12 0 ≤ 8 := by rw [hco 12 (by decide) (by decide), o2 12 (by decide)]; exact hlk
                have hξ13 : ∀ k, 0 ≤ ξ 13 k ∧ ξ 13 k < 12 := by rw [hco 13 (by decide) (by decide), o2 13 (by decide)]; exact h13n
                refine lv_aload_n hx hb d_M_run_130 rfl (lv_at hl 2 rfl) ?_
                refine z_ic hx hb d_M_run_131 ?_
                refine pM_M_probes hc hw lk_M_121 d_M_run_132 (fun H locs hw => ?_)
                refine z_ic hx hb d_M_run_135 ?_
                refine z_ist hx hb d_M_run_136 hl (by decide) (fun x4_136 ex4_136 ls (hl : lv_has ls 5 [(4, .int (zI x4_136)), (3, .int (zI al)), (0, .ref (ad 100)), (1, .long (zL mo))]) => ?_)
                have L138 : ∀ (nf : Nat) (k : Int) (ρ : St) (H : Heap) (locs : List Loc), (0 ≤ k ∧ k ≤ ξ 12 0) → (ρ = rpF ξ k.toNat) → (ξ 12 0 - k).toNat < nf → Wd D cl7 (wM ad ca) A s.heap ρ H locs → ∀ ls : Array Slot, lv_has ls 5 [(4, .int (zI k)), (0, .ref (ad 100))] → W p l e (Rmh 3) s m ([.ref (ad 100), .long (zL mo)] : List Value).toArray below meth c H locs 0 0 (MQ below (Qw D cl7 (wM ad ca) A (RW (.int (zI (mRunR μ mo))) (mRun μ mo = ·))) ([.ref (ad 100), .long (zL mo)] : List Value).toArray s 0 0 A) (F0 m 138 ls []) := by
                  intro nf
                  induction nf with
                  | zero => intro k ρ H locs hk hρ hm; exact absurd hm (Nat.not_lt_zero _)
                  | succ nf ih138 =>
                    intro k ρ H locs hk hρ hm138 hw ls hl
                    have ek : ((k.toNat : Nat) : Int) = k := Int.toNat_of_nonneg hk.1
                    have hor : ∀ g, g ≠ 17 ∧ g ≠ 18 → ρ g = ξ g := fun g h => by rw [hρ]; exact rpF_o ξ _ g h
                    have e12 : ρ 12 0 = ξ 12 0 := by rw [hor 12 (by decide)]
                    have e15 : ρ 15 k = ξ 15 k := by rw [hor 15 (by decide)]
                    have h15k := hξ15 k
                    have hb17 : 0 ≤ ρ 17 0 ∧ ρ 17 0 ≤ k := by rw [hρ]; have := rpF_bd ξ k.toNat; omega
                    refine lv_iload hx hb d_M_run_138 (lv_at hl 0 rfl) ?_
                    refine lv_aload_n hx hb d_M_run_140 rfl (lv_at hl 1 rfl) ?_
                    refine gM_M_looked hc hw lk_M_91 d_M_run_141 ?_
                    refine z_icmp_ge hx hb 199 d_M_run_144 (by omega) (by omega) (by decide) (fun c144 => ?_) (fun c144 => ?_)
                    · refine lv_aload_n hx hb d_M_run_199 rfl (lv_at hl 1 rfl) ?_
                      refine gM_M_probes hc hw lk_M_121 d_M_run_200 ?_
                      exact w_iret hc hw (by unfold mRunR mRun rn4; rw [if_pos hmr, if_pos hmr, hξe, hρ, show k = ξ 12 0 by omega]; exact ⟨rfl, rfl⟩) d_M_run_203
                    · refine lv_aload_n hx hb d_M_run_147 rfl (lv_at hl 1 rfl) ?_
                      refine gM_M_best hc hw lk_M_39 d_M_run_148 ?_
                      refine lv_iload hx hb d_M_run_151 (lv_at hl 0 rfl) ?_
                      refine ldM_M_best hc hw d_M_run_153 (by omega) ?_
                      refine z_ic hx hb d_M_run_154 ?_
                      refine z_icmp_ne hx hb 161 d_M_run_155 (by omega) (by omega) (by decide) (fun c155 => ?_) (fun c155 => ?_)
                      · refine lv_aload_n hx hb d_M_run_161 rfl (lv_at hl 1 rfl) ?_
                        refine gM_M_probe hc hw lk_M_42 d_M_run_162 ?_
                        refine lv_aload_n hx hb d_M_run_165 rfl (lv_at hl 1 rfl) ?_
                        refine gM_M_probes hc hw lk_M_121 d_M_run_166 ?_
                        refine lv_aload_n hx hb d_M_run_169 rfl (lv_at hl 1 rfl) ?_
                        refine lv_iload hx hb d_M_run_170 (lv_at hl 0 rfl) ?_
                        refine lv_aload_n hx hb d_M_run_172 rfl (lv_at hl 1 rfl) ?_
                        refine gM_M_best hc hw lk_M_39 d_M_run_173 ?_
                        refine lv_iload hx hb d_M_run_176 (lv_at hl 0 rfl) ?_
                        refine ldM_M_best hc hw d_M_run_178 (by omega) ?_
                        refine w_cvR (q0 := 0) hc hw (k_M_pointAt _ _ _ (by omega) (by omega) (by rw [hor 13 (by decide)]; exact hξ13 _)) yw_M_pointAt yi_M_pointAt lk_M_94 d_M_run_179 rfl rfl rfl rfl hl.1 (Nat.le_of_ble_eq_true rfl) ⟨Nat.le_of_ble_eq_true rfl, Nat.le_of_ble_eq_true rfl⟩ ⟨Nat.zero_le _, Nat.zero_le _⟩ (fun τ179 H locs hτ179 hw => ?_)
                        subst hτ179
                        refine stM_M_probe hc hw d_M_run_182 (by omega) (fun H locs hw => ?_)
                        refine lv_aload_n hx hb d_M_run_183 rfl (lv_at hl 1 rfl) ?_
                        refine lv_dup hx hb d_M_run_184 rfl ?_
                        refine gM_M_probes hc hw lk_M_121 d_M_run_185 ?_
                        refine z_ic hx hb d_M_run_188 ?_
                        refine z_iadd hx hb d_M_run_189 ?_
                        refine pM_M_probes hc hw lk_M_121 d_M_run_190 (fun H locs hw => ?_)
                        refine z_iinc (k := 0) hx hb d_M_run_193 hl rfl (by decide) (fun x4_193 ex4_193 ls (hl : lv_has ls 5 [(4, .int (zI x4_193)), (0, .ref (ad 100))]) => ?_)
                        refine lv_goto (tgt := 138) hx hb d_M_run_196 (by decide) ?_
                        exact ih138 x4_193 _ _ _ (by omega) (by rw [show x4_193.toNat = k.toNat + 1 from (by omega)]; unfold rpF; rw [ek, ← hρ]; first | (rw [if_pos c155]; done) | (rw [if_neg c155]; rfl)) (by omega) hw ls (lv_sub hl [0, 1] rfl)
                      · refine lv_goto (tgt := 193) hx hb d_M_run_158 (by decide) ?_
                        refine z_iinc (k := 0) hx hb d_M_run_193 hl rfl (by decide) (fun x4_193 ex4_193 ls (hl : lv_has ls 5 [(4, .int (zI x4_193)), (0, .ref (ad 100))]) => ?_)
                        refine lv_goto (tgt := 138) hx hb d_M_run_196 (by decide) ?_
                        exact ih138 x4_193 _ _ _ (by omega) (by rw [show x4_193.toNat = k.toNat + 1 from (by omega)]; unfold rpF; rw [ek, ← hρ]; first | (rw [if_pos c155]; done) | (rw [if_neg c155]; rfl)) (by omega) hw ls (lv_sub hl [0, 1] rfl)
                exact L138 _ x4_136 _ _ _ (by omega) (by rw [ex4_136]; rfl) (Nat.lt_succ_self _) hw ls (lv_sub hl [0, 2] rfl)
              · refine z_ic hx hb d_M_run_118 ?_
                refine lv_goto (tgt := 123) hx hb d_M_run_119 (by decide) ?_
                refine pM_M_isProved hc hw lk_M_115 d_M_run_123 (by omega) (fun H locs hw => ?_)
                have hw : Wd D cl7 (wM ad ca) A s.heap (rn2 μ mo) H locs := by unfold rn2; rw [hN1]; first | (rw [bI_t (by omega)]; exact hw) | (rw [bI_f (by omega)]; exact hw)
                have o2 : ∀ g, g ≠ 16 → rn2 μ mo g = ν g := fun g h => by unfold rn2; rw [hN1]; exact up_f _ _ _ h
                refine lv_aload_n hx hb d_M_run_126 rfl (lv_at hl 2 rfl) ?_
                refine w_cvV (q0 := 0) hc hw (k_M_choose (rn2 μ mo) (IMB_of (fun g hg => o2 g (by omega)) hIν) (by rw [o2 12 (by decide)]; exact hlk) (Dg_of (by rw [o2 14 (by decide), ho 14 (by decide) (by decide) (by decide) (by decide)]) hD) (by rw [o2 13 (by decide)]; exact h13n)) yw_M_choose yi_M_choose lk_M_118 d_M_run_127 rfl rfl rfl rfl hl.1 (Nat.le_of_ble_eq_true rfl) ⟨Nat.le_of_ble_eq_true rfl, Nat.le_of_ble_eq_true rfl⟩ ⟨Nat.zero_le _, Nat.zero_le _⟩ (fun τ127 H locs hτ127 hw => ?_)
                obtain ⟨hc1, hcD, hco⟩ := hτ127
                obtain ⟨ξ, hξ⟩ : ∃ z, z = τ127 := ⟨_, rfl⟩
                subst hξ
                have hξe : rn3 μ mo = ξ := hc1
                have hξ15 := h15r ξ hξe.symm
                have hξ12 : 0 ≤ ξ 12 0 ∧ ξ 12 0 ≤ 8 := by rw [hco 12 (by decide) (by decide), o2 12 (by decide)]; exact hlk
                have hξ13 : ∀ k, 0 ≤ ξ 13 k ∧ ξ 13 k < 12 := by rw [hco 13 (by decide) (by decide), o2 13 (by decide)]; exact h13n
                refine lv_aload_n hx hb d_M_run_130 rfl (lv_at hl 2 rfl) ?_
                refine z_ic hx hb d_M_run_131 ?_
                refine pM_M_probes hc hw lk_M_121 d_M_run_132 (fun H locs hw => ?_)
                refine z_ic hx hb d_M_run_135 ?_
                refine z_ist hx hb d_M_run_136 hl (by decide) (fun x4_136 ex4_136 ls (hl : lv_has ls 5 [(4, .int (zI x4_136)), (3, .int (zI al)), (0, .ref (ad 100)), (1, .long (zL mo))]) => ?_)
                have L138 : ∀ (nf : Nat) (k : Int) (ρ : St) (H : Heap) (locs : List Loc), (0 ≤ k ∧ k ≤ ξ 12 0) → (ρ = rpF ξ k.toNat) → (ξ 12 0 - k).toNat < nf → Wd D cl7 (wM ad ca) A s.heap ρ H locs → ∀ ls : Array Slot, lv_has ls 5 [(4, .int (zI k)), (0, .ref (ad 100))] → W p l e (Rmh 3) s m ([.ref (ad 100), .long (zL mo)] : List Value).toArray below meth c H locs 0 0 (MQ below (Qw D cl7 (wM ad ca) A (RW (.int (zI (mRunR μ mo))) (mRun μ mo = ·))) ([.ref (ad 100), .long (zL mo)] : List Value).toArray s 0 0 A) (F0 m 138 ls []) := by
                  intro nf
                  induction nf with
                  | zero => intro k ρ H locs hk hρ hm; exact absurd hm (Nat.not_lt_zero _)
                  | succ nf ih138 =>
                    intro k ρ H locs hk hρ hm138 hw ls hl
                    have ek : ((k.toNat : Nat) : Int) = k := Int.toNat_of_nonneg hk.1
                    have hor : ∀ g, g ≠ 17 ∧ g ≠ 18 → ρ g = ξ g := fun g h => by rw [hρ]; exact rpF_o ξ _ g h
                    have e12 : ρ 12 0 = ξ 12 0 := by rw [hor 12 (by decide)]
                    have e15 : ρ 15 k = ξ 15 k := by rw [hor 15 (by decide)]
                    have h15k := hξ15 k
                    have hb17 : 0 ≤ ρ 17 0 ∧ ρ 17 0 ≤ k := by rw [hρ]; have := rpF_bd ξ k.toNat; omega
                    refine lv_iload hx hb d_M_run_138 (lv_at hl 0 rfl) ?_
                    refine lv_aload_n hx hb d_M_run_140 rfl (lv_at hl 1 rfl) ?_
                    refine gM_M_looked hc hw lk_M_91 d_M_run_141 ?_
                    refine z_icmp_ge hx hb 199 d_M_run_144 (by omega) (by omega) (by decide) (fun c144 => ?_) (fun c144 => ?_)
                    · refine lv_aload_n hx hb d_M_run_199 rfl (lv_at hl 1 rfl) ?_
                      refine gM_M_probes hc hw lk_M_121 d_M_run_200 ?_
                      exact w_iret hc hw (by unfold mRunR mRun rn4; rw [if_pos hmr, if_pos hmr, hξe, hρ, show k = ξ 12 0 by omega]; exact ⟨rfl, rfl⟩) d_M_run_203
                    · refine lv_aload_n hx hb d_M_run_147 rfl (lv_at hl 1 rfl) ?_
                      refine gM_M_best hc hw lk_M_39 d_M_run_148 ?_
                      refine lv_iload hx hb d_M_run_151 (lv_at hl 0 rfl) ?_
                      refine ldM_M_best hc hw d_M_run_153 (by omega) ?_
                      refine z_ic hx hb d_M_run_154 ?_
                      refine z_icmp_ne hx hb 161 d_M_run_155 (by omega) (by omega) (by decide) (fun c155 => ?_) (fun c155 => ?_)
                      · refine lv_aload_n hx hb d_M_run_161 rfl (lv_at hl 1 rfl) ?_
                        refine gM_M_probe hc hw lk_M_42 d_M_run_162 ?_
                        refine lv_aload_n hx hb d_M_run_165 rfl (lv_at hl 1 rfl) ?_
                        refine gM_M_probes hc hw lk_M_121 d_M_run_166 ?_
                        refine lv_aload_n hx hb d_M_run_169 rfl (lv_at hl 1 rfl) ?_
                        refine lv_iload hx hb d_M_run_170 (lv_at hl 0 rfl) ?_
                        refine lv_aload_n hx hb d_M_run_172 rfl (lv_at hl 1 rfl) ?_
                        refine gM_M_best hc hw lk_M_39 d_M_run_173 ?_
                        refine lv_iload hx hb d_M_run_176 (lv_at hl 0 rfl) ?_
                        refine ldM_M_best hc hw d_M_run_178 (by omega) ?_
                        refine w_cvR (q0 := 0) hc hw (k_M_pointAt _ _ _ (by omega) (by omega) (by rw [hor 13 (by decide)]; exact hξ13 _)) yw_M_pointAt yi_M_pointAt lk_M_94 d_M_run_179 rfl rfl rfl rfl hl.1 (Nat.le_of_ble_eq_true rfl) ⟨Nat.le_of_ble_eq_true rfl, Nat.le_of_ble_eq_true rfl⟩ ⟨Nat.zero_le _, Nat.zero_le _⟩ (fun τ179 H locs hτ179 hw => ?_)
                        subst hτ179
                        refine stM_M_probe hc hw d_M_run_182 (by omega) (fun H locs hw => ?_)
                        refine lv_aload_n hx hb d_M_run_183 rfl (lv_at hl 1 rfl) ?_
                        refine lv_dup hx hb d_M_run_184 rfl ?_
                        refine gM_M_probes hc hw lk_M_121 d_M_run_185 ?_
                        refine z_ic hx hb d_M_run_188 ?_
                        refine z_iadd hx hb d_M_run_189 ?_
                        refine pM_M_probes hc hw lk_M_121 d_M_run_190 (fun H locs hw => ?_)
                        refine z_iinc (k := 0) hx hb d_M_run_193 hl rfl (by decide) (fun x4_193 ex4_193 ls (hl : lv_has ls 5 [(4, .int (zI x4_193)), (0, .ref (ad 100))]) => ?_)
                        refine lv_goto (tgt := 138) hx hb d_M_run_196 (by decide) ?_
                        exact ih138 x4_193 _ _ _ (by omega) (by rw [show x4_193.toNat = k.toNat + 1 from (by omega)]; unfold rpF; rw [ek, ← hρ]; first | (rw [if_pos c155]; done) | (rw [if_neg c155]; rfl)) (by omega) hw ls (lv_sub hl [0, 1] rfl)
                      · refine lv_goto (tgt := 193) hx hb d_M_run_158 (by decide) ?_
                        refine z_iinc (k := 0) hx hb d_M_run_193 hl rfl (by decide) (fun x4_193 ex4_193 ls (hl : lv_has ls 5 [(4, .int (zI x4_193)), (0, .ref (ad 100))]) => ?_)
                        refine lv_goto (tgt := 138) hx hb d_M_run_196 (by decide) ?_
                        exact ih138 x4_193 _ _ _ (by omega) (by rw [show x4_193.toNat = k.toNat + 1 from (by omega)]; unfold rpF; rw [ek, ← hρ]; first | (rw [if_pos c155]; done) | (rw [if_neg c155]; rfl)) (by omega) hw ls (lv_sub hl [0, 1] rfl)
                exact L138 _ x4_136 _ _ _ (by omega) (by rw [ex4_136]; rfl) (Nat.lt_succ_self _) hw ls (lv_sub hl [0, 2] rfl)
            · have q : (μ 1 0 - n).toNat = (μ 1 0 - (n + 1)).toNat + 1 := by omega
              rw [q, rnF_s] at hN
              dsimp only at hN
              refine lv_aload_n hx hb d_M_run_56 rfl (lv_at hl 2 rfl) ?_
              refine gM_M_must hc hw lk_M_7 d_M_run_57 ?_
              refine lv_iload hx hb d_M_run_60 (lv_at hl 0 rfl) ?_
              refine ldM_M_must hc hw d_M_run_62 (by omega) ?_
              refine z_if_ne hx hb 69 d_M_run_63 (by omega) (by decide) (fun c63 => ?_) (fun c63 => ?_)
              · refine lv_aload_n hx hb d_M_run_69 rfl (lv_at hl 2 rfl) ?_
                refine gM_M_looked hc hw lk_M_91 d_M_run_70 ?_
                refine z_i2l hx hb d_M_run_73 (by omega) ?_
                refine lv_lload_n hx hb d_M_run_74 rfl (lv_at hl 3 rfl) ?_
                refine z_lcmp_ge hx hb 100 d_M_run_75 d_M_run_76 (by omega) (by omega) (by decide) (fun c75 => ?_) (fun c75 => ?_)
                · refine z_iinc (k := 1) hx hb d_M_run_100 hl rfl (by decide) (fun x3_100 ex3_100 ls (hl : lv_has ls 5 [(3, .int (zI x3_100)), (4, .int (zI n)), (0, .ref (ad 100)), (1, .long (zL mo))]) => ?_)
                  refine z_iinc (k := 1) hx hb d_M_run_103 hl rfl (by decide) (fun x4_103 ex4_103 ls (hl : lv_has ls 5 [(4, .int (zI x4_103)), (3, .int (zI x3_100)), (0, .ref (ad 100)), (1, .long (zL mo))]) => ?_)
                  refine lv_goto (tgt := 47) hx hb d_M_run_106 (by decide) ?_
                  exact ih47 x4_103 x3_100 _ _ _ (by omega) (by omega) (by rw [hN, ex4_103]; first | (rw [if_pos c63]; done) | (rw [if_neg c63, if_pos (show ν 12 0 < mo by omega), ex3_100]; rfl) | (rw [if_neg c63, if_neg (show ¬ ν 12 0 < mo by omega), ex3_100]; done)) (by first | exact hlk | (rw [up_s, up_o _ _ _ _ (by decide)]; omega)) (by first | exact h13n | (rw [up_f _ _ _ (by decide)]; exact up_P (P := fun z => 0 ≤ z ∧ z < 12) _ _ _ _ (by omega) h13n)) (by first | exact ho | exact (fun g a1 a2 a3 a4 => by rw [up_f _ _ _ a3, up_f _ _ _ a4]; exact ho g a1 a2 a3 a4)) (by omega) hw ls (lv_sub hl [0, 1, 2, 3] rfl)
                · refine lv_aload_n hx hb d_M_run_79 rfl (lv_at hl 2 rfl) ?_
                  refine gM_M_netAt hc hw lk_M_33 d_M_run_80 ?_
                  refine lv_aload_n hx hb d_M_run_83 rfl (lv_at hl 2 rfl) ?_
                  refine gM_M_looked hc hw lk_M_91 d_M_run_84 ?_
                  refine lv_iload hx hb d_M_run_87 (lv_at hl 0 rfl) ?_
                  refine stM_M_netAt hc hw d_M_run_89 (by omega) (fun H locs hw => ?_)
                  refine lv_aload_n hx hb d_M_run_90 rfl (lv_at hl 2 rfl) ?_
                  refine lv_dup hx hb d_M_run_91 rfl ?_
                  refine gM_M_looked hc hw lk_M_91 d_M_run_92 ?_
                  refine z_ic hx hb d_M_run_95 ?_
                  refine z_iadd hx hb d_M_run_96 ?_
                  refine pM_M_looked hc hw lk_M_91 d_M_run_97 (fun H locs hw => ?_)
                  refine z_iinc (k := 1) hx hb d_M_run_100 hl rfl (by decide) (fun x3_100 ex3_100 ls (hl : lv_has ls 5 [(3, .int (zI x3_100)), (4, .int (zI n)), (0, .ref (ad 100)), (1, .long (zL mo))]) => ?_)
                  refine z_iinc (k := 1) hx hb d_M_run_103 hl rfl (by decide) (fun x4_103 ex4_103 ls (hl : lv_has ls 5 [(4, .int (zI x4_103)), (3, .int (zI x3_100)), (0, .ref (ad 100)), (1, .long (zL mo))]) => ?_)
                  refine lv_goto (tgt := 47) hx hb d_M_run_106 (by decide) ?_
                  exact ih47 x4_103 x3_100 _ _ _ (by omega) (by omega) (by rw [hN, ex4_103]; first | (rw [if_pos c63]; done) | (rw [if_neg c63, if_pos (show ν 12 0 < mo by omega), ex3_100]; rfl) | (rw [if_neg c63, if_neg (show ¬ ν 12 0 < mo by omega), ex3_100]; done)) (by first | exact hlk | (rw [up_s, up_o _ _ _ _ (by decide)]; omega)) (by first | exact h13n | (rw [up_f _ _ _ (by decide)]; exact up_P (P := fun z => 0 ≤ z ∧ z < 12) _ _ _ _ (by omega) h13n)) (by first | exact ho | exact (fun g a1 a2 a3 a4 => by rw [up_f _ _ _ a3, up_f _ _ _ a4]; exact ho g a1 a2 a3 a4)) (by omega) hw ls (lv_sub hl [0, 1, 2, 3] rfl)
              · refine lv_goto (tgt := 103) hx hb d_M_run_66 (by decide) ?_
                refine z_iinc (k := 0) hx hb d_M_run_103 hl rfl (by decide) (fun x4_103 ex4_103 ls (hl : lv_has ls 5 [(4, .int (zI x4_103)), (3, .int (zI al)), (0, .ref (ad 100)), (1, .long (zL mo))]) => ?_)
                refine lv_goto (tgt := 47) hx hb d_M_run_106 (by decide) ?_
                exact ih47 x4_103 al _ _ _ (by omega) (by omega) (by rw [hN, ex4_103]; first | (rw [if_pos c63]; done) | (rw [if_neg c63, if_pos (show ν 12 0 < mo by omega), ex3_100]; rfl) | (rw [if_neg c63, if_neg (show ¬ ν 12 0 < mo by omega), ex3_100]; done)) (by first | exact hlk | (rw [up_s, up_o _ _ _ _ (by decide)]; omega)) (by first | exact h13n | (rw [up_f _ _ _ (by decide)]; exact up_P (P := fun z => 0 ≤ z ∧ z < 12) _ _ _ _ (by omega) h13n)) (by first | exact ho | exact (fun g a1 a2 a3 a4 => by rw [up_f _ _ _ a3, up_f _ _ _ a4]; exact ho g a1 a2 a3 a4)) (by omega) hw ls (lv_sub hl [0, 1, 2, 3] rfl)
        exact L47 _ x4_45 x3_43 _ _ _ (by omega) (by omega) (by rw [ex4_45, ex3_43, show (μ 1 0 - 0).toNat = (μ 1 0).toNat from (by omega)]; rfl) (by rw [up_s]; decide) (by rw [up_f _ _ _ (by decide), up_f _ _ _ (by decide), up_f _ _ _ (by decide)]; exact h13) (fun g a1 a2 a3 a4 => by rw [up_f _ _ _ a3, up_f _ _ _ a2, up_f _ _ _ a1]) (Nat.lt_succ_self _) hw ls (lv_sub hl [0, 1, 2, 3] rfl)
      · exact absurd c27 (by omega)
