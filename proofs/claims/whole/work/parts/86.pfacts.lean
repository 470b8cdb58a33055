/-! a fact for each call -/
theorem rnF_k (mo : Int) : ∀ (f : Nat) (n : Int) (t : St × Int), 0 ≤ t.1 12 0 → 0 ≤ (rnF mo f n t).1 12 0 ∧ ∀ g, g ≠ 12 → g ≠ 13 → (rnF mo f n t).1 g = t.1 g
  | 0, n, t, h => ⟨h, fun _ _ _ => rfl⟩
  | f + 1, n, t, h => by
    rw [rnF_s]
    split
    · exact rnF_k mo f (n + 1) t h
    · split
      · have := rnF_k mo f (n + 1) (up (up t.1 13 (t.1 12 0) n) 12 0 (t.1 12 0 + 1), t.2 + 1) (by show 0 ≤ up (up t.1 13 (t.1 12 0) n) 12 0 (t.1 12 0 + 1) 12 0; rw [up_s]; omega)
        refine ⟨this.1, fun g a b => (this.2 g a b).trans ?_⟩
        show up (up t.1 13 (t.1 12 0) n) 12 0 (t.1 12 0 + 1) g = t.1 g
        rw [up_f _ _ _ a, up_f _ _ _ b]
      · exact rnF_k mo f (n + 1) (t.1, t.2 + 1) h
theorem rn3_dig {μ : St} (hD : Dig (μ 14)) (h15 : Dig (μ 15)) (mo : Int) : Dig (rn3 μ mo 15) := by
  have hk := rnF_k mo (μ 1 0).toNat 0 (rn0 μ, 0) (by show 0 ≤ up (up (up μ 0 0 0) 11 0 1) 12 0 0 12 0; rw [up_s]; decide)
  have e12 : rn2 μ mo 12 = (rn1 μ mo).1 12 := up_f _ _ _ (by decide)
  have eo : ∀ g, g = 14 ∨ g = 15 → rn2 μ mo g = μ g := fun g hg => by
    have a1 : rn2 μ mo g = (rn1 μ mo).1 g := up_f _ _ _ (by omega)
    rw [a1]
    refine (hk.2 g (by omega) (by omega)).trans ?_
    show up (up (up μ 0 0 0) 11 0 1) 12 0 0 g = μ g
    rw [up_f _ _ _ (by omega), up_f _ _ _ (by omega), up_f _ _ _ (by omega)]
  have hK : 0 ≤ rn2 μ mo 12 0 := by rw [e12]; exact hk.1
  have e14 := eo 14 (Or.inl rfl)
  have e15 := eo 15 (Or.inr rfl)
  show Dig ((cmT (rn2 μ mo)).1 15)
  generalize rn2 μ mo = ν at hK e14 e15
  rw [← e14] at hD
  rw [← e15] at h15
  have z14 : ∀ k, 0 ≤ k → k < ν 12 0 → fillA ν 14 (ν 12 0) 0 14 k = 0 := fun k a b => by unfold fillA; rw [if_pos ⟨rfl, a, b⟩]
  have hv0 : vF (fillA ν 14 (ν 12 0) 0 14) (ν 12 0).toNat = 0 := by
    have : ∀ m : Nat, (m : Int) ≤ ν 12 0 → vF (fillA ν 14 (ν 12 0) 0 14) m = 0 := by
      intro m
      induction m with
      | zero => intro _; rfl
      | succ m ih => intro hm; rw [vF_s, ih (by omega), z14 m (by omega) (by omega)]; rfl
    exact this _ (by omega)
  have h0 : Kp ν 0 (fillA ν 14 (ν 12 0) 0, -1, 0) := by
    refine ⟨fun g a b => fillA_o _ _ _ _ a, ?_, ?_, fun d hd hvd hlt => ?_, Or.inl rfl⟩
    · intro k
      show 0 ≤ fillA ν 14 (ν 12 0) 0 14 k ∧ fillA ν 14 (ν 12 0) 0 14 k ≤ 3
      unfold fillA
      split
      · decide
      · exact hD k
    · show Dig (fillA ν 14 (ν 12 0) 0 15)
      rw [fillA_o _ _ _ _ (by decide)]; exact h15
    · have := vF_bd hd (ν 12 0).toNat
      exfalso; omega
  have hrun := cm_run hK (4 ^ (ν 12 0).toNat) (fillA ν 14 (ν 12 0) 0, -1, 0) (by rw [hv0]; exact h0) (by rw [hv0]; push_cast; omega)
  exact hrun.2.2.1
section HF
variable {l : Launch} {D : va_G} {am : Nat → Nat} {cm : Nat → ClassId} {ad : Nat → Nat} {ca : Nat → ClassId} {ao : Nat} {co : ClassId}
theorem hs_net {σ μ : St} {v0 : Int} (h : Inv σ μ) (hb : b01 v0) : SAI Inv l D am cm ad ca y_X_net c_X_net 2 (some .int) y_M_net c_M_net 2 (some .int) [.int (zI v0)] σ μ := by
  have i7 := h.b.ib.1
  have e7 := h.b.b7
  have hM := k_M_net (l := l) (D := D) (ad := am) (ca := cm) μ v0 hb h.nets
  have e : (if μ 1 0 = 12 then (-1 : Int) else μ 1 0) = if 12 ≤ σ 7 0 then -1 else σ 7 0 := by
    by_cases q : μ 1 0 = 12
    · rw [if_pos q, if_pos (by omega)]
    · rw [if_neg q, if_neg (by omega)]; omega
  rw [e] at hM
  exact ⟨_, bNet σ v0, mNet μ v0, 1, 0, ⟨by decide, by decide⟩, by split <;> omega, k_X_net σ v0 hb i7, hM, h.net hb⟩
theorem hs_point {σ μ ω : St} {v0 v1 v2 v3 : Int} (hfl : l.flags = pinnedFlags ++ [noTraceFlag]) (h : Inv σ μ) (h0 : r32 v0) (h1 : r64 v1) (h2 : r64 v2) (h3 : r64 v3) : SHI Inv l D am cm ad ca ao co y_L_point c_L_point 10 [(0, 15, 18, 13), (0, 15, 22, 15)] y_M_point c_M_point 9 (some .int) [.int (zI v0), .long (zL v1), .long (zL v2), .long (zL v3)] r32 σ ω μ := by
  have i7 := h.b.ib.1
  have i8 := h.b.ib.2.1
  have e7 := h.b.b7
  have hM := k_M_point (l := l) (D := D) (ad := am) (ca := cm) μ v0 v1 v2 v3 h0 h1 h2 h3 h.b.imb h.b.p5
  have m0 := mPoint_0 μ v0 v1 v2 v3
  by_cases q : 0 ≤ v0 ∧ v0 < σ 7 0
  · by_cases g : pGood v1 v2 v3
    · have hT : mPtT μ v0 v1 v2 v3 = 0 := by unfold mPtT; rw [if_neg (by rw [← e7]; exact fun z => z q), if_pos g]
      have e : mPtR μ v0 v1 v2 v3 = if 3 ≤ σ 1 v0 ∨ 36 ≤ σ 8 0 then -1 else σ 8 0 := by
        unfold mPtR
        rw [hT, if_neg (show ¬ ((0 : Int) ≠ 0) by decide)]
        have := h.b.full q
        by_cases z : 3 ≤ σ 1 v0 ∨ 36 ≤ σ 8 0
        · rw [if_pos z, if_pos (this.mp z)]
        · rw [if_neg z, if_neg (fun w => z (this.mpr w)), h.b.b8]
      rw [e] at hM
      have hr : r32 (if 3 ≤ σ 1 v0 ∨ 36 ≤ σ 8 0 then -1 else σ 8 0) := by split <;> omega
      exact ⟨0, _, _, _, _, 1, by decide, by decide, hr, hp_point_ok ω (h := 2) (by decide) hr (k_X_point σ v0 v1 v2 v3 h0 h1 h2 h3 i7 h.b.ib q ⟨g.1, g.2.1, g.2.2⟩), hM, by rw [m0, hT], fun _ => up_s _ _ _ _, h.point q g⟩
    · have hT : mPtT μ v0 v1 v2 v3 = 2 := by unfold mPtT; rw [if_neg (by rw [← e7]; exact fun z => z q), if_neg g]
      have e : mPtR μ v0 v1 v2 v3 = 0 := by unfold mPtR; rw [hT, if_pos (by decide)]
      have em : mPoint μ v0 v1 v2 v3 = up μ 0 0 2 := by unfold mPoint; rw [hT, if_pos (by decide)]
      rw [e, em] at hM
      exact ⟨2, 0, _, _, _, 1, by decide, by decide, by decide, hp_point_x2 ω (h := 7) (by decide) (t_X_point1 hfl σ v0 v1 v2 v3 h0 h1 h2 h3 i7 q g), hM, up_s _ _ _ _, fun z => absurd z (by decide), h.m0 2⟩
  · have hT : mPtT μ v0 v1 v2 v3 = 1 := by unfold mPtT; rw [if_pos (by rw [← e7]; exact q)]
    have e : mPtR μ v0 v1 v2 v3 = 0 := by unfold mPtR; rw [hT, if_pos (by decide)]
    have em : mPoint μ v0 v1 v2 v3 = up μ 0 0 1 := by unfold mPoint; rw [hT, if_pos (by decide)]
    rw [e, em] at hM
    exact ⟨1, 0, _, _, _, 1, by decide, by decide, by decide, hp_point_x1 ω (h := 7) (by decide) (t_X_point0 hfl σ v0 v1 v2 v3 h0 h1 h2 h3 i7 q), hM, up_s _ _ _ _, fun z => absurd z (by decide), h.m0 1⟩
theorem hs_gap {σ μ ω : St} {v0 : Int} (hfl : l.flags = pinnedFlags ++ [noTraceFlag]) (h : Inv σ μ) (h0 : r64 v0) : SHI Inv l D am cm ad ca ao co y_L_gap c_L_gap 5 [(0, 16, 19, 15)] y_M_gap c_M_gap 3 (some .boolean) [.long (zL v0)] b01 σ ω μ := by
  have i9 := h.b.ib.2.2.1
  have e9 := h.b.b9
  have hM := k_M_gap (l := l) (D := D) (ad := am) (ca := cm) μ v0 h0 (by rw [← e9]; exact i9)
  by_cases q : 0 ≤ v0 ∧ v0 ≤ 1000000
  · have hT : mGapT v0 = 0 := by unfold mGapT; rw [if_neg (by omega)]
    have e : bI (¬ (mGapT v0 ≠ 0 ∨ μ 10 0 = v0)) = bI (¬ v0 = σ 9 0) := bI_cg ⟨fun w z => w (Or.inr (by omega)), fun w z => z.elim (fun x => x hT) (fun x => w (by omega))⟩
    rw [e] at hM
    obtain ⟨g1, g2⟩ := h.gap q
    exact ⟨0, _, _, _, _, 0, by decide, by decide, bI_01 _, hp_gap_ok ω (h := 1) (by decide) (bI_01 _) (k_X_gap σ v0 h0 i9 q), hM, g2, fun _ => up_s _ _ _ _, g1⟩
  · have hT : mGapT v0 = 1 := by unfold mGapT; rw [if_pos (by omega)]
    have em : mGap μ v0 = up μ 0 0 1 := by unfold mGap; rw [hT, if_pos (Or.inl (by decide))]
    rw [em] at hM
    exact ⟨1, _, _, _, _, 0, by decide, by decide, bI_01 _, hp_gap_x1 ω (h := 6) (by decide) (t_X_gap hfl σ v0 h0 q), hM, up_s _ _ _ _, fun z => absurd z (by decide), h.m0 1⟩
theorem hs_run {σ μ ω : St} {v0 : Int} (hfl : l.flags = pinnedFlags ++ [noTraceFlag]) (h : Inv σ μ) (h0 : r64 v0) : SHI Inv l D am cm ad ca ao co y_L_run c_L_run 5 [(0, 9, 12, 15)] y_M_run c_M_run 5 (some .int) [.long (zL v0)] r32 σ ω μ := by
  by_cases q : 0 ≤ v0 ∧ v0 ≤ 8
  · obtain ⟨c1, c2, c3, c4, c5, c6, c7, c8⟩ := run_ok h.b h.s q
    have hM := k_M_run (l := l) (D := D) (ad := am) (ca := cm) μ v0 h0 h.b.imb h.s.dg h.s.h13 h.s.h15 (fun ν e => by rw [e]; exact c2)
    have e : mRunR μ v0 = fB (chS σ v0) 25 0 := by unfold mRunR; rw [if_pos q, c3]
    have em : mRun μ v0 = rn4 μ v0 := by unfold mRun; rw [if_pos q]
    rw [e, em] at hM
    have nb := c4.nb
    have hr : r32 (fB (chS σ v0) 25 0) := by omega
    exact ⟨0, _, _, _, _, 3, by decide, by decide, hr, hp_run_ok ω (h := 14) (by decide) hr (k_X_run σ v0 h0 h.b.ib h.s.s q c1), hM, c8, fun _ => up_s _ _ _ _, h.run q⟩
  · have hM := k_M_run (l := l) (D := D) (ad := am) (ca := cm) μ v0 h0 h.b.imb h.s.dg h.s.h13 h.s.h15 (fun ν e => by rw [e]; exact rn3_dig h.s.dg h.s.h15 v0)
    have e : mRunR μ v0 = 0 := by unfold mRunR; rw [if_neg q]
    have em : mRun μ v0 = up μ 0 0 1 := by unfold mRun; rw [if_neg q]
    rw [e, em] at hM
    exact ⟨1, 0, _, _, _, 3, by decide, by decide, by decide, hp_run_x1 ω (h := 6) (by decide) (t_X_run hfl σ v0 h0 q), hM, up_s _ _ _ _, fun z => absurd z (by decide), h.m0 1⟩
theorem hs_probe {σ μ : St} {v0 : Int} (h : Inv σ μ) (h0 : r32 v0) : SAI Inv l D am cm ad ca y_X_probe c_X_probe 2 (some .int) y_M_probe c_M_probe 2 (some .int) [.int (zI v0)] σ μ := by
  have nb := h.f.nb
  have n := h.f.n
  have hM := k_M_probe (l := l) (D := D) (ad := am) (ca := cm) μ v0 h0 (by rw [← n]; exact nb)
  have e : mProbe μ v0 = nthR σ 20 (σ 25 0) v0 := by
    unfold mProbe nthR
    by_cases q : 0 ≤ v0 ∧ v0 < σ 25 0
    · rw [if_pos q, if_pos (by omega), h.f.p v0 q.1 q.2]
    · rw [if_neg q, if_neg (by omega)]
  rw [e] at hM
  have i8 := h.b.ib.2.1
  refine ⟨_, σ, _, 1, 0, ⟨by decide, by decide⟩, ?_, k_X_probe σ v0 nb h0, hM, h.m0 0⟩
  show r32 (if 0 ≤ v0 ∧ v0 < σ 25 0 then σ 20 v0 else -1)
  by_cases q : 0 ≤ v0 ∧ v0 < σ 25 0
  · rw [if_pos q]; have := h.f.pb v0 q.1 q.2; omega
  · rw [if_neg q]; decide
theorem hs_proved {σ μ : St} (h : Inv σ μ) : SAI Inv l D am cm ad ca y_X_proved c_X_proved 1 (some .boolean) y_M_proved c_M_proved 1 (some .boolean) [] σ μ := by
  have hM := k_M_proved (l := l) (D := D) (ad := am) (ca := cm) μ h.f.h11 h.f.h16
  rw [← h.f.pr] at hM
  have h29 : σ 29 0 = 0 ∨ σ 29 0 = 1 := by
    rw [h.f.pr]
    split
    · exact Or.inl rfl
    · exact h.f.h16
  exact ⟨_, σ, _, 0, 0, ⟨by decide, by decide⟩, by omega, k_X_proved σ h29, hM, h.m0 0⟩
theorem moF_bd {μ : St} (h13 : ∀ k, 0 ≤ μ 13 k ∧ μ 13 k < 12) : ∀ (f : Nat) (i lf : Int), -1 ≤ moF μ f i lf ∧ moF μ f i lf < 12
  | 0, i, lf => by unfold moF; decide
  | f + 1, i, lf => by
    rw [moF_s]
    split
    · exact moF_bd h13 f _ _
    · split
      · have := h13 i; omega
      · exact moF_bd h13 f _ _
theorem hs_out {σ μ : St} {v0 : Int} (h : Inv σ μ) (h0 : r32 v0) : SAI Inv l D am cm ad ca y_X_out c_X_out 2 (some .int) y_M_out c_M_out 4 (some .int) [.int (zI v0)] σ μ := by
  have hM := k_M_out (l := l) (D := D) (ad := am) (ca := cm) μ v0 h0 h.s.h12 (fun i _ _ => by have := h.s.h15 i; omega)
  rw [← h.f.out v0] at hM
  refine ⟨_, σ, _, 1, 0, ⟨by decide, by decide⟩, ?_, k_X_out σ v0 h.f.ob h0, hM, h.m0 0⟩
  rw [h.f.out v0]
  unfold mOut
  split
  · have := moF_bd h.s.h13 (μ 12 0).toNat 0 v0; omega
  · decide
theorem hs_part {σ μ ω : St} {v0 v1 v2 v3 : Int} (hfl : l.flags = pinnedFlags ++ [noTraceFlag]) (h : Inv σ μ) (h0 : r32 v0) (h1 : r32 v1) (h2 : r64 v2) (h3 : r64 v3) : SHI Inv l D am cm ad ca ao co y_L_part c_L_part 9 [(0, 21, 24, 13), (0, 21, 28, 15)] y_M_part c_M_part 9 (some .boolean) [.int (zI v0), .int (zI v1), .long (zL v2), .long (zL v3)] b01 σ ω μ := by
  have i7 := h.b.ib.1
  have e7 := h.b.b7
  have nn := h.nets
  have cb := h.p.cb
  have hM := k_M_part (l := l) (D := D) (ad := am) (ca := cm) μ v0 v1 v2 v3 h0 h1 h2 h3 nn cb
  have throw : ∀ T : Int, mPaT μ v0 v1 v2 v3 = T → T ≠ 0 → mPart μ v0 v1 v2 v3 = up μ 0 0 T := fun T e ne => by
    unfold mPart; rw [if_neg (fun z => ne (e.symm.trans z.1)), e]
  by_cases q0 : 0 ≤ v0 ∧ v0 < σ 7 0
  · by_cases q1 : 0 ≤ v1 ∧ v1 < σ 7 0
    · by_cases g : (1 ≤ v2 ∧ v2 ≤ 1000) ∧ (v2 ≤ v3 ∧ v3 ≤ 1000)
      · have hT : mPaT μ v0 v1 v2 v3 = 0 := by unfold mPaT; rw [if_neg (by rw [← e7]; exact fun z => z ⟨q0, q1⟩), if_pos (by omega)]
        have hY : mPaY μ v0 v1 v2 v3 ↔ (¬ v0 = v1 ∧ σ 30 (prOf v0 v1) < 4) := by
          show (mPaT μ v0 v1 v2 v3 = 0 ∧ ¬ v0 = v1 ∧ ¬ μ 19 (mPr v0 v1) = 4) ↔ _
          rw [pr_eq, h.p.c]
          have := cb (mPr v0 v1)
          constructor
          · rintro ⟨-, a, b⟩; exact ⟨a, by omega⟩
          · rintro ⟨a, b⟩; exact ⟨hT, a, by omega⟩
        have e : bI (mPaY μ v0 v1 v2 v3) = bI (¬ v0 = v1 ∧ σ 30 (prOf v0 v1) < 4) := by
          by_cases z : ¬ v0 = v1 ∧ σ 30 (prOf v0 v1) < 4
          · rw [bI_t z, bI_t (hY.mpr z)]
          · rw [bI_f z, bI_f (fun w => z (hY.mp w))]
        rw [e] at hM
        have hX := k_X_part (l := l) (D := D) (ad := ad) (ca := ca) σ v0 v1 v2 v3 h0 h1 h2 h3 i7 q0 q1 g (by rw [h.p.c]; exact cb) h.p.jb
        have hI : Inv (if v0 = v1 then σ else pAdd σ v0 v1 v2 v3) (mPart μ v0 v1 v2 v3) ∧ mPart μ v0 v1 v2 v3 0 0 = 0 := by
          by_cases z : mPaY μ v0 v1 v2 v3
          · have z2 := hY.mp z
            have em : mPart μ v0 v1 v2 v3 = mPaS μ (mPr v0 v1) v2 v3 := by unfold mPart; rw [if_pos z]
            rw [em, if_neg z2.1]
            refine ⟨h.parts (h.p.add (by omega) (by omega) nn.2 z2.1 (by omega) (by omega) z.2.2) (fun g hg => pAdd_o σ _ _ _ _ g hg) (fun g a b c => ?_), ?_⟩
            · unfold mPaS; rw [up_f _ _ _ b, up_f _ _ _ c, up_f _ _ _ c, up_f _ _ _ a]
            · unfold mPaS; rw [up_o _ _ _ _ (by decide), up_o _ _ _ _ (by decide), up_o _ _ _ _ (by decide), up_s]
          · have em : mPart μ v0 v1 v2 v3 = up μ 0 0 0 := by unfold mPart; rw [if_neg z, hT]
            have es : (if v0 = v1 then σ else pAdd σ v0 v1 v2 v3) = σ := by
              by_cases y : v0 = v1
              · rw [if_pos y]
              · rw [if_neg y]; unfold pAdd
                rw [if_pos]
                have : ¬ σ 30 (prOf v0 v1) < 4 := fun w => z (hY.mpr ⟨y, w⟩)
                omega
            rw [em, es]
            exact ⟨h.m0 0, up_s _ _ _ _⟩
        exact ⟨0, _, _, _, _, 1, by decide, by decide, bI_01 _, hp_part_ok ω (h := 3) (by decide) (bI_01 _) hX, hM, hI.2, fun _ => up_s _ _ _ _, hI.1⟩
      · have hT : mPaT μ v0 v1 v2 v3 = 2 := by unfold mPaT; rw [if_neg (by rw [← e7]; exact fun z => z ⟨q0, q1⟩), if_neg (by omega)]
        rw [throw 2 hT (by decide)] at hM
        exact ⟨2, _, _, _, _, 1, by decide, by decide, bI_01 _, hp_part_x2 ω (h := 7) (by decide) (t_X_part2 hfl σ v0 v1 v2 v3 h0 h1 h2 h3 i7 q0 q1 g), hM, up_s _ _ _ _, fun z => absurd z (by decide), h.m0 2⟩
    · have hT : mPaT μ v0 v1 v2 v3 = 1 := by unfold mPaT; rw [if_pos (by rw [← e7]; exact fun z => q1 z.2)]
      rw [throw 1 hT (by decide)] at hM
      exact ⟨1, _, _, _, _, 1, by decide, by decide, bI_01 _, hp_part_x1 ω (h := 7) (by decide) (t_X_part1 hfl σ v0 v1 v2 v3 h0 h1 h2 h3 i7 q0 q1), hM, up_s _ _ _ _, fun z => absurd z (by decide), h.m0 1⟩
  · have hT : mPaT μ v0 v1 v2 v3 = 1 := by unfold mPaT; rw [if_pos (by rw [← e7]; exact fun z => q0 z.1)]
    rw [throw 1 hT (by decide)] at hM
    exact ⟨1, _, _, _, _, 1, by decide, by decide, bI_01 _, hp_part_x1 ω (h := 7) (by decide) (t_X_part0 hfl σ v0 v1 v2 v3 h0 h1 h2 h3 i7 q0), hM, up_s _ _ _ _, fun z => absurd z (by decide), h.m0 1⟩
theorem q_r64 {A g : Int} (hA : 0 ≤ A ∧ A < 4611686018427387904) (hg : 0 ≤ g) : r64 (A / g) := by
  have h1 := Int.ediv_nonneg hA.1 hg
  have h2 := Int.ediv_le_self g hA.1
  omega
theorem hs_span {σ μ ω : St} {v0 v1 v2 v3 : Int} (hfl : l.flags = pinnedFlags ++ [noTraceFlag]) (h : Inv σ μ) (h0 : r32 v0) (h1 : r32 v1) (h2 : r32 v2) (h3 : r32 v3) : SHL Inv l D am cm ad ca ao co y_L_span c_L_span 7 [(0, 13, 16, 13), (0, 13, 20, 33)] y_M_span c_M_span 17 (some .long) [.int (zI v0), .int (zI v1), .int (zI v2), .int (zI v3)] σ ω μ := by
  have i7 := h.b.ib.1
  have e7 := h.b.b7
  have nn := h.nets
  have hM := k_M_span (l := l) (D := D) (ad := am) (ca := cm) μ v0 v1 v2 v3 h0 h1 h2 h3 nn h.p.cb (fun _ he k a b => h.p.pr _ k v2 a b he.1 he.2)
  have throw : ∀ T : Int, mSpT μ v0 v1 v2 v3 = T → T ≠ 0 → mSpR μ v0 v1 v2 v3 = 0 := fun T e ne => by
    unfold mSpR; rw [if_pos (by rw [e]; exact ne)]
  by_cases q0 : 0 ≤ v0 ∧ v0 < σ 7 0
  · by_cases q1 : 0 ≤ v1 ∧ v1 < σ 7 0
    · have a12 : 0 ≤ v0 ∧ v0 < 12 := by omega
      have b12 : 0 ≤ v1 ∧ v1 < 12 := by omega
      by_cases g : (0 ≤ v2 ∧ v2 ≤ 1) ∧ (0 ≤ v3 ∧ v3 ≤ 1)
      · have hin : twoN μ v0 v1 ∧ (0 ≤ v2 ∧ v2 < 2) ∧ (0 ≤ v3 ∧ v3 < 2) := ⟨⟨by omega, by omega⟩, by omega, by omega⟩
        have hj := h.p.j v0 v1 a12 b12
        by_cases z : zB (σ 31 v0) v1
        · have z2 := hj.mp z
          have hT : mSpT μ v0 v1 v2 v3 = 0 := by
            unfold mSpT
            rw [if_neg (fun w => w hin), if_neg (fun w => w.elim z2.1 (fun x => by omega))]
          have hc : ¬ μ 19 (mPr v0 v1) = 0 := by omega
          have fr := h.p.fr (mPr v0 v1) v2 hin.2.1
          have ep : prOf v0 v1 = mPr v0 v1 := pr_eq v0 v1
          have gp : 0 ≤ mSpG μ v0 v1 v2 := Int.natCast_nonneg _
          have sv := sp_val fr.2 fr.1.1
          -- the class's sums
          have c0 : v2 = 0 → σ 34 (prOf v0 v1) = (spF μ (mPr v0 v1) v2 (μ 19 (mPr v0 v1)).toNat).2 ∧ σ 32 (prOf v0 v1) = (spF μ (mPr v0 v1) v2 (μ 19 (mPr v0 v1)).toNat).1 := fun e => by
            rw [ep, e]; exact ⟨h.p.d0 _ hc, h.p.a0 _⟩
          have c1 : v2 = 1 → σ 35 (prOf v0 v1) = (spF μ (mPr v0 v1) v2 (μ 19 (mPr v0 v1)).toNat).2 ∧ σ 33 (prOf v0 v1) = (spF μ (mPr v0 v1) v2 (μ 19 (mPr v0 v1)).toNat).1 := fun e => by
            rw [ep, e]; exact ⟨h.p.d1 _ hc, h.p.a1 _⟩
          have eR0 : v3 = 0 → mSpR μ v0 v1 v2 v3 = (spF μ (mPr v0 v1) v2 (μ 19 (mPr v0 v1)).toNat).2 / mSpG μ v0 v1 v2 := fun e => by
            unfold mSpR; rw [hT, if_neg (show ¬ ((0 : Int) ≠ 0) by decide), if_pos e]
          have eR1 : v3 = 1 → mSpR μ v0 v1 v2 v3 = (spF μ (mPr v0 v1) v2 (μ 19 (mPr v0 v1)).toNat).1 / mSpG μ v0 v1 v2 := fun e => by
            unfold mSpR; rw [hT, if_neg (show ¬ ((0 : Int) ≠ 0) by decide), if_neg (by omega)]
          have hr : r64 (mSpR μ v0 v1 v2 v3) := by
            rcases (show v3 = 0 ∨ v3 = 1 by omega) with e | e
            · rw [eR0 e]; exact q_r64 ⟨by omega, fr.1.2⟩ gp
            · rw [eR1 e]; exact q_r64 fr.2 gp
          rw [hT] at hM
          have fin : Cw l D cl7 (tyX ca) (wX ad ca) y_X_span c_X_span 5 (some .long) 3 [.ref (ad 100), .int (zI v0), .int (zI v1), .int (zI v2), .int (zI v3)] σ (RW (.long (zL (mSpR μ v0 v1 v2 v3))) (σ = ·)) := by
            rcases (show v2 = 0 ∨ v2 = 1 by omega) with e | e
            · have cc := c0 e
              rcases (show v3 = 0 ∨ v3 = 1 by omega) with e3 | e3
              · have hX := k_X_span00 (l := l) (D := D) (ad := ad) (ca := ca) σ v0 v1 h0 h1 i7 q0 q1 h.p.jb z (by rw [cc.1]; omega) (by rw [cc.2]; exact fr.2)
                rw [cc.1, cc.2, sv] at hX
                rw [eR0 e3]
                subst e e3
                exact hX
              · have hX := k_X_span01 (l := l) (D := D) (ad := ad) (ca := ca) σ v0 v1 h0 h1 i7 q0 q1 h.p.jb z (by rw [cc.1]; omega) (by rw [cc.2]; exact fr.2)
                rw [cc.1, cc.2, sv] at hX
                rw [eR1 e3]
                subst e e3
                exact hX
            · have cc := c1 e
              rcases (show v3 = 0 ∨ v3 = 1 by omega) with e3 | e3
              · have hX := k_X_span10 (l := l) (D := D) (ad := ad) (ca := ca) σ v0 v1 h0 h1 i7 q0 q1 h.p.jb z (by rw [cc.1]; omega) (by rw [cc.2]; exact fr.2)
                rw [cc.1, cc.2, sv] at hX
                rw [eR0 e3]
                subst e e3
                exact hX
              · have hX := k_X_span11 (l := l) (D := D) (ad := ad) (ca := ca) σ v0 v1 h0 h1 i7 q0 q1 h.p.jb z (by rw [cc.1]; omega) (by rw [cc.2]; exact fr.2)
                rw [cc.1, cc.2, sv] at hX
                rw [eR1 e3]
                subst e e3
                exact hX
          exact ⟨0, _, _, _, _, 1, by decide, by decide, hr, hp_span_ok ω (h := 3) (by decide) fin, hM, up_s _ _ _ _, fun _ => up_s _ _ _ _, h.m0 0⟩
        · have hT : mSpT μ v0 v1 v2 v3 = 2 := by
            unfold mSpT
            rw [if_neg (fun w => w hin), if_pos]
            by_cases y : v0 = v1
            · exact Or.inl y
            · right
              have := h.p.cb (mPr v0 v1)
              have : ¬ 0 < μ 19 (mPr v0 v1) := fun w => z (hj.mpr ⟨y, w⟩)
              omega
          rw [throw 2 hT (by decide), hT] at hM
          exact ⟨2, 0, _, _, _, 1, by decide, by decide, by decide, hp_span_x2 ω (h := 7) (by decide) (t_X_span3 hfl σ v0 v1 v2 v3 h0 h1 h2 h3 i7 q0 q1 h.p.jb g z), hM, up_s _ _ _ _, fun z => absurd z (by decide), h.m0 2⟩
      · have hT : mSpT μ v0 v1 v2 v3 = 1 := by unfold mSpT; rw [if_pos (fun w => g (by omega))]
        rw [throw 1 hT (by decide), hT] at hM
        exact ⟨1, 0, _, _, _, 1, by decide, by decide, by decide, hp_span_x1 ω (h := 7) (by decide) (t_X_span2 hfl σ v0 v1 v2 v3 h0 h1 h2 h3 i7 q0 q1 g), hM, up_s _ _ _ _, fun z => absurd z (by decide), h.m0 1⟩
    · have hT : mSpT μ v0 v1 v2 v3 = 1 := by unfold mSpT; rw [if_pos (fun w => q1 (by rw [e7]; exact w.1.2))]
      rw [throw 1 hT (by decide), hT] at hM
      exact ⟨1, 0, _, _, _, 1, by decide, by decide, by decide, hp_span_x1 ω (h := 7) (by decide) (t_X_span1 hfl σ v0 v1 v2 v3 h0 h1 h2 h3 i7 q0 q1), hM, up_s _ _ _ _, fun z => absurd z (by decide), h.m0 1⟩
  · have hT : mSpT μ v0 v1 v2 v3 = 1 := by unfold mSpT; rw [if_pos (fun w => q0 (by rw [e7]; exact w.1.1))]
    rw [throw 1 hT (by decide), hT] at hM
    exact ⟨1, 0, _, _, _, 1, by decide, by decide, by decide, hp_span_x1 ω (h := 7) (by decide) (t_X_span0 hfl σ v0 v1 v2 v3 h0 h1 h2 h3 i7 q0), hM, up_s _ _ _ _, fun z => absurd z (by decide), h.m0 1⟩
end HF
