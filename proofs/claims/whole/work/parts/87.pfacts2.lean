/-! a fact for each call: the others -/
section HG
variable {l : Launch} {D : va_G} {am : Nat → Nat} {cm : Nat → ClassId} {ad : Nat → Nat} {ca : Nat → ClassId} {ao : Nat} {co : ClassId}
theorem gdF_bd {μ : St} {a b : Int} : ∀ (f : Nat) (n lf : Int), -1 ≤ n → gdF μ a b f n lf = -1 ∨ (n ≤ gdF μ a b f n lf ∧ gdF μ a b f n lf < n + f)
  | 0, n, lf, h => Or.inl rfl
  | f + 1, n, lf, h => by
    rw [gdF_s]
    split
    · have := gdF_bd (μ := μ) (a := a) (b := b) f (n + 1) lf (by omega); omega
    · split
      · exact Or.inr (by omega)
      · have := gdF_bd (μ := μ) (a := a) (b := b) f (n + 1) (lf - 1) (by omega); omega
theorem hs_guard {σ μ ω : St} {v0 v1 v2 : Int} (hfl : l.flags = pinnedFlags ++ [noTraceFlag]) (h : Inv σ μ) (h0 : r32 v0) (h1 : r32 v1) (h2 : r32 v2) : SHI Inv l D am cm ad ca ao co y_L_guard c_L_guard 6 [(0, 12, 15, 13)] y_M_guard c_M_guard 6 (some .int) [.int (zI v0), .int (zI v1), .int (zI v2)] r32 σ ω μ := by
  have i7 := h.b.ib.1
  have e7 := h.b.b7
  have nn := h.nets
  have hM := k_M_guard (l := l) (D := D) (ad := am) (ca := cm) μ v0 v1 v2 h0 h1 h2 nn h.p.cb
  by_cases q0 : 0 ≤ v0 ∧ v0 < σ 7 0
  · by_cases q1 : 0 ≤ v1 ∧ v1 < σ 7 0
    · have two : twoN μ v0 v1 := ⟨by omega, by omega⟩
      have hg := h.p.guard nn (a := v0) (b := v1) (by omega) (by omega) v2
      have e : mGdR μ v0 v1 v2 = nbF (zAnd (σ 31 v0) (σ 31 v1)) v2 12 0 0 := by
        unfold mGdR; rw [if_neg (fun z => z two), hg]
      rw [e, if_pos two] at hM
      have hr : r32 (nbF (zAnd (σ 31 v0) (σ 31 v1)) v2 12 0 0) := by
        rw [hg]
        split
        · have := gdF_bd (μ := μ) (a := v0) (b := v1) (μ 1 0).toNat 0 v2 (by decide); omega
        · decide
      exact ⟨0, _, _, _, _, 2, by decide, by decide, hr, hp_guard_ok ω (h := 2) (by decide) hr (k_X_guard σ v0 v1 v2 h0 h1 h2 i7 q0 q1 h.p.jb), hM, up_s _ _ _ _, fun _ => up_s _ _ _ _, h.m0 0⟩
    · have two : ¬ twoN μ v0 v1 := fun z => q1 (by rw [e7]; exact z.2)
      have e : mGdR μ v0 v1 v2 = 0 := by unfold mGdR; rw [if_pos two]
      rw [e, if_neg two] at hM
      exact ⟨1, 0, _, _, _, 2, by decide, by decide, by decide, hp_guard_x1 ω (h := 7) (by decide) (t_X_guard1 hfl σ v0 v1 v2 h0 h1 h2 i7 q0 q1), hM, up_s _ _ _ _, fun z => absurd z (by decide), h.m0 1⟩
  · have two : ¬ twoN μ v0 v1 := fun z => q0 (by rw [e7]; exact z.1)
    have e : mGdR μ v0 v1 v2 = 0 := by unfold mGdR; rw [if_pos two]
    rw [e, if_neg two] at hM
    exact ⟨1, 0, _, _, _, 2, by decide, by decide, by decide, hp_guard_x1 ω (h := 7) (by decide) (t_X_guard0 hfl σ v0 v1 v2 h0 h1 h2 i7 q0), hM, up_s _ _ _ _, fun z => absurd z (by decide), h.m0 1⟩
theorem hs_fail {σ μ ω : St} {v0 : Int} (hfl : l.flags = pinnedFlags ++ [noTraceFlag]) (h : Inv σ μ) (h0 : r32 v0) : SHI Inv l D am cm ad ca ao co y_L_fail c_L_fail 4 [(0, 16, 19, 13)] y_M_fail c_M_fail 4 (some .boolean) [.int (zI v0)] b01 σ ω μ := by
  have i7 := h.b.ib.1
  have e7 := h.b.b7
  have nn := h.nets
  have o := h.r.o
  have hO : ∀ i, 0 ≤ σ 40 i ∧ σ 40 i < 4096 := h.r.ok.1
  have hM := k_M_fail (l := l) (D := D) (ad := am) (ca := cm) μ v0 h0 nn (by rw [← o]; exact hO)
  have thr : ¬ fOk μ v0 → mFail μ v0 = up μ 0 0 1 := fun z => by unfold mFail; rw [if_pos z]
  by_cases p0 : 0 ≤ v0
  · by_cases q0 : v0 / 16 < σ 7 0
    · by_cases q1 : v0 % 16 < σ 7 0
      · have ok : fOk μ v0 := ⟨p0, by omega, by omega⟩
        have e : bI (fOk μ v0 ∧ ¬ (v0 / 16 = v0 % 16 ∨ zB (μ 21 (v0 / 16)) (v0 % 16))) = bI (¬ v0 / 16 = v0 % 16 ∧ ¬ zB (σ 40 (v0 / 16)) (v0 % 16)) := bI_cg (by
          rw [o]
          exact ⟨fun z => ⟨fun w => z.2 (Or.inl w), fun w => z.2 (Or.inr w)⟩, fun z => ⟨ok, fun w => w.elim z.1 z.2⟩⟩)
        rw [e] at hM
        have hX := k_X_fail (l := l) (D := D) (ad := ad) (ca := ca) σ v0 h0 i7 hO p0 q0 q1
        have hI : Inv (if v0 / 16 = v0 % 16 ∨ zB (σ 40 (v0 / 16)) (v0 % 16) then σ else rAdd σ (v0 / 16) (v0 % 16)) (mFail μ v0) ∧ mFail μ v0 0 0 = 0 := by
          by_cases z : v0 / 16 = v0 % 16 ∨ zB (σ 40 (v0 / 16)) (v0 % 16)
          · have em : mFail μ v0 = up μ 0 0 0 := by unfold mFail; rw [if_neg (fun w => w ok), if_pos (by rw [← o]; exact z)]
            rw [em, if_pos z]
            exact ⟨h.m0 0, up_s _ _ _ _⟩
          · have hab : ¬ v0 / 16 = v0 % 16 := fun w => z (Or.inl w)
            rw [if_neg z]
            generalize hν : mFail μ v0 = ν
            have e0 : up (up μ 0 0 0) 21 (v0 / 16) (zOr (μ 21 (v0 / 16)) ((2 ^ (v0 % 16).toNat : Nat) : Int)) 21 (v0 % 16) = μ 21 (v0 % 16) := by
              rw [up_n _ _ _ (by omega), up_o _ _ _ _ (by decide)]
            have eν : ν = up (up (up μ 0 0 0) 21 (v0 / 16) (zOr (μ 21 (v0 / 16)) ((2 ^ (v0 % 16).toNat : Nat) : Int))) 21 (v0 % 16) (zOr (μ 21 (v0 % 16)) ((2 ^ (v0 / 16).toNat : Nat) : Int)) := by
              rw [← hν]; unfold mFail; rw [if_neg (fun w => w ok), if_neg (by rw [← o]; exact z), e0]
            have n21 : ν 21 = up (up μ 21 (v0 / 16) (zOr (μ 21 (v0 / 16)) ((2 ^ (v0 % 16).toNat : Nat) : Int))) 21 (v0 % 16) (zOr (μ 21 (v0 % 16)) ((2 ^ (v0 / 16).toNat : Nat) : Int)) 21 := by
              rw [eν]; exact up_c (up_c (up_f _ _ _ (by decide)))
            have no : ∀ g, g ≠ 0 → g ≠ 21 → ν g = μ g := fun g a b => by rw [eν, up_f _ _ _ b, up_f _ _ _ b, up_f _ _ _ a]
            refine ⟨h.rows (h.r.add (by omega) (by omega) nn.2 hab n21 (by rw [no 1 (by decide) (by decide)])) (fun g hg => rAdd_o σ _ _ g hg) no, ?_⟩
            rw [eν, up_o _ _ _ _ (by decide), up_o _ _ _ _ (by decide), up_s]
        exact ⟨0, _, _, _, _, 1, by decide, by decide, bI_01 _, hp_fail_ok ω (h := 2) (by decide) (bI_01 _) hX, hM, hI.2, fun _ => up_s _ _ _ _, hI.1⟩
      · rw [thr (fun z => q1 (by have := z.2.2; omega))] at hM
        exact ⟨1, _, _, _, _, 1, by decide, by decide, bI_01 _, hp_fail_x1 ω (h := 7) (by decide) (t_X_fail2 hfl σ v0 h0 i7 p0 q0 q1), hM, up_s _ _ _ _, fun z => absurd z (by decide), h.m0 1⟩
    · rw [thr (fun z => q0 (by have := z.2.1; omega))] at hM
      exact ⟨1, _, _, _, _, 1, by decide, by decide, bI_01 _, hp_fail_x1 ω (h := 7) (by decide) (t_X_fail1 hfl σ v0 h0 i7 p0 q0), hM, up_s _ _ _ _, fun z => absurd z (by decide), h.m0 1⟩
  · rw [thr (fun z => p0 z.1)] at hM
    exact ⟨1, _, _, _, _, 1, by decide, by decide, bI_01 _, hp_fail_x1 ω (h := 6) (by decide) (t_X_fail0 hfl σ v0 h0 (by omega)), hM, up_s _ _ _ _, fun z => absurd z (by decide), h.m0 1⟩
theorem Inv.cov {σ μ : St} (h : Inv σ μ) : Inv (smC σ) μ ∧ smC σ 41 0 = suS μ := by
  obtain ⟨a, b⟩ := h.r.cov h.nets
  exact ⟨h.rows a (fun g hg => smC_o σ g (by omega) (by omega) (by omega)) (fun _ _ _ => rfl), b⟩
theorem hs_suspects {σ μ : St} (h : Inv σ μ) : SAI Inv l D am cm ad ca y_X_suspects c_X_suspects 1 (some .int) y_M_suspects c_M_suspects 1 (some .int) [] σ μ := by
  have o := h.r.o
  have hM := k_M_suspects (l := l) (D := D) (ad := am) (ca := cm) μ h.nets (by rw [← o]; exact h.r.ok.1)
  obtain ⟨a, b⟩ := (h.m0 0).cov
  rw [← b] at hM
  have pb := popc_bd (smC σ 41 0)
  exact ⟨_, smC σ, _, 16, 2, ⟨by decide, by decide⟩, by omega, k_X_suspects σ h.r.ok.1 h.r.s42 h.r.s41 h.r.s43, hM, a⟩
theorem hs_suspect {σ μ ω : St} {v0 v1 : Int} (hfl : l.flags = pinnedFlags ++ [noTraceFlag]) (h : Inv σ μ) (h0 : r32 v0) (h1 : r32 v1) : SHI Inv l D am cm ad ca ao co y_L_suspect c_L_suspect 5 [(0, 10, 13, 13)] y_M_suspect c_M_suspect 6 (some .int) [.int (zI v0), .int (zI v1)] r32 σ ω μ := by
  have o := h.r.o
  have hM := k_M_suspect (l := l) (D := D) (ad := am) (ca := cm) μ v0 v1 h0 h1 h.nets (by rw [← o]; exact h.r.ok.1)
  obtain ⟨a, b⟩ := h.cov
  have sb := suS_bd h.nets
  have nb := nb_su sb v0
  rw [← b] at nb
  by_cases q : suOk μ v0 v1
  · have qk : 0 ≤ v0 ∧ v0 < popc (smC σ 41 0) := by rw [b]; exact ⟨q.1, q.2.1⟩
    rw [if_pos qk] at nb
    have kb := kb_bd sb 12 v0 0 (by decide) (by decide) q.1 (by rw [pR_0 _ sb.1]; exact q.2.1)
    rw [← b] at kb
    have hw : v1 = 0 ∨ v1 = 1 := by have := q.2.2; omega
    have hX := k_X_suspect (l := l) (D := D) (ad := ad) (ca := ca) σ v0 v1 h0 h1 h.r.ok.1 h.r.s42 h.r.s41 h.r.s43 (by rw [nb]; omega) hw
    have e : mSuR μ v0 v1 = if v1 = 0 then nbF (smC σ 41 0) v0 12 0 0 else popc (σ 40 (nbF (smC σ 41 0) v0 12 0 0)) := by
      unfold mSuR suN; rw [if_pos q, nb, b, o]
    rw [e, if_pos q] at hM
    have hr : r32 (if v1 = 0 then nbF (smC σ 41 0) v0 12 0 0 else popc (σ 40 (nbF (smC σ 41 0) v0 12 0 0))) := by
      split
      · rw [nb]; omega
      · have := popc_bd (σ 40 (nbF (smC σ 41 0) v0 12 0 0)); omega
    exact ⟨0, _, _, _, _, 2, by decide, by decide, hr, hp_suspect_ok ω (h := 16) (by decide) hr hX, hM, up_s _ _ _ _, fun _ => up_s _ _ _ _, a.m0 0⟩
  · have e : mSuR μ v0 v1 = 0 := by unfold mSuR; rw [if_neg q]
    rw [e, if_neg q] at hM
    have hx : nbF (smC σ 41 0) v0 12 0 0 = -1 ∨ ¬ (v1 = 0 ∨ v1 = 1) := by
      by_cases z : v1 = 0 ∨ v1 = 1
      · left
        rw [nb, if_neg]
        rintro ⟨x, y⟩
        rw [b] at y
        exact q ⟨x, y, by omega, by omega⟩
      · exact Or.inr z
    exact ⟨1, 0, _, _, _, 2, by decide, by decide, by decide, hp_suspect_x1 ω (h := 16) (by decide) (t_X_suspect hfl σ v0 v1 h0 h1 h.r.ok.1 h.r.s42 h.r.s41 h.r.s43 hx), hM, up_s _ _ _ _, fun z => absurd z (by decide), a.m0 1⟩
theorem hs_faults {σ μ ω : St} {v0 : Int} (hfl : l.flags = pinnedFlags ++ [noTraceFlag]) (h : Inv σ μ) (h0 : r32 v0) : SHI Inv l D am cm ad ca ao co y_L_faults c_L_faults 4 [(0, 9, 12, 13)] y_M_faults c_M_faults 2 (some .int) [.int (zI v0)] r32 σ ω μ := by
  have i7 := h.b.ib.1
  have e7 := h.b.b7
  have o := h.r.o
  have hM := k_M_faults (l := l) (D := D) (ad := am) (ca := cm) μ v0 h0 h.nets (by rw [← o]; exact h.r.ok.1)
  by_cases q : 0 ≤ v0 ∧ v0 < σ 7 0
  · have q' : 0 ≤ v0 ∧ v0 < μ 1 0 := by omega
    rw [if_pos q', if_pos q', ← o] at hM
    have pb := popc_bd (σ 40 v0)
    have hr : r32 (popc (σ 40 v0)) := by omega
    exact ⟨0, _, _, _, _, 1, by decide, by decide, hr, hp_faults_ok ω (h := 2) (by decide) hr (k_X_faults σ v0 h0 i7 q h.r.ok.1), hM, up_s _ _ _ _, fun _ => up_s _ _ _ _, h.m0 0⟩
  · have q' : ¬ (0 ≤ v0 ∧ v0 < μ 1 0) := by omega
    rw [if_neg q', if_neg q'] at hM
    exact ⟨1, 0, _, _, _, 1, by decide, by decide, by decide, hp_faults_x1 ω (h := 7) (by decide) (t_X_faults hfl σ v0 h0 i7 q), hM, up_s _ _ _ _, fun z => absurd z (by decide), h.m0 1⟩
theorem Inv.fl {σ μ : St} (h : Inv σ μ) (k : Int) (hk : -1 ≤ k ∧ k < σ 25 0) : Inv σ (flT (up μ 0 0 0) k).1 ∧ (flT (up μ 0 0 0) k).1 25 0 = flS (σ 3) (σ 4) (σ 22) (k + 1).toNat ∧ (flT (up μ 0 0 0) k).2 = if k = -1 then -1 else σ 22 k := by
  have g := h.m0 0
  obtain ⟨a1, a2, a3, a4⟩ := fl_eq (σ := σ) (μ := up μ 0 0 0) g.b.b3 g.b.b4 g.f.n g.f.nb.1 g.f.p (by rw [← g.b.b8]; exact g.f.pb) (by rw [← g.b.b8]; exact g.b.ib.2.1.2) g.s.h22 g.f.fl k hk
  exact ⟨g.mu (fun x x0 x1 _ _ x4 => a1 x x1 x4) a2, a3, a4⟩
theorem Inv.pm {σ μ : St} (h : Inv σ μ) : ∀ i, 0 ≤ i → i < μ 17 0 → 0 ≤ μ 18 i ∧ μ 18 i < 36 := fun i a b => by
  rw [← h.f.n] at b
  have := h.f.pb i a b
  have i8 := h.b.ib.2.1
  rw [← h.f.p i a b]; omega
theorem hs_fly {σ μ : St} {v0 : Int} (h : Inv σ μ) (h0 : r32 v0) : SAI Inv l D am cm ad ca y_X_fly c_X_fly 2 (some .int) y_M_fly c_M_fly 2 (some .int) [.int (zI v0)] σ μ := by
  have n := h.f.n
  have nb := h.f.nb
  have i8 := h.b.ib.2.1
  have hM := k_M_fly (l := l) (D := D) (ad := am) (ca := cm) μ v0 h0 h.b.imb (by rw [← n]; exact nb) h.pm h.s.h22
  have hX := k_X_fly (l := l) (D := D) (ad := ad) (ca := ca) σ v0 nb h0
  by_cases q : 0 ≤ v0 ∧ v0 < σ 25 0
  · have q' : 0 ≤ v0 ∧ v0 < μ 17 0 := by omega
    obtain ⟨a, -, c⟩ := h.fl v0 (by omega)
    rw [if_pos q', if_pos q', c, if_neg (by omega)] at hM
    have e : nthR σ 22 (σ 25 0) v0 = σ 22 v0 := if_pos q
    rw [e] at hX
    obtain ⟨j, j0, j1, j2⟩ := h.f.fl.1.1 v0 q.1 q.2
    have := h.f.pb j j0 j1
    exact ⟨_, σ, _, 1, 2, ⟨by decide, by decide⟩, by rw [j2]; omega, hX, hM, a⟩
  · have q' : ¬ (0 ≤ v0 ∧ v0 < μ 17 0) := by omega
    rw [if_neg q', if_neg q'] at hM
    have e : nthR σ 22 (σ 25 0) v0 = -1 := if_neg q
    rw [e] at hX
    exact ⟨_, σ, _, 1, 2, ⟨by decide, by decide⟩, by decide, hX, hM, h.m0 0⟩
theorem flS_bd {fx fy F : Int → Int} (hx : ∀ i, -1000000 ≤ fx i ∧ fx i ≤ 1000000) (hy : ∀ i, -1000000 ≤ fy i ∧ fy i ≤ 1000000) : ∀ n : Nat, 0 ≤ flS fx fy F n ∧ flS fx fy F n ≤ 2000000 * n
  | 0 => by unfold flS; decide
  | n + 1 => by
    have ih := flS_bd hx hy (F := F) n
    have a1 := hx (F n)
    have a2 := hy (F n)
    have b1 : -1000000 ≤ pX fx F n ∧ pX fx F n ≤ 1000000 := by
      unfold pX; split
      · decide
      · exact hx _
    have b2 : -1000000 ≤ pX fy F n ∧ pX fy F n ≤ 1000000 := by
      unfold pX; split
      · decide
      · exact hy _
    rw [flS_s]
    omega
theorem hs_seconds {σ μ : St} (h : Inv σ μ) : SAL Inv l D am cm ad ca y_X_seconds c_X_seconds 1 (some .long) y_M_seconds c_M_seconds 1 (some .long) [] σ μ := by
  have n := h.f.n
  have nb := h.f.nb
  have hM := k_M_seconds (l := l) (D := D) (ad := am) (ca := cm) μ h.b.imb (by rw [← n]; exact nb) h.pm h.s.h22
  obtain ⟨a, b, -⟩ := h.fl (μ 17 0 - 1) (by omega)
  have e : σ 28 0 = (flT (up μ 0 0 0) (μ 17 0 - 1)).1 25 0 := by
    rw [b, h.f.fl.2.2, n, show μ 17 0 - 1 + 1 = μ 17 0 by omega]
  rw [← e] at hM
  have bd := flS_bd (F := σ 22) h.b.ib.2.2.2.1 h.b.ib.2.2.2.2.1 (σ 25 0).toNat
  rw [← h.f.fl.2.2] at bd
  exact ⟨_, σ, _, 0, 2, ⟨by decide, by decide⟩, by omega, k_X_seconds σ, hM, a⟩
theorem hs_force {σ μ ω : St} {v0 v1 : Int} (hfl : l.flags = pinnedFlags ++ [noTraceFlag]) (h : Inv σ μ) (h0 : r32 v0) (h1 : r64 v1) : SHI Inv l D am cm ad ca ao co y_L_force c_L_force 6 [(0, 18, 21, 13), (0, 18, 25, 15)] y_M_force c_M_force 4 (some .boolean) [.int (zI v0), .long (zL v1)] b01 σ ω μ := by
  have i8 := h.b.ib.2.1
  have e8 := h.b.b8
  have i6 := h.b.ib.2.2.2.2.2.2.1
  have hM := k_M_force (l := l) (D := D) (ad := am) (ca := cm) μ v0 v1 h0 h1 h.b.imb
  have thr : ∀ T : Int, mFoT μ v0 v1 = T → T ≠ 0 → mForce μ v0 v1 = up μ 0 0 T := fun T e ne => by
    unfold mForce; rw [e, if_pos (Or.inl ne)]
  by_cases q : 0 ≤ v0 ∧ v0 < σ 8 0
  · by_cases g : 0 ≤ v1 ∧ v1 ≤ 1000000
    · have hT : mFoT μ v0 v1 = 0 := by unfold mFoT; rw [if_neg (by rw [← e8]; exact fun z => z q), if_neg (by omega)]
      have e : bI (¬ (mFoT μ v0 v1 ≠ 0 ∨ μ 9 v0 = v1)) = bI (¬ v1 = σ 6 v0) := bI_cg (by
        rw [h.b.b6]
        exact ⟨fun w z => w (Or.inr z.symm), fun w z => z.elim (fun x => x hT) (fun x => w x.symm)⟩)
      rw [e] at hM
      obtain ⟨g1, g2⟩ := h.force q g
      exact ⟨0, _, _, _, _, 1, by decide, by decide, bI_01 _, hp_force_ok ω (h := 1) (by decide) (bI_01 _) (k_X_force σ v0 v1 h0 h1 i8 (i6 v0) q g), hM, g2, fun _ => up_s _ _ _ _, g1⟩
    · have hT : mFoT μ v0 v1 = 2 := by unfold mFoT; rw [if_neg (by rw [← e8]; exact fun z => z q), if_pos (by omega)]
      rw [thr 2 hT (by decide)] at hM
      exact ⟨2, _, _, _, _, 1, by decide, by decide, bI_01 _, hp_force_x2 ω (h := 6) (by decide) (t_X_force1 hfl σ v0 v1 h0 h1 i8 q g), hM, up_s _ _ _ _, fun z => absurd z (by decide), h.m0 2⟩
  · have hT : mFoT μ v0 v1 = 1 := by unfold mFoT; rw [if_pos (by rw [← e8]; exact q)]
    rw [thr 1 hT (by decide)] at hM
    exact ⟨1, _, _, _, _, 1, by decide, by decide, bI_01 _, hp_force_x1 ω (h := 6) (by decide) (t_X_force0 hfl σ v0 v1 h0 h1 i8 q), hM, up_s _ _ _ _, fun z => absurd z (by decide), h.m0 1⟩
theorem sumF_eq {σ μ : St} (h6 : σ 6 = μ 9) (h6b : ∀ i, 0 ≤ σ 6 i ∧ σ 6 i ≤ 1000000) : ∀ n : Nat, (∀ i, 0 ≤ i → i < (n : Int) → σ 20 i = μ 18 i) → sumF σ n = mSumF μ n ∧ 0 ≤ sumF σ n ∧ sumF σ n ≤ 1000000 * n
  | 0, _ => by unfold sumF mSumF; decide
  | n + 1, h => by
    obtain ⟨a, b, c⟩ := sumF_eq h6 h6b n (fun i x y => h i x (by omega))
    have d := h6b (σ 20 n)
    show sumF σ n + σ 6 (σ 20 n) = mSumF μ n + μ 9 (μ 18 n) ∧ 0 ≤ sumF σ n + σ 6 (σ 20 n) ∧ sumF σ n + σ 6 (σ 20 n) ≤ 1000000 * ((n + 1 : Nat) : Int)
    rw [← h n (by omega) (by omega), ← h6, a]
    rw [a] at b c
    omega
theorem hs_forces {σ μ : St} (h : Inv σ μ) : SAL Inv l D am cm ad ca y_X_forces c_X_forces 1 (some .long) y_M_forces c_M_forces 4 (some .long) [] σ μ := by
  have n := h.f.n
  have nb := h.f.nb
  have i8 := h.b.ib.2.1
  have hM := k_M_forces (l := l) (D := D) (ad := am) (ca := cm) μ (by rw [← n]; exact nb) h.pm
  obtain ⟨a, b, c⟩ := sumF_eq (σ := σ) (μ := μ) h.b.b6 h.b.ib.2.2.2.2.2.2.1 (σ 25 0).toNat (fun i x y => h.f.p i x (by omega))
  rw [← n, ← a] at hM
  exact ⟨_, σ, _, 1, 0, ⟨by decide, by decide⟩, by omega, k_X_forces σ nb (fun i x y => by have := h.f.pb i x y; omega), hM, h.m0 0⟩
theorem dgF_in : ∀ (f : Nat) (r u x : Int), x ∈ dgF f r u → 0 ≤ x ∧ x < 65536
  | 0, r, u, x, h => by cases h
  | f + 1, r, u, x, h => by
    rw [dgF_s] at h
    split at h
    · rcases List.mem_cons.mp h with z | z
      · rw [z]; omega
      · exact dgF_in f r (u / 10) x z
    · cases h
theorem numL_in {z x : Int} (h : x ∈ numL z) : 0 ≤ x ∧ x < 65536 := by
  unfold numL at h
  rcases List.mem_append.mp h with w | w
  · split at w
    · rw [List.mem_singleton.mp w]; decide
    · cases w
  · exact dgF_in _ _ _ _ w
theorem lineL_in {q x y z : Int} (h : z ∈ lineL q x y) : 0 ≤ z ∧ z < 65536 := by
  unfold lineL at h
  simp only [List.mem_append, List.mem_singleton] at h
  rcases h with (((((h | h) | h) | h) | h) | h) | h
  · rw [h]; decide
  · exact numL_in h
  · rw [h]; decide
  · exact numL_in h
  · rw [h]; decide
  · exact numL_in h
  · rw [h]; decide
theorem ltr_bd {σ : St} (h : TxOk σ) {i : Int} (hi : 0 ≤ i) : r32 (ltrA σ i) := by
  unfold ltrA
  split
  · rename_i q
    have h1 := h.1.1
    have h2 := h.1.2 i.toNat (by omega)
    rw [Int.toNat_of_nonneg hi] at h2
    have h3 := List.mem_of_getElem? h2
    unfold txtL at h3
    obtain ⟨p, -, h4⟩ := List.mem_flatMap.mp h3
    have := lineL_in h4
    omega
  · decide
theorem mtF_0 (μ : St) (n : Nat) : mtF μ n 0 0 = 0 := by
  induction n with
  | zero => show up (up μ 0 0 0) 24 0 0 0 0 = 0; rw [up_o _ _ _ _ (by decide), up_s]
  | succ n ih => show snL (mtF μ n) _ 0 0 = 0; rw [snL_o _ _ 0 (by decide)]; exact ih
theorem Inv.pl {σ μ : St} (h : Inv σ μ) (k : Int) : plc μ k = nthR σ 23 (σ 25 0) k := plc_eq h.b.b3 h.b.b4 h.f.n h.f.nb.1 h.f.p h.f.so k
theorem Inv.o23 {σ μ : St} (h : Inv σ μ) {k : Int} (hk : 0 ≤ k ∧ k < σ 25 0) : 0 ≤ σ 23 k ∧ σ 23 k < 36 := by
  obtain ⟨j, j0, j1, j2⟩ := h.f.so.in hk
  have := h.f.pb j j0 j1
  have i8 := h.b.ib.2.1
  rw [j2]; omega
theorem hs_text {σ μ ω : St} {v0 : Int} (hfl : l.flags = pinnedFlags ++ [noTraceFlag]) (h : Inv σ μ) (h0 : r32 v0) : SHI Inv l D am cm ad ca ao co y_L_text c_L_text 4 [(0, 9, 12, 13)] y_M_text c_M_text 4 (some .int) [.int (zI v0)] r32 σ ω μ := by
  have n := h.f.n
  have nb := h.f.nb
  have hM := k_M_text (l := l) (D := D) (ad := am) (ca := cm) μ v0 h0 h.b.imb (by rw [← n]; exact nb) h.pm (fun ν hν k a b => by
    rw [plc_cg (fun g hg => hν g (by omega)), h.pl k, show nthR σ 23 (σ 25 0) k = σ 23 k from if_pos ⟨a, by omega⟩]
    exact h.o23 ⟨a, by omega⟩)
  by_cases q : v0 < 0
  · have e : mTxR μ v0 = 0 := by unfold mTxR; rw [if_pos q]
    have em : mTxS μ v0 = up μ 0 0 1 := by unfold mTxS; rw [if_pos q]
    rw [e, em] at hM
    exact ⟨1, 0, _, _, _, 2, by decide, by decide, by decide, hp_text_x1 ω (h := 6) (by decide) (t_X_text hfl σ v0 h0 q), hM, up_s _ _ _ _, fun z => absurd z (by decide), h.m0 1⟩
  · have em : mTxS μ v0 = mTx μ := by unfold mTxS; rw [if_neg q]
    have e := tx_eq h.b.b3 h.b.b4 n nb.1 h.f.tx (fun k a b => by rw [h.pl k, show nthR σ 23 (σ 25 0) k = σ 23 k from if_pos ⟨a, b⟩]) (i := v0) (by omega)
    rw [← e, em] at hM
    have hr := ltr_bd h.f.tx (i := v0) (by omega)
    have tl := h.f.tx
    have t1 := tl.1.1
    have t2 := tl.2
    refine ⟨0, _, _, _, _, 2, by decide, by decide, hr, hp_text_ok ω (h := 1) (by decide) hr (k_X_text σ v0 (by omega) (by omega)), hM, mtF_0 μ _, fun _ => up_s _ _ _ _, h.mu (fun g a b c d _ => mtF_o μ _ g ⟨a, c, d⟩) (fun i => ?_)⟩
    show mTx μ 22 i = 0 ∨ mTx μ 22 i = 1
    unfold mTx
    rw [mtF_o μ _ 22 (by decide)]; exact h.s.h22 i
theorem hs_order {σ μ : St} {v0 : Int} (h : Inv σ μ) (h0 : r32 v0) : SAI Inv l D am cm ad ca y_X_order c_X_order 2 (some .int) y_M_order c_M_order 2 (some .int) [.int (zI v0)] σ μ := by
  have n := h.f.n
  have nb := h.f.nb
  have hM := k_M_order (l := l) (D := D) (ad := am) (ca := cm) μ v0 h0 h.b.imb (by rw [← n]; exact nb) h.pm
  rw [(h.m0 0).pl v0] at hM
  refine ⟨_, σ, _, 1, 2, ⟨by decide, by decide⟩, ?_, k_X_order σ v0 nb h0, hM, h.m0 0⟩
  show r32 (if 0 ≤ v0 ∧ v0 < σ 25 0 then σ 23 v0 else -1)
  by_cases q : 0 ≤ v0 ∧ v0 < σ 25 0
  · rw [if_pos q]; have := h.o23 q; omega
  · rw [if_neg q]; decide
theorem hs_all (hfl : l.flags = pinnedFlags ++ [noTraceFlag]) : HS Inv l D am cm ad ca ao co :=
  ⟨fun _ _ _ h a => hs_net h a, fun _ _ _ _ _ _ _ h a b c d => hs_point hfl h a b c d, fun _ _ _ _ h a => hs_gap hfl h a, fun _ _ _ _ h a => hs_run hfl h a, fun _ _ _ h a => hs_probe h a, fun _ _ h => hs_proved h, fun _ _ _ h a => hs_out h a, fun _ _ _ _ _ _ _ h a b c d => hs_part hfl h a b c d, fun _ _ _ _ _ _ _ h a b c d => hs_span hfl h a b c d, fun _ _ _ _ _ _ h a b c => hs_guard hfl h a b c, fun _ _ _ _ h a => hs_fail hfl h a, fun _ _ h => hs_suspects h, fun _ _ _ _ _ h a b => hs_suspect hfl h a b, fun _ _ _ _ h a => hs_faults hfl h a, fun _ _ _ h a => hs_fly h a, fun _ _ h => hs_seconds h, fun _ _ _ _ _ h a b => hs_force hfl h a b, fun _ _ h => hs_forces h, fun _ _ _ _ h a => hs_text hfl h a, fun _ _ _ h a => hs_order h a⟩
end HG
