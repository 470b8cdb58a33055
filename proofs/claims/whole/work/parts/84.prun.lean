/-! run: all of it -/
theorem fix_ok {φ : St} (h0 : 0 ≤ fB2 φ 25 0 ∧ fB2 φ 25 0 ≤ 8) (hd : Apt (fB2 φ 20) (fB2 φ 25 0)) (hb : ∀ i, 0 ≤ i → i < fB2 φ 25 0 → 0 ≤ fB2 φ 20 i ∧ fB2 φ 20 i < 36) : (∀ g, g ≠ 22 → g ≠ 23 → g ≠ 24 → g ≠ 27 → g ≠ 28 → fB φ g = fB2 φ g) ∧ FlOk (fB φ) ∧ SoOk (fB φ) ∧ TxOk (fB φ) := by
  have f3o : ∀ g, g ≠ 22 → g ≠ 28 → fB3 φ g = fB2 φ g := fun g a b => pf_o _ _ g ⟨a, b⟩
  have f4o : ∀ g, g ≠ 23 → fB4 φ g = fB3 φ g := fun g a => so_o _ _ g a
  have f5o : ∀ g, g ≠ 24 → g ≠ 27 → fB φ g = fB4 φ g := fun g a b => wtF_o _ _ g ⟨a, b⟩
  have e325 : fB3 φ 25 = fB2 φ 25 := f3o 25 (by decide) (by decide)
  have e425 : fB4 φ 25 = fB2 φ 25 := (f4o 25 (by decide)).trans e325
  have e525 : fB φ 25 = fB2 φ 25 := (f5o 25 (by decide) (by decide)).trans e425
  have e320 : fB3 φ 20 = fB2 φ 20 := f3o 20 (by decide) (by decide)
  have e420 : fB4 φ 20 = fB2 φ 20 := (f4o 20 (by decide)).trans e320
  have e520 : fB φ 20 = fB2 φ 20 := (f5o 20 (by decide) (by decide)).trans e420
  have e33 : fB3 φ 3 = fB2 φ 3 := f3o 3 (by decide) (by decide)
  have e34 : fB3 φ 4 = fB2 φ 4 := f3o 4 (by decide) (by decide)
  have e43 : fB4 φ 3 = fB3 φ 3 := f4o 3 (by decide)
  have e44 : fB4 φ 4 = fB3 φ 4 := f4o 4 (by decide)
  have e53 : fB φ 3 = fB4 φ 3 := f5o 3 (by decide) (by decide)
  have e54 : fB φ 4 = fB4 φ 4 := f5o 4 (by decide) (by decide)
  -- the flight
  have g := pf_g (σ := fB2 φ) h0.1 hd (fB2 φ 25 0).toNat (by omega)
  obtain ⟨g1, g2, g3, g4, g5, g6⟩ := g
  have fl3 : FlOk (fB3 φ) := by
    unfold FlOk
    rw [e320, e325, e33, e34]
    exact ⟨g2, fun i m a b c => g3 i m a (by omega) b c, g6⟩
  -- the order
  have s := so_ok (σ := fB3 φ) (c := fB2 φ 25 0) (by rw [e320]; exact hd) (fB2 φ 25 0).toNat (by omega)
  have so4 : SoOk (fB4 φ) := by
    unfold SoOk
    rw [e425, e420]
    have es : fB4 φ = so (fB3 φ) (fB2 φ 25 0).toNat := by unfold fB4; rw [e325]
    have s1 := s.1
    have s2 := s.2
    rw [← es, e320] at s1
    rw [← es] at s2
    refine ⟨s1, s2.imp (fun h => ?_)⟩
    exact (befP_cg (by rw [e43]) (by rw [e43]) (by rw [e44]) (by rw [e44])).mpr h
  have so5 : SoOk (fB φ) := so4.of (by rw [e520, e420]) (f5o 23 (by decide) (by decide)) (by rw [e525, e425]) (fun i a b => by rw [e53, e54]; exact ⟨rfl, rfl⟩)
  have fl5 : FlOk (fB φ) := fl3.of (by rw [e520, e320]) ((f5o 22 (by decide) (by decide)).trans (f4o 22 (by decide))) (by rw [e525, e325]) ((f5o 28 (by decide) (by decide)).trans (f4o 28 (by decide))) (fun i a b => by rw [e53, e54, e43, e44]; exact ⟨rfl, rfl⟩) (by rw [e325]; exact h0.1)
  refine ⟨fun g a b c d e => ((f5o g c d).trans (f4o g b)).trans (f3o g a e), fl5, so5, ?_⟩
  -- the text
  have hb23 : ∀ i : Int, 0 ≤ i → i < ((fB2 φ 25 0).toNat : Int) → 0 ≤ fB4 φ 23 i ∧ fB4 φ 23 i < 36 := fun i a b => by
    obtain ⟨j, c, d, e⟩ := so4.in (k := i) ⟨a, by rw [e425]; omega⟩
    rw [e, e420]; exact hb j c (by rw [e425] at d; exact d)
  have w := wt_ok (σ := fB4 φ) (fB2 φ 25 0).toNat (by omega) hb23
  have ef : fB φ = wtF (fB4 φ) (fB2 φ 25 0).toNat := by unfold fB; rw [e425]
  have e523 : fB φ 23 = fB4 φ 23 := f5o 23 (by decide) (by decide)
  have hl := txtL_len (fB4 φ 3) (fB4 φ 4) (fL (fB4 φ 23) (fB2 φ 25 0).toNat) (fun q hq => by
    obtain ⟨i, i0, i1, ei⟩ := fL_mem.mp hq
    rw [ei]; exact hb23 i i0 i1)
  rw [fL_len] at hl
  unfold TxOk
  rw [e523, e525, e53, e54]
  refine ⟨?_, by omega⟩
  rw [ef]
  exact w
theorem run_ok {σ μ : St} (hB : IvB σ μ) (hS : IvS σ μ) {mo : Int} (hmo : 0 ≤ mo ∧ mo ≤ 8) :
    (∀ i, 0 ≤ i → i < chS σ mo 17 0 → chS σ mo 16 i = -1 ∨ (0 ≤ chS σ mo 16 i ∧ chS σ mo 16 i < 36)) ∧ Dig (rn3 μ mo 15) ∧ fB (chS σ mo) 25 0 = rn4 μ mo 17 0 ∧ IvF (fB (chS σ mo)) (rn4 μ mo) ∧ IvS (fB (chS σ mo)) (rn4 μ mo) ∧ (∀ g, g < 10 ∨ 30 ≤ g → fB (chS σ mo) g = σ g) ∧ (∀ g, (1 ≤ g ∧ g ≤ 10) ∨ 19 ≤ g → rn4 μ mo g = μ g) ∧ rn4 μ mo 0 0 = 0 := by
  obtain ⟨tb, en, is, bo, ro, r11, r16, r00, r13⟩ := rn_tb hB hS.s hS.h13 hmo
  have n14 : rn2 μ mo 14 = μ 14 := ro 14 (by decide) (by decide) (by decide) (by decide) (by decide)
  have n15 : rn2 μ mo 15 = μ 15 := ro 15 (by decide) (by decide) (by decide) (by decide) (by decide)
  have hop : Op (chA σ mo) (rn3 μ mo 15) := tb_op tb hB.ib.2.2.2.2.2.2.1 (by rw [n14]; exact hS.dg) (by rw [n15]; exact hS.h15)
  have hk := tb.k
  obtain ⟨c1, c2, c3, -, -⟩ := cm_best (μ := rn2 μ mo) (by omega) (by rw [n14]; exact hS.dg) (by rw [n15]; exact hS.h15)
  have hsd : Sd (rn2 μ mo) (rn3 μ mo) := c1
  have c2' : Dig (rn3 μ mo 14) := c2
  clear c1 c2 c3
  have hdr := ds_run en hop
  generalize hφ : chS σ mo = φ
  have eφ : φ = ds (chA σ mo 17 0).toNat (up (chA σ mo) 18 0 (wp0 (chA σ mo) - 1)) 0 0 0 := hφ.symm
  rw [← eφ] at hdr
  have kk := ds_keep (chA σ mo 17 0).toNat (up (chA σ mo) 18 0 (wp0 (chA σ mo) - 1)) 0 0 0
  have φo : ∀ g, g ≠ 15 → g ≠ 16 → g ≠ 18 → φ g = chA σ mo g := fun g a b c => by rw [eφ, kk.1 g a b c, up_f _ _ _ c]
  clear kk eφ hφ
  generalize hτ : chA σ mo = τ at *
  generalize hν2 : rn2 μ mo = ν2 at *
  generalize hν3 : rn3 μ mo = ν3 at *
  generalize ho : ν3 15 = o at *
  have od := hop.1
  have ov := hop.2.1
  have φ17 : φ 17 = τ 17 := φo 17 (by decide) (by decide) (by decide)
  have φ10 : φ 10 = τ 10 := φo 10 (by decide) (by decide) (by decide)
  have is12 := is.2.2.1
  have hsl : ∀ k, 0 ≤ k → k < τ 17 0 → o k < 3 → 0 ≤ o k ∧ o k < τ 11 k := fun k a b c => by
    rcases ov.1 k a b with z | z
    · omega
    · exact z
  -- the points of the choice
  generalize hp : (fun k : Int => τ 12 (k * 3 + o k)) = p
  have hpk : ∀ k, p k = τ 12 (k * 3 + o k) := fun k => by rw [← hp]
  have pin : ∀ k, 0 ≤ k → k < τ 17 0 → o k < 3 → p k = σ 2 (τ 10 k * 3 + o k) ∧ 0 ≤ τ 10 k ∧ τ 10 k < 12 ∧ 0 ≤ o k ∧ o k < σ 1 (τ 10 k) := fun k a b c => by
    obtain ⟨x1, x2, x3, x4, x5⟩ := tb.n k a b
    have s := hsl k a b c
    exact ⟨by rw [hpk]; exact (x5 (o k) s.1 s.2).1, x2, x3, s.1, by rw [← x4]; exact s.2⟩
  have dis : ∀ k k', 0 ≤ k → k < k' → k' < τ 17 0 → o k < 3 → o k' < 3 → ¬ p k = p k' := fun k k' a b c d e f => by
    obtain ⟨x1, x2, x3, x4, x5⟩ := pin k a (by omega) d
    obtain ⟨y1, y2, y3, y4, y5⟩ := pin k' (by omega) c e
    rw [x1, y1] at f
    have := hB.ptd _ _ _ _ x2 x3 x4 x5 y2 y3 y4 y5 f
    have := tb.i k k' a b c
    omega
  have φ116 : fB1 φ 16 = φ 16 := up_f _ _ _ (by decide)
  have φ110 : fB1 φ 10 = τ 10 := (up_f _ _ _ (by decide)).trans φ10
  have h16 : ∀ k, 0 ≤ k → k < τ 17 0 → fB1 φ 16 k = if o k = 3 then -1 else p k := fun k a b => by rw [φ116, hdr k a b, hpk]
  have e317 : ν3 12 0 = τ 17 0 := by rw [hsd 12 (by decide) (by decide)]; omega
  have hT := tk_rp (φ := fB1 φ) (ν := ν3) (o := o) (p := p) (K := τ 17 0) h16 (fun k a b => by rw [ho]) od (fun k a b c => by
    refine ⟨by rw [hpk]; exact (is12 _).1, ?_⟩
    rw [mPA_cg hsd, hpk]
    exact tb_pt tb ⟨a, b⟩ (hsl k a b c) c) dis (τ 17 0).toNat (by omega)
  have e2 : fB2 φ = tk (fB1 φ) (τ 17 0).toNat := by unfold fB2; rw [φ17]
  have er4 : rn4 μ mo = rpF ν3 (τ 17 0).toNat := by unfold rn4; rw [hν3, e317]
  have bd := tk_bd (fB1 φ) (τ 17 0).toNat
  unfold Tk at hT
  rw [← e2, ← er4] at hT
  rw [← e2] at bd
  obtain ⟨T1, T2, T3⟩ := hT
  have f2o : ∀ g, g ≠ 20 → g ≠ 21 → g ≠ 25 → g ≠ 26 → g ≠ 29 → fB2 φ g = φ g := fun g a b c d e => by
    rw [e2, tk_o _ _ g ⟨a, b, c, d⟩]; exact up_f _ _ _ e
  have r4o : ∀ g, g ≠ 17 → g ≠ 18 → rn4 μ mo g = ν3 g := fun g a b => by rw [er4]; exact rpF_o _ _ g ⟨a, b⟩
  -- the probes are points of the board
  have hpb : ∀ i, 0 ≤ i → i < fB2 φ 25 0 → 0 ≤ fB2 φ 20 i ∧ fB2 φ 20 i < σ 8 0 := fun i a b => by
    obtain ⟨-, k, k0, k1, k2, k3⟩ := T2 i a b
    obtain ⟨x1, x2, x3, x4, x5⟩ := pin k k0 (by omega) k2
    rw [k3, x1]
    exact hB.pts _ _ x2 x3 x4 x5
  have i8 := hB.ib.2.1
  obtain ⟨fo, hfl, hso, htx⟩ := fix_ok (φ := φ) (by omega) T3 (fun i a b => by have := hpb i a b; omega)
  have ψ25 : fB φ 25 = fB2 φ 25 := fo 25 (by decide) (by decide) (by decide) (by decide) (by decide)
  have ψ20 : fB φ 20 = fB2 φ 20 := fo 20 (by decide) (by decide) (by decide) (by decide) (by decide)
  have ψ21 : fB φ 21 = fB2 φ 21 := fo 21 (by decide) (by decide) (by decide) (by decide) (by decide)
  have ψ26 : fB φ 26 = fB2 φ 26 := fo 26 (by decide) (by decide) (by decide) (by decide) (by decide)
  have ψo : ∀ g, g < 20 ∨ 30 ≤ g → fB φ g = φ g := fun g hg => by
    rw [fo g (by omega) (by omega) (by omega) (by omega) (by omega), f2o g (by omega) (by omega) (by omega) (by omega) (by omega)]
  have ψb : ∀ g, g < 10 ∨ 30 ≤ g → fB φ g = σ g := fun g hg => by
    rw [ψo g (by omega), φo g (by omega) (by omega) (by omega)]; exact bo g (by omega)
  have h11 : rn4 μ mo 11 0 = 1 := by rw [r4o 11 (by decide) (by decide), hsd 11 (by decide) (by decide)]; exact r11
  have h16' : rn4 μ mo 16 0 = bI (τ 17 0 = cntM σ (σ 7 0).toNat) := by rw [r4o 16 (by decide) (by decide), hsd 16 (by decide) (by decide)]; exact r16
  refine ⟨fun i a b => ?_, od, by rw [ψ25]; exact T1, ?_, ?_, ψb, fun g hg => ?_, ?_⟩
  · rw [φ17] at b
    rw [hdr i a b]
    split
    · exact Or.inl rfl
    · right
      have := is12 (i * 3 + o i)
      omega
  · refine ⟨by rw [ψ25]; exact T1, by rw [ψ25]; omega, ?_, ?_, by rw [ψ25, ψ20]; exact T3, Or.inr h11, by rw [h16']; exact bI_01 _, ?_, by rw [ψ26]; omega, fun k => ?_, hfl, hso, htx⟩
    · rw [ψ25, ψ20]; exact fun i a b => (T2 i a b).1
    · rw [ψ25, ψ20, ψb 8 (by decide)]; exact hpb
    · rw [h11, if_neg (by decide), h16', fo 29 (by decide) (by decide) (by decide) (by decide) (by decide), e2, tk_o _ _ 29 (by decide)]
      show up φ 29 0 (bI (φ 17 0 = cntM φ (φ 7 0).toNat)) 29 0 = _
      have φ0 : φ 0 = σ 0 := (φo 0 (by decide) (by decide) (by decide)).trans (bo 0 (by decide))
      have φ7 : φ 7 = σ 7 := (φo 7 (by decide) (by decide) (by decide)).trans (bo 7 (by decide))
      rw [up_s, φ17, φ7, cntM_cg φ0]
    · -- the nets left out
      rw [ψ26]
      show (if 0 ≤ k ∧ k < fB2 φ 26 0 then fB φ 21 k else -1) = _
      rw [ψ21]
      have hout := fun lf hlf => tk_out (φ := fB1 φ) (ν := ν3) (o := o) (K := (τ 17 0).toNat) (fun k a b => by
        rw [h16 k a (by omega)]
        by_cases z : o k = 3
        · rw [if_pos z]; exact ⟨fun _ => z, fun _ => rfl⟩
        · rw [if_neg z]
          refine ⟨fun w => ?_, fun w => absurd w z⟩
          have := is12 (k * 3 + o k)
          rw [hpk] at w
          omega) (fun k a b => by rw [ho]) od (fun k a b => by
        rw [φ110, hsd 13 (by decide) (by decide)]
        exact (tb.n k a (by omega)).1) (τ 17 0).toNat 0 lf (by omega) hlf
      rw [mOut_cg (μ := ν3) (fun g hg => r4o g (by omega) (by omega))]
      unfold mOut
      by_cases z : 0 ≤ k
      · rw [if_pos z, e317]
        have h2 := hout k z
        have e0 : tk (fB1 φ) 0 26 0 = 0 := by
          show up (up (fB1 φ) 25 0 0) 26 0 0 26 0 = 0
          exact up_s _ _ _ _
        rw [e0, Int.zero_add, ← e2] at h2
        rw [show ((0 : Nat) : Int) = 0 from rfl] at h2
        exact h2.symm
      · rw [if_neg z, if_neg (fun w => z w.1)]
  · refine ⟨IS_of (σ := τ) (fun g hg => by rw [ψo g (by omega), φo g (by omega) (by omega) (by omega)]) is, ?_, ?_, ?_, ?_, ?_⟩
    · rw [r4o 14 (by decide) (by decide)]; exact c2'
    · rw [r4o 13 (by decide) (by decide), hsd 13 (by decide) (by decide)]; exact r13
    · rw [r4o 15 (by decide) (by decide), ho]; exact od
    · rw [r4o 12 (by decide) (by decide), e317]; omega
    · rw [r4o 22 (by decide) (by decide), hsd 22 (by decide) (by decide), ro 22 (by decide) (by decide) (by decide) (by decide) (by decide)]; exact hS.h22
  · rw [r4o g (by omega) (by omega), hsd g (by omega) (by omega)]
    exact ro g (by omega) (by omega) (by omega) (by omega) (by omega)
  · rw [r4o 0 (by decide) (by decide), hsd 0 (by decide) (by decide)]; exact r00
