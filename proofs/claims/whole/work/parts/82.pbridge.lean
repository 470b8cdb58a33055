/-! run: both sides' choices are one -/
theorem canB_sym (σ : St) (a b : Int) : canB σ a b ↔ canB σ b a := by
  show (σ 9 0 + σ 5 a + σ 5 b) * (σ 9 0 + σ 5 a + σ 5 b) ≤ (σ 3 a - σ 3 b) * (σ 3 a - σ 3 b) + (σ 4 a - σ 4 b) * (σ 4 a - σ 4 b) ↔ (σ 9 0 + σ 5 b + σ 5 a) * (σ 9 0 + σ 5 b + σ 5 a) ≤ (σ 3 b - σ 3 a) * (σ 3 b - σ 3 a) + (σ 4 b - σ 4 a) * (σ 4 b - σ 4 a)
  rw [show σ 9 0 + σ 5 b + σ 5 a = σ 9 0 + σ 5 a + σ 5 b by omega, show σ 3 b - σ 3 a = -(σ 3 a - σ 3 b) by omega, show σ 4 b - σ 4 a = -(σ 4 a - σ 4 b) by omega, Int.neg_mul_neg, Int.neg_mul_neg]
/-- the tables of the search, beside the reference's -/
def Tb (σ : St) (τ ν : St) : Prop := (τ 17 0 = ν 12 0 ∧ 0 ≤ τ 17 0 ∧ τ 17 0 ≤ 8) ∧ (∀ k, 0 ≤ k → k < τ 17 0 → τ 10 k = ν 13 k ∧ 0 ≤ τ 10 k ∧ τ 10 k < 12 ∧ τ 11 k = σ 1 (τ 10 k) ∧ ∀ j, 0 ≤ j → j < τ 11 k → τ 12 (k * 3 + j) = σ 2 (τ 10 k * 3 + j) ∧ τ 13 (k * 3 + j) = 8000001 - σ 6 (σ 2 (τ 10 k * 3 + j))) ∧ (∀ k k', 0 ≤ k → k < k' → k' < τ 17 0 → τ 10 k < τ 10 k') ∧ (∀ g, g < 10 → τ g = σ g) ∧ (ν 3 = σ 1) ∧ (ν 4 = σ 2) ∧ (ν 6 = σ 3) ∧ (ν 7 = σ 4) ∧ (ν 8 = σ 5) ∧ (ν 9 = σ 6) ∧ (ν 10 0 = σ 9 0)
theorem Tb.k {σ : St} {τ ν : St} (h : Tb σ τ ν) : τ 17 0 = ν 12 0 ∧ 0 ≤ τ 17 0 ∧ τ 17 0 ≤ 8 := h.1
theorem Tb.n {σ : St} {τ ν : St} (h : Tb σ τ ν) : ∀ k, 0 ≤ k → k < τ 17 0 → τ 10 k = ν 13 k ∧ 0 ≤ τ 10 k ∧ τ 10 k < 12 ∧ τ 11 k = σ 1 (τ 10 k) ∧ ∀ j, 0 ≤ j → j < τ 11 k → τ 12 (k * 3 + j) = σ 2 (τ 10 k * 3 + j) ∧ τ 13 (k * 3 + j) = 8000001 - σ 6 (σ 2 (τ 10 k * 3 + j)) := h.2.1
theorem Tb.i {σ : St} {τ ν : St} (h : Tb σ τ ν) : ∀ k k', 0 ≤ k → k < k' → k' < τ 17 0 → τ 10 k < τ 10 k' := h.2.2.1
theorem Tb.b {σ : St} {τ ν : St} (h : Tb σ τ ν) : ∀ g, g < 10 → τ g = σ g := h.2.2.2.1
theorem Tb.m3 {σ : St} {τ ν : St} (h : Tb σ τ ν) : ν 3 = σ 1 := h.2.2.2.2.1
theorem Tb.m4 {σ : St} {τ ν : St} (h : Tb σ τ ν) : ν 4 = σ 2 := h.2.2.2.2.2.1
theorem Tb.m6 {σ : St} {τ ν : St} (h : Tb σ τ ν) : ν 6 = σ 3 := h.2.2.2.2.2.2.1
theorem Tb.m7 {σ : St} {τ ν : St} (h : Tb σ τ ν) : ν 7 = σ 4 := h.2.2.2.2.2.2.2.1
theorem Tb.m8 {σ : St} {τ ν : St} (h : Tb σ τ ν) : ν 8 = σ 5 := h.2.2.2.2.2.2.2.2.1
theorem Tb.m9 {σ : St} {τ ν : St} (h : Tb σ τ ν) : ν 9 = σ 6 := h.2.2.2.2.2.2.2.2.2.1
theorem Tb.m10 {σ : St} {τ ν : St} (h : Tb σ τ ν) : ν 10 0 = σ 9 0 := h.2.2.2.2.2.2.2.2.2.2
theorem tb_ap {σ τ ν : St} (h : Tb σ τ ν) (a b : Int) : mAp ν a b ↔ canB τ a b := by
  show (ν 10 0 + ν 8 a + ν 8 b) * (ν 10 0 + ν 8 a + ν 8 b) ≤ (ν 6 a - ν 6 b) * (ν 6 a - ν 6 b) + (ν 7 a - ν 7 b) * (ν 7 a - ν 7 b) ↔ (τ 9 0 + τ 5 a + τ 5 b) * (τ 9 0 + τ 5 a + τ 5 b) ≤ (τ 3 a - τ 3 b) * (τ 3 a - τ 3 b) + (τ 4 a - τ 4 b) * (τ 4 a - τ 4 b)
  rw [h.b 9 (by decide), h.b 5 (by decide), h.b 3 (by decide), h.b 4 (by decide), h.m10, h.m8, h.m6, h.m7]
theorem tb_pt {σ τ ν : St} (h : Tb σ τ ν) {k j : Int} (hk : 0 ≤ k ∧ k < τ 17 0) (hj : 0 ≤ j ∧ j < τ 11 k) (h3 : j < 3) : mPA ν k j = τ 12 (k * 3 + j) := by
  obtain ⟨n1, n2, n3, n4, n5⟩ := h.n k hk.1 hk.2
  unfold mPA
  rw [if_neg (by omega), h.m4, ← n1, (n5 j hj.1 hj.2).1, show 3 * τ 10 k + j = τ 10 k * 3 + j by omega]
theorem tb_v {σ τ ν : St} (h : Tb σ τ ν) {D : Int → Int} (hD : Dig D) : Vr ν D ↔ Vc τ D (τ 17 0) := by
  have hk := h.k
  have sz : ∀ k, 0 ≤ k → k < τ 17 0 → ν 3 (ν 13 k) = τ 11 k := fun k a b => by
    obtain ⟨n1, n2, n3, n4, n5⟩ := h.n k a b
    rw [h.m3, ← n1, n4]
  constructor
  · rintro ⟨h1, h2⟩
    have hs : ∀ k, 0 ≤ k → k < τ 17 0 → D k < 3 → 0 ≤ D k ∧ D k < τ 11 k := fun k a b c => ⟨(hD k).1, by have := h1 k a (by omega) c; rw [sz k a b] at this; exact this⟩
    refine ⟨fun k a b => ?_, fun j k a b c z1 z2 => ?_⟩
    · have := hD k
      by_cases e : D k < 3
      · exact Or.inr (hs k a b e)
      · exact Or.inl (by omega)
    · have := h2 k j a b (by omega) z2 z1
      rw [tb_pt h ⟨by omega, c⟩ (hs k (by omega) c z2) z2, tb_pt h ⟨a, by omega⟩ (hs j a (by omega) z1) z1, tb_ap h] at this
      exact (canB_sym _ _ _).mp this
  · rintro ⟨h1, h2⟩
    have hs : ∀ k, 0 ≤ k → k < τ 17 0 → D k < 3 → 0 ≤ D k ∧ D k < τ 11 k := fun k a b c => by
      rcases h1 k a b with z | z
      · omega
      · exact z
    refine ⟨fun k a b c => ?_, fun k j a b c z1 z2 => ?_⟩
    · rw [sz k a (by omega)]; exact (hs k a (by omega) c).2
    · rw [tb_pt h ⟨by omega, by omega⟩ (hs k (by omega) (by omega) z1) z1, tb_pt h ⟨a, by omega⟩ (hs j a (by omega) z2) z2, tb_ap h]
      exact (canB_sym _ _ _).mp (h2 j k a b (by omega) z2 z1)
theorem tb_w {σ τ ν : St} (h : Tb σ τ ν) (hf : ∀ i, 0 ≤ σ 6 i ∧ σ 6 i ≤ 1000000) {D : Int → Int} (hv : Vc τ D (τ 17 0)) : ∀ m : Nat, (m : Int) ≤ τ 17 0 → wo τ D m = 8000001 * (cV ν D m).1 - (cV ν D m).2 ∧ 0 ≤ (cV ν D m).2 ∧ (cV ν D m).2 ≤ m * 1000000
  | 0, _ => by unfold wo cV; simp
  | m + 1, hm => by
    obtain ⟨i1, i2, i3⟩ := tb_w h hf hv m (by omega)
    rw [wo_s, cV_s, i1]
    by_cases q : D m < 3
    · have hs : 0 ≤ D m ∧ D m < τ 11 m := by
        rcases hv.1 m (by omega) (by omega) with z | z
        · omega
        · exact z
      obtain ⟨n1, n2, n3, n4, n5⟩ := h.n m (by omega) (by omega)
      have n5 := n5 (D m) hs.1 hs.2
      have b6 := hf (σ 2 (τ 10 m * 3 + D m))
      rw [if_pos q, if_pos q, if_pos q, tb_pt h ⟨by omega, by omega⟩ hs q, h.m9, n5.1, n5.2]
      generalize (cV ν D m).1 = X at *
      generalize (cV ν D m).2 = Y at *
      generalize σ 6 (σ 2 (τ 10 m * 3 + D m)) = Z at *
      show 8000001 * X - Y + (8000001 - Z) = 8000001 * (X + 1) - (Y + Z) ∧ 0 ≤ Y + Z ∧ Y + Z ≤ ((m + 1 : Nat) : Int) * 1000000
      omega
    · rw [if_neg q, if_neg q, if_neg q]
      generalize (cV ν D m).1 = X at *
      generalize (cV ν D m).2 = Y at *
      show 8000001 * X - Y + 0 = 8000001 * (X + 0) - (Y + 0) ∧ 0 ≤ Y + 0 ∧ Y + 0 ≤ ((m + 1 : Nat) : Int) * 1000000
      omega
/-- the reference's choice is the first of the best of the class's -/
theorem tb_op {σ τ ν : St} (h : Tb σ τ ν) (hf : ∀ i, 0 ≤ σ 6 i ∧ σ 6 i ≤ 1000000) (h14 : Dig (ν 14)) (h15 : Dig (ν 15)) : Op τ ((cmT ν).1 15) := by
  have hk := h.k
  obtain ⟨c1, c2, c3, c4, c5⟩ := cm_best (μ := ν) (by omega) h14 h15
  have v0 := (tb_v h c3).mp c4
  refine ⟨c3, v0, fun D hD hv => ?_⟩
  have hvr := (tb_v h hD).mpr hv
  obtain ⟨d1, d2⟩ := c5 D hD hvr
  have e1 := tb_w h hf hv (τ 17 0).toNat (by omega)
  have e2 := tb_w h hf v0 (τ 17 0).toNat (by omega)
  rw [show (ν 12 0).toNat = (τ 17 0).toNat by omega] at d1 d2
  generalize vF ((cmT ν).1 15) (τ 17 0).toNat = V0 at *
  generalize vF D (τ 17 0).toNat = V1 at *
  generalize wo τ D (τ 17 0).toNat = W1 at *
  generalize wo τ ((cmT ν).1 15) (τ 17 0).toNat = W0 at *
  generalize hA : cV ν D (τ 17 0).toNat = A at *
  generalize hB : cV ν ((cmT ν).1 15) (τ 17 0).toNat = B at *
  obtain ⟨a1, a2⟩ := A
  obtain ⟨b1, b2⟩ := B
  simp only [bt] at d1
  simp only [] at e1 e2
  by_cases q : a1 = b1 ∧ a2 = b2
  · have := d2 (by rw [q.1, q.2])
    right
    omega
  · left
    omega
theorem rn_tb {σ μ : St} (hB : IvB σ μ) (hS : IS σ) (h13 : ∀ k, 0 ≤ μ 13 k ∧ μ 13 k < 12) {mo : Int} (hmo : 0 ≤ mo ∧ mo ≤ 8) : Tb σ (chA σ mo) (rn2 μ mo) ∧ Env0 (chA σ mo) ∧ IS (chA σ mo) ∧ (∀ g, g < 10 ∨ 20 ≤ g → chA σ mo g = σ g) ∧ (∀ g, g ≠ 0 → g ≠ 11 → g ≠ 12 → g ≠ 13 → g ≠ 16 → rn2 μ mo g = μ g) ∧ rn2 μ mo 11 0 = 1 ∧ rn2 μ mo 16 0 = bI (chA σ mo 17 0 = cntM σ (σ 7 0).toNat) ∧ rn2 μ mo 0 0 = 0 ∧ ∀ k, 0 ≤ rn2 μ mo 13 k ∧ rn2 μ mo 13 k < 12 := by
  have L := lk_run hB hS h13 hmo
  have i7 := hB.ib.1
  have Lc := L.c
  have l14 : lkN σ mo 14 = σ 14 := L.a 14 (by decide) (by decide) (by decide) (by decide) (by decide)
  obtain ⟨m1, m2⟩ := mk_run (σ := lkN σ mo) L.g.1 (by omega) (by rw [l14]; exact hS.2.2.2.2)
  have mo' : ∀ g, g ≠ 14 → chA σ mo g = lkN σ mo g := m1.1
  have r2 : ∀ g, g ≠ 16 → rn2 μ mo g = (rn1 μ mo).1 g := fun g hg => up_f _ _ _ hg
  have r0 : ∀ g, g ≠ 0 → g ≠ 11 → g ≠ 12 → g ≠ 13 → g ≠ 16 → rn2 μ mo g = μ g := fun g a b c d e => by
    rw [r2 g e, L.b g c d]
    show up (up (up μ 0 0 0) 11 0 1) 12 0 0 g = μ g
    rw [up_f _ _ _ c, up_f _ _ _ b, up_f _ _ _ a]
  have hb : ∀ g, g < 10 ∨ 20 ≤ g → chA σ mo g = σ g := fun g hg => by
    rw [mo' g (by omega)]; exact L.a g (by omega) (by omega) (by omega) (by omega) (by omega)
  have e17 : chA σ mo 17 = lkN σ mo 17 := mo' 17 (by decide)
  have e11 : chA σ mo 11 = lkN σ mo 11 := mo' 11 (by decide)
  have e12 : chA σ mo 12 = lkN σ mo 12 := mo' 12 (by decide)
  have e13 : chA σ mo 13 = lkN σ mo 13 := mo' 13 (by decide)
  have e10 : chA σ mo 10 = lkN σ mo 10 := mo' 10 (by decide)
  have k12 : rn2 μ mo 12 = (rn1 μ mo).1 12 := r2 12 (by decide)
  have k13 : rn2 μ mo 13 = (rn1 μ mo).1 13 := r2 13 (by decide)
  refine ⟨⟨?_, fun k a b => ?_, fun k k' a b c => ?_, fun g hg => hb g (Or.inl hg), ?_, ?_, ?_, ?_, ?_, ?_, ?_⟩, ⟨?_, ?_, ?_, m1.2, ?_⟩, ?_, hb, r0, ?_, ?_, ?_, ?_⟩
  · rw [e17, k12]; omega
  · rw [e17] at b
    rw [e10, e11, e12, e13, k13]
    obtain ⟨d1, d2, d3, d4, d5⟩ := L.d k a b
    exact ⟨d1, d2, by omega, d4, fun j x y => d5 j x (by rw [← d4]; exact y)⟩
  · rw [e17] at c
    rw [e10]; exact L.e k k' a b c
  · rw [r0 3 (by decide) (by decide) (by decide) (by decide) (by decide)]; exact hB.b1.symm
  · rw [r0 4 (by decide) (by decide) (by decide) (by decide) (by decide)]; exact hB.b2.symm
  · rw [r0 6 (by decide) (by decide) (by decide) (by decide) (by decide)]; exact hB.b3.symm
  · rw [r0 7 (by decide) (by decide) (by decide) (by decide) (by decide)]; exact hB.b4.symm
  · rw [r0 8 (by decide) (by decide) (by decide) (by decide) (by decide)]; exact hB.b5.symm
  · rw [r0 9 (by decide) (by decide) (by decide) (by decide) (by decide)]; exact hB.b6.symm
  · rw [r0 10 (by decide) (by decide) (by decide) (by decide) (by decide)]; exact hB.b9.symm
  · rw [e17]; omega
  · rw [e11]; exact L.g.1
  · rw [e13]; exact fun i => (L.g.2.2 i).1
  · intro k j a b c d v hv
    rw [e17] at b
    rw [e11] at d
    have := m2 k j a b c d v hv
    rw [show chA σ mo 14 = mkC (lkN σ mo) 14 from rfl, this]
    unfold Cl
    rw [e17, e11, e12]
    constructor
    · rintro ⟨x, x1, x2, x3, x4, x5⟩
      exact ⟨x, x1, x2, x3, x4, fun z => x5 ((canB_cg m1.1 _ _).mp z)⟩
    · rintro ⟨x, x1, x2, x3, x4, x5⟩
      exact ⟨x, x1, x2, x3, x4, fun z => x5 ((canB_cg m1.1 _ _).mpr z)⟩
  · refine ⟨by rw [e17]; omega, by rw [e11]; exact L.g.1, by rw [e12]; exact L.g.2.1, by rw [e13]; exact L.g.2.2, m1.2⟩
  · rw [r2 11 (by decide), L.b 11 (by decide) (by decide)]
    show up (up (up μ 0 0 0) 11 0 1) 12 0 0 11 0 = 1
    rw [up_o _ _ _ _ (by decide), up_s]
  · show up (rn1 μ mo).1 16 0 (bI ((rn1 μ mo).1 12 0 = (rn1 μ mo).2)) 16 0 = _
    rw [up_s, ← Lc.1, L.f, e17]
  · rw [r2 0 (by decide), L.b 0 (by decide) (by decide)]
    show up (up (up μ 0 0 0) 11 0 1) 12 0 0 0 0 = 0
    rw [up_o _ _ _ _ (by decide), up_o _ _ _ _ (by decide), up_s]
  · rw [k13]; exact L.h
