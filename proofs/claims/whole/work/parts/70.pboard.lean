/-! the board on both sides -/
def sum12 (f : Int → Int) : Int := f 0 + f 1 + f 2 + f 3 + f 4 + f 5 + f 6 + f 7 + f 8 + f 9 + f 10 + f 11
theorem sum12_lt {f : Int → Int} (hf : ∀ i, 0 ≤ f i ∧ f i ≤ 3) {n : Int} (hn : 0 ≤ n ∧ n < 12) (h : f n < 3) : sum12 f < 36 := by
  have h0 := hf 0; have h1 := hf 1; have h2 := hf 2; have h3 := hf 3; have h4 := hf 4; have h5 := hf 5; have h6 := hf 6; have h7 := hf 7; have h8 := hf 8; have h9 := hf 9; have h10 := hf 10; have h11 := hf 11
  unfold sum12
  rcases (show n = 0 ∨ n = 1 ∨ n = 2 ∨ n = 3 ∨ n = 4 ∨ n = 5 ∨ n = 6 ∨ n = 7 ∨ n = 8 ∨ n = 9 ∨ n = 10 ∨ n = 11 by omega) with e | e | e | e | e | e | e | e | e | e | e | e <;> subst e <;> omega
theorem sum12_up {σ : St} {g : Nat} {n v : Int} (hn : 0 ≤ n ∧ n < 12) : sum12 (up σ g n v g) = sum12 (σ g) + (v - σ g n) := by
  unfold sum12
  rcases (show n = 0 ∨ n = 1 ∨ n = 2 ∨ n = 3 ∨ n = 4 ∨ n = 5 ∨ n = 6 ∨ n = 7 ∨ n = 8 ∨ n = 9 ∨ n = 10 ∨ n = 11 by omega) with e | e | e | e | e | e | e | e | e | e | e | e <;> subst e <;> simp [up] <;> omega
def IvB (σ μ : St) : Prop := (σ 0 = μ 2) ∧ (σ 1 = μ 3) ∧ (σ 2 = μ 4) ∧ (σ 3 = μ 6) ∧ (σ 4 = μ 7) ∧ (σ 5 = μ 8) ∧ (σ 6 = μ 9) ∧ (σ 7 0 = μ 1 0) ∧ (σ 8 0 = μ 5 0) ∧ (σ 9 0 = μ 10 0) ∧ (IB σ) ∧ (σ 8 0 = sum12 (σ 1)) ∧ (∀ n j, 0 ≤ n → n < 12 → 0 ≤ j → j < σ 1 n → 0 ≤ σ 2 (n * 3 + j) ∧ σ 2 (n * 3 + j) < σ 8 0) ∧ (∀ n j n' j', 0 ≤ n → n < 12 → 0 ≤ j → j < σ 1 n → 0 ≤ n' → n' < 12 → 0 ≤ j' → j' < σ 1 n' → σ 2 (n * 3 + j) = σ 2 (n' * 3 + j') → n = n' ∧ j = j')
theorem IvB.b0 {σ μ : St} (h : IvB σ μ) : σ 0 = μ 2 := h.1
theorem IvB.b1 {σ μ : St} (h : IvB σ μ) : σ 1 = μ 3 := h.2.1
theorem IvB.b2 {σ μ : St} (h : IvB σ μ) : σ 2 = μ 4 := h.2.2.1
theorem IvB.b3 {σ μ : St} (h : IvB σ μ) : σ 3 = μ 6 := h.2.2.2.1
theorem IvB.b4 {σ μ : St} (h : IvB σ μ) : σ 4 = μ 7 := h.2.2.2.2.1
theorem IvB.b5 {σ μ : St} (h : IvB σ μ) : σ 5 = μ 8 := h.2.2.2.2.2.1
theorem IvB.b6 {σ μ : St} (h : IvB σ μ) : σ 6 = μ 9 := h.2.2.2.2.2.2.1
theorem IvB.b7 {σ μ : St} (h : IvB σ μ) : σ 7 0 = μ 1 0 := h.2.2.2.2.2.2.2.1
theorem IvB.b8 {σ μ : St} (h : IvB σ μ) : σ 8 0 = μ 5 0 := h.2.2.2.2.2.2.2.2.1
theorem IvB.b9 {σ μ : St} (h : IvB σ μ) : σ 9 0 = μ 10 0 := h.2.2.2.2.2.2.2.2.2.1
theorem IvB.ib {σ μ : St} (h : IvB σ μ) : IB σ := h.2.2.2.2.2.2.2.2.2.2.1
theorem IvB.cnt {σ μ : St} (h : IvB σ μ) : σ 8 0 = sum12 (σ 1) := h.2.2.2.2.2.2.2.2.2.2.2.1
theorem IvB.pts {σ μ : St} (h : IvB σ μ) : ∀ n j, 0 ≤ n → n < 12 → 0 ≤ j → j < σ 1 n → 0 ≤ σ 2 (n * 3 + j) ∧ σ 2 (n * 3 + j) < σ 8 0 := h.2.2.2.2.2.2.2.2.2.2.2.2.1
theorem IvB.ptd {σ μ : St} (h : IvB σ μ) : ∀ n j n' j', 0 ≤ n → n < 12 → 0 ≤ j → j < σ 1 n → 0 ≤ n' → n' < 12 → 0 ≤ j' → j' < σ 1 n' → σ 2 (n * 3 + j) = σ 2 (n' * 3 + j') → n = n' ∧ j = j' := h.2.2.2.2.2.2.2.2.2.2.2.2.2
theorem IvB.imb {σ μ : St} (h : IvB σ μ) : IMB μ := by
  obtain ⟨b0, b1, b2, b3, b4, b5, b6, b7, b8, b9, ib, -⟩ := h
  unfold IB at ib
  unfold IMB
  rw [← b0, ← b1, ← b2, ← b3, ← b4, ← b5, ← b6, ← b7, ← b8, ← b9]
  exact ib
theorem IvB.of {σ μ τ ν : St} (h : IvB σ μ) (h1 : ∀ g, g < 10 → τ g = σ g) (h2 : ∀ g, 1 ≤ g → g ≤ 10 → ν g = μ g) : IvB τ ν := by
  refine ⟨?_, ?_, ?_, ?_, ?_, ?_, ?_, ?_, ?_, ?_, IB_of h1 h.ib, ?_, ?_, ?_⟩
  · rw [h1 0 (by decide), h2 2 (by decide) (by decide)]; exact h.b0
  · rw [h1 1 (by decide), h2 3 (by decide) (by decide)]; exact h.b1
  · rw [h1 2 (by decide), h2 4 (by decide) (by decide)]; exact h.b2
  · rw [h1 3 (by decide), h2 6 (by decide) (by decide)]; exact h.b3
  · rw [h1 4 (by decide), h2 7 (by decide) (by decide)]; exact h.b4
  · rw [h1 5 (by decide), h2 8 (by decide) (by decide)]; exact h.b5
  · rw [h1 6 (by decide), h2 9 (by decide) (by decide)]; exact h.b6
  · rw [h1 7 (by decide), h2 1 (by decide) (by decide)]; exact h.b7
  · rw [h1 8 (by decide), h2 5 (by decide) (by decide)]; exact h.b8
  · rw [h1 9 (by decide), h2 10 (by decide) (by decide)]; exact h.b9
  · rw [h1 8 (by decide), h1 1 (by decide)]; exact h.cnt
  · rw [h1 8 (by decide), h1 1 (by decide), h1 2 (by decide)]; exact h.pts
  · rw [h1 1 (by decide), h1 2 (by decide)]; exact h.ptd
theorem up_c {σ μ : St} {f g : Nat} {i v : Int} (h : σ f = μ g) : up σ f i v f = up μ g i v g := by
  funext j
  unfold up
  by_cases e : j = i
  · rw [if_pos ⟨rfl, e⟩, if_pos ⟨rfl, e⟩]
  · rw [if_neg (fun q => e q.2), if_neg (fun q => e q.2), h]
theorem IvB.net {σ μ : St} (h : IvB σ μ) {b : Int} (hb : b = 0 ∨ b = 1) : IvB (bNet σ b) (mNet μ b) := by
  have h7 := h.ib.1
  have e7 := h.b7
  unfold bNet mNet
  by_cases c0 : 12 ≤ σ 7 0
  · rw [if_pos c0, if_pos (by omega)]
    exact h.of (fun _ _ => rfl) (fun g h1 h2 => up_f _ _ _ (by omega))
  · rw [if_neg c0, if_neg (by omega)]
    have q1 : ∀ g, g ≠ 0 → g ≠ 7 → up (up σ 0 (σ 7 0) b) 7 0 (σ 7 0 + 1) g = σ g := fun g a b => by rw [up_f _ _ _ b, up_f _ _ _ a]
    have q2 : ∀ g, g ≠ 0 → g ≠ 2 → g ≠ 1 → up (up (up μ 0 0 0) 2 (μ 1 0) b) 1 0 (μ 1 0 + 1) g = μ g := fun g a b c => by rw [up_f _ _ _ c, up_f _ _ _ b, up_f _ _ _ a]
    have e0 : up (up σ 0 (σ 7 0) b) 7 0 (σ 7 0 + 1) 0 = up σ 0 (σ 7 0) b 0 := up_f _ _ _ (by decide)
    refine ⟨?_, ?_, ?_, ?_, ?_, ?_, ?_, ?_, ?_, ?_, ?_, ?_, ?_, ?_⟩
    · rw [e0, show up (up (up μ 0 0 0) 2 (μ 1 0) b) 1 0 (μ 1 0 + 1) 2 = up (up μ 0 0 0) 2 (μ 1 0) b 2 from up_f _ _ _ (by decide), e7]
      exact up_c (by rw [up_f μ _ _ (by decide)]; exact h.b0)
    · rw [q1 1 (by decide) (by decide), q2 3 (by decide) (by decide) (by decide)]; exact h.b1
    · rw [q1 2 (by decide) (by decide), q2 4 (by decide) (by decide) (by decide)]; exact h.b2
    · rw [q1 3 (by decide) (by decide), q2 6 (by decide) (by decide) (by decide)]; exact h.b3
    · rw [q1 4 (by decide) (by decide), q2 7 (by decide) (by decide) (by decide)]; exact h.b4
    · rw [q1 5 (by decide) (by decide), q2 8 (by decide) (by decide) (by decide)]; exact h.b5
    · rw [q1 6 (by decide) (by decide), q2 9 (by decide) (by decide) (by decide)]; exact h.b6
    · rw [up_s, up_s, e7]
    · rw [q1 8 (by decide) (by decide), q2 5 (by decide) (by decide) (by decide)]; exact h.b8
    · rw [q1 9 (by decide) (by decide), q2 10 (by decide) (by decide) (by decide)]; exact h.b9
    · obtain ⟨i7, i8, i9, i3, i4, i5, i6, i1, i2, i0⟩ := h.ib
      unfold IB
      rw [q1 8 (by decide) (by decide), q1 9 (by decide) (by decide), q1 3 (by decide) (by decide), q1 4 (by decide) (by decide), q1 5 (by decide) (by decide), q1 6 (by decide) (by decide), q1 1 (by decide) (by decide), q1 2 (by decide) (by decide), up_s, e0]
      exact ⟨by omega, i8, i9, i3, i4, i5, i6, i1, i2, up_P (P := fun z => z = 0 ∨ z = 1) _ _ _ _ hb i0⟩
    · rw [q1 8 (by decide) (by decide), q1 1 (by decide) (by decide)]; exact h.cnt
    · rw [q1 8 (by decide) (by decide), q1 1 (by decide) (by decide), q1 2 (by decide) (by decide)]; exact h.pts
    · rw [q1 1 (by decide) (by decide), q1 2 (by decide) (by decide)]; exact h.ptd
theorem IvB.full {σ μ : St} (h : IvB σ μ) {n : Int} (hn : 0 ≤ n ∧ n < σ 7 0) : (3 ≤ σ 1 n ∨ 36 ≤ σ 8 0) ↔ μ 3 n = 3 := by
  have i1 := h.ib.2.2.2.2.2.2.2.1
  have i7 := h.ib.1
  have a := i1 n
  rw [← h.b1]
  constructor
  · rintro (q | q)
    · omega
    · by_cases z : σ 1 n < 3
      · have := sum12_lt i1 (n := n) (by omega) z
        have := h.cnt
        omega
      · omega
  · intro q; exact Or.inl (by omega)
theorem IvB.p5 {σ μ : St} (h : IvB σ μ) : μ 5 0 < 36 ∨ (∀ i, 0 ≤ i → i < μ 1 0 → μ 3 i = 3) := by
  by_cases q : μ 5 0 < 36
  · exact Or.inl q
  · exact Or.inr (fun i h0 h1 => (h.full ⟨h0, by rw [h.b7]; exact h1⟩).mp (Or.inr (by rw [h.b8]; omega)))
theorem IvB.point {σ μ : St} (h : IvB σ μ) {n x y r : Int} (hn : 0 ≤ n ∧ n < σ 7 0) (hg : pGood x y r) : IvB (bPoint σ n x y r) (mPoint μ n x y r) := by
  have h7 := h.ib.1
  have e7 := h.b7
  have hf := h.full hn
  have hT : mPtT μ n x y r = 0 := by unfold mPtT; rw [if_neg (by rw [← e7]; exact fun q => q hn), if_pos hg]
  unfold bPoint mPoint
  rw [hT, if_neg (show ¬ ((0 : Int) ≠ 0) by decide)]
  by_cases c0 : 3 ≤ σ 1 n ∨ 36 ≤ σ 8 0
  · rw [if_pos c0, if_pos (hf.mp c0)]
    exact h.of (fun _ _ => rfl) (fun g h1 h2 => up_f _ _ _ (by omega))
  · rw [if_neg c0, if_neg (fun q => c0 (hf.mpr q))]
    have e8 := h.b8
    have e1 : σ 1 n = μ 3 n := by rw [h.b1]
    obtain ⟨i7, i8, i9, i3, i4, i5, i6, i1, i2, i0⟩ := h.ib
    generalize hτ : (up (up (up (up (up (up σ 3 (σ 8 0) x) 4 (σ 8 0) y) 5 (σ 8 0) r) 2 (n * 3 + σ 1 n) (σ 8 0)) 1 n (σ 1 n + 1)) 8 0 (σ 8 0 + 1)) = τ
    generalize hν : up (up (up (up (up (up (up μ 0 0 0) 6 (μ 5 0) x) 7 (μ 5 0) y) 8 (μ 5 0) r) 4 (3 * n + μ 3 n) (μ 5 0)) 3 n (μ 3 n + 1)) 5 0 (μ 5 0 + 1) = ν
    have t3 : τ 3 = up σ 3 (σ 8 0) x 3 := by subst hτ; rw [up_f _ _ _ (by decide), up_f _ _ _ (by decide), up_f _ _ _ (by decide), up_f _ _ _ (by decide), up_f _ _ _ (by decide)]
    have t4 : τ 4 = up σ 4 (σ 8 0) y 4 := by subst hτ; rw [up_f _ _ _ (by decide), up_f _ _ _ (by decide), up_f _ _ _ (by decide), up_f _ _ _ (by decide)]; exact up_c (up_f _ _ _ (by decide))
    have t5 : τ 5 = up σ 5 (σ 8 0) r 5 := by subst hτ; rw [up_f _ _ _ (by decide), up_f _ _ _ (by decide), up_f _ _ _ (by decide)]; exact up_c (by rw [up_f _ _ _ (by decide), up_f _ _ _ (by decide)])
    have t2 : τ 2 = up σ 2 (n * 3 + σ 1 n) (σ 8 0) 2 := by subst hτ; rw [up_f _ _ _ (by decide), up_f _ _ _ (by decide)]; exact up_c (by rw [up_f _ _ _ (by decide), up_f _ _ _ (by decide), up_f _ _ _ (by decide)])
    have t1 : τ 1 = up σ 1 n (σ 1 n + 1) 1 := by subst hτ; rw [up_f _ _ _ (by decide)]; exact up_c (by rw [up_f _ _ _ (by decide), up_f _ _ _ (by decide), up_f _ _ _ (by decide), up_f _ _ _ (by decide)])
    have t8 : τ 8 0 = σ 8 0 + 1 := by subst hτ; exact up_s _ _ _ _
    have to : ∀ g, g ≠ 1 → g ≠ 2 → g ≠ 3 → g ≠ 4 → g ≠ 5 → g ≠ 8 → τ g = σ g := fun g a b c d e f => by subst hτ; rw [up_f _ _ _ f, up_f _ _ _ a, up_f _ _ _ b, up_f _ _ _ e, up_f _ _ _ d, up_f _ _ _ c]
    have n6 : ν 6 = up μ 6 (μ 5 0) x 6 := by subst hν; rw [up_f _ _ _ (by decide), up_f _ _ _ (by decide), up_f _ _ _ (by decide), up_f _ _ _ (by decide), up_f _ _ _ (by decide)]; exact up_c (up_f _ _ _ (by decide))
    have n7 : ν 7 = up μ 7 (μ 5 0) y 7 := by subst hν; rw [up_f _ _ _ (by decide), up_f _ _ _ (by decide), up_f _ _ _ (by decide), up_f _ _ _ (by decide)]; exact up_c (by rw [up_f _ _ _ (by decide), up_f _ _ _ (by decide)])
    have n8 : ν 8 = up μ 8 (μ 5 0) r 8 := by subst hν; rw [up_f _ _ _ (by decide), up_f _ _ _ (by decide), up_f _ _ _ (by decide)]; exact up_c (by rw [up_f _ _ _ (by decide), up_f _ _ _ (by decide), up_f _ _ _ (by decide)])
    have n4 : ν 4 = up μ 4 (3 * n + μ 3 n) (μ 5 0) 4 := by subst hν; rw [up_f _ _ _ (by decide), up_f _ _ _ (by decide)]; exact up_c (by rw [up_f _ _ _ (by decide), up_f _ _ _ (by decide), up_f _ _ _ (by decide), up_f _ _ _ (by decide)])
    have n3 : ν 3 = up μ 3 n (μ 3 n + 1) 3 := by subst hν; rw [up_f _ _ _ (by decide)]; exact up_c (by rw [up_f _ _ _ (by decide), up_f _ _ _ (by decide), up_f _ _ _ (by decide), up_f _ _ _ (by decide), up_f _ _ _ (by decide)])
    have n5 : ν 5 0 = μ 5 0 + 1 := by subst hν; exact up_s _ _ _ _
    have no : ∀ g, g ≠ 0 → g ≠ 3 → g ≠ 4 → g ≠ 5 → g ≠ 6 → g ≠ 7 → g ≠ 8 → ν g = μ g := fun g z a b c d e f => by subst hν; rw [up_f _ _ _ c, up_f _ _ _ a, up_f _ _ _ b, up_f _ _ _ f, up_f _ _ _ e, up_f _ _ _ d, up_f _ _ _ z]
    clear hτ hν
    have hc0 : σ 1 n < 3 ∧ σ 8 0 < 36 := by omega
    have ht1 : ∀ k, τ 1 k = if k = n then σ 1 n + 1 else σ 1 k := fun k => by
      rw [t1]; unfold up
      by_cases e : k = n
      · rw [if_pos ⟨rfl, e⟩, if_pos e]
      · rw [if_neg (fun q => e q.2), if_neg e]
    have ht2 : ∀ k, τ 2 k = if k = n * 3 + σ 1 n then σ 8 0 else σ 2 k := fun k => by
      rw [t2]; unfold up
      by_cases e : k = n * 3 + σ 1 n
      · rw [if_pos ⟨rfl, e⟩, if_pos e]
      · rw [if_neg (fun q => e q.2), if_neg e]
    -- a valid place is the new one or an old one
    have val : ∀ n' j', 0 ≤ n' → n' < 12 → 0 ≤ j' → j' < τ 1 n' → (n' = n ∧ j' = σ 1 n ∧ τ 2 (n' * 3 + j') = σ 8 0) ∨ (j' < σ 1 n' ∧ ¬ (n' = n ∧ j' = σ 1 n) ∧ τ 2 (n' * 3 + j') = σ 2 (n' * 3 + j')) := by
      intro n' j' a b c d
      rw [ht1] at d
      rw [ht2]
      have i1' := i1 n'
      have i1n := i1 n
      by_cases e : n' = n
      · rw [if_pos e] at d
        by_cases f : j' = σ 1 n
        · exact Or.inl ⟨e, f, by rw [if_pos (by rw [e, f])]⟩
        · exact Or.inr ⟨by rw [e]; omega, fun q => f q.2, by rw [if_neg (by rw [e]; omega)]⟩
      · rw [if_neg e] at d
        exact Or.inr ⟨d, fun q => e q.1, by rw [if_neg (by omega)]⟩
    refine ⟨?_, ?_, ?_, ?_, ?_, ?_, ?_, ?_, ?_, ?_, ?_, ?_, ?_, ?_⟩
    · rw [to 0 (by decide) (by decide) (by decide) (by decide) (by decide) (by decide), no 2 (by decide) (by decide) (by decide) (by decide) (by decide) (by decide) (by decide)]; exact h.b0
    · rw [t1, n3, e1]; exact up_c h.b1
    · rw [t2, n4, e1, e8, show n * 3 + μ 3 n = 3 * n + μ 3 n by omega]; exact up_c h.b2
    · rw [t3, n6, e8]; exact up_c h.b3
    · rw [t4, n7, e8]; exact up_c h.b4
    · rw [t5, n8, e8]; exact up_c h.b5
    · rw [to 6 (by decide) (by decide) (by decide) (by decide) (by decide) (by decide), no 9 (by decide) (by decide) (by decide) (by decide) (by decide) (by decide) (by decide)]; exact h.b6
    · rw [to 7 (by decide) (by decide) (by decide) (by decide) (by decide) (by decide), no 1 (by decide) (by decide) (by decide) (by decide) (by decide) (by decide) (by decide)]; exact h.b7
    · rw [t8, n5, e8]
    · rw [to 9 (by decide) (by decide) (by decide) (by decide) (by decide) (by decide), no 10 (by decide) (by decide) (by decide) (by decide) (by decide) (by decide) (by decide)]; exact h.b9
    · unfold IB
      rw [to 7 (by decide) (by decide) (by decide) (by decide) (by decide) (by decide), to 9 (by decide) (by decide) (by decide) (by decide) (by decide) (by decide), to 6 (by decide) (by decide) (by decide) (by decide) (by decide) (by decide), to 0 (by decide) (by decide) (by decide) (by decide) (by decide) (by decide), t8, t3, t4, t5]
      have i1n := i1 n
      refine ⟨i7, by omega, i9, up_P (P := fun z => -1000000 ≤ z ∧ z ≤ 1000000) _ _ _ _ hg.1 i3, up_P (P := fun z => -1000000 ≤ z ∧ z ≤ 1000000) _ _ _ _ hg.2.1 i4, up_P (P := fun z => 0 ≤ z ∧ z ≤ 100000) _ _ _ _ (by omega) i5, i6, ?_, ?_, i0⟩
      · rw [t1]; exact up_P (P := fun z => 0 ≤ z ∧ z ≤ 3) _ _ _ _ (by omega) i1
      · rw [t2]; exact up_P (P := fun z => 0 ≤ z ∧ z ≤ 35) _ _ _ _ (by omega) i2
    · rw [t8, t1, sum12_up (by omega), h.cnt]; omega
    · intro n' j' a b c d
      rcases val n' j' a b c d with ⟨-, -, e⟩ | ⟨f, -, e⟩
      · rw [e, t8]; omega
      · have := h.pts n' j' a b c f
        rw [e, t8]; omega
    · intro n1 j1 n2 j2 a b c d a2 b2 c2 d2 e
      rcases val n1 j1 a b c d with ⟨f1, f2, f3⟩ | ⟨f1, f2, f3⟩ <;> rcases val n2 j2 a2 b2 c2 d2 with ⟨g1, g2, g3⟩ | ⟨g1, g2, g3⟩
      · omega
      · have := h.pts n2 j2 a2 b2 c2 g1
        omega
      · have := h.pts n1 j1 a b c f1
        omega
      · rw [f3, g3] at e
        exact h.ptd n1 j1 n2 j2 a b c f1 a2 b2 c2 g1 e
