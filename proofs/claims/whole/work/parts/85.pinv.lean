/-! both sides together: the invariant -/
def Inv (σ μ : St) : Prop := (IvB σ μ) ∧ (IvS σ μ) ∧ (IvF σ μ) ∧ (IvP σ μ) ∧ (IvR σ μ)
theorem Inv.b {σ μ : St} (h : Inv σ μ) : IvB σ μ := h.1
theorem Inv.s {σ μ : St} (h : Inv σ μ) : IvS σ μ := h.2.1
theorem Inv.f {σ μ : St} (h : Inv σ μ) : IvF σ μ := h.2.2.1
theorem Inv.p {σ μ : St} (h : Inv σ μ) : IvP σ μ := h.2.2.2.1
theorem Inv.r {σ μ : St} (h : Inv σ μ) : IvR σ μ := h.2.2.2.2
theorem Inv.nets {σ μ : St} (h : Inv σ μ) : 0 ≤ μ 1 0 ∧ μ 1 0 ≤ 12 := by have := h.b.ib.1; rw [h.b.b7] at this; exact this
/-- only the reference's own scratch changes -/
theorem Inv.mu {σ μ ν : St} (h : Inv σ μ) (hν : ∀ g, g ≠ 0 → g ≠ 22 → g ≠ 23 → g ≠ 24 → g ≠ 25 → ν g = μ g) (h22 : ∀ i, ν 22 i = 0 ∨ ν 22 i = 1) : Inv σ ν :=
  ⟨h.b.of (fun _ _ => rfl) (fun g a b => hν g (by omega) (by omega) (by omega) (by omega) (by omega)), h.s.of (fun _ _ => rfl) (fun g a b => hν g (by omega) (by omega) (by omega) (by omega) (by omega)) h22, h.f.of (fun _ _ _ => rfl) (fun g hg => hν g (by omega) (by omega) (by omega) (by omega) (by omega)) (Int.le_refl _) (fun _ _ _ => ⟨rfl, rfl⟩), h.p.of (fun _ _ _ => rfl) (fun g hg => hν g (by omega) (by omega) (by omega) (by omega) (by omega)) (by rw [hν 1 (by decide) (by decide) (by decide) (by decide) (by decide)]; exact Int.le_refl _), h.r.of (fun _ _ _ => rfl) (hν 21 (by decide) (by decide) (by decide) (by decide) (by decide)) (by rw [hν 1 (by decide) (by decide) (by decide) (by decide) (by decide)]; exact Int.le_refl _)⟩
theorem Inv.m0 {σ μ : St} (h : Inv σ μ) (v : Int) : Inv σ (up μ 0 0 v) := h.mu (fun g a _ _ _ _ => up_f _ _ _ a) (fun i => by rw [up_o _ _ _ _ (by decide)]; exact h.s.h22 i)
/-- the board changes -/
theorem Inv.board {σ μ τ ν : St} (h : Inv σ μ) (hb : IvB τ ν) (hσ : ∀ g, 10 ≤ g → τ g = σ g) (hμ : ∀ g, 11 ≤ g → ν g = μ g) (h1 : μ 1 0 ≤ ν 1 0) (h8 : σ 8 0 ≤ τ 8 0) (hx : ∀ q, 0 ≤ q → q < σ 8 0 → τ 3 q = σ 3 q ∧ τ 4 q = σ 4 q) : Inv τ ν :=
  ⟨hb, h.s.of (fun g hg => hσ g (by omega)) (fun g a b => hμ g (by omega)) (by rw [hμ 22 (by decide)]; exact h.s.h22), h.f.of (fun g a b => hσ g (by omega)) (fun g hg => hμ g (by omega)) h8 hx, h.p.of (fun g a b => hσ g (by omega)) (fun g hg => hμ g (by omega)) h1, h.r.of (fun g a b => hσ g (by omega)) (hμ 21 (by decide)) h1⟩
theorem IvB.gap {σ μ ν : St} (h : IvB σ μ) {v : Int} (hv : 0 ≤ v ∧ v ≤ 1000000) (h1 : ν 10 0 = v) (h2 : ∀ g, 1 ≤ g → g ≤ 9 → ν g = μ g) : IvB (up σ 9 0 v) ν := by
  have t : ∀ g, g ≠ 9 → up σ 9 0 v g = σ g := fun g hg => up_f _ _ _ hg
  refine ⟨?_, ?_, ?_, ?_, ?_, ?_, ?_, ?_, ?_, ?_, ?_, ?_, ?_, ?_⟩
  · rw [t 0 (by decide), h2 2 (by decide) (by decide)]; exact h.b0
  · rw [t 1 (by decide), h2 3 (by decide) (by decide)]; exact h.b1
  · rw [t 2 (by decide), h2 4 (by decide) (by decide)]; exact h.b2
  · rw [t 3 (by decide), h2 6 (by decide) (by decide)]; exact h.b3
  · rw [t 4 (by decide), h2 7 (by decide) (by decide)]; exact h.b4
  · rw [t 5 (by decide), h2 8 (by decide) (by decide)]; exact h.b5
  · rw [t 6 (by decide), h2 9 (by decide) (by decide)]; exact h.b6
  · rw [t 7 (by decide), h2 1 (by decide) (by decide)]; exact h.b7
  · rw [t 8 (by decide), h2 5 (by decide) (by decide)]; exact h.b8
  · rw [up_s, h1]
  · obtain ⟨i7, i8, i9, i3, i4, i5, i6, i1, i2, i0⟩ := h.ib
    unfold IB
    rw [t 7 (by decide), t 8 (by decide), up_s, t 3 (by decide), t 4 (by decide), t 5 (by decide), t 6 (by decide), t 1 (by decide), t 2 (by decide), t 0 (by decide)]
    exact ⟨i7, i8, hv, i3, i4, i5, i6, i1, i2, i0⟩
  · rw [t 8 (by decide), t 1 (by decide)]; exact h.cnt
  · rw [t 8 (by decide), t 1 (by decide), t 2 (by decide)]; exact h.pts
  · rw [t 1 (by decide), t 2 (by decide)]; exact h.ptd
theorem IvB.force {σ μ ν : St} (h : IvB σ μ) {a v : Int} (hv : 0 ≤ v ∧ v ≤ 1000000) (h1 : ν 9 = up μ 9 a v 9) (h2 : ∀ g, 1 ≤ g → g ≤ 10 → g ≠ 9 → ν g = μ g) : IvB (up σ 6 a v) ν := by
  have t : ∀ g, g ≠ 6 → up σ 6 a v g = σ g := fun g hg => up_f _ _ _ hg
  refine ⟨?_, ?_, ?_, ?_, ?_, ?_, ?_, ?_, ?_, ?_, ?_, ?_, ?_, ?_⟩
  · rw [t 0 (by decide), h2 2 (by decide) (by decide) (by decide)]; exact h.b0
  · rw [t 1 (by decide), h2 3 (by decide) (by decide) (by decide)]; exact h.b1
  · rw [t 2 (by decide), h2 4 (by decide) (by decide) (by decide)]; exact h.b2
  · rw [t 3 (by decide), h2 6 (by decide) (by decide) (by decide)]; exact h.b3
  · rw [t 4 (by decide), h2 7 (by decide) (by decide) (by decide)]; exact h.b4
  · rw [t 5 (by decide), h2 8 (by decide) (by decide) (by decide)]; exact h.b5
  · rw [h1]; exact up_c h.b6
  · rw [t 7 (by decide), h2 1 (by decide) (by decide) (by decide)]; exact h.b7
  · rw [t 8 (by decide), h2 5 (by decide) (by decide) (by decide)]; exact h.b8
  · rw [t 9 (by decide), h2 10 (by decide) (by decide) (by decide)]; exact h.b9
  · obtain ⟨i7, i8, i9, i3, i4, i5, i6, i1, i2, i0⟩ := h.ib
    unfold IB
    rw [t 7 (by decide), t 8 (by decide), t 9 (by decide), t 3 (by decide), t 4 (by decide), t 5 (by decide), t 1 (by decide), t 2 (by decide), t 0 (by decide)]
    exact ⟨i7, i8, i9, i3, i4, i5, up_P (P := fun z => 0 ≤ z ∧ z ≤ 1000000) _ _ _ _ hv i6, i1, i2, i0⟩
  · rw [t 8 (by decide), t 1 (by decide)]; exact h.cnt
  · rw [t 8 (by decide), t 1 (by decide), t 2 (by decide)]; exact h.pts
  · rw [t 1 (by decide), t 2 (by decide)]; exact h.ptd
theorem bNet_o (σ : St) (b : Int) (g : Nat) (h : g ≠ 0 ∧ g ≠ 7) : bNet σ b g = σ g := by
  unfold bNet; split
  · rfl
  · rw [up_f _ _ _ h.2, up_f _ _ _ h.1]
theorem mNet_o (μ : St) (b : Int) (g : Nat) (h : g ≠ 0 ∧ g ≠ 1 ∧ g ≠ 2) : mNet μ b g = μ g := by
  unfold mNet; split
  · rw [up_f _ _ _ h.1]
  · rw [up_f _ _ _ h.2.1, up_f _ _ _ h.2.2, up_f _ _ _ h.1]
theorem mNet_1 (μ : St) (b : Int) : μ 1 0 ≤ mNet μ b 1 0 := by
  unfold mNet; split
  · rw [up_o _ _ _ _ (by decide)]; exact Int.le_refl _
  · rw [up_s]; omega
theorem Inv.net {σ μ : St} (h : Inv σ μ) {b : Int} (hb : b = 0 ∨ b = 1) : Inv (bNet σ b) (mNet μ b) :=
  h.board (h.b.net hb) (fun g hg => bNet_o σ b g (by omega)) (fun g hg => mNet_o μ b g (by omega)) (mNet_1 μ b) (by rw [bNet_o σ b 8 (by decide)]; exact Int.le_refl _) (fun q _ _ => by rw [bNet_o σ b 3 (by decide), bNet_o σ b 4 (by decide)]; exact ⟨rfl, rfl⟩)
theorem bPoint_o (σ : St) (n x y r : Int) (g : Nat) (h : 10 ≤ g) : bPoint σ n x y r g = σ g := by
  unfold bPoint; split
  · rfl
  · rw [up_f _ _ _ (by omega), up_f _ _ _ (by omega), up_f _ _ _ (by omega), up_f _ _ _ (by omega), up_f _ _ _ (by omega), up_f _ _ _ (by omega)]
theorem mPoint_o (μ : St) (n x y r : Int) (g : Nat) (h : 9 ≤ g ∨ g = 1) : mPoint μ n x y r g = μ g := by
  unfold mPoint; split
  · rw [up_f _ _ _ (by omega)]
  · split
    · rw [up_f _ _ _ (by omega)]
    · rw [up_f _ _ _ (by omega), up_f _ _ _ (by omega), up_f _ _ _ (by omega), up_f _ _ _ (by omega), up_f _ _ _ (by omega), up_f _ _ _ (by omega), up_f _ _ _ (by omega)]
theorem mPoint_0 (μ : St) (n x y r : Int) : mPoint μ n x y r 0 0 = mPtT μ n x y r := by
  unfold mPoint
  by_cases q : mPtT μ n x y r ≠ 0
  · rw [if_pos q, up_s]
  · rw [if_neg q]
    have q' : mPtT μ n x y r = 0 := by omega
    split
    · rw [up_s, q']
    · rw [up_o _ _ _ _ (by decide), up_o _ _ _ _ (by decide), up_o _ _ _ _ (by decide), up_o _ _ _ _ (by decide), up_o _ _ _ _ (by decide), up_o _ _ _ _ (by decide), up_s, q']
theorem Inv.point {σ μ : St} (h : Inv σ μ) {n x y r : Int} (hn : 0 ≤ n ∧ n < σ 7 0) (hg : pGood x y r) : Inv (bPoint σ n x y r) (mPoint μ n x y r) := by
  refine h.board (h.b.point hn hg) (fun g hg => bPoint_o σ n x y r g hg) (fun g hg => mPoint_o μ n x y r g (by omega)) (by rw [mPoint_o μ n x y r 1 (Or.inr rfl)]; exact Int.le_refl _) ?_ (fun q q0 q1 => ?_)
  · unfold bPoint; split
    · exact Int.le_refl _
    · rw [up_s]; omega
  · unfold bPoint; split
    · exact ⟨rfl, rfl⟩
    · constructor
      · rw [up_o _ _ _ _ (by decide), up_o _ _ _ _ (by decide), up_o _ _ _ _ (by decide), up_o _ _ _ _ (by decide), up_o _ _ _ _ (by decide), up_n _ _ _ (by omega)]
      · rw [up_o _ _ _ _ (by decide), up_o _ _ _ _ (by decide), up_o _ _ _ _ (by decide), up_o _ _ _ _ (by decide), up_n _ _ _ (by omega), up_o _ _ _ _ (by decide)]
theorem Inv.gap {σ μ : St} (h : Inv σ μ) {v : Int} (hv : 0 ≤ v ∧ v ≤ 1000000) : Inv (up σ 9 0 v) (mGap μ v) ∧ mGap μ v 0 0 = 0 := by
  have hT : mGapT v = 0 := by unfold mGapT; rw [if_neg (by omega)]
  have e : ∀ g, g ≠ 0 → g ≠ 10 → mGap μ v g = μ g := fun g a b => by
    unfold mGap; split
    · rw [up_f _ _ _ a]
    · rw [up_f _ _ _ b, up_f _ _ _ a]
  have e10 : mGap μ v 10 0 = v := by
    unfold mGap; split
    · rename_i q
      rw [up_o _ _ _ _ (by decide)]
      rcases q with q | q
      · exact absurd hT q
      · exact q
    · rw [up_s]
  refine ⟨h.board (h.b.gap hv e10 (fun g a b => e g (by omega) (by omega))) (fun g hg => up_f _ _ _ (by omega)) (fun g hg => e g (by omega) (by omega)) (by rw [e 1 (by decide) (by decide)]; exact Int.le_refl _) (by rw [up_o _ _ _ _ (by decide)]; exact Int.le_refl _) (fun q _ _ => by rw [up_f _ _ _ (by decide), up_f _ _ _ (by decide)]; exact ⟨rfl, rfl⟩), ?_⟩
  unfold mGap; split
  · rw [up_s, hT]
  · rw [up_o _ _ _ _ (by decide), up_s, hT]
theorem Inv.force {σ μ : St} (h : Inv σ μ) {a v : Int} (ha : 0 ≤ a ∧ a < σ 8 0) (hv : 0 ≤ v ∧ v ≤ 1000000) : Inv (up σ 6 a v) (mForce μ a v) ∧ mForce μ a v 0 0 = 0 := by
  have hT : mFoT μ a v = 0 := by unfold mFoT; rw [if_neg (by rw [← h.b.b8]; exact fun q => q ha), if_neg (by omega)]
  have e : ∀ g, g ≠ 0 → g ≠ 9 → mForce μ a v g = μ g := fun g x y => by
    unfold mForce; split
    · rw [up_f _ _ _ x]
    · rw [up_f _ _ _ y, up_f _ _ _ x]
  have e9 : mForce μ a v 9 = up μ 9 a v 9 := by
    unfold mForce; split
    · rename_i q
      rw [up_f _ _ _ (by decide)]
      rcases q with q | q
      · exact absurd hT q
      · funext j
        by_cases z : j = a
        · rw [z, up_s, q]
        · rw [up_n _ _ _ z]
    · exact up_c (up_f _ _ _ (by decide))
  refine ⟨h.board (h.b.force hv e9 (fun g x y z => e g (by omega) z)) (fun g hg => up_f _ _ _ (by omega)) (fun g hg => e g (by omega) (by omega)) (by rw [e 1 (by decide) (by decide)]; exact Int.le_refl _) (by rw [up_o _ _ _ _ (by decide)]; exact Int.le_refl _) (fun q _ _ => by rw [up_f _ _ _ (by decide), up_f _ _ _ (by decide)]; exact ⟨rfl, rfl⟩), ?_⟩
  unfold mForce; split
  · rw [up_s, hT]
  · rw [up_o _ _ _ _ (by decide), up_s, hT]
theorem Inv.run {σ μ : St} (h : Inv σ μ) {mo : Int} (hmo : 0 ≤ mo ∧ mo ≤ 8) : Inv (fB (chS σ mo)) (rn4 μ mo) := by
  obtain ⟨-, -, -, c4, c5, c6, c7, -⟩ := run_ok h.b h.s hmo
  exact ⟨h.b.of (fun g hg => c6 g (Or.inl hg)) (fun g a b => c7 g (Or.inl ⟨a, b⟩)), c5, c4, h.p.of (fun g a b => c6 g (Or.inr (by omega))) (fun g hg => c7 g (by omega)) (by rw [c7 1 (by decide)]; exact Int.le_refl _), h.r.of (fun g a b => c6 g (Or.inr (by omega))) (c7 21 (by decide)) (by rw [c7 1 (by decide)]; exact Int.le_refl _)⟩
/-- parts change -/
theorem Inv.parts {σ μ τ ν : St} (h : Inv σ μ) (hp : IvP τ ν) (hσ : ∀ g, g < 30 ∨ 40 ≤ g → τ g = σ g) (hμ : ∀ g, g ≠ 0 → g ≠ 19 → g ≠ 20 → ν g = μ g) : Inv τ ν :=
  ⟨h.b.of (fun g hg => hσ g (by omega)) (fun g a b => hμ g (by omega) (by omega) (by omega)), h.s.of (fun g hg => hσ g (by omega)) (fun g a b => hμ g (by omega) (by omega) (by omega)) (by rw [hμ 22 (by decide) (by decide) (by decide)]; exact h.s.h22), h.f.of (fun g a b => hσ g (by omega)) (fun g hg => hμ g (by omega) (by omega) (by omega)) (by rw [hσ 8 (by decide)]; exact Int.le_refl _) (fun q _ _ => by rw [hσ 3 (by decide), hσ 4 (by decide)]; exact ⟨rfl, rfl⟩), hp, h.r.of (fun g a b => hσ g (by omega)) (hμ 21 (by decide) (by decide) (by decide)) (by rw [hμ 1 (by decide) (by decide) (by decide)]; exact Int.le_refl _)⟩
/-- failed rows change -/
theorem Inv.rows {σ μ τ ν : St} (h : Inv σ μ) (hr : IvR τ ν) (hσ : ∀ g, g < 40 → τ g = σ g) (hμ : ∀ g, g ≠ 0 → g ≠ 21 → ν g = μ g) : Inv τ ν :=
  ⟨h.b.of (fun g hg => hσ g (by omega)) (fun g a b => hμ g (by omega) (by omega)), h.s.of (fun g hg => hσ g (by omega)) (fun g a b => hμ g (by omega) (by omega)) (by rw [hμ 22 (by decide) (by decide)]; exact h.s.h22), h.f.of (fun g a b => hσ g (by omega)) (fun g hg => hμ g (by omega) (by omega)) (by rw [hσ 8 (by decide)]; exact Int.le_refl _) (fun q _ _ => by rw [hσ 3 (by decide), hσ 4 (by decide)]; exact ⟨rfl, rfl⟩), h.p.of (fun g a b => hσ g (by omega)) (fun g hg => hμ g (by omega) (by omega)) (by rw [hμ 1 (by decide) (by decide)]; exact Int.le_refl _), hr⟩
theorem pAdd_o (σ : St) (a b lo hi : Int) (g : Nat) (h : g < 30 ∨ 40 ≤ g) : pAdd σ a b lo hi g = σ g := by
  unfold pAdd; split
  · rfl
  · unfold pJoin pCnt pInv
    rw [up_f _ _ _ (by omega), up_f _ _ _ (by omega), up_f _ _ _ (by omega), up_f _ _ _ (by omega), up_f _ _ _ (by omega), up_f _ _ _ (by omega), up_f _ _ _ (by omega)]
theorem rAdd_o (σ : St) (a b : Int) (g : Nat) (h : g < 40) : rAdd σ a b g = σ g := by
  unfold rAdd; rw [up_f _ _ _ (by omega), up_f _ _ _ (by omega), up_f _ _ _ (by omega)]
/-- at the start -/
theorem inv_0 : Inv z0 z0 := by
  have zb : ∀ j, ¬ zB 0 j := fun j => by unfold zB; rw [show (0 : Int).toNat = 0 from rfl, Nat.zero_testBit]; simp
  have zz : ∀ g i, z0 g i = 0 := fun _ _ => rfl
  refine ⟨⟨rfl, rfl, rfl, rfl, rfl, rfl, rfl, rfl, rfl, rfl, ?_, rfl, fun n j _ _ a b => ?_, fun n j n' j' _ _ a b => ?_⟩, ⟨?_, fun _ => ⟨(by first | decide | (rw [zz]; decide)), (by first | decide | (rw [zz]; decide))⟩, fun _ => ⟨(by first | decide | (rw [zz]; decide)), (by first | decide | (rw [zz]; decide))⟩, fun _ => ⟨(by first | decide | (rw [zz]; decide)), (by first | decide | (rw [zz]; decide))⟩, ⟨(by first | decide | (rw [zz]; decide)), (by first | decide | (rw [zz]; decide))⟩, fun _ => Or.inl rfl⟩, ⟨rfl, ⟨(by first | decide | (rw [zz]; decide)), (by first | decide | (rw [zz]; decide))⟩, fun _ _ _ => rfl, fun i a b => ?_, fun i j a b => ?_, Or.inl rfl, Or.inl rfl, rfl, ⟨(by first | decide | (rw [zz]; decide)), (by first | decide | (rw [zz]; decide))⟩, fun k => ?_, ?_, ?_, ?_⟩, ⟨rfl, fun _ => ⟨(by first | decide | (rw [zz]; decide)), (by first | decide | (rw [zz]; decide))⟩, fun q k en a b => ?_, fun _ => rfl, fun _ => rfl, fun q z => absurd rfl z, fun q z => absurd rfl z, fun a b _ _ => ⟨fun z => absurd z (zb _), fun z => absurd z.2 (by rw [zz]; decide)⟩, fun _ => ⟨(by first | decide | (rw [zz]; decide)), (by first | decide | (rw [zz]; decide))⟩, fun a b _ _ _ z => absurd z (by rw [zz]; decide)⟩, ⟨rfl, ⟨fun _ => ⟨(by first | decide | (rw [zz]; decide)), (by first | decide | (rw [zz]; decide))⟩, fun a b _ _ z => absurd z (zb _)⟩, ⟨(by first | decide | (rw [zz]; decide)), (by first | decide | (rw [zz]; decide))⟩, ⟨(by first | decide | (rw [zz]; decide)), (by first | decide | (rw [zz]; decide))⟩, Or.inl rfl, fun _ => ?_⟩⟩
  · exact ⟨⟨(by first | decide | (rw [zz]; decide)), (by first | decide | (rw [zz]; decide))⟩, ⟨(by first | decide | (rw [zz]; decide)), (by first | decide | (rw [zz]; decide))⟩, ⟨(by first | decide | (rw [zz]; decide)), (by first | decide | (rw [zz]; decide))⟩, fun _ => ⟨(by first | decide | (rw [zz]; decide)), (by first | decide | (rw [zz]; decide))⟩, fun _ => ⟨(by first | decide | (rw [zz]; decide)), (by first | decide | (rw [zz]; decide))⟩, fun _ => ⟨(by first | decide | (rw [zz]; decide)), (by first | decide | (rw [zz]; decide))⟩, fun _ => ⟨(by first | decide | (rw [zz]; decide)), (by first | decide | (rw [zz]; decide))⟩, fun _ => ⟨(by first | decide | (rw [zz]; decide)), (by first | decide | (rw [zz]; decide))⟩, fun _ => ⟨(by first | decide | (rw [zz]; decide)), (by first | decide | (rw [zz]; decide))⟩, fun _ => Or.inl rfl⟩
  · rw [zz] at b; omega
  · rw [zz] at b; omega
  · exact ⟨⟨(by first | decide | (rw [zz]; decide)), (by first | decide | (rw [zz]; decide))⟩, fun _ => ⟨(by first | decide | (rw [zz]; decide)), (by first | decide | (rw [zz]; decide))⟩, fun _ => ⟨(by first | decide | (rw [zz]; decide)), (by first | decide | (rw [zz]; decide))⟩, fun _ => ⟨(by first | decide | (rw [zz]; decide)), (by first | decide | (rw [zz]; decide))⟩, fun _ => ⟨(by first | decide | (rw [zz]; decide)), (by first | decide | (rw [zz]; decide))⟩⟩
  · rw [zz] at b; omega
  · rw [zz] at b; omega
  · show (if 0 ≤ k ∧ k < z0 26 0 then _ else -1) = mOut z0 k
    rw [if_neg (by rw [zz]; omega)]
    unfold mOut
    split
    · rw [show (z0 12 0).toNat = 0 from rfl]; rfl
    · rfl
  · exact ⟨⟨fun i a b => by rw [zz] at b; omega, fun i a b => by rw [zz] at b; omega, fun i j a b => by rw [zz] at b; omega⟩, fun i m a b c => by rw [zz] at c; omega, rfl⟩
  · exact ⟨List.Perm.refl _, List.Pairwise.nil⟩
  · exact ⟨⟨rfl, fun i hi => absurd hi (Nat.not_lt_zero _)⟩, Nat.zero_le _⟩
  · rw [zz] at b; omega
  · refine ⟨⟨(by first | decide | (rw [zz]; decide)), (by first | decide | (rw [zz]; decide))⟩, fun n _ _ => Or.inr ((xz_iff ⟨(by first | decide | (rw [zz]; decide)), (by first | decide | (rw [zz]; decide))⟩).mpr (fun i _ _ z => absurd z (zb _))), fun v hv _ => ?_⟩
    by_cases e : v = 0
    · exact Or.inl e
    · right; left
      by_cases ex : ∃ k, (0 ≤ k ∧ k < 12) ∧ zB v k
      · obtain ⟨k, hk, hz⟩ := ex
        exact popc_strict ⟨(by first | decide | (rw [zz]; decide)), (by first | decide | (rw [zz]; decide))⟩ hv (fun i _ _ z => absurd z (zb _)) hk (zb _) hz
      · exact absurd (set_ext hv ⟨(by first | decide | (rw [zz]; decide)), (by first | decide | (rw [zz]; decide))⟩ (fun i a b => ⟨fun z => absurd ⟨i, ⟨a, b⟩, z⟩ ex, fun z => absurd z (zb _)⟩)) e
