/-! run: probes and nets left out, on both sides -/
theorem cntM_cg {σ τ : St} (h : τ 0 = σ 0) : ∀ n, cntM τ n = cntM σ n
  | 0 => rfl
  | n + 1 => by
    show cntM τ n + τ 0 n = cntM σ n + σ 0 n
    rw [cntM_cg h n, h]
/-- the probes taken of the first n nets looked at: o the digits, p the points, N the nets -/
def Tk (φ : St) (ν : St) (o p : Int → Int) (n : Nat) : Prop := tk φ n 25 0 = rpF ν n 17 0 ∧ (∀ i, 0 ≤ i → i < tk φ n 25 0 → tk φ n 20 i = rpF ν n 18 i ∧ ∃ k, 0 ≤ k ∧ k < (n : Int) ∧ o k < 3 ∧ tk φ n 20 i = p k) ∧ Apt (tk φ n 20) (tk φ n 25 0)
theorem tk_rp {φ ν : St} {o p : Int → Int} {K : Int} (h16 : ∀ k, 0 ≤ k → k < K → φ 16 k = if o k = 3 then -1 else p k) (h15 : ∀ k, 0 ≤ k → k < K → ν 15 k = o k) (ho : Dig o) (hp : ∀ k, 0 ≤ k → k < K → o k < 3 → 0 ≤ p k ∧ mPA ν k (o k) = p k) (hd : ∀ k k', 0 ≤ k → k < k' → k' < K → o k < 3 → o k' < 3 → ¬ p k = p k') : ∀ n : Nat, (n : Int) ≤ K → Tk φ ν o p n
  | 0, _ => by
    have e1 : tk φ 0 25 0 = 0 := by simp [tk, up]
    have e2 : rpF ν 0 17 0 = 0 := by simp [rpF, up]
    exact ⟨by rw [e1, e2], fun i a b => by omega, fun i j a b => by omega⟩
  | n + 1, hn => by
    obtain ⟨a1, a2, a3⟩ := tk_rp h16 h15 ho hp hd n (by omega)
    have c16 : tk φ n 16 n = if o n = 3 then -1 else p n := by rw [tk_o φ n 16 (by decide)]; exact h16 n (by omega) (by omega)
    have c15 : rpF ν n 15 n = o n := by rw [rpF_o ν n 15 (by decide)]; exact h15 n (by omega) (by omega)
    have on := ho n
    have bd := tk_bd φ n
    by_cases q : o n = 3
    · have t1 : tk φ (n + 1) = up (up (tk φ n) 21 (tk φ n 26 0) (tk φ n 10 n)) 26 0 (tk φ n 26 0 + 1) := by
        show (if tk φ n 16 n = -1 then _ else _) = _
        rw [c16, if_pos q, if_pos rfl]
      have t2 : rpF ν (n + 1) = rpF ν n := by
        show (if rpF ν n 15 n = 3 then _ else _) = _
        rw [c15, if_pos q]
      have f25 : tk φ (n + 1) 25 = tk φ n 25 := by rw [t1, up_f _ _ _ (by decide), up_f _ _ _ (by decide)]
      have f20 : tk φ (n + 1) 20 = tk φ n 20 := by rw [t1, up_f _ _ _ (by decide), up_f _ _ _ (by decide)]
      unfold Tk
      rw [f25, f20, t2]
      refine ⟨a1, fun i x y => ?_, a3⟩
      obtain ⟨b1, k, b2, b3, b4, b5⟩ := a2 i x y
      exact ⟨b1, k, b2, by omega, b4, b5⟩
    · have o3 : o n < 3 := by omega
      obtain ⟨p0, p1⟩ := hp n (by omega) (by omega) o3
      have t1 : tk φ (n + 1) = up (up (tk φ n) 20 (tk φ n 25 0) (p n)) 25 0 (tk φ n 25 0 + 1) := by
        show (if tk φ n 16 n = -1 then _ else up (up (tk φ n) 20 (tk φ n 25 0) (tk φ n 16 n)) 25 0 (tk φ n 25 0 + 1)) = _
        rw [c16, if_neg q, if_neg (by omega)]
      have epa : mPA (rpF ν n) n (o n) = p n := by
        rw [← p1]; unfold mPA; rw [rpF_o ν n 4 (by decide), rpF_o ν n 13 (by decide)]
      have t2 : rpF ν (n + 1) = up (up (rpF ν n) 18 (rpF ν n 17 0) (p n)) 17 0 (rpF ν n 17 0 + 1) := by
        show (if rpF ν n 15 n = 3 then _ else up (up (rpF ν n) 18 (rpF ν n 17 0) (mPA (rpF ν n) n (rpF ν n 15 n))) 17 0 (rpF ν n 17 0 + 1)) = _
        rw [c15, if_neg q, epa]
      have f25 : tk φ (n + 1) 25 0 = tk φ n 25 0 + 1 := by rw [t1, up_s]
      have f20 : ∀ i, tk φ (n + 1) 20 i = if i = tk φ n 25 0 then p n else tk φ n 20 i := fun i => by
        rw [t1, up_o _ _ _ _ (by decide)]
        by_cases e : i = tk φ n 25 0
        · rw [if_pos e, e, up_s]
        · rw [if_neg e, up_n _ _ _ e]
      have g17 : rpF ν (n + 1) 17 0 = rpF ν n 17 0 + 1 := by rw [t2, up_s]
      have g18 : ∀ i, rpF ν (n + 1) 18 i = if i = rpF ν n 17 0 then p n else rpF ν n 18 i := fun i => by
        rw [t2, up_o _ _ _ _ (by decide)]
        by_cases e : i = rpF ν n 17 0
        · rw [if_pos e, e, up_s]
        · rw [if_neg e, up_n _ _ _ e]
      -- the new probe is none of the old ones
      have new : ∀ i, 0 ≤ i → i < tk φ n 25 0 → ¬ tk φ n 20 i = p n := fun i x y z => by
        obtain ⟨b1, k, b2, b3, b4, b5⟩ := a2 i x y
        exact hd k n b2 b3 (by omega) b4 o3 (by rw [← b5]; exact z)
      refine ⟨by rw [f25, g17, a1], fun i x y => ?_, fun i j x y x2 y2 z => ?_⟩
      · rw [f25] at y
        rw [f20, g18, ← a1]
        by_cases e : i = tk φ n 25 0
        · rw [if_pos e, if_pos e]; exact ⟨rfl, n, by omega, by omega, o3, rfl⟩
        · rw [if_neg e, if_neg e]
          obtain ⟨b1, k, b2, b3, b4, b5⟩ := a2 i x (by omega)
          exact ⟨b1, k, b2, by omega, b4, b5⟩
      · rw [f25] at y y2
        rw [f20, f20] at z
        by_cases e1 : i = tk φ n 25 0
        · by_cases e2 : j = tk φ n 25 0
          · omega
          · rw [if_pos e1, if_neg e2] at z
            exact absurd z.symm (new j x2 (by omega))
        · by_cases e2 : j = tk φ n 25 0
          · rw [if_neg e1, if_pos e2] at z
            exact absurd z (new i x (by omega))
          · rw [if_neg e1, if_neg e2] at z
            exact a3 i j x (by omega) x2 (by omega) z
/-- the nets left out stay where they are -/
theorem tk_left (φ : St) {n : Nat} : ∀ m : Nat, (tk φ n 26 0 ≤ tk φ (n + m) 26 0) ∧ ∀ j, 0 ≤ j → j < tk φ n 26 0 → tk φ (n + m) 21 j = tk φ n 21 j
  | 0 => ⟨Int.le_refl _, fun _ _ _ => rfl⟩
  | m + 1 => by
    obtain ⟨i1, i2⟩ := tk_left φ (n := n) m
    rw [show n + (m + 1) = (n + m) + 1 by omega]
    by_cases q : tk φ (n + m) 16 ((n + m : Nat) : Int) = -1
    · have t1 : tk φ (n + m + 1) = up (up (tk φ (n + m)) 21 (tk φ (n + m) 26 0) (tk φ (n + m) 10 ((n + m : Nat) : Int))) 26 0 (tk φ (n + m) 26 0 + 1) := by
        show (if tk φ (n + m) 16 ((n + m : Nat) : Int) = -1 then _ else _) = _
        rw [if_pos q]
      rw [t1]
      refine ⟨by rw [up_s]; omega, fun j a b => ?_⟩
      rw [up_o _ _ _ _ (by decide), up_n _ _ _ (by omega)]; exact i2 j a b
    · have t1 : tk φ (n + m + 1) = up (up (tk φ (n + m)) 20 (tk φ (n + m) 25 0) (tk φ (n + m) 16 ((n + m : Nat) : Int))) 25 0 (tk φ (n + m) 25 0 + 1) := by
        show (if tk φ (n + m) 16 ((n + m : Nat) : Int) = -1 then _ else _) = _
        rw [if_neg q]
      rw [t1]
      refine ⟨by rw [up_o _ _ _ _ (by decide), up_o _ _ _ _ (by decide)]; exact i1, fun j a b => ?_⟩
      rw [up_o _ _ _ _ (by decide), up_o _ _ _ _ (by decide)]; exact i2 j a b
theorem tk_out {φ ν : St} {o : Int → Int} {K : Nat} (h16 : ∀ k, 0 ≤ k → k < (K : Int) → (φ 16 k = -1 ↔ o k = 3)) (h15 : ∀ k, 0 ≤ k → k < (K : Int) → ν 15 k = o k) (ho : Dig o) (h13 : ∀ k, 0 ≤ k → k < (K : Int) → φ 10 k = ν 13 k) : ∀ (f i : Nat) (lf : Int), i + f = K → 0 ≤ lf → moF ν f i lf = nthR (tk φ K) 21 (tk φ K 26 0) (tk φ i 26 0 + lf)
  | 0, i, lf, h, hl => by
    have e : i = K := by omega
    subst e
    show (-1 : Int) = if _ then _ else _
    rw [if_neg (by omega)]
  | f + 1, i, lf, h, hl => by
    rw [moF_s, h15 i (by omega) (by omega)]
    have oi := ho i
    have hq := h16 i (by omega) (by omega)
    have c16 : tk φ i 16 i = φ 16 i := by rw [tk_o φ i 16 (by decide)]
    have bd := tk_bd φ i
    rw [show (i : Int) + 1 = ((i + 1 : Nat) : Int) by omega]
    by_cases q : o i < 3
    · rw [if_pos q, tk_out h16 h15 ho h13 f (i + 1) lf (by omega) hl]
      have t1 : tk φ (i + 1) = up (up (tk φ i) 20 (tk φ i 25 0) (tk φ i 16 i)) 25 0 (tk φ i 25 0 + 1) := by
        show (if tk φ i 16 i = -1 then _ else _) = _
        rw [c16, if_neg (fun z => by have := hq.mp z; omega)]
      have e : tk φ (i + 1) 26 0 = tk φ i 26 0 := by rw [t1, up_o _ _ _ _ (by decide), up_o _ _ _ _ (by decide)]
      rw [e]
    · rw [if_neg q]
      have t1 : tk φ (i + 1) = up (up (tk φ i) 21 (tk φ i 26 0) (tk φ i 10 i)) 26 0 (tk φ i 26 0 + 1) := by
        show (if tk φ i 16 i = -1 then _ else _) = _
        rw [c16, if_pos (hq.mpr (by omega))]
      have e26 : tk φ (i + 1) 26 0 = tk φ i 26 0 + 1 := by rw [t1, up_s]
      have e21 : tk φ (i + 1) 21 (tk φ i 26 0) = ν 13 i := by
        rw [t1, up_o _ _ _ _ (by decide), up_s, tk_o φ i 10 (by decide)]; exact h13 i (by omega) (by omega)
      by_cases z : lf = 0
      · rw [if_pos z, z, Int.add_zero]
        obtain ⟨l1, l2⟩ := tk_left φ (n := i + 1) (K - (i + 1))
        rw [show i + 1 + (K - (i + 1)) = K by omega] at l1 l2
        rw [show nthR (tk φ K) 21 (tk φ K 26 0) (tk φ i 26 0) = tk φ K 21 (tk φ i 26 0) from if_pos ⟨by omega, by omega⟩, l2 _ (by omega) (by omega), e21]
      · rw [if_neg z, tk_out h16 h15 ho h13 f (i + 1) (lf - 1) (by omega) (by omega), e26, show tk φ i 26 0 + 1 + (lf - 1) = tk φ i 26 0 + lf by omega]
theorem moF_cg {μ ν : St} (h : ∀ g, g = 13 ∨ g = 15 → ν g = μ g) : ∀ (f : Nat) (i lf : Int), moF ν f i lf = moF μ f i lf
  | 0, i, lf => rfl
  | f + 1, i, lf => by rw [moF_s, moF_s, h 15 (by decide), h 13 (by decide), moF_cg h f, moF_cg h f]
theorem mOut_cg {μ ν : St} (h : ∀ g, g = 12 ∨ g = 13 ∨ g = 15 → ν g = μ g) (k : Int) : mOut ν k = mOut μ k := by
  unfold mOut; rw [h 12 (by decide), moF_cg (fun g hg => h g (Or.inr hg))]
def IvS (σ μ : St) : Prop := (IS σ) ∧ (Dig (μ 14)) ∧ (∀ k, 0 ≤ μ 13 k ∧ μ 13 k < 12) ∧ (Dig (μ 15)) ∧ (0 ≤ μ 12 0 ∧ μ 12 0 ≤ 8) ∧ (∀ i, μ 22 i = 0 ∨ μ 22 i = 1)
theorem IvS.s {σ μ : St} (h : IvS σ μ) : IS σ := h.1
theorem IvS.dg {σ μ : St} (h : IvS σ μ) : Dig (μ 14) := h.2.1
theorem IvS.h13 {σ μ : St} (h : IvS σ μ) : ∀ k, 0 ≤ μ 13 k ∧ μ 13 k < 12 := h.2.2.1
theorem IvS.h15 {σ μ : St} (h : IvS σ μ) : Dig (μ 15) := h.2.2.2.1
theorem IvS.h12 {σ μ : St} (h : IvS σ μ) : 0 ≤ μ 12 0 ∧ μ 12 0 ≤ 8 := h.2.2.2.2.1
theorem IvS.h22 {σ μ : St} (h : IvS σ μ) : ∀ i, μ 22 i = 0 ∨ μ 22 i = 1 := h.2.2.2.2.2
def IvF (σ μ : St) : Prop := (σ 25 0 = μ 17 0) ∧ (0 ≤ σ 25 0 ∧ σ 25 0 ≤ 8) ∧ (∀ i, 0 ≤ i → i < σ 25 0 → σ 20 i = μ 18 i) ∧ (∀ i, 0 ≤ i → i < σ 25 0 → 0 ≤ σ 20 i ∧ σ 20 i < σ 8 0) ∧ (Apt (σ 20) (σ 25 0)) ∧ (μ 11 0 = 0 ∨ μ 11 0 = 1) ∧ (μ 16 0 = 0 ∨ μ 16 0 = 1) ∧ (σ 29 0 = if μ 11 0 = 0 then 0 else μ 16 0) ∧ (0 ≤ σ 26 0 ∧ σ 26 0 ≤ 8) ∧ (∀ k, nthR σ 21 (σ 26 0) k = mOut μ k) ∧ (FlOk σ) ∧ (SoOk σ) ∧ (TxOk σ)
theorem IvF.n {σ μ : St} (h : IvF σ μ) : σ 25 0 = μ 17 0 := h.1
theorem IvF.nb {σ μ : St} (h : IvF σ μ) : 0 ≤ σ 25 0 ∧ σ 25 0 ≤ 8 := h.2.1
theorem IvF.p {σ μ : St} (h : IvF σ μ) : ∀ i, 0 ≤ i → i < σ 25 0 → σ 20 i = μ 18 i := h.2.2.1
theorem IvF.pb {σ μ : St} (h : IvF σ μ) : ∀ i, 0 ≤ i → i < σ 25 0 → 0 ≤ σ 20 i ∧ σ 20 i < σ 8 0 := h.2.2.2.1
theorem IvF.pd {σ μ : St} (h : IvF σ μ) : Apt (σ 20) (σ 25 0) := h.2.2.2.2.1
theorem IvF.h11 {σ μ : St} (h : IvF σ μ) : μ 11 0 = 0 ∨ μ 11 0 = 1 := h.2.2.2.2.2.1
theorem IvF.h16 {σ μ : St} (h : IvF σ μ) : μ 16 0 = 0 ∨ μ 16 0 = 1 := h.2.2.2.2.2.2.1
theorem IvF.pr {σ μ : St} (h : IvF σ μ) : σ 29 0 = if μ 11 0 = 0 then 0 else μ 16 0 := h.2.2.2.2.2.2.2.1
theorem IvF.ob {σ μ : St} (h : IvF σ μ) : 0 ≤ σ 26 0 ∧ σ 26 0 ≤ 8 := h.2.2.2.2.2.2.2.2.1
theorem IvF.out {σ μ : St} (h : IvF σ μ) : ∀ k, nthR σ 21 (σ 26 0) k = mOut μ k := h.2.2.2.2.2.2.2.2.2.1
theorem IvF.fl {σ μ : St} (h : IvF σ μ) : FlOk σ := h.2.2.2.2.2.2.2.2.2.2.1
theorem IvF.so {σ μ : St} (h : IvF σ μ) : SoOk σ := h.2.2.2.2.2.2.2.2.2.2.2.1
theorem IvF.tx {σ μ : St} (h : IvF σ μ) : TxOk σ := h.2.2.2.2.2.2.2.2.2.2.2.2
theorem IvS.of {σ μ τ ν : St} (h : IvS σ μ) (h1 : ∀ g, (g = 11 ∨ g = 12 ∨ g = 13 ∨ g = 14 ∨ g = 17) → τ g = σ g) (h2 : ∀ g, 12 ≤ g → g ≤ 15 → ν g = μ g) (h3 : ∀ i, ν 22 i = 0 ∨ ν 22 i = 1) : IvS τ ν :=
  ⟨IS_of h1 h.s, by rw [h2 14 (by decide) (by decide)]; exact h.dg, by rw [h2 13 (by decide) (by decide)]; exact h.h13, by rw [h2 15 (by decide) (by decide)]; exact h.h15, by rw [h2 12 (by decide) (by decide)]; exact h.h12, h3⟩
/-- the fixture stays right while points are added -/
theorem IvF.of {σ μ τ ν : St} (h : IvF σ μ) (h1 : ∀ g, 20 ≤ g → g ≤ 29 → τ g = σ g) (h2 : ∀ g, (g = 11 ∨ g = 12 ∨ g = 13 ∨ g = 15 ∨ g = 16 ∨ g = 17 ∨ g = 18) → ν g = μ g) (h8 : σ 8 0 ≤ τ 8 0) (hx : ∀ q, 0 ≤ q → q < σ 8 0 → τ 3 q = σ 3 q ∧ τ 4 q = σ 4 q) : IvF τ ν := by
  have e20 := h1 20 (by decide) (by decide)
  have e25 := h1 25 (by decide) (by decide)
  have hx2 : ∀ i, 0 ≤ i → i < σ 25 0 → τ 3 (σ 20 i) = σ 3 (σ 20 i) ∧ τ 4 (σ 20 i) = σ 4 (σ 20 i) := fun i a b => by
    have := h.pb i a b
    exact hx _ this.1 this.2
  have hx3 : ∀ i, 0 ≤ i → i < σ 25 0 → τ 3 (σ 23 i) = σ 3 (σ 23 i) ∧ τ 4 (σ 23 i) = σ 4 (σ 23 i) := fun i a b => by
    obtain ⟨j, c, d, e⟩ := h.so.in ⟨a, b⟩
    rw [e]; exact hx2 j c d
  refine ⟨?_, ?_, ?_, ?_, ?_, ?_, ?_, ?_, ?_, ?_, ?_, ?_, ?_⟩
  · rw [e25, h2 17 (by decide)]; exact h.n
  · rw [e25]; exact h.nb
  · rw [e25, e20, h2 18 (by decide)]; exact h.p
  · rw [e25, e20]; intro i a b; have := h.pb i a b; omega
  · rw [e25, e20]; exact h.pd
  · rw [h2 11 (by decide)]; exact h.h11
  · rw [h2 16 (by decide)]; exact h.h16
  · rw [h1 29 (by decide) (by decide), h2 11 (by decide), h2 16 (by decide)]; exact h.pr
  · rw [h1 26 (by decide) (by decide)]; exact h.ob
  · intro k
    rw [mOut_cg (fun g hg => h2 g (by omega)), h1 26 (by decide) (by decide)]
    show (if 0 ≤ k ∧ k < σ 26 0 then τ 21 k else -1) = mOut μ k
    rw [h1 21 (by decide) (by decide)]; exact h.out k
  · exact h.fl.of e20 (h1 22 (by decide) (by decide)) e25 (h1 28 (by decide) (by decide)) hx2 h.nb.1
  · exact h.so.of e20 (h1 23 (by decide) (by decide)) e25 hx2
  · exact h.tx.of (h1 23 (by decide) (by decide)) (h1 24 (by decide) (by decide)) e25 (h1 27 (by decide) (by decide)) hx3
