/-! the reference: its choice -/
def okF (μ : St) : Nat → Int → Bool
  | 0, _ => true
  | f + 1, k => if μ 14 k < 3 ∧ μ 3 (μ 13 k) ≤ μ 14 k then false else okF μ f (k + 1)
theorem okF_s (μ : St) (f : Nat) (k : Int) : okF μ (f + 1) k = if μ 14 k < 3 ∧ μ 3 (μ 13 k) ≤ μ 14 k then false else okF μ f (k + 1) := rfl
def apI (μ : St) (k : Int) : Nat → Int → Bool
  | 0, _ => true
  | f + 1, j => if μ 14 k < 3 ∧ μ 14 j < 3 ∧ ¬ mAp μ (mPA μ k (μ 14 k)) (mPA μ j (μ 14 j)) then false else apI μ k f (j + 1)
theorem apI_s (μ : St) (k : Int) (f : Nat) (j : Int) : apI μ k (f + 1) j = if μ 14 k < 3 ∧ μ 14 j < 3 ∧ ¬ mAp μ (mPA μ k (μ 14 k)) (mPA μ j (μ 14 j)) then false else apI μ k f (j + 1) := rfl
def apO (μ : St) : Nat → Int → Bool
  | 0, _ => true
  | f + 1, k => if apI μ k k.toNat 0 = true then apO μ f (k + 1) else false
theorem apO_s (μ : St) (f : Nat) (k : Int) : apO μ (f + 1) k = if apI μ k k.toNat 0 = true then apO μ f (k + 1) else false := rfl
abbrev isCh (μ : St) : Prop := okF μ (μ 12 0).toNat 0 = true ∧ apO μ (μ 12 0).toNat 0 = true
theorem mPA_bd {μ : St} (hI : IMB μ) {k d : Int} (hd : 0 ≤ d ∧ d < 3) : 0 ≤ mPA μ k d ∧ mPA μ k d < 36 := by
  unfold mPA
  rw [if_neg (by omega)]
  have := hI.2.2.2.2.2.2.2.2.1 (3 * μ 13 k + d)
  omega
def goF : Nat → St → St × Bool
  | 0, μ => (μ, false)
  | k + 1, μ => if μ 14 k + 1 < 4 then (up μ 14 k (μ 14 k + 1), true) else goF k (up μ 14 k 0)
theorem goF_s (k : Nat) (μ : St) : goF (k + 1) μ = if μ 14 k + 1 < 4 then (up μ 14 k (μ 14 k + 1), true) else goF k (up μ 14 k 0) := rfl
theorem up_up (σ : St) (f : Nat) (i v w : Int) : up (up σ f i v) f i w = up σ f i w := by
  funext g j
  unfold up
  by_cases h : g = f ∧ j = i
  · rw [if_pos h, if_pos h]
  · rw [if_neg h, if_neg h, if_neg h]
/-- the digits are digits -/
def Dg (μ : St) : Prop := ∀ k, 0 ≤ μ 14 k ∧ μ 14 k ≤ 3
theorem goF_o : ∀ (n : Nat) (μ : St) (g : Nat), g ≠ 14 → (goF n μ).1 g = μ g
  | 0, μ, g, h => rfl
  | n + 1, μ, g, h => by
    rw [goF_s]; split
    · exact up_f _ _ _ h
    · rw [goF_o n _ g h, up_f _ _ _ h]
theorem goF_hi : ∀ (n : Nat) (μ : St) (i : Int), (n : Int) ≤ i → (goF n μ).1 14 i = μ 14 i
  | 0, μ, i, h => rfl
  | n + 1, μ, i, h => by
    rw [goF_s]; split
    · exact up_n _ _ _ (by omega)
    · rw [goF_hi n _ i (by omega), up_n _ _ _ (by omega)]
theorem goF_dg : ∀ (n : Nat) (μ : St), Dg μ → Dg (goF n μ).1
  | 0, μ, h => h
  | n + 1, μ, h => by
    rw [goF_s]; split
    · exact up_P (P := fun z => 0 ≤ z ∧ z ≤ 3) _ _ _ _ (by have := h n; omega) h
    · exact goF_dg n _ (up_P (P := fun z => 0 ≤ z ∧ z ≤ 3) _ _ _ _ (by decide) h)
/-- the digits' number -/
def vD (μ : St) : Nat → Int
  | 0 => 0
  | k + 1 => vD μ k * 4 + μ 14 k
theorem vD_cg {μ ν : St} : ∀ (n : Nat), (∀ i, 0 ≤ i → i < (n : Int) → ν 14 i = μ 14 i) → vD ν n = vD μ n
  | 0, _ => rfl
  | n + 1, h => by unfold vD; rw [vD_cg n (fun i a b => h i a (by omega)), h n (by omega) (by omega)]
theorem vD_bd {μ : St} (h : Dg μ) : ∀ (n : Nat), 0 ≤ vD μ n ∧ vD μ n + 1 ≤ 4 ^ n
  | 0 => by unfold vD; decide
  | n + 1 => by
    have a := vD_bd h n
    have b := h n
    unfold vD
    rw [Int.pow_succ]
    omega
theorem goF_v : ∀ (n : Nat) (μ : St), Dg μ → ((goF n μ).2 = true → vD (goF n μ).1 n = vD μ n + 1) ∧ ((goF n μ).2 = false → vD μ n + 1 = 4 ^ n)
  | 0, μ, h => ⟨fun q => (by cases q), fun _ => (by unfold vD; decide)⟩
  | n + 1, μ, h => by
    have hb := h n
    rw [goF_s]
    split
    · refine ⟨fun _ => ?_, fun q => (by cases q)⟩
      show vD (up μ 14 n (μ 14 n + 1)) (n + 1) = _
      unfold vD
      rw [up_s, vD_cg (μ := μ) n (fun i a b => up_n _ _ _ (by omega))]
      omega
    · have hd : Dg (up μ 14 n 0) := up_P (P := fun z => 0 ≤ z ∧ z ≤ 3) _ _ _ _ (by decide) h
      have ih := goF_v n (up μ 14 n 0) hd
      have e : vD (up μ 14 n 0) n = vD μ n := vD_cg n (fun i a b => up_n _ _ _ (by omega))
      refine ⟨fun q => ?_, fun q => ?_⟩
      · have := ih.1 q
        unfold vD
        rw [this, goF_hi n _ _ (by omega), up_s, e]
        omega
      · have := ih.2 q
        unfold vD
        rw [Int.pow_succ]
        omega
def cF (μ : St) : Nat → Int × Int
  | 0 => (0, 0)
  | k + 1 => ((cF μ k).1 + (if μ 14 k < 3 then 1 else 0), (cF μ k).2 + (if μ 14 k < 3 then μ 9 (mPA μ k (μ 14 k)) else 0))
theorem cF_bd {μ : St} (hI : IMB μ) : ∀ (n : Nat), (0 ≤ (cF μ n).1 ∧ (cF μ n).1 ≤ n) ∧ (0 ≤ (cF μ n).2 ∧ (cF μ n).2 ≤ n * 1000000)
  | 0 => by unfold cF; decide
  | n + 1 => by
    have ih := cF_bd hI n
    have h9 := hI.2.2.2.2.2.2.1 (mPA μ n (μ 14 n))
    unfold cF
    split <;> omega
abbrev cmB (t : St × Int × Int) : Prop := isCh t.1 ∧ (t.2.1 < (cF t.1 (t.1 12 0).toNat).1 ∨ ((cF t.1 (t.1 12 0).toNat).1 = t.2.1 ∧ (cF t.1 (t.1 12 0).toNat).2 < t.2.2))
def cmS (t : St × Int × Int) : St × Int × Int := if cmB t then (cpS t.1 14 15 (t.1 12 0), (cF t.1 (t.1 12 0).toNat).1, (cF t.1 (t.1 12 0).toNat).2) else t
def cmL : Nat → St × Int × Int → St × Int × Int
  | 0, t => t
  | f + 1, t => if (goF (t.1 12 0).toNat (cmS t).1).2 = true then cmL f ((goF (t.1 12 0).toNat (cmS t).1).1, (cmS t).2) else ((goF (t.1 12 0).toNat (cmS t).1).1, (cmS t).2)
theorem cmL_s (f : Nat) (t : St × Int × Int) : cmL (f + 1) t = if (goF (t.1 12 0).toNat (cmS t).1).2 = true then cmL f ((goF (t.1 12 0).toNat (cmS t).1).1, (cmS t).2) else ((goF (t.1 12 0).toNat (cmS t).1).1, (cmS t).2) := rfl
def cmT (μ : St) : St × Int × Int := cmL (4 ^ (μ 12 0).toNat) (fillA μ 14 (μ 12 0) 0, -1, 0)
theorem cpS_s (σ : St) (f t : Nat) (i : Int) (h : f ≠ t) (h0 : 0 ≤ i) : up (cpS σ f t i) t i (cpS σ f t i f i) = cpS σ f t (i + 1) := by
  rw [cpS_o _ _ _ _ h]
  funext g j
  unfold up cpS
  by_cases h1 : g = t
  · by_cases h2 : j = i
    · rw [if_pos ⟨h1, h2⟩, if_pos ⟨h1, by omega, by omega⟩, h2]
    · rw [if_neg (fun q => h2 q.2)]
      by_cases h3 : 0 ≤ j ∧ j < i
      · rw [if_pos ⟨h1, h3⟩, if_pos ⟨h1, by omega, by omega⟩]
      · rw [if_neg (fun q => h3 q.2), if_neg (fun q => h3 (by omega))]
  · rw [if_neg (fun q => h1 q.1), if_neg (fun q => h1 q.1), if_neg (fun q => h1 q.1)]
theorem cpS_0 (σ : St) (f t : Nat) : cpS σ f t 0 = σ := by
  funext g j; unfold cpS; rw [if_neg (fun q => by omega)]
theorem Dg_of {μ ν : St} (h : ν 14 = μ 14) (hD : Dg μ) : Dg ν := by unfold Dg; rw [h]; exact hD
theorem cm_back {F0 : St × Int × Int} {X : St} {m2 l2 : Int} {n : Nat} {v x : Int} (hD : Dg X) (hv : vD X n = v) (hN : F0 = if (goF n X).2 = true then cmL ((4 : Int) ^ n - v - 1).toNat ((goF n X).1, m2, l2) else ((goF n X).1, m2, l2)) (hx : x = bI ((goF n X).2 = true)) :
    (F0 = if x = 0 then ((goF n X).1, m2, l2) else cmL ((4 : Int) ^ n - vD (goF n X).1 n).toNat ((goF n X).1, m2, l2)) ∧ (if x = 0 then 0 else (4 : Int) ^ n - vD (goF n X).1 n) < (4 : Int) ^ n - v ∧ (x = 0 ∨ x = 1) := by
  have g := goF_v n X hD
  have b := vD_bd hD n
  by_cases h : (goF n X).2 = true
  · have g1 := g.1 h
    rw [bI_t h] at hx
    rw [if_pos h] at hN
    rw [if_neg (by omega), if_neg (by omega)]
    refine ⟨?_, by omega, Or.inr hx⟩
    rw [hN, g1, hv, show (4 : Int) ^ n - v - 1 = (4 : Int) ^ n - (v + 1) by omega]
  · rw [bI_f h] at hx
    rw [if_neg h] at hN
    rw [if_pos hx, if_pos hx]
    exact ⟨hN, by omega, Or.inl hx⟩
theorem vD_of {μ ν : St} (h : ν 14 = μ 14) (n : Nat) : vD ν n = vD μ n := vD_cg n (fun i _ _ => by rw [h])
