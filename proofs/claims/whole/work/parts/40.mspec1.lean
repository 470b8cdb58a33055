/-! the reference: its board -/
def IMB (μ : St) : Prop := (0 ≤ μ 1 0 ∧ μ 1 0 ≤ 12) ∧ (0 ≤ μ 5 0 ∧ μ 5 0 ≤ 36) ∧ (0 ≤ μ 10 0 ∧ μ 10 0 ≤ 1000000) ∧ (∀ i, -1000000 ≤ μ 6 i ∧ μ 6 i ≤ 1000000) ∧ (∀ i, -1000000 ≤ μ 7 i ∧ μ 7 i ≤ 1000000) ∧ (∀ i, 0 ≤ μ 8 i ∧ μ 8 i ≤ 100000) ∧ (∀ i, 0 ≤ μ 9 i ∧ μ 9 i ≤ 1000000) ∧ (∀ i, 0 ≤ μ 3 i ∧ μ 3 i ≤ 3) ∧ (∀ i, 0 ≤ μ 4 i ∧ μ 4 i ≤ 35) ∧ (∀ i, μ 2 i = 0 ∨ μ 2 i = 1)
theorem IMB_of {μ ν : St} (h : ∀ g, (1 ≤ g ∧ g ≤ 10) → ν g = μ g) (hI : IMB μ) : IMB ν := by
  unfold IMB at *
  rw [h 1 (by decide), h 2 (by decide), h 3 (by decide), h 4 (by decide), h 5 (by decide), h 6 (by decide), h 7 (by decide), h 8 (by decide), h 9 (by decide), h 10 (by decide)]
  exact hI
def mNet (μ : St) (b : Int) : St := if μ 1 0 = 12 then up μ 0 0 0 else up (up (up μ 0 0 0) 2 (μ 1 0) b) 1 0 (μ 1 0 + 1)
abbrev pGood (x y r : Int) : Prop := (-1000000 ≤ x ∧ x ≤ 1000000) ∧ (-1000000 ≤ y ∧ y ≤ 1000000) ∧ 1 ≤ r ∧ r ≤ 100000
def mPtT (μ : St) (n x y r : Int) : Int := if ¬ (0 ≤ n ∧ n < μ 1 0) then 1 else if pGood x y r then 0 else 2
def mPoint (μ : St) (n x y r : Int) : St := if mPtT μ n x y r ≠ 0 then up μ 0 0 (mPtT μ n x y r) else if μ 3 n = 3 then up μ 0 0 0 else
  up (up (up (up (up (up (up μ 0 0 0) 6 (μ 5 0) x) 7 (μ 5 0) y) 8 (μ 5 0) r) 4 (3 * n + μ 3 n) (μ 5 0)) 3 n (μ 3 n + 1)) 5 0 (μ 5 0 + 1)
def mPtR (μ : St) (n x y r : Int) : Int := if mPtT μ n x y r ≠ 0 then 0 else if μ 3 n = 3 then -1 else μ 5 0
def mGapT (v : Int) : Int := if v < 0 ∨ 1000000 < v then 1 else 0
def mGap (μ : St) (v : Int) : St := if mGapT v ≠ 0 ∨ μ 10 0 = v then up μ 0 0 (mGapT v) else up (up μ 0 0 (mGapT v)) 10 0 v
def mFoT (μ : St) (q v : Int) : Int := if ¬ (0 ≤ q ∧ q < μ 5 0) then 1 else if v < 0 ∨ 1000000 < v then 2 else 0
def mForce (μ : St) (q v : Int) : St := if mFoT μ q v ≠ 0 ∨ μ 9 q = v then up μ 0 0 (mFoT μ q v) else up (up μ 0 0 (mFoT μ q v)) 9 q v
def mSq (μ : St) (a b : Int) : Int := (μ 6 a - μ 6 b) * (μ 6 a - μ 6 b) + (μ 7 a - μ 7 b) * (μ 7 a - μ 7 b)
abbrev mAp (μ : St) (a b : Int) : Prop := (μ 10 0 + μ 8 a + μ 8 b) * (μ 10 0 + μ 8 a + μ 8 b) ≤ mSq μ a b
theorem mSq_bd {μ : St} (h : IMB μ) (a b : Int) : 0 ≤ mSq μ a b ∧ mSq μ a b ≤ 8000000000000 := by
  obtain ⟨-, -, -, h3, h4, -⟩ := h
  have a1 := h3 a
  have a2 := h3 b
  have a3 := h4 a
  have a4 := h4 b
  have x := sq_bd (a := μ 6 a - μ 6 b) (n := 2000000) (by omega) (by omega)
  have y := sq_bd (a := μ 7 a - μ 7 b) (n := 2000000) (by omega) (by omega)
  unfold mSq
  omega
def mPA (μ : St) (k d : Int) : Int := if d = 3 then -1 else μ 4 (3 * μ 13 k + d)
def mProbe (μ : St) (k : Int) : Int := if 0 ≤ k ∧ k < μ 17 0 then μ 18 k else -1
def mSumF (μ : St) : Nat → Int
  | 0 => 0
  | n + 1 => mSumF μ n + μ 9 (μ 18 n)
def mPr (a b : Int) : Int := if a < b then 12 * a + b else 12 * b + a
abbrev mAh (μ : St) (a b : Int) : Prop := μ 6 a < μ 6 b ∨ (μ 6 a = μ 6 b ∧ (μ 7 a < μ 7 b ∨ (μ 7 a = μ 7 b ∧ a < b)))
def mSay (μ : St) (u : Int) : St := up (up μ 23 (μ 24 0) u) 24 0 (μ 24 0 + 1)
