/-! the reference: a suspect, spans, flights -/
theorem bI_mod {s n : Int} (hs : 0 ≤ s) : bI (zB s n) = (((s.toNat / 2 ^ n.toNat) % 2 : Nat) : Int) := by
  unfold bI zB
  rw [Nat.testBit_eq_decide_div_mod_eq]
  split <;> rename_i q <;> simp at q <;> omega
def pR (s n : Int) : Int := popc ((s.toNat / 2 ^ n.toNat : Nat) : Int)
theorem pR_s {s n : Int} (hs : 0 ≤ s ∧ s < 4096) (hn : 0 ≤ n) : pR s n = bI (zB s n) + pR s (n + 1) := by
  have h : s.toNat / 2 ^ n.toNat ≤ s.toNat := Nat.div_le_self _ _
  unfold pR
  rw [popc_step ⟨Int.natCast_nonneg _, by omega⟩, bI_mod hs.1, show (n + 1).toNat = n.toNat + 1 by omega, Nat.pow_succ, ← Nat.div_div_eq_div_mul]
  generalize s.toNat / 2 ^ n.toNat = w
  rw [show ((w : Nat) : Int) / 2 = ((w / 2 : Nat) : Int) by omega, show ((w : Nat) : Int) % 2 = ((w % 2 : Nat) : Int) by omega]
theorem pR_0 (s : Int) (hs : 0 ≤ s) : pR s 0 = popc s := by
  unfold pR; congr 1; show ((s.toNat / 2 ^ 0 : Nat) : Int) = s; rw [Nat.pow_zero, Nat.div_one]; omega
theorem pR_12 {s : Int} (hs : 0 ≤ s ∧ s < 4096) : pR s 12 = 0 := by
  unfold pR
  rw [show s.toNat / 2 ^ (12 : Int).toNat = 0 from Nat.div_eq_of_lt (by show s.toNat < 4096; omega)]
  rfl
def kbF (s : Int) : Nat → Int → Int → Int
  | 0, _, n => n
  | f + 1, lf, n => if ¬ zB s n ∨ 0 < lf then kbF s f (lf - bI (zB s n)) (n + 1) else n
theorem kbF_s (s : Int) (f : Nat) (lf n : Int) : kbF s (f + 1) lf n = if ¬ zB s n ∨ 0 < lf then kbF s f (lf - bI (zB s n)) (n + 1) else n := rfl
abbrev suOk (μ : St) (k w : Int) : Prop := 0 ≤ k ∧ k < popc (suS μ) ∧ 0 ≤ w ∧ w < 2
def suN (μ : St) (k : Int) : Int := kbF (suS μ) 12 k 0
def mSuR (μ : St) (k w : Int) : Int := if suOk μ k w then (if w = 0 then suN μ k else popc (μ 21 (suN μ k))) else 0
/-- the sum of inverses: above, below -/
def spF (μ : St) (q en : Int) : Nat → Int × Int
  | 0 => (0, 1)
  | n + 1 => ((spF μ q en n).1 * μ 20 (8 * q + 2 * n + en) + (spF μ q en n).2, (spF μ q en n).2 * μ 20 (8 * q + 2 * n + en))
theorem mul_bd {x r a b : Int} (hx : a ≤ x ∧ x ≤ b) (ha : 0 ≤ a) (hr : 1 ≤ r ∧ r ≤ 1000) : a ≤ x * r ∧ x * r ≤ b * 1000 := by
  constructor
  · have h1 : x * 1 ≤ x * r := Int.mul_le_mul_of_nonneg_left hr.1 (by omega)
    omega
  · have h1 : x * r ≤ x * 1000 := Int.mul_le_mul_of_nonneg_left hr.2 (by omega)
    have h2 : x * 1000 ≤ b * 1000 := Int.mul_le_mul_of_nonneg_right hx.2 (by decide)
    omega
theorem spF_bd (μ : St) (q en : Int) : ∀ (n : Nat), n ≤ 4 → (∀ k : Nat, k < n → 1 ≤ μ 20 (8 * q + 2 * k + en) ∧ μ 20 (8 * q + 2 * k + en) ≤ 1000) → (1 ≤ (spF μ q en n).2 ∧ (spF μ q en n).2 ≤ 1000 ^ n) ∧ (0 ≤ (spF μ q en n).1 ∧ (spF μ q en n).1 ≤ n * 1000 ^ n)
  | 0, _, _ => by unfold spF; decide
  | n + 1, h4, h => by
    have ih := spF_bd μ q en n (by omega) (fun k hk => h k (by omega))
    have hr := h n (by omega)
    have b := mul_bd ih.1 (by decide) hr
    have a := mul_bd ih.2 (by decide) hr
    unfold spF
    generalize (spF μ q en n).1 = X at *
    generalize (spF μ q en n).2 = Y at *
    generalize μ 20 (8 * q + 2 * n + en) = r at *
    generalize X * r = XR at *
    generalize Y * r = YR at *
    rcases (show n = 0 ∨ n = 1 ∨ n = 2 ∨ n = 3 by omega) with z | z | z | z <;> subst z <;> simp only [] at * <;> omega
def mSpT (μ : St) (a b en pt : Int) : Int := if ¬ (twoN μ a b ∧ (0 ≤ en ∧ en < 2) ∧ (0 ≤ pt ∧ pt < 2)) then 1 else if a = b ∨ μ 19 (mPr a b) = 0 then 2 else 0
def mSpG (μ : St) (a b en : Int) : Int := ((Nat.gcd (spF μ (mPr a b) en (μ 19 (mPr a b)).toNat).1.toNat (spF μ (mPr a b) en (μ 19 (mPr a b)).toNat).2.toNat : Nat) : Int)
def mSpR (μ : St) (a b en pt : Int) : Int := if mSpT μ a b en pt ≠ 0 then 0 else if pt = 0 then (spF μ (mPr a b) en (μ 19 (mPr a b)).toNat).2 / mSpG μ a b en else (spF μ (mPr a b) en (μ 19 (mPr a b)).toNat).1 / mSpG μ a b en
theorem gcd_st {u v : Int} (hu : 0 ≤ u) (hv : 0 < v) : Nat.gcd v.toNat (u % v).toNat = Nat.gcd u.toNat v.toNat := by
  have e : (u % v).toNat = u.toNat % v.toNat := by
    obtain ⟨a, rfl⟩ := Int.eq_ofNat_of_zero_le hu
    obtain ⟨b, rfl⟩ := Int.eq_ofNat_of_zero_le (Int.le_of_lt hv)
    rfl
  rw [e, Nat.gcd_comm u.toNat v.toNat, Nat.gcd_rec v.toNat u.toNat, Nat.gcd_comm]
def isF (μ : St) (q : Int) : Nat → Int → Int → Int
  | 0, _, t => t
  | f + 1, k, t => isF μ q f (k + 1) (if ¬ t = 0 then 1 else bI (μ 18 k = q))
theorem isF_s (μ : St) (q : Int) (f : Nat) (k t : Int) : isF μ q (f + 1) k t = isF μ q f (k + 1) (if ¬ t = 0 then 1 else bI (μ 18 k = q)) := rfl
def isPb (μ : St) (q : Int) : Int := isF μ q (μ 17 0).toNat 0 0
def sqM (μ : St) (q x y : Int) : Int := (μ 6 q - x) * (μ 6 q - x) + (μ 7 q - y) * (μ 7 q - y)
theorem sqM_bd {μ : St} (h : IMB μ) (q : Int) {x y : Int} (hx : -1000000 ≤ x ∧ x ≤ 1000000) (hy : -1000000 ≤ y ∧ y ≤ 1000000) : 0 ≤ sqM μ q x y ∧ sqM μ q x y ≤ 8000000000000 := by
  obtain ⟨-, -, -, h3, h4, -⟩ := h
  have a := sq_bd (a := μ 6 q - x) (n := 2000000) (by have := h3 q; omega) (by have := h3 q; omega)
  have b := sq_bd (a := μ 7 q - y) (n := 2000000) (by have := h4 q; omega) (by have := h4 q; omega)
  unfold sqM
  omega
abbrev nrS (μ : St) (x y q fd lt : Int) : Prop := isPb μ q = 0 ∨ ¬ μ 22 q = 0 ∨ (¬ fd = -1 ∧ lt ≤ sqM μ q x y)
def nrF (μ : St) (x y : Int) : Nat → Int → Int → Int → Int
  | 0, _, fd, _ => fd
  | f + 1, q, fd, lt => if nrS μ x y q fd lt then nrF μ x y f (q + 1) fd lt else nrF μ x y f (q + 1) q (sqM μ q x y)
theorem nrF_s (μ : St) (x y : Int) (f : Nat) (q fd lt : Int) : nrF μ x y (f + 1) q fd lt = if nrS μ x y q fd lt then nrF μ x y f (q + 1) fd lt else nrF μ x y f (q + 1) q (sqM μ q x y) := rfl
def nr (μ : St) (x y : Int) : Int := nrF μ x y (μ 5 0).toNat 0 (-1) 0
theorem nrF_bd (μ : St) (x y : Int) : ∀ (f : Nat) (q fd lt : Int), 0 ≤ q → (fd = -1 ∨ (0 ≤ fd ∧ fd < q)) → nrF μ x y f q fd lt = -1 ∨ (0 ≤ nrF μ x y f q fd lt ∧ nrF μ x y f q fd lt < q + f)
  | 0, q, fd, lt, h0, h => by unfold nrF; omega
  | f + 1, q, fd, lt, h0, h => by
    rw [nrF_s]
    split
    · have := nrF_bd μ x y f (q + 1) fd lt (by omega) (by omega); omega
    · have := nrF_bd μ x y f (q + 1) q (sqM μ q x y) (by omega) (by omega); omega
/-- one flight of the reference -/
def flN (t : St × Int × Int) (q : Int) : St × Int × Int := (up (up t.1 25 0 (t.1 25 0 + max ((t.1 6 q - t.2.1).natAbs : Int) ((t.1 7 q - t.2.2).natAbs : Int))) 22 q 1, t.1 6 q, t.1 7 q)
def flF : Nat → St × Int × Int → Int → St × Int
  | 0, t, r => (t.1, r)
  | f + 1, t, _ => if nr t.1 t.2.1 t.2.2 = -1 then (t.1, -1) else flF f (flN t (nr t.1 t.2.1 t.2.2)) (nr t.1 t.2.1 t.2.2)
theorem flF_s (f : Nat) (t : St × Int × Int) (r : Int) : flF (f + 1) t r = if nr t.1 t.2.1 t.2.2 = -1 then (t.1, -1) else flF f (flN t (nr t.1 t.2.1 t.2.2)) (nr t.1 t.2.1 t.2.2) := rfl
def fl0 (μ : St) : St × Int × Int := (up (fillA μ 22 36 0) 25 0 0, 0, 0)
def flT (μ : St) (k : Int) : St × Int := flF (k + 1).toNat (fl0 μ) (-1)
