/-! parts, spans, guards on both sides -/
theorem zB_or {x b c : Int} (hb : 0 ≤ b) (hc : 0 ≤ c) : zB (zOr x ((2 ^ b.toNat : Nat) : Int)) c ↔ (zB x c ∨ c = b) := by
  unfold zB zOr
  rw [Int.toNat_natCast, Int.toNat_natCast, Nat.testBit_or, Nat.testBit_two_pow, Bool.or_eq_true, decide_eq_true_iff]
  constructor
  · rintro (h | h)
    · exact Or.inl h
    · exact Or.inr (by omega)
  · rintro (h | h)
    · exact Or.inl h
    · exact Or.inr (by rw [h])
theorem zB_and {x y c : Int} : zB (zAnd x y) c ↔ (zB x c ∧ zB y c) := by
  unfold zB zAnd
  rw [Int.toNat_natCast, Nat.testBit_and, Bool.and_eq_true]
theorem pr_eq (a b : Int) : prOf a b = mPr a b := by unfold prOf mPr; split <;> omega
theorem pr_sym (a b : Int) : mPr a b = mPr b a := by unfold mPr; split <;> split <;> omega
theorem pr_inj {a b c d : Int} (ha : 0 ≤ a ∧ a < 12) (hb : 0 ≤ b ∧ b < 12) (hc : 0 ≤ c ∧ c < 12) (hd : 0 ≤ d ∧ d < 12) (h : mPr a b = mPr c d) : (a = c ∧ b = d) ∨ (a = d ∧ b = c) := by
  unfold mPr at h; split at h <;> split at h <;> omega
theorem spF_cg {μ ν : St} {q en : Int} : ∀ (n : Nat), (∀ k : Nat, k < n → ν 20 (8 * q + 2 * k + en) = μ 20 (8 * q + 2 * k + en)) → spF ν q en n = spF μ q en n
  | 0, _ => rfl
  | n + 1, h => by unfold spF; rw [spF_cg n (fun k hk => h k (by omega)), h n (by omega)]
theorem spF_s (μ : St) (q en : Int) (n : Nat) : spF μ q en (n + 1) = ((spF μ q en n).1 * μ 20 (8 * q + 2 * n + en) + (spF μ q en n).2, (spF μ q en n).2 * μ 20 (8 * q + 2 * n + en)) := rfl
theorem gcdF_ok : ∀ (k : Nat) (g s : Int), 0 ≤ g → 0 ≤ s → s < ((2 ^ k : Nat) : Int) → gcdF (2 * k + 2) g s = ((Nat.gcd g.toNat s.toNat : Nat) : Int)
  | 0, g, s, hg, hs, h => by
    have : s = 0 := by omega
    subst this
    rw [gcdF_s, if_pos rfl]
    show g = ((Nat.gcd g.toNat 0 : Nat) : Int)
    rw [Nat.gcd_zero_right]; omega
  | k + 1, g, s, hg, hs, h => by
    rw [show 2 * (k + 1) + 2 = (2 * k + 2) + 1 + 1 by omega, gcdF_s]
    by_cases e : s = 0
    · subst e
      rw [if_pos rfl]
      show g = ((Nat.gcd g.toNat 0 : Nat) : Int)
      rw [Nat.gcd_zero_right]; omega
    · rw [if_neg e, gcdF_s]
      have r0 := Int.emod_nonneg g e
      have r1 := Int.emod_lt_of_pos g (show 0 < s by omega)
      have st := gcd_st hg (show 0 < s by omega)
      by_cases e2 : g % s = 0
      · rw [if_pos e2]
        rw [e2] at st
        rw [← st]
        show s = ((Nat.gcd s.toNat 0 : Nat) : Int)
        rw [Nat.gcd_zero_right]; omega
      · rw [if_neg e2]
        have t0 := Int.emod_nonneg s e2
        have t1 := Int.emod_lt_of_pos s (show 0 < g % s by omega)
        have st2 := gcd_st (u := s) (v := g % s) hs (by omega)
        have hdiv : s = (g % s) * (s / (g % s)) + s % (g % s) := (Int.mul_ediv_add_emod s (g % s)).symm
        have hq : 1 ≤ s / (g % s) := (Int.le_ediv_iff_mul_le (by omega)).mpr (by omega)
        have hm : g % s ≤ (g % s) * (s / (g % s)) := by
          have := Int.mul_le_mul_of_nonneg_left hq (show 0 ≤ g % s by omega)
          omega
        have hk : ((2 ^ (k + 1) : Nat) : Int) = 2 * ((2 ^ k : Nat) : Int) := by rw [Nat.pow_succ]; omega
        rw [gcdF_ok k (g % s) (s % (g % s)) r0 t0 (by omega), st2, st]
def IvP (σ μ : St) : Prop := (σ 30 = μ 19) ∧ (∀ i, 0 ≤ μ 19 i ∧ μ 19 i ≤ 4) ∧ (∀ q k en, 0 ≤ k → k < μ 19 q → 0 ≤ en → en < 2 → 1 ≤ μ 20 (8 * q + 2 * k + en) ∧ μ 20 (8 * q + 2 * k + en) ≤ 1000) ∧ (∀ q, σ 32 q = (spF μ q 0 (μ 19 q).toNat).1) ∧ (∀ q, σ 33 q = (spF μ q 1 (μ 19 q).toNat).1) ∧ (∀ q, ¬ μ 19 q = 0 → σ 34 q = (spF μ q 0 (μ 19 q).toNat).2) ∧ (∀ q, ¬ μ 19 q = 0 → σ 35 q = (spF μ q 1 (μ 19 q).toNat).2) ∧ (∀ a b, (0 ≤ a ∧ a < 12) → (0 ≤ b ∧ b < 12) → (zB (σ 31 a) b ↔ ¬ a = b ∧ 0 < μ 19 (mPr a b))) ∧ (∀ i, 0 ≤ σ 31 i ∧ σ 31 i < 4096) ∧ (∀ a b, (0 ≤ a ∧ a < 12) → (0 ≤ b ∧ b < 12) → ¬ a = b → 0 < μ 19 (mPr a b) → a < μ 1 0 ∧ b < μ 1 0)
theorem IvP.c {σ μ : St} (h : IvP σ μ) : σ 30 = μ 19 := h.1
theorem IvP.cb {σ μ : St} (h : IvP σ μ) : ∀ i, 0 ≤ μ 19 i ∧ μ 19 i ≤ 4 := h.2.1
theorem IvP.pr {σ μ : St} (h : IvP σ μ) : ∀ q k en, 0 ≤ k → k < μ 19 q → 0 ≤ en → en < 2 → 1 ≤ μ 20 (8 * q + 2 * k + en) ∧ μ 20 (8 * q + 2 * k + en) ≤ 1000 := h.2.2.1
theorem IvP.a0 {σ μ : St} (h : IvP σ μ) : ∀ q, σ 32 q = (spF μ q 0 (μ 19 q).toNat).1 := h.2.2.2.1
theorem IvP.a1 {σ μ : St} (h : IvP σ μ) : ∀ q, σ 33 q = (spF μ q 1 (μ 19 q).toNat).1 := h.2.2.2.2.1
theorem IvP.d0 {σ μ : St} (h : IvP σ μ) : ∀ q, ¬ μ 19 q = 0 → σ 34 q = (spF μ q 0 (μ 19 q).toNat).2 := h.2.2.2.2.2.1
theorem IvP.d1 {σ μ : St} (h : IvP σ μ) : ∀ q, ¬ μ 19 q = 0 → σ 35 q = (spF μ q 1 (μ 19 q).toNat).2 := h.2.2.2.2.2.2.1
theorem IvP.j {σ μ : St} (h : IvP σ μ) : ∀ a b, (0 ≤ a ∧ a < 12) → (0 ≤ b ∧ b < 12) → (zB (σ 31 a) b ↔ ¬ a = b ∧ 0 < μ 19 (mPr a b)) := h.2.2.2.2.2.2.2.1
theorem IvP.jb {σ μ : St} (h : IvP σ μ) : ∀ i, 0 ≤ σ 31 i ∧ σ 31 i < 4096 := h.2.2.2.2.2.2.2.2.1
theorem IvP.jn {σ μ : St} (h : IvP σ μ) : ∀ a b, (0 ≤ a ∧ a < 12) → (0 ≤ b ∧ b < 12) → ¬ a = b → 0 < μ 19 (mPr a b) → a < μ 1 0 ∧ b < μ 1 0 := h.2.2.2.2.2.2.2.2.2
theorem IvP.of {σ μ τ ν : St} (h : IvP σ μ) (h1 : ∀ g, 30 ≤ g → g ≤ 35 → τ g = σ g) (h2 : ∀ g, g = 19 ∨ g = 20 → ν g = μ g) (h3 : μ 1 0 ≤ ν 1 0) : IvP τ ν := by
  have e19 := h2 19 (Or.inl rfl)
  have e20 := h2 20 (Or.inr rfl)
  have sp : ∀ q en n, spF ν q en n = spF μ q en n := fun q en n => spF_cg n (fun k _ => by rw [e20])
  refine ⟨?_, ?_, ?_, ?_, ?_, ?_, ?_, ?_, ?_, ?_⟩
  · rw [h1 30 (by decide) (by decide), e19]; exact h.c
  · rw [e19]; exact h.cb
  · rw [e19, e20]; exact h.pr
  · intro q; rw [h1 32 (by decide) (by decide), e19, sp]; exact h.a0 q
  · intro q; rw [h1 33 (by decide) (by decide), e19, sp]; exact h.a1 q
  · intro q; rw [h1 34 (by decide) (by decide), e19, sp]; exact h.d0 q
  · intro q; rw [h1 35 (by decide) (by decide), e19, sp]; exact h.d1 q
  · rw [h1 31 (by decide) (by decide), e19]; exact h.j
  · rw [h1 31 (by decide) (by decide)]; exact h.jb
  · intro a b ha hb hn hp
    rw [e19] at hp
    have := h.jn a b ha hb hn hp
    omega
theorem pw_bd {b : Int} (hb : 0 ≤ b ∧ b < 12) : 0 ≤ ((2 ^ b.toNat : Nat) : Int) ∧ ((2 ^ b.toNat : Nat) : Int) < 4096 := by
  have h := Nat.pow_lt_pow_right (a := 2) (by decide) (show b.toNat < 12 by omega)
  have h2 : (2 : Nat) ^ 12 = 4096 := rfl
  rw [h2] at h
  generalize 2 ^ b.toNat = w at h ⊢
  omega
theorem zOr12 {a b : Int} (ha : 0 ≤ a ∧ a < 4096) (hb : 0 ≤ b ∧ b < 4096) : 0 ≤ zOr a b ∧ zOr a b < 4096 := zOr_bd (k := 12) ha hb
theorem IvP.add {σ μ : St} (h : IvP σ μ) {a b lo hi : Int} (ha : 0 ≤ a ∧ a < μ 1 0) (hb : 0 ≤ b ∧ b < μ 1 0) (h12 : μ 1 0 ≤ 12) (hab : ¬ a = b) (hlo : 1 ≤ lo ∧ lo ≤ 1000) (hhi : 1 ≤ hi ∧ hi ≤ 1000) (hc : ¬ μ 19 (mPr a b) = 4) : IvP (pAdd σ a b lo hi) (mPaS μ (mPr a b) lo hi) := by
  have cb := h.cb (mPr a b)
  have ec : σ 30 (prOf a b) = μ 19 (mPr a b) := by rw [pr_eq, h.c]
  unfold pAdd
  rw [if_neg (by rw [ec]; omega)]
  rw [pr_eq]
  generalize hq : mPr a b = q at *
  have hqb : 0 ≤ q ∧ q < 144 := by rw [← hq]; exact mPr_bd ⟨ha.1, by omega⟩ ⟨hb.1, by omega⟩
  rw [pr_eq, hq] at ec
  generalize hτ : pJoin (pJoin (pCnt (pInv 1 (pInv 0 σ q lo) q hi) q) a b) b a = τ
  generalize hν : mPaS μ q lo hi = ν
  generalize hu0 : (if σ 30 q = 0 then (1 : Int) else σ 34 q) = u0
  generalize hu1 : (if σ 30 q = 0 then (1 : Int) else σ 35 q) = u1
  have p0 : pInv 0 σ q lo = up (up σ 32 q (σ 32 q * lo + u0)) 34 q (u0 * lo) := by unfold pInv; rw [← hu0]
  have p1 : pInv 1 (pInv 0 σ q lo) q hi = up (up (pInv 0 σ q lo) 33 q (σ 33 q * hi + u1)) 35 q (u1 * hi) := by
    have e1 : pInv 0 σ q lo 30 = σ 30 := by rw [p0, up_f _ _ _ (by decide), up_f _ _ _ (by decide)]
    have e2 : pInv 0 σ q lo 35 = σ 35 := by rw [p0, up_f _ _ _ (by decide), up_f _ _ _ (by decide)]
    have e3 : pInv 0 σ q lo 33 = σ 33 := by rw [p0, up_f _ _ _ (by decide), up_f _ _ _ (by decide)]
    show up (up (pInv 0 σ q lo) 33 q (pInv 0 σ q lo 33 q * hi + (if pInv 0 σ q lo 30 q = 0 then 1 else pInv 0 σ q lo 35 q))) 35 q ((if pInv 0 σ q lo 30 q = 0 then 1 else pInv 0 σ q lo 35 q) * hi) = _
    rw [e1, e2, e3, hu1]
  generalize hρ : pInv 1 (pInv 0 σ q lo) q hi = ρ at *
  have r30 : ρ 30 = σ 30 := by rw [p1, p0, up_f _ _ _ (by decide), up_f _ _ _ (by decide), up_f _ _ _ (by decide), up_f _ _ _ (by decide)]
  have r31 : ρ 31 = σ 31 := by rw [p1, p0, up_f _ _ _ (by decide), up_f _ _ _ (by decide), up_f _ _ _ (by decide), up_f _ _ _ (by decide)]
  have r32' : ρ 32 = up σ 32 q (σ 32 q * lo + u0) 32 := by rw [p1, p0, up_f _ _ _ (by decide), up_f _ _ _ (by decide), up_f _ _ _ (by decide)]
  have r34 : ρ 34 = up σ 34 q (u0 * lo) 34 := by rw [p1, p0, up_f _ _ _ (by decide), up_f _ _ _ (by decide)]; exact up_c (up_f _ _ _ (by decide))
  have r33 : ρ 33 = up σ 33 q (σ 33 q * hi + u1) 33 := by rw [p1, p0, up_f _ _ _ (by decide)]; exact up_c (by rw [up_f _ _ _ (by decide), up_f _ _ _ (by decide)])
  have r35 : ρ 35 = up σ 35 q (u1 * hi) 35 := by rw [p1, p0]; exact up_c (by rw [up_f _ _ _ (by decide), up_f _ _ _ (by decide), up_f _ _ _ (by decide)])
  have tt : τ = up (up (up ρ 30 q (σ 30 q + 1)) 31 a (zOr (σ 31 a) ((2 ^ b.toNat : Nat) : Int))) 31 b (zOr (up σ 31 a (zOr (σ 31 a) ((2 ^ b.toNat : Nat) : Int)) 31 b) ((2 ^ a.toNat : Nat) : Int)) := by
    rw [← hτ]
    unfold pJoin pCnt
    have e1 : up ρ 30 q (ρ 30 q + 1) 31 = σ 31 := by rw [up_f _ _ _ (by decide), r31]
    rw [e1, r30]
    have e2 : up (up ρ 30 q (σ 30 q + 1)) 31 a (zOr (σ 31 a) ((2 ^ b.toNat : Nat) : Int)) 31 = up σ 31 a (zOr (σ 31 a) ((2 ^ b.toNat : Nat) : Int)) 31 := up_c (by rw [up_f _ _ _ (by decide), r31])
    rw [e2]
  have t30 : τ 30 = up σ 30 q (σ 30 q + 1) 30 := by rw [tt, up_f _ _ _ (by decide), up_f _ _ _ (by decide)]; exact up_c r30
  have t31 : τ 31 = up (up σ 31 a (zOr (σ 31 a) ((2 ^ b.toNat : Nat) : Int))) 31 b (zOr (up σ 31 a (zOr (σ 31 a) ((2 ^ b.toNat : Nat) : Int)) 31 b) ((2 ^ a.toNat : Nat) : Int)) 31 := by
    rw [tt]; exact up_c (up_c (by rw [up_f _ _ _ (by decide), r31]))
  have to : ∀ g, g ≠ 30 → g ≠ 31 → τ g = ρ g := fun g x y => by rw [tt, up_f _ _ _ y, up_f _ _ _ y, up_f _ _ _ x]
  have n19 : ν 19 = up μ 19 q (μ 19 q + 1) 19 := by rw [← hν]; unfold mPaS; exact up_c (by rw [up_f _ _ _ (by decide), up_f _ _ _ (by decide), up_f _ _ _ (by decide)])
  have n20 : ν 20 = up (up μ 20 (8 * q + 2 * μ 19 q) lo) 20 (8 * q + 2 * μ 19 q + 1) hi 20 := by rw [← hν]; unfold mPaS; rw [up_f _ _ _ (by decide)]; exact up_c (up_c (up_f _ _ _ (by decide)))
  have n1 : ν 1 = μ 1 := by rw [← hν]; unfold mPaS; rw [up_f _ _ _ (by decide), up_f _ _ _ (by decide), up_f _ _ _ (by decide), up_f _ _ _ (by decide)]
  clear hτ hν hρ p0 p1 tt
  have hν20 : ∀ k, ν 20 k = if k = 8 * q + 2 * μ 19 q + 1 then hi else if k = 8 * q + 2 * μ 19 q then lo else μ 20 k := fun k => by
    rw [n20]; unfold up
    by_cases e1 : k = 8 * q + 2 * μ 19 q + 1
    · rw [if_pos ⟨rfl, e1⟩, if_pos e1]
    · rw [if_neg (fun z => e1 z.2), if_neg e1]
      by_cases e2 : k = 8 * q + 2 * μ 19 q
      · rw [if_pos ⟨rfl, e2⟩, if_pos e2]
      · rw [if_neg (fun z => e2 z.2), if_neg e2]
  have hν19 : ∀ k, ν 19 k = if k = q then μ 19 q + 1 else μ 19 k := fun k => by
    rw [n19]; unfold up
    by_cases e : k = q
    · rw [if_pos ⟨rfl, e⟩, if_pos e]
    · rw [if_neg (fun z => e z.2), if_neg e]
  -- the sums, before the new part
  have spo : ∀ (q' en : Int) (n : Nat), 0 ≤ en → en < 2 → (n : Int) ≤ μ 19 q' → spF ν q' en n = spF μ q' en n := by
    intro q' en n e0 e1 hn
    have := h.cb q'
    refine spF_cg n (fun k hk => ?_)
    rw [hν20, if_neg (by
      by_cases e : q' = q
      · subst e; omega
      · omega), if_neg (by
      by_cases e : q' = q
      · subst e; omega
      · omega)]
  have spn : ∀ en : Int, 0 ≤ en → en < 2 → spF ν q en (μ 19 q + 1).toNat = ((spF μ q en (μ 19 q).toNat).1 * (if en = 0 then lo else hi) + (spF μ q en (μ 19 q).toNat).2, (spF μ q en (μ 19 q).toNat).2 * (if en = 0 then lo else hi)) := by
    intro en e0 e1
    rw [show (μ 19 q + 1).toNat = (μ 19 q).toNat + 1 by omega]
    rw [spF_s, spo q en (μ 19 q).toNat e0 e1 (by omega), hν20, show ((μ 19 q).toNat : Int) = μ 19 q by omega]
    by_cases e : en = 0
    · rw [if_neg (by omega), if_pos (by omega), if_pos e]
    · rw [if_pos (by omega), if_neg e]
  have hu : ∀ (u : Int) (f : Nat) (en : Int), (if σ 30 q = 0 then (1 : Int) else σ f q) = u → (¬ μ 19 q = 0 → σ f q = (spF μ q en (μ 19 q).toNat).2) → u = (spF μ q en (μ 19 q).toNat).2 := by
    intro u f en e d
    rw [ec] at e
    by_cases z : μ 19 q = 0
    · rw [if_pos z] at e
      rw [z, ← e]; rfl
    · rw [if_neg z] at e
      rw [← e]; exact d z
  have hu0' := hu u0 34 0 hu0 (h.d0 q)
  have hu1' := hu u1 35 1 hu1 (h.d1 q)
  have upq : ∀ (f : Nat) (v : Int) (k : Int), up σ f q v f k = if k = q then v else σ f k := fun f v k => by
    unfold up
    by_cases e : k = q
    · rw [if_pos ⟨rfl, e⟩, if_pos e]
    · rw [if_neg (fun z => e z.2), if_neg e]
  have a12 : 0 ≤ a ∧ a < 12 := ⟨ha.1, by omega⟩
  have b12 : 0 ≤ b ∧ b < 12 := ⟨hb.1, by omega⟩
  have jba := h.jb a
  have jbb := h.jb b
  have p2a := pw_bd a12
  have p2b := pw_bd b12
  have hτ31 : ∀ k, τ 31 k = if k = b then zOr (σ 31 b) ((2 ^ a.toNat : Nat) : Int) else if k = a then zOr (σ 31 a) ((2 ^ b.toNat : Nat) : Int) else σ 31 k := fun k => by
    rw [t31]
    have e0 : up σ 31 a (zOr (σ 31 a) ((2 ^ b.toNat : Nat) : Int)) 31 b = σ 31 b := up_n _ _ _ (by omega)
    rw [e0]
    unfold up
    by_cases e1 : k = b
    · rw [if_pos ⟨rfl, e1⟩, if_pos e1]
    · rw [if_neg (fun z => e1 z.2), if_neg e1]
      by_cases e2 : k = a
      · rw [if_pos ⟨rfl, e2⟩, if_pos e2]
      · rw [if_neg (fun z => e2 z.2), if_neg e2]
  refine ⟨?_, ?_, ?_, ?_, ?_, ?_, ?_, ?_, ?_, ?_⟩
  · rw [t30, n19, ec]; exact up_c h.c
  · intro i; rw [hν19]; have := h.cb i; split <;> omega
  · intro q' k en k0 k1 e0 e1
    rw [hν19] at k1
    rw [hν20]
    have cq := h.cb q'
    by_cases e : q' = q
    · subst e
      rw [if_pos rfl] at k1
      by_cases z : k = μ 19 q'
      · split
        · exact hhi
        · rw [if_pos (by omega)]; exact hlo
      · rw [if_neg (by omega), if_neg (by omega)]
        exact h.pr q' k en k0 (by omega) e0 e1
    · rw [if_neg e] at k1
      rw [if_neg (by omega), if_neg (by omega)]
      exact h.pr q' k en k0 k1 e0 e1
  · intro q'
    rw [to 32 (by decide) (by decide), r32', upq, hν19]
    by_cases e : q' = q
    · rw [if_pos e, if_pos e, e, spn 0 (by decide) (by decide), if_pos rfl, hu0', h.a0 q]
    · rw [if_neg e, if_neg e, spo q' 0 _ (by decide) (by decide) (by have := h.cb q'; omega)]; exact h.a0 q'
  · intro q'
    rw [to 33 (by decide) (by decide), r33, upq, hν19]
    by_cases e : q' = q
    · rw [if_pos e, if_pos e, e, spn 1 (by decide) (by decide), if_neg (by decide), hu1', h.a1 q]
    · rw [if_neg e, if_neg e, spo q' 1 _ (by decide) (by decide) (by have := h.cb q'; omega)]; exact h.a1 q'
  · intro q' hz
    rw [hν19] at hz
    rw [to 34 (by decide) (by decide), r34, upq, hν19]
    by_cases e : q' = q
    · rw [if_pos e, if_pos e, e, spn 0 (by decide) (by decide), if_pos rfl, hu0']
    · rw [if_neg e] at hz
      rw [if_neg e, if_neg e, spo q' 0 _ (by decide) (by decide) (by have := h.cb q'; omega)]; exact h.d0 q' hz
  · intro q' hz
    rw [hν19] at hz
    rw [to 35 (by decide) (by decide), r35, upq, hν19]
    by_cases e : q' = q
    · rw [if_pos e, if_pos e, e, spn 1 (by decide) (by decide), if_neg (by decide), hu1']
    · rw [if_neg e] at hz
      rw [if_neg e, if_neg e, spo q' 1 _ (by decide) (by decide) (by have := h.cb q'; omega)]; exact h.d1 q' hz
  · intro c d hc' hd'
    rw [hτ31, hν19]
    have cq := h.cb q
    have old := h.j c d hc' hd'
    by_cases e1 : c = b
    · subst e1
      rw [if_pos rfl, zB_or ha.1 hd'.1, old]
      by_cases e2 : d = a
      · subst e2
        rw [if_pos (by rw [pr_sym]; exact hq)]
        exact ⟨fun _ => ⟨fun z => hab z.symm, by omega⟩, fun _ => Or.inr rfl⟩
      · rw [if_neg (fun z => by
          rcases pr_inj hc' hd' a12 hc' (z.trans hq.symm) with ⟨x1, x2⟩ | ⟨x1, x2⟩
          · exact hab x1.symm
          · exact e2 x2)]
        exact ⟨fun z => z.elim id (fun w => absurd w e2), fun z => Or.inl z⟩
    · rw [if_neg e1]
      by_cases e3 : c = a
      · subst e3
        rw [if_pos rfl, zB_or hb.1 hd'.1, old]
        by_cases e2 : d = b
        · subst e2
          rw [if_pos hq]
          exact ⟨fun _ => ⟨hab, by omega⟩, fun _ => Or.inr rfl⟩
        · rw [if_neg (fun z => by
            rcases pr_inj hc' hd' hc' b12 (z.trans hq.symm) with ⟨x1, x2⟩ | ⟨x1, x2⟩
            · exact e2 x2
            · exact e1 x1)]
          exact ⟨fun z => z.elim id (fun w => absurd w e2), fun z => Or.inl z⟩
      · rw [if_neg e3, old, if_neg (fun z => by
          rcases pr_inj hc' hd' a12 b12 (z.trans hq.symm) with ⟨x1, x2⟩ | ⟨x1, x2⟩
          · exact e3 x1
          · exact e1 x1)]
  · intro i
    rw [hτ31]
    split
    · exact zOr12 jbb p2a
    · split
      · exact zOr12 jba p2b
      · exact h.jb i
  · intro c d hc' hd' hcd hp
    rw [n1]
    rw [hν19] at hp
    by_cases e : mPr c d = q
    · rcases pr_inj hc' hd' a12 b12 (e.trans hq.symm) with ⟨x1, x2⟩ | ⟨x1, x2⟩
      · subst x1; subst x2; exact ⟨ha.2, hb.2⟩
      · subst x1; subst x2; exact ⟨hb.2, ha.2⟩
    · rw [if_neg e] at hp
      exact h.jn c d hc' hd' hcd hp
