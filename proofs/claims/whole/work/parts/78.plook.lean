/-! run: the nets that are looked at, on both sides -/
theorem lnP_sp (n : Int) : ∀ (f : Nat) (j : Int) (τ : St), (∀ g, g ≠ 12 → g ≠ 13 → lnP n f j τ g = τ g) ∧ (∀ x, lnP n f j τ 12 x = if τ 17 0 * 3 + j ≤ x ∧ x < τ 17 0 * 3 + j + f then τ 2 (n * 3 + (x - τ 17 0 * 3)) else τ 12 x) ∧ (∀ x, lnP n f j τ 13 x = if τ 17 0 * 3 + j ≤ x ∧ x < τ 17 0 * 3 + j + f then 8000001 - τ 6 (τ 2 (n * 3 + (x - τ 17 0 * 3))) else τ 13 x)
  | 0, j, τ => ⟨fun _ _ _ => rfl, fun x => by rw [if_neg (by omega)]; rfl, fun x => by rw [if_neg (by omega)]; rfl⟩
  | f + 1, j, τ => by
    rw [lnP_s]
    generalize hρ : up (up τ 12 (τ 17 0 * 3 + j) (τ 2 (n * 3 + j))) 13 (τ 17 0 * 3 + j) (8000001 - τ 6 (τ 2 (n * 3 + j))) = ρ
    obtain ⟨a1, a2, a3⟩ := lnP_sp n f (j + 1) ρ
    have r : ∀ g, g ≠ 12 → g ≠ 13 → ρ g = τ g := fun g a b => by rw [← hρ, up_f _ _ _ b, up_f _ _ _ a]
    have r17 := r 17 (by decide) (by decide)
    have r2 := r 2 (by decide) (by decide)
    have r6 := r 6 (by decide) (by decide)
    have r12 : ∀ x, ρ 12 x = if x = τ 17 0 * 3 + j then τ 2 (n * 3 + j) else τ 12 x := fun x => by
      rw [← hρ, up_o _ _ _ _ (by decide)]
      by_cases e : x = τ 17 0 * 3 + j
      · rw [e, up_s, if_pos rfl]
      · rw [up_n _ _ _ e, if_neg e]
    have r13 : ∀ x, ρ 13 x = if x = τ 17 0 * 3 + j then 8000001 - τ 6 (τ 2 (n * 3 + j)) else τ 13 x := fun x => by
      rw [← hρ]
      by_cases e : x = τ 17 0 * 3 + j
      · rw [e, up_s, if_pos rfl]
      · rw [up_n _ _ _ e, up_o _ _ _ _ (by decide), if_neg e]
    refine ⟨fun g a b => (a1 g a b).trans (r g a b), fun x => ?_, fun x => ?_⟩
    · rw [a2, r17, r2, r12]
      by_cases e : x = τ 17 0 * 3 + j
      · rw [if_neg (by omega), if_pos e, if_pos (by omega)]; congr 1; omega
      · rw [if_neg e]
        by_cases z : τ 17 0 * 3 + (j + 1) ≤ x ∧ x < τ 17 0 * 3 + (j + 1) + f
        · rw [if_pos z, if_pos (by omega)]
        · rw [if_neg z, if_neg (by omega)]
    · rw [a3, r17, r2, r6, r13]
      by_cases e : x = τ 17 0 * 3 + j
      · rw [if_neg (by omega), if_pos e, if_pos (by omega)]; congr 3; omega
      · rw [if_neg e]
        by_cases z : τ 17 0 * 3 + (j + 1) ≤ x ∧ x < τ 17 0 * 3 + (j + 1) + f
        · rw [if_pos z, if_pos (by omega)]
        · rw [if_neg z, if_neg (by omega)]
def LKi (σ μ : St) (mo n : Int) (τ : St) (t : St × Int) : Prop := (∀ g, g ≠ 10 → g ≠ 11 → g ≠ 12 → g ≠ 13 → g ≠ 17 → τ g = σ g) ∧ (∀ g, g ≠ 12 → g ≠ 13 → t.1 g = rn0 μ g) ∧ (τ 17 0 = t.1 12 0 ∧ 0 ≤ τ 17 0 ∧ τ 17 0 ≤ mo) ∧ (∀ k, 0 ≤ k → k < τ 17 0 → τ 10 k = t.1 13 k ∧ 0 ≤ τ 10 k ∧ τ 10 k < n ∧ τ 11 k = σ 1 (τ 10 k) ∧ ∀ j, 0 ≤ j → j < σ 1 (τ 10 k) → τ 12 (k * 3 + j) = σ 2 (τ 10 k * 3 + j) ∧ τ 13 (k * 3 + j) = 8000001 - σ 6 (σ 2 (τ 10 k * 3 + j))) ∧ (∀ k k', 0 ≤ k → k < k' → k' < τ 17 0 → τ 10 k < τ 10 k') ∧ (t.2 = cntM σ n.toNat) ∧ ((∀ i, 0 ≤ τ 11 i ∧ τ 11 i ≤ 3) ∧ (∀ i, 0 ≤ τ 12 i ∧ τ 12 i ≤ 35) ∧ (∀ i, 0 ≤ τ 13 i ∧ τ 13 i ≤ 8000001)) ∧ (∀ k, 0 ≤ t.1 13 k ∧ t.1 13 k < 12)
theorem LKi.a {σ μ : St} {mo n : Int} {τ : St} {t : St × Int} (h : LKi σ μ mo n τ t) : ∀ g, g ≠ 10 → g ≠ 11 → g ≠ 12 → g ≠ 13 → g ≠ 17 → τ g = σ g := h.1
theorem LKi.b {σ μ : St} {mo n : Int} {τ : St} {t : St × Int} (h : LKi σ μ mo n τ t) : ∀ g, g ≠ 12 → g ≠ 13 → t.1 g = rn0 μ g := h.2.1
theorem LKi.c {σ μ : St} {mo n : Int} {τ : St} {t : St × Int} (h : LKi σ μ mo n τ t) : τ 17 0 = t.1 12 0 ∧ 0 ≤ τ 17 0 ∧ τ 17 0 ≤ mo := h.2.2.1
theorem LKi.d {σ μ : St} {mo n : Int} {τ : St} {t : St × Int} (h : LKi σ μ mo n τ t) : ∀ k, 0 ≤ k → k < τ 17 0 → τ 10 k = t.1 13 k ∧ 0 ≤ τ 10 k ∧ τ 10 k < n ∧ τ 11 k = σ 1 (τ 10 k) ∧ ∀ j, 0 ≤ j → j < σ 1 (τ 10 k) → τ 12 (k * 3 + j) = σ 2 (τ 10 k * 3 + j) ∧ τ 13 (k * 3 + j) = 8000001 - σ 6 (σ 2 (τ 10 k * 3 + j)) := h.2.2.2.1
theorem LKi.e {σ μ : St} {mo n : Int} {τ : St} {t : St × Int} (h : LKi σ μ mo n τ t) : ∀ k k', 0 ≤ k → k < k' → k' < τ 17 0 → τ 10 k < τ 10 k' := h.2.2.2.2.1
theorem LKi.f {σ μ : St} {mo n : Int} {τ : St} {t : St × Int} (h : LKi σ μ mo n τ t) : t.2 = cntM σ n.toNat := h.2.2.2.2.2.1
theorem LKi.g {σ μ : St} {mo n : Int} {τ : St} {t : St × Int} (h : LKi σ μ mo n τ t) : (∀ i, 0 ≤ τ 11 i ∧ τ 11 i ≤ 3) ∧ (∀ i, 0 ≤ τ 12 i ∧ τ 12 i ≤ 35) ∧ (∀ i, 0 ≤ τ 13 i ∧ τ 13 i ≤ 8000001) := h.2.2.2.2.2.2.1
theorem LKi.h {σ μ : St} {mo n : Int} {τ : St} {t : St × Int} (h : LKi σ μ mo n τ t) : ∀ k, 0 ≤ t.1 13 k ∧ t.1 13 k < 12 := h.2.2.2.2.2.2.2
theorem lk_step {σ μ : St} (hB : IvB σ μ) {mo n : Int} (hmo : 0 ≤ mo ∧ mo ≤ 8) (hn : 0 ≤ n ∧ n < 12) {τ : St} {t : St × Int} (h : LKi σ μ mo n τ t) : LKi σ μ mo (n + 1) (if ¬ τ 0 n = 0 ∧ τ 17 0 < mo ∧ τ 17 0 < 8 then lnB τ n else τ) (if t.1 2 n = 0 then t else if t.1 12 0 < mo then (up (up t.1 13 (t.1 12 0) n) 12 0 (t.1 12 0 + 1), t.2 + 1) else (t.1, t.2 + 1)) := by
  have e0 : τ 0 n = t.1 2 n := by rw [h.a 0 (by decide) (by decide) (by decide) (by decide) (by decide), h.b 2 (by decide) (by decide), hB.b0]; show _ = up (up (up μ 0 0 0) 11 0 1) 12 0 0 2 n; rw [up_o _ _ _ _ (by decide), up_o _ _ _ _ (by decide), up_o _ _ _ _ (by decide)]
  have es : σ 0 n = τ 0 n := by rw [h.a 0 (by decide) (by decide) (by decide) (by decide) (by decide)]
  have i0 := hB.ib.2.2.2.2.2.2.2.2.2 n
  have hc := h.c
  have cn : cntM σ (n + 1).toNat = cntM σ n.toNat + σ 0 n := by
    rw [show (n + 1).toNat = n.toNat + 1 by omega]
    show cntM σ n.toNat + σ 0 ((n.toNat : Nat) : Int) = _
    rw [Int.toNat_of_nonneg hn.1]
  by_cases m0 : t.1 2 n = 0
  · rw [if_neg (fun z => z.1 (e0.trans m0)), if_pos m0]
    refine ⟨h.a, h.b, h.c, fun k k0 k1 => ?_, h.e, ?_, h.g, h.h⟩
    · have := h.d k k0 k1
      exact ⟨this.1, this.2.1, by omega, this.2.2.2⟩
    · rw [cn, es, e0, m0, h.f]; omega
  · have s1 : σ 0 n = 1 := by rw [es, e0]; rw [es, e0] at i0; omega
    rw [if_neg m0]
    by_cases q : t.1 12 0 < mo
    · rw [if_pos ⟨fun z => m0 (e0 ▸ z), by omega, by omega⟩, if_pos q]
      -- a net is looked at
      unfold lnB
      generalize hρ : up (up τ 10 (τ 17 0) n) 11 (τ 17 0) (τ 1 n) = ρ
      have t1 : τ 1 = σ 1 := h.a 1 (by decide) (by decide) (by decide) (by decide) (by decide)
      have t2 : τ 2 = σ 2 := h.a 2 (by decide) (by decide) (by decide) (by decide) (by decide)
      have t6 : τ 6 = σ 6 := h.a 6 (by decide) (by decide) (by decide) (by decide) (by decide)
      have r : ∀ g, g ≠ 10 → g ≠ 11 → ρ g = τ g := fun g a b => by rw [← hρ, up_f _ _ _ b, up_f _ _ _ a]
      have r17 := r 17 (by decide) (by decide)
      obtain ⟨a1, a2, a3⟩ := lnP_sp n (τ 1 n).toNat 0 ρ
      generalize hκ : lnP n (τ 1 n).toNat 0 ρ = κ at a1 a2 a3
      unfold lnI
      have k17 : κ 17 0 = τ 17 0 := by rw [a1 17 (by decide) (by decide), r17]
      rw [k17]
      generalize hφ : up κ 17 0 (τ 17 0 + 1) = φ
      have f17 : φ 17 0 = τ 17 0 + 1 := by rw [← hφ, up_s]
      have fo : ∀ g, g ≠ 17 → φ g = κ g := fun g a => by rw [← hφ, up_f _ _ _ a]
      have f10 : ∀ k, φ 10 k = if k = τ 17 0 then n else τ 10 k := fun k => by
        rw [fo 10 (by decide), a1 10 (by decide) (by decide), ← hρ, up_o _ _ _ _ (by decide)]
        by_cases e : k = τ 17 0
        · rw [e, up_s, if_pos rfl]
        · rw [up_n _ _ _ e, if_neg e]
      have f11 : ∀ k, φ 11 k = if k = τ 17 0 then σ 1 n else τ 11 k := fun k => by
        rw [fo 11 (by decide), a1 11 (by decide) (by decide), ← hρ, t1]
        by_cases e : k = τ 17 0
        · rw [e, up_s, if_pos rfl]
        · rw [up_n _ _ _ e, up_o _ _ _ _ (by decide), if_neg e]
      have f12 : ∀ x, φ 12 x = if τ 17 0 * 3 ≤ x ∧ x < τ 17 0 * 3 + σ 1 n then σ 2 (n * 3 + (x - τ 17 0 * 3)) else τ 12 x := fun x => by
        have i1 := hB.ib.2.2.2.2.2.2.2.1 n
        rw [fo 12 (by decide), a2, r17, r 2 (by decide) (by decide), r 12 (by decide) (by decide), t2, t1, Int.add_zero]
        by_cases z : τ 17 0 * 3 ≤ x ∧ x < τ 17 0 * 3 + σ 1 n
        · rw [if_pos z, if_pos (by omega)]
        · rw [if_neg z, if_neg (by omega)]
      have f13 : ∀ x, φ 13 x = if τ 17 0 * 3 ≤ x ∧ x < τ 17 0 * 3 + σ 1 n then 8000001 - σ 6 (σ 2 (n * 3 + (x - τ 17 0 * 3))) else τ 13 x := fun x => by
        have i1 := hB.ib.2.2.2.2.2.2.2.1 n
        rw [fo 13 (by decide), a3, r17, r 2 (by decide) (by decide), r 6 (by decide) (by decide), r 13 (by decide) (by decide), t2, t6, t1, Int.add_zero]
        by_cases z : τ 17 0 * 3 ≤ x ∧ x < τ 17 0 * 3 + σ 1 n
        · rw [if_pos z, if_pos (by omega)]
        · rw [if_neg z, if_neg (by omega)]
      have foo : ∀ g, g ≠ 10 → g ≠ 11 → g ≠ 12 → g ≠ 13 → g ≠ 17 → φ g = σ g := fun g a b c d e => by
        rw [fo g e, a1 g c d, r g a b]; exact h.a g a b c d e
      clear hφ hκ hρ a1 a2 a3 r r17 fo k17
      generalize hν : up (up t.1 13 (t.1 12 0) n) 12 0 (t.1 12 0 + 1) = ν
      have n12 : ν 12 0 = t.1 12 0 + 1 := by rw [← hν, up_s]
      have n13 : ∀ k, ν 13 k = if k = t.1 12 0 then n else t.1 13 k := fun k => by
        rw [← hν, up_o _ _ _ _ (by decide)]
        by_cases e : k = t.1 12 0
        · rw [e, up_s, if_pos rfl]
        · rw [up_n _ _ _ e, if_neg e]
      have no : ∀ g, g ≠ 12 → g ≠ 13 → ν g = t.1 g := fun g a b => by rw [← hν, up_f _ _ _ a, up_f _ _ _ b]
      clear hν
      refine ⟨foo, fun g a b => (no g a b).trans (h.b g a b), ?_, fun k k0 k1 => ?_, fun k k' k0 k1 k2 => ?_, ?_, ⟨fun i => ?_, fun i => ?_, fun i => ?_⟩, fun k => ?_⟩
      · show φ 17 0 = ν 12 0 ∧ 0 ≤ φ 17 0 ∧ φ 17 0 ≤ mo
        rw [f17, n12]; omega
      · show φ 10 k = ν 13 k ∧ _
        rw [f17] at k1
        rw [f10, f11, n13, ← hc.1]
        have i1 := hB.ib.2.2.2.2.2.2.2.1
        by_cases e : k = τ 17 0
        · rw [if_pos e, if_pos e, if_pos e]
          refine ⟨rfl, hn.1, by omega, rfl, fun j j0 j1 => ?_⟩
          rw [f12, f13, e, if_pos (by omega), if_pos (by omega), show τ 17 0 * 3 + j - τ 17 0 * 3 = j by omega]
          exact ⟨rfl, rfl⟩
        · rw [if_neg e, if_neg e, if_neg e]
          obtain ⟨d1, d2, d3, d4, d5⟩ := h.d k k0 (by omega)
          refine ⟨d1, d2, by omega, d4, fun j j0 j1 => ?_⟩
          have b1 := i1 (τ 10 k)
          rw [f12, f13, if_neg (by omega), if_neg (by omega)]
          exact d5 j j0 j1
      · rw [f17] at k2
        rw [f10, f10, if_neg (by omega)]
        by_cases e : k' = τ 17 0
        · rw [if_pos e]
          have := h.d k k0 (by omega)
          omega
        · rw [if_neg e]; exact h.e k k' k0 k1 (by omega)
      · show t.2 + 1 = _
        rw [cn, s1, h.f]
      · rw [f11]; split
        · exact hB.ib.2.2.2.2.2.2.2.1 n
        · exact h.g.1 i
      · rw [f12]; split
        · exact hB.ib.2.2.2.2.2.2.2.2.1 _
        · exact h.g.2.1 i
      · rw [f13]; split
        · have := hB.ib.2.2.2.2.2.2.1 (σ 2 (n * 3 + (i - τ 17 0 * 3)))
          omega
        · exact h.g.2.2 i
      · show 0 ≤ ν 13 k ∧ ν 13 k < 12
        rw [n13]; split
        · exact hn
        · exact h.h k
    · rw [if_neg (fun z => q (by omega)), if_neg q]
      refine ⟨h.a, h.b, h.c, fun k k0 k1 => ?_, h.e, ?_, h.g, h.h⟩
      · have := h.d k k0 k1
        exact ⟨this.1, this.2.1, by omega, this.2.2.2⟩
      · show t.2 + 1 = _
        rw [cn, s1, h.f]
theorem lk_sim {σ μ : St} (hB : IvB σ μ) {mo : Int} (hmo : 0 ≤ mo ∧ mo ≤ 8) : ∀ (f : Nat) (n : Int) (τ : St) (t : St × Int), 0 ≤ n → n + f ≤ 12 → LKi σ μ mo n τ t → LKi σ μ mo (n + f) (lnF mo f n τ) (rnF mo f n t)
  | 0, n, τ, t, h0, h1, h => by rw [show n + ((0 : Nat) : Int) = n by omega]; exact h
  | f + 1, n, τ, t, h0, h1, h => by
    rw [lnF_s, rnF_s, show n + ((f + 1 : Nat) : Int) = n + 1 + (f : Int) by omega]
    exact lk_sim hB hmo f (n + 1) _ _ (by omega) (by omega) (lk_step hB hmo ⟨h0, by omega⟩ h)
theorem lk_run {σ μ : St} (hB : IvB σ μ) (hS : IS σ) (h13 : ∀ k, 0 ≤ μ 13 k ∧ μ 13 k < 12) {mo : Int} (hmo : 0 ≤ mo ∧ mo ≤ 8) : LKi σ μ mo (σ 7 0) (lkN σ mo) (rn1 μ mo) := by
  have h7 := hB.ib.1
  have h := lk_sim hB hmo (σ 7 0).toNat 0 (up σ 17 0 0) (rn0 μ, 0) (by decide) (by omega) (by
    refine ⟨fun g a b c d e => up_f _ _ _ e, fun g a b => rfl, ?_, fun k k0 k1 => ?_, fun k k' k0 k1 k2 => ?_, rfl, ?_, fun k => ?_⟩
    · show up σ 17 0 0 17 0 = up (up (up μ 0 0 0) 11 0 1) 12 0 0 12 0 ∧ (0 ≤ up σ 17 0 0 17 0 ∧ up σ 17 0 0 17 0 ≤ mo)
      rw [up_s, up_s]; omega
    · rw [up_s] at k1; omega
    · rw [up_s] at k2; omega
    · rw [up_f _ _ _ (by decide), up_f _ _ _ (by decide), up_f _ _ _ (by decide)]
      exact ⟨hS.2.1, hS.2.2.1, hS.2.2.2.1⟩
    · show 0 ≤ up (up (up μ 0 0 0) 11 0 1) 12 0 0 13 k ∧ _
      rw [up_o _ _ _ _ (by decide), up_o _ _ _ _ (by decide), up_o _ _ _ _ (by decide)]
      exact h13 k)
  unfold lkN rn1
  rw [← hB.b7]
  rw [show (0 : Int) + ((σ 7 0).toNat : Int) = σ 7 0 by omega] at h
  exact h
