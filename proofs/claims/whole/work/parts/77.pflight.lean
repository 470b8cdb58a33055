/-! the flight, on both sides -/
def sq2 (fx fy : Int → Int) (p x y : Int) : Int := (fx p - x) * (fx p - x) + (fy p - y) * (fy p - y)
def lx (fx fy : Int → Int) (x y a b : Int) : Prop := sq2 fx fy a x y < sq2 fx fy b x y ∨ (sq2 fx fy a x y = sq2 fx fy b x y ∧ a ≤ b)
theorem lx_trans {fx fy : Int → Int} {x y a b c : Int} (h1 : lx fx fy x y a b) (h2 : lx fx fy x y b c) : lx fx fy x y a c := by
  unfold lx at *
  rcases h1 with h | ⟨h, h'⟩ <;> rcases h2 with k | ⟨k, k'⟩ <;> omega
theorem lx_anti {fx fy : Int → Int} {x y a b : Int} (h1 : lx fx fy x y a b) (h2 : lx fx fy x y b a) : a = b := by
  unfold lx at *
  rcases h1 with h | ⟨h, h'⟩ <;> rcases h2 with k | ⟨k, k'⟩ <;> omega
theorem lx_refl (fx fy : Int → Int) (x y a : Int) : lx fx fy x y a a := Or.inr ⟨rfl, Int.le_refl _⟩
def pX (fx F : Int → Int) (n : Int) : Int := if n = 0 then 0 else fx (F (n - 1))
def flS (fx fy F : Int → Int) : Nat → Int
  | 0 => 0
  | n + 1 => flS fx fy F n + max ((fx (F n) - pX fx F n).natAbs : Int) ((fy (F n) - pX fy F n).natAbs : Int)
theorem flS_s (fx fy F : Int → Int) (n : Nat) : flS fx fy F (n + 1) = flS fx fy F n + max ((fx (F n) - pX fx F n).natAbs : Int) ((fy (F n) - pX fy F n).natAbs : Int) := rfl
theorem pX_cg {fx gx F G : Int → Int} {n : Int} (h0 : 0 ≤ n) (h : ∀ k, 0 ≤ k → k < n → fx (F k) = gx (G k)) : pX fx F n = pX gx G n := by
  unfold pX
  by_cases e : n = 0
  · rw [if_pos e, if_pos e]
  · rw [if_neg e, if_neg e]; exact h (n - 1) (by omega) (by omega)
theorem flS_cg {fx fy gx gy F G : Int → Int} : ∀ n : Nat, (∀ k, 0 ≤ k → k < (n : Int) → fx (F k) = gx (G k) ∧ fy (F k) = gy (G k)) → flS fx fy F n = flS gx gy G n
  | 0, _ => rfl
  | n + 1, h => by
    rw [flS_s, flS_s, flS_cg n (fun k a b => h k a (by omega)), pX_cg (gx := gx) (G := G) (by omega) (fun k a b => (h k a (by omega)).1), pX_cg (fx := fy) (gx := gy) (G := G) (by omega) (fun k a b => (h k a (by omega)).2), (h n (by omega) (by omega)).1, (h n (by omega) (by omega)).2]
theorem pn_sp (τ : St) (x y : Int) : ∀ (f : Nat) (i fd : Int), fd < i → (pnF τ x y f i fd = fd ∨ (i ≤ pnF τ x y f i fd ∧ pnF τ x y f i fd < i + f)) ∧ lx (τ 3) (τ 4) x y (τ 22 (pnF τ x y f i fd)) (τ 22 fd) ∧ ∀ m, i ≤ m → m < i + f → lx (τ 3) (τ 4) x y (τ 22 (pnF τ x y f i fd)) (τ 22 m)
  | 0, i, fd, h => ⟨Or.inl rfl, lx_refl _ _ _ _ _, fun m a b => by omega⟩
  | f + 1, i, fd, h => by
    rw [pnF_s]
    by_cases q : sqW τ (τ 22 i) x y < sqW τ (τ 22 fd) x y ∨ (sqW τ (τ 22 i) x y = sqW τ (τ 22 fd) x y ∧ τ 22 i < τ 22 fd)
    · rw [if_pos q]
      obtain ⟨a1, a2, a3⟩ := pn_sp τ x y f (i + 1) i (by omega)
      have hl : lx (τ 3) (τ 4) x y (τ 22 i) (τ 22 fd) := by
        rcases q with q | ⟨q, q'⟩
        · exact Or.inl q
        · exact Or.inr ⟨q, by omega⟩
      refine ⟨Or.inr (by rcases a1 with z | z <;> omega), lx_trans a2 hl, fun m b c => ?_⟩
      by_cases e : m = i
      · rw [e]; exact a2
      · exact a3 m (by omega) (by omega)
    · rw [if_neg q]
      obtain ⟨a1, a2, a3⟩ := pn_sp τ x y f (i + 1) fd (by omega)
      have hl : lx (τ 3) (τ 4) x y (τ 22 fd) (τ 22 i) := by
        show sqW τ (τ 22 fd) x y < sqW τ (τ 22 i) x y ∨ (sqW τ (τ 22 fd) x y = sqW τ (τ 22 i) x y ∧ τ 22 fd ≤ τ 22 i)
        generalize sqW τ (τ 22 fd) x y = u at q ⊢
        generalize sqW τ (τ 22 i) x y = v at q ⊢
        omega
      refine ⟨by rcases a1 with z | z <;> omega, a2, fun m b c => ?_⟩
      by_cases e : m = i
      · rw [e]; exact lx_trans a2 hl
      · exact a3 m (by omega) (by omega)
/-- F runs through the probes p, each once -/
def Run (F p : Int → Int) (c : Int) : Prop := (∀ i, 0 ≤ i → i < c → ∃ j, 0 ≤ j ∧ j < c ∧ F i = p j) ∧ (∀ j, 0 ≤ j → j < c → ∃ i, 0 ≤ i ∧ i < c ∧ F i = p j) ∧ Apt F c
/-- the class's flight after n steps -/
def Gf (σ : St) (n : Nat) (t : St × Int × Int) : Prop := (∀ g, g ≠ 22 → g ≠ 28 → t.1 g = σ g) ∧ Run (t.1 22) (σ 20) (σ 25 0) ∧ (∀ i m, 0 ≤ i → i < (n : Int) → i < m → m < σ 25 0 → lx (σ 3) (σ 4) (pX (σ 3) (t.1 22) i) (pX (σ 4) (t.1 22) i) (t.1 22 i) (t.1 22 m)) ∧ t.2.1 = pX (σ 3) (t.1 22) n ∧ t.2.2 = pX (σ 4) (t.1 22) n ∧ t.1 28 0 = flS (σ 3) (σ 4) (t.1 22) n
theorem pf_g {σ : St} (h0 : 0 ≤ σ 25 0) (hd : Apt (σ 20) (σ 25 0)) : ∀ n : Nat, (n : Int) ≤ σ 25 0 → Gf σ n (pf σ n)
  | 0, _ => by
    have e : ∀ i, 0 ≤ i → i < σ 25 0 → (pf σ 0).1 22 i = σ 20 i := fun i a b => by
      show up (cpS σ 20 22 (σ 25 0)) 28 0 0 22 i = _
      rw [up_o _ _ _ _ (by decide), cpS_i _ _ _ _ a b]
    refine ⟨fun g a b => pf_o σ 0 g ⟨a, b⟩, ⟨fun i a b => ⟨i, a, b, e i a b⟩, fun j a b => ⟨j, a, b, e j a b⟩, fun i j a b c d z => hd i j a b c d (by rw [← e i a b, ← e j c d]; exact z)⟩, fun i m a b => by omega, rfl, rfl, (show up (cpS σ 20 22 (σ 25 0)) 28 0 0 28 0 = 0 from up_s _ _ _ _)⟩
  | n + 1, hn => by
    obtain ⟨g1, g2, g3, g4, g5, g6⟩ := pf_g h0 hd n (by omega)
    rw [pf_s]
    generalize pf σ n = t at *
    obtain ⟨τ, x, y⟩ := t
    simp only [] at g1 g2 g3 g4 g5 g6
    have e3 : τ 3 = σ 3 := g1 3 (by decide) (by decide)
    have e4 : τ 4 = σ 4 := g1 4 (by decide) (by decide)
    obtain ⟨a1, a2, a3⟩ := pn_sp τ x y (σ 25 0 - ((n : Int) + 1)).toNat ((n : Int) + 1) n (by omega)
    generalize hj : pnF τ x y (σ 25 0 - ((n : Int) + 1)).toNat ((n : Int) + 1) n = j at a1 a2 a3
    have hj1 : (n : Int) ≤ j ∧ j < σ 25 0 := by rcases a1 with z | z <;> omega
    have amin : ∀ m, (n : Int) ≤ m → m < σ 25 0 → lx (σ 3) (σ 4) x y (τ 22 j) (τ 22 m) := fun m b c => by
      rw [← e3, ← e4]
      by_cases e : m = n
      · rw [e]; exact a2
      · exact a3 m (by omega) (by omega)
    generalize hv : (τ 28 0 + max ((τ 3 (τ 22 j) - x).natAbs : Int) ((τ 4 (τ 22 j) - y).natAbs : Int)) = v
    have et : pfN (σ 25 0) (τ, x, y) n = (up (up (up τ 22 j (τ 22 n)) 22 n (τ 22 j)) 28 0 v, τ 3 (τ 22 j), τ 4 (τ 22 j)) := by
      unfold pfN
      simp only [hj, hv]
    rw [et]
    generalize hτ' : up (up (up τ 22 j (τ 22 n)) 22 n (τ 22 j)) 28 0 v = τ'
    have f22 : ∀ k, τ' 22 k = if k = n then τ 22 j else if k = j then τ 22 n else τ 22 k := fun k => by
      rw [← hτ', up_o _ _ _ _ (by decide)]
      unfold up
      by_cases q1 : k = n
      · rw [if_pos ⟨rfl, q1⟩, if_pos q1]
      · rw [if_neg (fun z => q1 z.2), if_neg q1]
        by_cases q2 : k = j
        · rw [if_pos ⟨rfl, q2⟩, if_pos q2]
        · rw [if_neg (fun z => q2 z.2), if_neg q2]
    have f28 : τ' 28 0 = v := by rw [← hτ', up_s]
    have fo : ∀ g, g ≠ 22 → g ≠ 28 → τ' g = σ g := fun g a b => by rw [← hτ', up_f _ _ _ b, up_f _ _ _ a, up_f _ _ _ a]; exact g1 g a b
    -- the swapped place
    have sw : ∀ k, 0 ≤ k → k < σ 25 0 → ∃ k', 0 ≤ k' ∧ k' < σ 25 0 ∧ τ' 22 k = τ 22 k' ∧ (k < n → k' = k) ∧ ((n : Int) ≤ k → (n : Int) ≤ k') ∧ (k = n → k' = j) ∧ (k' = if k = n then j else if k = j then (n : Int) else k) := by
      intro k a b
      refine ⟨if k = n then j else if k = j then (n : Int) else k, ?_, ?_, ?_, ?_, ?_, ?_, rfl⟩
      · split
        · omega
        · split <;> omega
      · split
        · omega
        · split <;> omega
      · rw [f22]
        split
        · rfl
        · split <;> rfl
      · intro h
        rw [if_neg (by omega), if_neg (by omega)]
      · intro h
        split
        · omega
        · split <;> omega
      · intro h; rw [if_pos h]
    have lo : ∀ k, 0 ≤ k → k < (n : Int) → τ' 22 k = τ 22 k := fun k a b => by rw [f22, if_neg (by omega), if_neg (by omega)]
    have pxe : ∀ (fx : Int → Int) i, 0 ≤ i → i ≤ (n : Int) → pX fx (τ' 22) i = pX fx (τ 22) i := fun fx i a b => pX_cg a (fun k c d => by rw [lo k c (by omega)])
    have hn22 : τ' 22 n = τ 22 j := by rw [f22, if_pos rfl]
    refine ⟨fo, ⟨fun i a b => ?_, fun i a b => ?_, fun i k a b c d z => ?_⟩, fun i m a b c d => ?_, ?_, ?_, ?_⟩
    · obtain ⟨k', c1, c2, c3, -⟩ := sw i a b
      obtain ⟨q, d1, d2, d3⟩ := g2.1 k' c1 c2
      exact ⟨q, d1, d2, c3.trans d3⟩
    · obtain ⟨k, c1, c2, c3⟩ := g2.2.1 i a b
      obtain ⟨k', d1, d2, d3, -, -, -, d7⟩ := sw k c1 c2
      -- the place that holds it now
      refine ⟨k', d1, d2, ?_⟩
      show τ' 22 k' = σ 20 i
      rw [f22, d7]
      by_cases q1 : k = n
      · rw [if_pos q1]
        by_cases q2 : j = n
        · rw [if_pos q2, q2, ← q1]; exact c3
        · rw [if_neg q2, if_pos rfl, ← q1]; exact c3
      · rw [if_neg q1]
        by_cases q2 : k = j
        · rw [if_pos q2, if_pos rfl, ← q2]; exact c3
        · rw [if_neg q2, if_neg q1, if_neg q2]; exact c3
    · obtain ⟨k1, b1, b2, b3, -, -, -, b7⟩ := sw i a b
      obtain ⟨k2, c1, c2, c3, -, -, -, c7⟩ := sw k c d
      have := g2.2.2 k1 k2 b1 b2 c1 c2 (by rw [← b3, ← c3]; exact z)
      split at b7 <;> split at c7 <;> (try split at b7) <;> (try split at c7) <;> omega
    · show lx (σ 3) (σ 4) (pX (σ 3) (τ' 22) i) (pX (σ 4) (τ' 22) i) (τ' 22 i) (τ' 22 m)
      rw [pxe _ i a (by omega), pxe _ i a (by omega)]
      obtain ⟨m', m1, m2, m3, m4, m5, -, -⟩ := sw m (by omega) d
      by_cases q : i < (n : Int)
      · rw [lo i a q, m3]
        refine g3 i m' a q ?_ m2
        by_cases z : m < (n : Int)
        · rw [m4 z]; exact c
        · have := m5 (by omega); omega
      · have e : i = n := by omega
        rw [e, hn22, m3, ← g4, ← g5]
        exact amin m' (m5 (by omega)) m2
    · show τ 3 (τ 22 j) = pX (σ 3) (τ' 22) ((n + 1 : Nat) : Int)
      unfold pX
      rw [if_neg (by omega), show ((n + 1 : Nat) : Int) - 1 = n by omega, hn22, e3]
    · show τ 4 (τ 22 j) = pX (σ 4) (τ' 22) ((n + 1 : Nat) : Int)
      unfold pX
      rw [if_neg (by omega), show ((n + 1 : Nat) : Int) - 1 = n by omega, hn22, e4]
    · show τ' 28 0 = flS (σ 3) (σ 4) (τ' 22) (n + 1)
      rw [f28, ← hv, flS_s, pxe _ n (by omega) (by omega), pxe _ n (by omega) (by omega), hn22, flS_cg (F := τ' 22) (G := τ 22) (gx := σ 3) (gy := σ 4) n (fun k a b => by rw [lo k a b]; exact ⟨rfl, rfl⟩), g6, e3, e4, g4, g5]
def FlOk (σ : St) : Prop := Run (σ 22) (σ 20) (σ 25 0) ∧ (∀ i m, 0 ≤ i → i < m → m < σ 25 0 → lx (σ 3) (σ 4) (pX (σ 3) (σ 22) i) (pX (σ 4) (σ 22) i) (σ 22 i) (σ 22 m)) ∧ σ 28 0 = flS (σ 3) (σ 4) (σ 22) (σ 25 0).toNat
theorem lx_cg {fx fy gx gy : Int → Int} {x y a b : Int} (h1 : fx a = gx a) (h2 : fy a = gy a) (h3 : fx b = gx b) (h4 : fy b = gy b) : lx fx fy x y a b ↔ lx gx gy x y a b := by
  unfold lx sq2; rw [h1, h2, h3, h4]
theorem FlOk.of {σ τ : St} (h : FlOk σ) (h20 : τ 20 = σ 20) (h22 : τ 22 = σ 22) (h25 : τ 25 = σ 25) (h28 : τ 28 = σ 28) (hx : ∀ i, 0 ≤ i → i < σ 25 0 → τ 3 (σ 20 i) = σ 3 (σ 20 i) ∧ τ 4 (σ 20 i) = σ 4 (σ 20 i)) (h0 : 0 ≤ σ 25 0) : FlOk τ := by
  have hy : ∀ i, 0 ≤ i → i < σ 25 0 → τ 3 (σ 22 i) = σ 3 (σ 22 i) ∧ τ 4 (σ 22 i) = σ 4 (σ 22 i) := fun i a b => by
    obtain ⟨j, c, d, e⟩ := h.1.1 i a b
    rw [e]; exact hx j c d
  unfold FlOk
  rw [h20, h22, h25, h28]
  refine ⟨h.1, fun i m a b c => ?_, ?_⟩
  · rw [pX_cg (fx := τ 3) (gx := σ 3) (F := σ 22) (G := σ 22) a (fun k d e => (hy k d (by omega)).1), pX_cg (fx := τ 4) (gx := σ 4) (F := σ 22) (G := σ 22) a (fun k d e => (hy k d (by omega)).2)]
    have q1 := hy i a (by omega)
    have q2 := hy m (by omega) c
    exact (lx_cg q1.1 q1.2 q2.1 q2.2).mpr (h.2.1 i m a b c)
  · rw [h.2.2]
    exact flS_cg _ (fun k d e => by
      have := hy k d (by omega)
      exact ⟨this.1.symm, this.2.symm⟩)
theorem isF_iff (μ : St) (q : Int) : ∀ (f : Nat) (k t : Int), ¬ isF μ q f k t = 0 ↔ (¬ t = 0 ∨ ∃ j, k ≤ j ∧ j < k + f ∧ μ 18 j = q)
  | 0, k, t => by
    show ¬ t = 0 ↔ _
    exact ⟨Or.inl, fun h => h.elim id (fun ⟨j, a, b, _⟩ => by omega)⟩
  | f + 1, k, t => by
    rw [isF_s, isF_iff μ q f (k + 1)]
    by_cases z : t = 0
    · rw [if_neg (fun w => w z)]
      constructor
      · rintro (h | ⟨j, a, b, c⟩)
        · refine Or.inr ⟨k, by omega, by omega, ?_⟩
          by_cases w : μ 18 k = q
          · exact w
          · exact absurd (bI_f w) h
        · exact Or.inr ⟨j, by omega, by omega, c⟩
      · rintro (h | ⟨j, a, b, c⟩)
        · exact absurd z h
        · by_cases w : j = k
          · subst w
            exact Or.inl (by rw [bI_t c]; decide)
          · exact Or.inr ⟨j, by omega, by omega, c⟩
    · rw [if_pos z]
      exact ⟨fun _ => Or.inl z, fun _ => Or.inl (by decide)⟩
/-- a probe that isn't flown to -/
def Sf (ν : St) (q : Int) : Prop := ¬ isPb ν q = 0 ∧ ν 22 q = 0
theorem nr_sp (ν : St) (x y : Int) : ∀ (f : Nat) (q fd lt : Int), 0 ≤ q → ((fd = -1 ∧ ∀ p, 0 ≤ p → p < q → ¬ Sf ν p) ∨ ((0 ≤ fd ∧ fd < q) ∧ Sf ν fd ∧ lt = sqM ν fd x y ∧ ∀ p, 0 ≤ p → p < q → Sf ν p → lx (ν 6) (ν 7) x y fd p)) → ((nrF ν x y f q fd lt = -1 ∧ ∀ p, 0 ≤ p → p < q + f → ¬ Sf ν p) ∨ (Sf ν (nrF ν x y f q fd lt) ∧ ∀ p, 0 ≤ p → p < q + f → Sf ν p → lx (ν 6) (ν 7) x y (nrF ν x y f q fd lt) p))
  | 0, q, fd, lt, h0, h => by
    rcases h with ⟨a, b⟩ | ⟨a, b, c, d⟩
    · exact Or.inl ⟨a, fun p p0 p1 => b p p0 (by omega)⟩
    · exact Or.inr ⟨b, fun p p0 p1 => d p p0 (by omega)⟩
  | f + 1, q, fd, lt, h0, h => by
    rw [nrF_s]
    have arr : ∀ {P : Prop}, P → P := fun h => h
    by_cases z : nrS ν x y q fd lt
    · rw [if_pos z]
      have := nr_sp ν x y f (q + 1) fd lt (by omega) (by
        rcases h with ⟨a, b⟩ | ⟨a, b, c, d⟩
        · refine Or.inl ⟨a, fun p p0 p1 hp => ?_⟩
          by_cases e : p = q
          · rw [e] at hp
            rcases z with w | w | w
            · exact hp.1 w
            · exact w hp.2
            · exact w.1 a
          · exact b p p0 (by omega) hp
        · refine Or.inr ⟨by omega, b, c, fun p p0 p1 hp => ?_⟩
          by_cases e : p = q
          · rw [e] at hp ⊢
            rcases z with w | w | w
            · exact absurd w hp.1
            · exact absurd hp.2 w
            · have w2 := w.2
              rw [c] at w2
              show sqM ν fd x y < sqM ν q x y ∨ (sqM ν fd x y = sqM ν q x y ∧ fd ≤ q)
              omega
          · exact d p p0 (by omega) hp)
      rw [show q + ((f + 1 : Nat) : Int) = q + 1 + (f : Int) by omega]
      exact this
    · rw [if_neg z]
      have hS : Sf ν q := by
        refine ⟨fun w => z (Or.inl w), ?_⟩
        by_cases w : ν 22 q = 0
        · exact w
        · exact absurd (Or.inr (Or.inl w)) z
      have := nr_sp ν x y f (q + 1) q (sqM ν q x y) (by omega) (Or.inr ⟨by omega, hS, rfl, fun p p0 p1 hp => by
        by_cases e : p = q
        · rw [e]; exact lx_refl _ _ _ _ _
        · rcases h with ⟨a, b⟩ | ⟨a, b, c, d⟩
          · exact absurd hp (b p p0 (by omega))
          · have d1 := d p p0 (by omega) hp
            have d2 : sqM ν q x y < lt := by
              by_cases w : sqM ν q x y < lt
              · exact w
              · exact absurd (Or.inr (Or.inr ⟨by omega, by omega⟩)) z
            rw [c] at d2
            have d1' : sqM ν fd x y < sqM ν p x y ∨ (sqM ν fd x y = sqM ν p x y ∧ fd ≤ p) := d1
            exact Or.inl (show sqM ν q x y < sqM ν p x y by omega)⟩)
      rw [show q + ((f + 1 : Nat) : Int) = q + 1 + (f : Int) by omega]
      exact this
/-- the reference's flight after n steps -/
def RS (μ : St) (F : Int → Int) (n : Nat) (t : St × Int × Int) : Prop := (∀ g, g ≠ 22 → g ≠ 25 → t.1 g = μ g) ∧ t.1 25 0 = flS (μ 6) (μ 7) F n ∧ (∀ q, 0 ≤ q → q < 36 → (t.1 22 q = 0 ↔ ¬ ∃ j, 0 ≤ j ∧ j < (n : Int) ∧ F j = q)) ∧ (∀ q, t.1 22 q = 0 ∨ t.1 22 q = 1) ∧ t.2.1 = pX (μ 6) F n ∧ t.2.2 = pX (μ 7) F n
theorem nr_is {μ : St} {F : Int → Int} {c : Int} (hc : c = μ 17 0) (hR : Run F (μ 18) c) (hP : ∀ i, 0 ≤ i → i < c → 0 ≤ μ 18 i ∧ μ 18 i < μ 5 0) (h5 : μ 5 0 ≤ 36) (hle : ∀ i m, 0 ≤ i → i < m → m < c → lx (μ 6) (μ 7) (pX (μ 6) F i) (pX (μ 7) F i) (F i) (F m)) {n : Nat} (hn : (n : Int) < c) {t : St × Int × Int} (h : RS μ F n t) : nr t.1 t.2.1 t.2.2 = F n := by
  obtain ⟨r1, r2, r3, -, r4, r5⟩ := h
  obtain ⟨ν, x, y⟩ := t
  simp only [] at r1 r2 r3 r4 r5 ⊢
  have e17 : ν 17 = μ 17 := r1 17 (by decide) (by decide)
  have e18 : ν 18 = μ 18 := r1 18 (by decide) (by decide)
  have e5 : ν 5 = μ 5 := r1 5 (by decide) (by decide)
  have e6 : ν 6 = μ 6 := r1 6 (by decide) (by decide)
  have e7 : ν 7 = μ 7 := r1 7 (by decide) (by decide)
  have hF : ∀ i, 0 ≤ i → i < c → 0 ≤ F i ∧ F i < μ 5 0 := fun i a b => by
    obtain ⟨j, a1, a2, a3⟩ := hR.1 i a b
    rw [a3]; exact hP j a1 a2
  have hS : ∀ q, 0 ≤ q → q < 36 → (Sf ν q ↔ ∃ m, (n : Int) ≤ m ∧ m < c ∧ F m = q) := by
    intro q q0 q1
    unfold Sf isPb
    rw [isF_iff, e17, e18, r3 q q0 q1]
    constructor
    · rintro ⟨a, b⟩
      rcases a with a | ⟨j, a1, a2, a3⟩
      · exact absurd rfl a
      · obtain ⟨m, b1, b2, b3⟩ := hR.2.1 j a1 (by omega)
        refine ⟨m, ?_, b2, b3.trans a3⟩
        rcases (show (n : Int) ≤ m ∨ m < n by omega) with z | z
        · exact z
        · exact absurd ⟨m, b1, z, b3.trans a3⟩ b
    · rintro ⟨m, a1, a2, a3⟩
      refine ⟨Or.inr ?_, ?_⟩
      · obtain ⟨j, b1, b2, b3⟩ := hR.1 m (by omega) a2
        exact ⟨j, b1, by omega, by rw [← b3]; exact a3⟩
      · rintro ⟨j, b1, b2, b3⟩
        have := hR.2.2 j m b1 (by omega) (by omega) a2 (b3.trans a3.symm)
        omega
  have hn1 := hF n (by omega) hn
  have sn : Sf ν (F n) := (hS _ hn1.1 (by omega)).mpr ⟨n, Int.le_refl _, hn, rfl⟩
  unfold nr
  rcases nr_sp ν x y (ν 5 0).toNat 0 (-1) 0 (by decide) (Or.inl ⟨rfl, fun p a b => by omega⟩) with ⟨-, a⟩ | ⟨a, b⟩
  · exact absurd sn (a (F n) hn1.1 (by rw [e5]; omega))
  · have h1 := b (F n) hn1.1 (by rw [e5]; omega) sn
    generalize hr : nrF ν x y (ν 5 0).toNat 0 (-1) 0 = r at a h1 ⊢
    have hb := nrF_bd ν x y (ν 5 0).toNat 0 (-1) 0 (by decide) (Or.inl rfl)
    rw [hr, e5] at hb
    have hr0 : 0 ≤ r ∧ r < 36 := by
      rcases hb with z | z
      · exfalso
        -- the result is a probe
        have a1 := a.1
        unfold isPb at a1
        rw [isF_iff, e17, e18] at a1
        rcases a1 with w | ⟨j, w1, w2, w3⟩
        · exact w rfl
        · have := hP j w1 (by omega)
          omega
      · omega
    obtain ⟨m, m1, m2, m3⟩ := (hS r hr0.1 hr0.2).mp a
    rw [e6, e7] at h1
    rw [← m3] at h1 ⊢
    by_cases e : m = n
    · rw [e]
    · have h2 := hle n m (by omega) (by omega) m2
      rw [r4, r5] at h1
      exact lx_anti h1 h2
theorem fl_run {μ : St} {F : Int → Int} {c : Int} (hc : c = μ 17 0) (hR : Run F (μ 18) c) (hP : ∀ i, 0 ≤ i → i < c → 0 ≤ μ 18 i ∧ μ 18 i < μ 5 0) (h5 : μ 5 0 ≤ 36) (hle : ∀ i m, 0 ≤ i → i < m → m < c → lx (μ 6) (μ 7) (pX (μ 6) F i) (pX (μ 7) F i) (F i) (F m)) : ∀ (f n : Nat) (t : St × Int × Int) (r : Int), ((n + f : Nat) : Int) ≤ c → RS μ F n t → (∀ g, g ≠ 22 → g ≠ 25 → (flF f t r).1 g = μ g) ∧ (∀ q, (flF f t r).1 22 q = 0 ∨ (flF f t r).1 22 q = 1) ∧ (flF f t r).1 25 0 = flS (μ 6) (μ 7) F (n + f) ∧ (flF f t r).2 = if f = 0 then r else F (((n + f : Nat) : Int) - 1)
  | 0, n, t, r, hn, h => ⟨h.1, h.2.2.2.1, h.2.1, rfl⟩
  | f + 1, n, t, r, hn, h => by
    have hnr := nr_is hc hR hP h5 hle (n := n) (by omega) h
    have hF : 0 ≤ F n ∧ F n < μ 5 0 := by
      obtain ⟨j, a1, a2, a3⟩ := hR.1 n (by omega) (by omega)
      rw [a3]; exact hP j a1 a2
    rw [flF_s, hnr, if_neg (by omega)]
    obtain ⟨r1, r2, r3, r6, r4, r5⟩ := h
    have e6 : t.1 6 = μ 6 := r1 6 (by decide) (by decide)
    have e7 : t.1 7 = μ 7 := r1 7 (by decide) (by decide)
    have hRS : RS μ F (n + 1) (flN t (F n)) := by
      unfold flN
      refine ⟨fun g a b => ?_, ?_, fun q q0 q1 => ?_, fun q => ?_, ?_, ?_⟩
      · show up (up t.1 25 0 _) 22 (F n) 1 g = μ g
        rw [up_f _ _ _ a, up_f _ _ _ b]; exact r1 g a b
      · show up (up t.1 25 0 (t.1 25 0 + max ((t.1 6 (F n) - t.2.1).natAbs : Int) ((t.1 7 (F n) - t.2.2).natAbs : Int))) 22 (F n) 1 25 0 = flS (μ 6) (μ 7) F (n + 1)
        rw [up_o _ _ _ _ (by decide), up_s, r2, flS_s, e6, e7, r4, r5]
      · show up (up t.1 25 0 _) 22 (F n) 1 22 q = 0 ↔ _
        by_cases e : q = F n
        · rw [e, up_s]
          exact ⟨fun z => absurd z (by decide), fun z => absurd ⟨n, by omega, by omega, rfl⟩ z⟩
        · rw [up_n _ _ _ e, up_o _ _ _ _ (by decide), r3 q q0 q1]
          constructor
          · rintro z ⟨j, a, b, d⟩
            by_cases w : j = n
            · rw [w] at d; exact e d.symm
            · exact z ⟨j, a, by omega, d⟩
          · rintro z ⟨j, a, b, d⟩
            exact z ⟨j, a, by omega, d⟩
      · show up (up t.1 25 0 _) 22 (F n) 1 22 q = 0 ∨ up (up t.1 25 0 _) 22 (F n) 1 22 q = 1
        by_cases e : q = F n
        · rw [e, up_s]; exact Or.inr rfl
        · rw [up_n _ _ _ e, up_o _ _ _ _ (by decide)]; exact r6 q
      · show t.1 6 (F n) = pX (μ 6) F ((n + 1 : Nat) : Int)
        unfold pX
        rw [if_neg (by omega), show ((n + 1 : Nat) : Int) - 1 = n by omega, e6]
      · show t.1 7 (F n) = pX (μ 7) F ((n + 1 : Nat) : Int)
        unfold pX
        rw [if_neg (by omega), show ((n + 1 : Nat) : Int) - 1 = n by omega, e7]
    obtain ⟨a1, a2, a3, a4⟩ := fl_run hc hR hP h5 hle f (n + 1) (flN t (F n)) (F n) (by omega) hRS
    refine ⟨a1, a2, by rw [a3, show n + 1 + f = n + (f + 1) by omega], ?_⟩
    rw [a4, if_neg (show ¬ f + 1 = 0 by omega)]
    by_cases e : f = 0
    · rw [if_pos e, e]; congr 1; omega
    · rw [if_neg e, show n + 1 + f = n + (f + 1) by omega]
theorem fl_0 {μ : St} {F : Int → Int} (h22 : ∀ i, μ 22 i = 0 ∨ μ 22 i = 1) : RS μ F 0 (fl0 μ) := by
  unfold fl0
  refine ⟨fun g a b => ?_, (show up (fillA μ 22 36 0) 25 0 0 25 0 = 0 from up_s _ _ _ _), fun q q0 q1 => ?_, fun q => ?_, rfl, rfl⟩
  · show up (fillA μ 22 36 0) 25 0 0 g = μ g
    rw [up_f _ _ _ b, fillA_o _ _ _ _ a]
  · show up (fillA μ 22 36 0) 25 0 0 22 q = 0 ↔ _
    rw [up_o _ _ _ _ (by decide)]
    refine ⟨fun _ ⟨j, a, b, _⟩ => by omega, fun _ => ?_⟩
    unfold fillA; rw [if_pos ⟨rfl, q0, q1⟩]
  · show up (fillA μ 22 36 0) 25 0 0 22 q = 0 ∨ up (fillA μ 22 36 0) 25 0 0 22 q = 1
    rw [up_o _ _ _ _ (by decide)]
    unfold fillA
    split
    · exact Or.inl rfl
    · exact h22 q
/-- the reference's flight is the class's -/
theorem fl_eq {σ μ : St} (h3 : σ 3 = μ 6) (h4 : σ 4 = μ 7) (hn : σ 25 0 = μ 17 0) (h0 : 0 ≤ σ 25 0) (hp : ∀ i, 0 ≤ i → i < σ 25 0 → σ 20 i = μ 18 i) (hP : ∀ i, 0 ≤ i → i < σ 25 0 → 0 ≤ σ 20 i ∧ σ 20 i < μ 5 0) (h5 : μ 5 0 ≤ 36) (h22 : ∀ i, μ 22 i = 0 ∨ μ 22 i = 1) (hf : FlOk σ) (k : Int) (hk : -1 ≤ k ∧ k < σ 25 0) : (∀ g, g ≠ 22 → g ≠ 25 → (flT μ k).1 g = μ g) ∧ (∀ q, (flT μ k).1 22 q = 0 ∨ (flT μ k).1 22 q = 1) ∧ (flT μ k).1 25 0 = flS (σ 3) (σ 4) (σ 22) (k + 1).toNat ∧ (flT μ k).2 = if k = -1 then -1 else σ 22 k := by
  have hR : Run (σ 22) (μ 18) (σ 25 0) := by
    refine ⟨fun i a b => ?_, fun j a b => ?_, hf.1.2.2⟩
    · obtain ⟨j, c, d, e⟩ := hf.1.1 i a b
      exact ⟨j, c, d, e.trans (hp j c d)⟩
    · obtain ⟨i, c, d, e⟩ := hf.1.2.1 j a b
      exact ⟨i, c, d, e.trans (hp j a b)⟩
  have hf2 := hf.2.1
  rw [h3, h4] at hf2 ⊢
  have := fl_run (c := σ 25 0) hn hR (fun i a b => by rw [← hp i a b]; exact hP i a b) h5 hf2 (k + 1).toNat 0 (fl0 μ) (-1) (by omega) (fl_0 h22)
  unfold flT
  rw [Nat.zero_add] at this
  refine ⟨this.1, this.2.1, this.2.2.1, this.2.2.2.trans ?_⟩
  by_cases e : k = -1
  · rw [if_pos e, if_pos (by omega)]
  · rw [if_neg e, if_neg (by omega)]; congr 1; omega
