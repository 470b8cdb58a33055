/-! failed rows on both sides; the k-th of a set -/
def IvR (σ μ : St) : Prop := (σ 40 = μ 21) ∧ (RwOk (σ 40) (μ 1 0)) ∧ (0 ≤ σ 42 0 ∧ σ 42 0 ≤ 13) ∧ (0 ≤ σ 41 0 ∧ σ 41 0 < 4096) ∧ (σ 43 0 = 0 ∨ σ 43 0 = 1) ∧ (σ 43 0 = 0 → BestC (σ 40) (σ 41 0))
theorem IvR.o {σ μ : St} (h : IvR σ μ) : σ 40 = μ 21 := h.1
theorem IvR.ok {σ μ : St} (h : IvR σ μ) : RwOk (σ 40) (μ 1 0) := h.2.1
theorem IvR.s42 {σ μ : St} (h : IvR σ μ) : 0 ≤ σ 42 0 ∧ σ 42 0 ≤ 13 := h.2.2.1
theorem IvR.s41 {σ μ : St} (h : IvR σ μ) : 0 ≤ σ 41 0 ∧ σ 41 0 < 4096 := h.2.2.2.1
theorem IvR.s43 {σ μ : St} (h : IvR σ μ) : σ 43 0 = 0 ∨ σ 43 0 = 1 := h.2.2.2.2.1
theorem IvR.bs {σ μ : St} (h : IvR σ μ) : σ 43 0 = 0 → BestC (σ 40) (σ 41 0) := h.2.2.2.2.2
theorem RwOk.up {w : Int → Int} {N M : Int} (h : RwOk w N) (hNM : N ≤ M) : RwOk w M := ⟨h.1, fun a b ha hb hz => by
  have := h.2 a b ha hb hz
  exact ⟨by omega, by omega, this.2.2⟩⟩
theorem IvR.of {σ μ τ ν : St} (h : IvR σ μ) (h1 : ∀ g, 40 ≤ g → g ≤ 43 → τ g = σ g) (h2 : ν 21 = μ 21) (h3 : μ 1 0 ≤ ν 1 0) : IvR τ ν := by
  refine ⟨?_, ?_, ?_, ?_, ?_, ?_⟩
  · rw [h1 40 (by decide) (by decide), h2]; exact h.o
  · rw [h1 40 (by decide) (by decide)]; exact h.ok.up h3
  · rw [h1 42 (by decide) (by decide)]; exact h.s42
  · rw [h1 41 (by decide) (by decide)]; exact h.s41
  · rw [h1 43 (by decide) (by decide)]; exact h.s43
  · rw [h1 43 (by decide) (by decide), h1 41 (by decide) (by decide), h1 40 (by decide) (by decide)]; exact h.bs
theorem ex_o : ∀ (f : Nat) (σ : St) (n t : Int) (g : Nat), g ≠ 41 → g ≠ 42 → ex f σ n t g = σ g
  | 0, σ, n, t, g, h1, h2 => by
    unfold ex
    split
    · rfl
    · rw [up_f _ _ _ h2, up_f _ _ _ h1]
  | f + 1, σ, n, t, g, h1, h2 => by
    rw [ex_s]
    split
    · rfl
    · split
      · exact ex_o f σ _ _ g h1 h2
      · rw [ex_o f _ _ _ g h1 h2, ex_o f σ _ _ g h1 h2]
theorem smC_o (σ : St) (g : Nat) (h1 : g ≠ 41) (h2 : g ≠ 42) (h3 : g ≠ 43) : smC σ g = σ g := by
  unfold smC
  split
  · rfl
  · rw [up_f _ _ _ h3, ex_o _ _ _ _ _ h1 h2, up_f _ _ _ h2]
theorem IvR.cov {σ μ : St} (h : IvR σ μ) (hN : 0 ≤ μ 1 0 ∧ μ 1 0 ≤ 12) : IvR (smC σ) μ ∧ smC σ 41 0 = suS μ := by
  have hb : BestC (σ 40) (suS μ) := by rw [h.o]; exact suS_best (by rw [← h.o]; exact h.ok) hN
  by_cases q : σ 43 0 = 0
  · have e : smC σ = σ := by unfold smC; rw [if_pos q]
    rw [e]
    exact ⟨h, (h.bs q).uniq hb⟩
  · have e40 : (up σ 42 0 13) 40 = σ 40 := up_f _ _ _ (by decide)
    obtain ⟨a1, a2⟩ := ex_best (σ := up σ 42 0 13) (N := μ 1 0) (B := suS μ) (by rw [e40]; exact h.ok) (by rw [e40]; exact hb) (up_s _ _ _ _)
    have e41 : smC σ 41 0 = suS μ := by unfold smC; rw [if_neg q, up_o _ _ _ _ (by decide)]; exact a2
    have e42 : smC σ 42 0 = popc (suS μ) := by unfold smC; rw [if_neg q, up_o _ _ _ _ (by decide)]; exact a1
    have e43 : smC σ 43 0 = 0 := by unfold smC; rw [if_neg q, up_s]
    have f40 : smC σ 40 = σ 40 := smC_o σ 40 (by decide) (by decide) (by decide)
    have pb := popc_bd (suS μ)
    refine ⟨⟨by rw [f40]; exact h.o, by rw [f40]; exact h.ok, by rw [e42]; omega, by rw [e41]; exact hb.1, Or.inl e43, fun _ => by rw [f40, e41]; exact hb⟩, e41⟩
theorem IvR.add {σ μ : St} (h : IvR σ μ) {a b : Int} (ha : 0 ≤ a ∧ a < μ 1 0) (hb : 0 ≤ b ∧ b < μ 1 0) (h12 : μ 1 0 ≤ 12) (hab : ¬ a = b) {ν : St} (hν : ν 21 = up (up μ 21 a (zOr (μ 21 a) ((2 ^ b.toNat : Nat) : Int))) 21 b (zOr (μ 21 b) ((2 ^ a.toNat : Nat) : Int)) 21) (hn : ν 1 0 = μ 1 0) : IvR (rAdd σ a b) ν := by
  have e0 : up σ 40 a (zOr (σ 40 a) ((2 ^ b.toNat : Nat) : Int)) 40 b = σ 40 b := up_n _ _ _ (by omega)
  have t40 : rAdd σ a b 40 = up (up σ 40 a (zOr (σ 40 a) ((2 ^ b.toNat : Nat) : Int))) 40 b (zOr (σ 40 b) ((2 ^ a.toNat : Nat) : Int)) 40 := by unfold rAdd; rw [e0, up_f _ _ _ (by decide)]
  have o := h.o
  have a12 : 0 ≤ a ∧ a < 12 := by omega
  have b12 : 0 ≤ b ∧ b < 12 := by omega
  have hτ : ∀ k, rAdd σ a b 40 k = if k = b then zOr (σ 40 b) ((2 ^ a.toNat : Nat) : Int) else if k = a then zOr (σ 40 a) ((2 ^ b.toNat : Nat) : Int) else σ 40 k := fun k => by
    rw [t40]; unfold up
    by_cases e1 : k = b
    · rw [if_pos ⟨rfl, e1⟩, if_pos e1]
    · rw [if_neg (fun z => e1 z.2), if_neg e1]
      by_cases e2 : k = a
      · rw [if_pos ⟨rfl, e2⟩, if_pos e2]
      · rw [if_neg (fun z => e2 z.2), if_neg e2]
  have key : ∀ c d, (0 ≤ c ∧ c < 12) → (0 ≤ d ∧ d < 12) → (zB (rAdd σ a b 40 c) d ↔ zB (σ 40 c) d ∨ (c = b ∧ d = a) ∨ (c = a ∧ d = b)) := by
    intro c d hc hd
    rw [hτ]
    by_cases e1 : c = b
    · subst e1
      rw [if_pos rfl, zB_or ha.1 hd.1]
      constructor
      · rintro (z | z)
        · exact Or.inl z
        · exact Or.inr (Or.inl ⟨rfl, z⟩)
      · rintro (z | z | z)
        · exact Or.inl z
        · exact Or.inr z.2
        · exact absurd z.1.symm hab
    · rw [if_neg e1]
      by_cases e2 : c = a
      · subst e2
        rw [if_pos rfl, zB_or hb.1 hd.1]
        constructor
        · rintro (z | z)
          · exact Or.inl z
          · exact Or.inr (Or.inr ⟨rfl, z⟩)
        · rintro (z | z | z)
          · exact Or.inl z
          · exact absurd z.1 e1
          · exact Or.inr z.2
      · rw [if_neg e2]
        exact ⟨Or.inl, fun z => z.elim id (fun z => z.elim (fun y => absurd y.1 e1) (fun y => absurd y.1 e2))⟩
  have t43 : rAdd σ a b 43 0 = 1 := by unfold rAdd; exact up_s _ _ _ _
  have t41 : rAdd σ a b 41 = σ 41 := by unfold rAdd; rw [up_f _ _ _ (by decide), up_f _ _ _ (by decide), up_f _ _ _ (by decide)]
  have t42 : rAdd σ a b 42 = σ 42 := by unfold rAdd; rw [up_f _ _ _ (by decide), up_f _ _ _ (by decide), up_f _ _ _ (by decide)]
  refine ⟨?_, ⟨fun i => ?_, fun c d hc hd z => ?_⟩, by rw [t42]; exact h.s42, by rw [t41]; exact h.s41, Or.inr t43, fun z => absurd (t43.symm.trans z) (by decide)⟩
  · rw [t40, hν, o]; exact up_c (up_c o)
  · rw [hτ]
    split
    · exact zOr12 (h.ok.1 b) (pw_bd a12)
    · split
      · exact zOr12 (h.ok.1 a) (pw_bd b12)
      · exact h.ok.1 i
  · rw [hn]
    rcases (key c d hc hd).mp z with y | ⟨y1, y2⟩ | ⟨y1, y2⟩
    · have r := h.ok.2 c d hc hd y
      exact ⟨r.1, r.2.1, r.2.2.1, (key d c hd hc).mpr (Or.inl r.2.2.2)⟩
    · exact ⟨by omega, by omega, by omega, (key d c hd hc).mpr (Or.inr (Or.inr ⟨y2, y1⟩))⟩
    · exact ⟨by omega, by omega, by omega, (key d c hd hc).mpr (Or.inr (Or.inl ⟨y2, y1⟩))⟩
theorem nb_neg (z k : Int) : ∀ (f : Nat) (n bf : Int), k < bf → nbF z k f n bf = -1
  | 0, n, bf, h => rfl
  | f + 1, n, bf, h => by
    rw [nbF_s]
    split
    · rw [if_neg (by omega)]; exact nb_neg z k f (n + 1) (bf + 1) (by omega)
    · exact nb_neg z k f (n + 1) bf h
theorem pR_nn (s n : Int) : 0 ≤ pR s n := by unfold pR; exact (popc_bd _).1
theorem nb_kb {z : Int} (hz : 0 ≤ z ∧ z < 4096) (k : Int) : ∀ (f : Nat) (n bf : Int), 0 ≤ n → n + f = 12 → bf ≤ k → nbF z k f n bf = if k - bf < pR z n then kbF z f (k - bf) n else -1
  | 0, n, bf, h0, h1, h2 => by
    have e : n = 12 := by omega
    subst e
    rw [pR_12 hz, if_neg (by omega)]; rfl
  | f + 1, n, bf, h0, h1, h2 => by
    rw [nbF_s, kbF_s, pR_s hz h0]
    have hp := pR_nn z (n + 1)
    by_cases q : zB z n
    · rw [if_pos q, bI_t q]
      by_cases e : bf = k
      · rw [if_pos e, if_pos (by omega), if_neg (fun y => y.elim (fun x => x q) (fun x => by omega))]
      · rw [if_neg e, nb_kb hz k f (n + 1) (bf + 1) (by omega) (by omega) (by omega), if_pos (Or.inr (by omega)), show k - bf - 1 = k - (bf + 1) by omega]
        by_cases y : k - (bf + 1) < pR z (n + 1)
        · rw [if_pos y, if_pos (by omega)]
        · rw [if_neg y, if_neg (by omega)]
    · rw [if_neg q, bI_f q, nb_kb hz k f (n + 1) bf (by omega) (by omega) h2, if_pos (Or.inl q), Int.sub_zero, Int.zero_add]
theorem kb_bd {z : Int} (hz : 0 ≤ z ∧ z < 4096) : ∀ (f : Nat) (lf n : Int), 0 ≤ n → n + f = 12 → 0 ≤ lf → lf < pR z n → 0 ≤ kbF z f lf n ∧ kbF z f lf n < 12
  | 0, lf, n, h0, h1, h2, h3 => by
    have e : n = 12 := by omega
    subst e
    rw [pR_12 hz] at h3; omega
  | f + 1, lf, n, h0, h1, h2, h3 => by
    rw [kbF_s]
    rw [pR_s hz h0] at h3
    by_cases q : zB z n
    · rw [bI_t q] at h3 ⊢
      by_cases e : lf = 0
      · rw [if_neg (fun y => y.elim (fun x => x q) (fun x => by omega))]; omega
      · rw [if_pos (Or.inr (by omega))]
        exact kb_bd hz f (lf - 1) (n + 1) (by omega) (by omega) (by omega) (by omega)
    · rw [bI_f q] at h3 ⊢
      rw [if_pos (Or.inl q), Int.sub_zero]
      exact kb_bd hz f lf (n + 1) (by omega) (by omega) (by omega) (by omega)
/-- the k-th net of a set, by both -/
theorem nb_su {z : Int} (hz : 0 ≤ z ∧ z < 4096) (k : Int) : nbF z k 12 0 0 = if 0 ≤ k ∧ k < popc z then kbF z 12 k 0 else -1 := by
  by_cases h : 0 ≤ k
  · rw [nb_kb hz k 12 0 0 (by decide) (by decide) h, pR_0 z hz.1, Int.sub_zero]
    by_cases y : k < popc z
    · rw [if_pos y, if_pos ⟨h, y⟩]
    · rw [if_neg y, if_neg (fun q => y q.2)]
  · rw [nb_neg z k 12 0 0 (by omega), if_neg (fun q => h q.1)]
theorem nb_gd {μ : St} {a b z : Int} (k : Int) : ∀ (f : Nat) (n bf : Int), (∀ i, n ≤ i → i < n + f → (zB z i ↔ gdP μ a b i)) → bf ≤ k → nbF z k f n bf = gdF μ a b f n (k - bf)
  | 0, n, bf, h, hk => rfl
  | f + 1, n, bf, h, hk => by
    rw [nbF_s, gdF_s]
    have hn := h n (by omega) (by omega)
    have ih := fun bf' hk' => nb_gd (μ := μ) (a := a) (b := b) (z := z) k f (n + 1) bf' (fun i h0 h1 => h i (by omega) (by omega)) hk'
    by_cases q : zB z n
    · rw [if_pos q, if_neg (show ¬ ¬ gdP μ a b n from fun y => y (hn.mp q))]
      by_cases e : bf = k
      · rw [if_pos e, if_pos (by omega)]
      · rw [if_neg e, if_neg (by omega), ih (bf + 1) (by omega), show k - bf - 1 = k - (bf + 1) by omega]
    · rw [if_neg q, if_pos (show ¬ gdP μ a b n from fun y => q (hn.mpr y)), ih bf hk]
theorem gd_none {μ : St} {a b : Int} : ∀ (f : Nat) (n lf : Int), (∀ i, n ≤ i → i < n + f → ¬ gdP μ a b i) → gdF μ a b f n lf = -1
  | 0, n, lf, h => rfl
  | f + 1, n, lf, h => by
    rw [gdF_s, if_pos (h n (by omega) (by omega))]
    exact gd_none f (n + 1) lf (fun i h0 h1 => h i (by omega) (by omega))
theorem gd_ext {μ : St} {a b : Int} (g : Nat) : ∀ (f : Nat) (n lf : Int), (∀ i, n + f ≤ i → i < n + f + g → ¬ gdP μ a b i) → gdF μ a b (f + g) n lf = gdF μ a b f n lf
  | 0, n, lf, h => by rw [Nat.zero_add, gd_none g n lf (fun i h0 h1 => h i (by omega) (by omega))]; rfl
  | f + 1, n, lf, h => by
    rw [show f + 1 + g = (f + g) + 1 by omega, gdF_s, gdF_s, gd_ext g f (n + 1) lf (fun i h0 h1 => h i (by omega) (by omega)), gd_ext g f (n + 1) (lf - 1) (fun i h0 h1 => h i (by omega) (by omega))]
theorem IvP.guard {σ μ : St} (h : IvP σ μ) (hN : 0 ≤ μ 1 0 ∧ μ 1 0 ≤ 12) {a b : Int} (ha : 0 ≤ a ∧ a < μ 1 0) (hb : 0 ≤ b ∧ b < μ 1 0) (k : Int) : nbF (zAnd (σ 31 a) (σ 31 b)) k 12 0 0 = if 0 ≤ k then gdF μ a b (μ 1 0).toNat 0 k else -1 := by
  have a12 : 0 ≤ a ∧ a < 12 := by omega
  have b12 : 0 ≤ b ∧ b < 12 := by omega
  have key : ∀ i, 0 ≤ i → i < 12 → (zB (zAnd (σ 31 a) (σ 31 b)) i ↔ gdP μ a b i) := by
    intro i h0 h1
    rw [zB_and, h.j a i a12 ⟨h0, h1⟩, h.j b i b12 ⟨h0, h1⟩]
    show _ ↔ (¬ i = a ∧ ¬ i = b ∧ (¬ i = a ∧ 0 < μ 19 (mPr i a)) ∧ (¬ i = b ∧ 0 < μ 19 (mPr i b)))
    rw [pr_sym i a, pr_sym i b]
    constructor
    · rintro ⟨⟨x1, x2⟩, x3, x4⟩
      exact ⟨fun e => x1 e.symm, fun e => x3 e.symm, ⟨fun e => x1 e.symm, x2⟩, fun e => x3 e.symm, x4⟩
    · rintro ⟨x1, x3, ⟨-, x2⟩, -, x4⟩
      exact ⟨⟨fun e => x1 e.symm, x2⟩, fun e => x3 e.symm, x4⟩
  by_cases hk : 0 ≤ k
  · rw [if_pos hk, nb_gd (μ := μ) (a := a) (b := b) k 12 0 0 (fun i h0 h1 => key i h0 (by omega)) hk, Int.sub_zero]
    have e : 12 = (μ 1 0).toNat + (12 - μ 1 0).toNat := by omega
    rw [e]
    refine gd_ext _ _ 0 k (fun i h0 h1 hg => ?_)
    have := h.jn i a ⟨by omega, by omega⟩ a12 hg.1 hg.2.2.1.2
    omega
  · rw [if_neg hk, nb_neg _ k 12 0 0 (by omega)]
theorem sp_val {A B : Int} (hA : 0 ≤ A ∧ A < 4611686018427387904) (hB : 1 ≤ B) : max 1 (gcdF 200 B A) = ((Nat.gcd A.toNat B.toNat : Nat) : Int) := by
  have h99 : A < ((2 ^ 99 : Nat) : Int) := by
    have : (4611686018427387904 : Int) < ((2 ^ 99 : Nat) : Int) := by decide
    omega
  have e := gcdF_ok 99 B A (by omega) hA.1 h99
  have e2 : 2 * 99 + 2 = 200 := by decide
  rw [e2] at e
  rw [e, Nat.gcd_comm]
  have : 0 < Nat.gcd A.toNat B.toNat := Nat.gcd_pos_of_pos_right _ (by omega)
  omega
theorem IvP.fr {σ μ : St} (h : IvP σ μ) (q en : Int) (he : 0 ≤ en ∧ en < 2) : (1 ≤ (spF μ q en (μ 19 q).toNat).2 ∧ (spF μ q en (μ 19 q).toNat).2 < 4611686018427387904) ∧ (0 ≤ (spF μ q en (μ 19 q).toNat).1 ∧ (spF μ q en (μ 19 q).toNat).1 < 4611686018427387904) := by
  have cb := h.cb q
  have b := spF_bd μ q en (μ 19 q).toNat (by omega) (fun k hk => h.pr q k en (by omega) (by omega) he.1 he.2)
  generalize spF μ q en (μ 19 q).toNat = X at b ⊢
  rcases (show (μ 19 q).toNat = 0 ∨ (μ 19 q).toNat = 1 ∨ (μ 19 q).toNat = 2 ∨ (μ 19 q).toNat = 3 ∨ (μ 19 q).toNat = 4 by omega) with e | e | e | e | e <;> rw [e] at b <;> omega
