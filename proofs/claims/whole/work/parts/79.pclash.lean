/-! run: which slots clash -/
theorem canB_cg {σ τ : St} (h : ∀ g, g ≠ 14 → τ g = σ g) (a b : Int) : canB τ a b ↔ canB σ a b := by
  show (τ 9 0 + τ 5 a + τ 5 b) * (τ 9 0 + τ 5 a + τ 5 b) ≤ sqW τ a (τ 3 b) (τ 4 b) ↔ (σ 9 0 + σ 5 a + σ 5 b) * (σ 9 0 + σ 5 a + σ 5 b) ≤ sqW σ a (σ 3 b) (σ 4 b)
  unfold sqW
  rw [h 9 (by decide), h 5 (by decide), h 3 (by decide), h 4 (by decide)]
/-- a row of slots u .. u + n - 1 -/
abbrev r24 (z : Int) : Prop := 0 ≤ z ∧ z < 16777216
theorem pw24 {u : Int} (h : 0 ≤ u ∧ u < 24) : r24 ((2 ^ u.toNat : Nat) : Int) := by
  have h1 := Nat.pow_lt_pow_right (a := 2) (by decide) (show u.toNat < 24 by omega)
  have h2 : (2 : Nat) ^ 24 = 16777216 := rfl
  rw [h2] at h1
  unfold r24
  generalize 2 ^ u.toNat = w at h1 ⊢
  omega
theorem zOr24 {a b : Int} (ha : r24 a) (hb : r24 b) : r24 (zOr a b) := zOr_bd (k := 24) ha hb
/-- what markClashes changes: the field 14 alone -/
def Mk (σ τ : St) : Prop := (∀ g, g ≠ 14 → τ g = σ g) ∧ ∀ x, r24 (τ 14 x)
theorem mcN_sp {σ : St} (t : Int) : ∀ (n : Nat) (u : Int) (τ : St), 0 ≤ u → u + n ≤ 24 → Mk σ τ → Mk σ (mcN t n u τ) ∧ (∀ x, x ≠ t → mcN t n u τ 14 x = τ 14 x) ∧ ∀ v, 0 ≤ v → (zB (mcN t n u τ 14 t) v ↔ zB (τ 14 t) v ∨ (u ≤ v ∧ v < u + n ∧ ¬ canB σ (σ 12 t) (σ 12 v)))
  | 0, u, τ, h0, h1, hM => ⟨hM, fun x hx => rfl, fun v v0 => ⟨Or.inl, fun z => z.elim id (fun w => by omega)⟩⟩
  | n + 1, u, τ, h0, h1, hM => by
    rw [mcN_s]
    have e12 : τ 12 = σ 12 := hM.1 12 (by decide)
    by_cases q : canB τ (τ 12 t) (τ 12 u)
    · rw [if_pos q]
      obtain ⟨a1, a2, a3⟩ := mcN_sp t n (u + 1) τ (by omega) (by omega) hM
      refine ⟨a1, a2, fun v v0 => ?_⟩
      rw [a3 v v0]
      rw [e12] at q
      have q' := (canB_cg hM.1 _ _).mp q
      constructor
      · rintro (z | z)
        · exact Or.inl z
        · exact Or.inr ⟨by omega, by omega, z.2.2⟩
      · rintro (z | z)
        · exact Or.inl z
        · by_cases e : v = u
          · rw [e] at z; exact absurd q' z.2.2
          · exact Or.inr ⟨by omega, by omega, z.2.2⟩
    · rw [if_neg q]
      have hM' : Mk σ (up τ 14 t (zOr (τ 14 t) ((2 ^ u.toNat : Nat) : Int))) := ⟨fun g hg => by rw [up_f _ _ _ hg]; exact hM.1 g hg, up_P (P := r24) _ _ _ _ (zOr24 (hM.2 t) (pw24 ⟨h0, by omega⟩)) hM.2⟩
      obtain ⟨a1, a2, a3⟩ := mcN_sp t n (u + 1) (up τ 14 t (zOr (τ 14 t) ((2 ^ u.toNat : Nat) : Int))) (by omega) (by omega) hM'
      refine ⟨a1, fun x hx => by rw [a2 x hx, up_n _ _ _ hx], fun v v0 => ?_⟩
      rw [a3 v v0, up_s, zB_or h0 v0]
      rw [e12] at q
      have q' : ¬ canB σ (σ 12 t) (σ 12 u) := fun z => q ((canB_cg hM.1 _ _).mpr z)
      constructor
      · rintro ((z | z) | z)
        · exact Or.inl z
        · exact Or.inr ⟨by omega, by omega, by rw [z]; exact q'⟩
        · exact Or.inr ⟨by omega, by omega, z.2.2⟩
      · rintro (z | z)
        · exact Or.inl (Or.inl z)
        · by_cases e : v = u
          · exact Or.inl (Or.inr e)
          · exact Or.inr ⟨by omega, by omega, z.2.2⟩
/-- v is a slot of a net in [a, b) that clashes with the slot t -/
def Cl (σ : St) (t a b v : Int) : Prop := ∃ k, a ≤ k ∧ k < b ∧ k * 3 ≤ v ∧ v < k * 3 + σ 11 k ∧ ¬ canB σ (σ 12 t) (σ 12 v)
theorem mcA_sp {σ : St} (hs : ∀ i, 0 ≤ σ 11 i ∧ σ 11 i ≤ 3) (t : Int) : ∀ (n : Nat) (k : Int) (τ : St), 0 ≤ k → k + n ≤ 8 → Mk σ τ → Mk σ (mcA t n k τ) ∧ (∀ x, x ≠ t → mcA t n k τ 14 x = τ 14 x) ∧ ∀ v, 0 ≤ v → (zB (mcA t n k τ 14 t) v ↔ zB (τ 14 t) v ∨ Cl σ t k (k + n) v)
  | 0, k, τ, h0, h1, hM => ⟨hM, fun x hx => rfl, fun v v0 => ⟨Or.inl, fun z => z.elim id (fun ⟨w, w1, w2, _⟩ => by omega)⟩⟩
  | n + 1, k, τ, h0, h1, hM => by
    rw [mcA_s]
    have b := hs k
    have e11 : τ 11 = σ 11 := hM.1 11 (by decide)
    rw [e11]
    obtain ⟨c1, c2, c3⟩ := mcN_sp t (σ 11 k).toNat (k * 3) τ (by omega) (by omega) hM
    obtain ⟨a1, a2, a3⟩ := mcA_sp hs t n (k + 1) (mcN t (σ 11 k).toNat (k * 3) τ) (by omega) (by omega) c1
    refine ⟨a1, fun x hx => (a2 x hx).trans (c2 x hx), fun v v0 => ?_⟩
    rw [a3 v v0, c3 v v0]
    constructor
    · rintro ((z | z) | ⟨w, w1, w2, w3⟩)
      · exact Or.inl z
      · exact Or.inr ⟨k, by omega, by omega, z.1, by omega, z.2.2⟩
      · exact Or.inr ⟨w, by omega, by omega, w3⟩
    · rintro (z | ⟨w, w1, w2, w3, w4, w5⟩)
      · exact Or.inl (Or.inl z)
      · by_cases e : w = k
        · subst e; exact Or.inl (Or.inr ⟨w3, by omega, w5⟩)
        · exact Or.inr ⟨w, by omega, by omega, w3, w4, w5⟩
theorem mcB_sp {σ : St} (hs : ∀ i, 0 ≤ σ 11 i ∧ σ 11 i ≤ 3) (hK : 0 ≤ σ 17 0 ∧ σ 17 0 ≤ 8) (i : Int) (hi : 0 ≤ i ∧ i < σ 17 0) : ∀ (n : Nat) (t : Int) (τ : St), Mk σ τ → Mk σ (mcB i n t τ) ∧ (∀ x, ¬ (t ≤ x ∧ x < t + n) → mcB i n t τ 14 x = τ 14 x) ∧ ∀ x, t ≤ x → x < t + n → ∀ v, 0 ≤ v → (zB (mcB i n t τ 14 x) v ↔ zB (τ 14 x) v ∨ Cl σ x (i + 1) (σ 17 0) v)
  | 0, t, τ, hM => ⟨hM, fun x hx => rfl, fun x a b => by omega⟩
  | n + 1, t, τ, hM => by
    rw [mcB_s]
    have e17 : τ 17 = σ 17 := hM.1 17 (by decide)
    rw [e17]
    obtain ⟨c1, c2, c3⟩ := mcA_sp hs t (σ 17 0 - (i + 1)).toNat (i + 1) τ (by omega) (by omega) hM
    rw [show i + 1 + ((σ 17 0 - (i + 1)).toNat : Int) = σ 17 0 by omega] at c3
    obtain ⟨a1, a2, a3⟩ := mcB_sp hs hK i hi n (t + 1) (mcA t (σ 17 0 - (i + 1)).toNat (i + 1) τ) c1
    refine ⟨a1, fun x hx => (a2 x (by omega)).trans (c2 x (by omega)), fun x x0 x1 v v0 => ?_⟩
    by_cases e : x = t
    · rw [e, a2 t (by omega)]; exact c3 v v0
    · rw [a3 x (by omega) (by omega) v v0, c2 x e]
theorem mcC_sp {σ : St} (hs : ∀ i, 0 ≤ σ 11 i ∧ σ 11 i ≤ 3) (hK : 0 ≤ σ 17 0 ∧ σ 17 0 ≤ 8) : ∀ (n : Nat) (i : Int) (τ : St), 0 ≤ i → i + n ≤ σ 17 0 → Mk σ τ → Mk σ (mcC n i τ) ∧ (∀ x, ¬ (i * 3 ≤ x ∧ x < (i + n) * 3) → mcC n i τ 14 x = τ 14 x) ∧ ∀ k j, i ≤ k → k < i + n → 0 ≤ j → j < σ 11 k → ∀ v, 0 ≤ v → (zB (mcC n i τ 14 (k * 3 + j)) v ↔ zB (τ 14 (k * 3 + j)) v ∨ Cl σ (k * 3 + j) (k + 1) (σ 17 0) v)
  | 0, i, τ, h0, h1, hM => ⟨hM, fun x hx => rfl, fun k j a b => by omega⟩
  | n + 1, i, τ, h0, h1, hM => by
    rw [mcC_s]
    have b := hs i
    have e11 : τ 11 = σ 11 := hM.1 11 (by decide)
    rw [e11]
    obtain ⟨c1, c2, c3⟩ := mcB_sp hs hK i ⟨h0, by omega⟩ (σ 11 i).toNat (i * 3) τ hM
    obtain ⟨a1, a2, a3⟩ := mcC_sp hs hK n (i + 1) (mcB i (σ 11 i).toNat (i * 3) τ) (by omega) (by omega) c1
    refine ⟨a1, fun x hx => (a2 x (by omega)).trans (c2 x (by omega)), fun k j k0 k1 j0 j1 v v0 => ?_⟩
    by_cases e : k = i
    · subst e
      rw [a2 (k * 3 + j) (by omega), c3 (k * 3 + j) (by omega) (by omega) v v0]
    · have bk := hs k
      rw [a3 k j (by omega) (by omega) j0 j1 v v0, c2 (k * 3 + j) (by omega)]
theorem mk_run {σ : St} (hs : ∀ i, 0 ≤ σ 11 i ∧ σ 11 i ≤ 3) (hK : 0 ≤ σ 17 0 ∧ σ 17 0 ≤ 8) (h14 : ∀ i, r24 (σ 14 i)) : Mk σ (mkC σ) ∧ ∀ k j, 0 ≤ k → k < σ 17 0 → 0 ≤ j → j < σ 11 k → ∀ v, 0 ≤ v → (zB (mkC σ 14 (k * 3 + j)) v ↔ Cl σ (k * 3 + j) (k + 1) (σ 17 0) v) := by
  have hM : Mk σ (fillA σ 14 24 0) := ⟨fun g hg => fillA_o _ _ _ _ hg, fun x => by
    unfold fillA; split
    · exact ⟨by decide, by decide⟩
    · exact h14 x⟩
  obtain ⟨a1, a2, a3⟩ := mcC_sp hs hK (σ 17 0).toNat 0 (fillA σ 14 24 0) (by decide) (by omega) hM
  refine ⟨a1, fun k j k0 k1 j0 j1 v v0 => ?_⟩
  have bk := hs k
  unfold mkC
  rw [a3 k j k0 (by omega) j0 j1 v v0]
  have e : fillA σ 14 24 0 14 (k * 3 + j) = 0 := by unfold fillA; rw [if_pos ⟨rfl, by omega, by omega⟩]
  rw [e]
  exact ⟨fun z => z.elim (fun w => by unfold zB at w; rw [show (0 : Int).toNat = 0 from rfl, Nat.zero_testBit] at w; cases w) id, Or.inr⟩
