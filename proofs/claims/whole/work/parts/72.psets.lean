/-! sets of nets: bits, sizes, which comes first -/
theorem zB_ge {t n : Int} (ht : 0 ≤ t ∧ t < 4096) (hn : 12 ≤ n) : ¬ zB t n := by
  unfold zB
  rw [Nat.testBit_lt_two_pow (Nat.lt_of_lt_of_le (show t.toNat < 2 ^ 12 by omega) (Nat.pow_le_pow_right (by decide) (show 12 ≤ n.toNat by omega)))]
  simp
theorem set_ext {a b : Int} (ha : 0 ≤ a ∧ a < 4096) (hb : 0 ≤ b ∧ b < 4096) (h : ∀ i, 0 ≤ i → i < 12 → (zB a i ↔ zB b i)) : a = b := by
  have : a.toNat = b.toNat := by
    apply Nat.eq_of_testBit_eq
    intro i
    by_cases hi : i < 12
    · have := h i (by omega) (by omega)
      unfold zB at this
      rw [Int.toNat_natCast] at this
      rw [Bool.eq_iff_iff]; exact this
    · have h1 := zB_ge ha (n := i) (by omega)
      have h2 := zB_ge hb (n := i) (by omega)
      unfold zB at h1 h2
      rw [Int.toNat_natCast] at h1 h2
      rw [Bool.not_eq_true] at h1 h2
      rw [h1, h2]
  omega
theorem xz_iff {a t : Int} (ha : 0 ≤ a ∧ a < 4096) : xzN a t = 0 ↔ ∀ i, 0 ≤ i → i < 12 → zB a i → zB t i := by
  constructor
  · intro h i h0 h1 hb
    unfold xzN at h
    have h2 : a.toNat &&& (4095 ^^^ t.toNat) = 0 := by omega
    have h3 := congrArg (fun z => z.testBit i.toNat) h2
    simp only [Nat.testBit_and, Nat.testBit_xor, Nat.zero_testBit] at h3
    unfold zB at hb ⊢
    rw [hb, show Nat.testBit 4095 i.toNat = true from by rw [show (4095 : Nat) = 2 ^ 12 - 1 from rfl, Nat.testBit_two_pow_sub_one]; simp; omega] at h3
    revert h3
    cases t.toNat.testBit i.toNat <;> simp
  · intro h
    have hz : a.toNat &&& (4095 ^^^ t.toNat) = 0 := by
      apply Nat.eq_of_testBit_eq
      intro i
      rw [Nat.zero_testBit, Nat.testBit_and, Nat.testBit_xor]
      by_cases hi : i < 12
      · have hh := h i (by omega) (by omega)
        unfold zB at hh
        rw [Int.toNat_natCast] at hh
        rw [show Nat.testBit 4095 i = true from by rw [show (4095 : Nat) = 2 ^ 12 - 1 from rfl, Nat.testBit_two_pow_sub_one]; simp [hi]]
        revert hh
        cases a.toNat.testBit i <;> cases t.toNat.testBit i <;> simp
      · have h1 := zB_ge ha (n := i) (by omega)
        unfold zB at h1
        rw [Int.toNat_natCast, Bool.not_eq_true] at h1
        rw [h1]; rfl
    unfold xzN
    rw [hz]; rfl
theorem bI_le {P Q : Prop} [Decidable P] [Decidable Q] (h : P → Q) : bI P ≤ bI Q := by
  by_cases p : P
  · rw [bI_t p, bI_t (h p)]; exact Int.le_refl _
  · rw [bI_f p]; exact (bI_01 Q).elim (fun e => by omega) (fun e => by omega)
def pSum (s : Int) : Int := bI (zB s 0) + (bI (zB s 1) + (bI (zB s 2) + (bI (zB s 3) + (bI (zB s 4) + (bI (zB s 5) + (bI (zB s 6) + (bI (zB s 7) + (bI (zB s 8) + (bI (zB s 9) + (bI (zB s 10) + bI (zB s 11)))))))))))
theorem popc_sum {s : Int} (hs : 0 ≤ s ∧ s < 4096) : popc s = pSum s := by
  rw [← pR_0 s hs.1, pR_s hs (by decide), pR_s hs (by decide), pR_s hs (by decide), pR_s hs (by decide), pR_s hs (by decide), pR_s hs (by decide), pR_s hs (by decide), pR_s hs (by decide), pR_s hs (by decide), pR_s hs (by decide), pR_s hs (by decide), pR_s hs (by decide)]
  have e : pR s (0 + 1 + 1 + 1 + 1 + 1 + 1 + 1 + 1 + 1 + 1 + 1 + 1) = 0 := pR_12 hs
  rw [e, Int.add_zero]
  rfl
theorem popc_mono {s t : Int} (hs : 0 ≤ s ∧ s < 4096) (ht : 0 ≤ t ∧ t < 4096) (h : ∀ i, 0 ≤ i → i < 12 → zB s i → zB t i) : popc s ≤ popc t := by
  rw [popc_sum hs, popc_sum ht]
  unfold pSum
  have h0 := bI_le (h 0 (by decide) (by decide)); have h1 := bI_le (h 1 (by decide) (by decide)); have h2 := bI_le (h 2 (by decide) (by decide)); have h3 := bI_le (h 3 (by decide) (by decide))
  have h4 := bI_le (h 4 (by decide) (by decide)); have h5 := bI_le (h 5 (by decide) (by decide)); have h6 := bI_le (h 6 (by decide) (by decide)); have h7 := bI_le (h 7 (by decide) (by decide))
  have h8 := bI_le (h 8 (by decide) (by decide)); have h9 := bI_le (h 9 (by decide) (by decide)); have h10 := bI_le (h 10 (by decide) (by decide)); have h11 := bI_le (h 11 (by decide) (by decide))
  omega
theorem popc_strict {s t : Int} (hs : 0 ≤ s ∧ s < 4096) (ht : 0 ≤ t ∧ t < 4096) (h : ∀ i, 0 ≤ i → i < 12 → zB s i → zB t i) {k : Int} (hk : 0 ≤ k ∧ k < 12) (h1 : ¬ zB s k) (h2 : zB t k) : popc s < popc t := by
  rw [popc_sum hs, popc_sum ht]
  have a := bI_f h1
  have b := bI_t h2
  unfold pSum
  have h0 := bI_le (h 0 (by decide) (by decide)); have h1 := bI_le (h 1 (by decide) (by decide)); have h2 := bI_le (h 2 (by decide) (by decide)); have h3 := bI_le (h 3 (by decide) (by decide))
  have h4 := bI_le (h 4 (by decide) (by decide)); have h5 := bI_le (h 5 (by decide) (by decide)); have h6 := bI_le (h 6 (by decide) (by decide)); have h7 := bI_le (h 7 (by decide) (by decide))
  have h8 := bI_le (h 8 (by decide) (by decide)); have h9 := bI_le (h 9 (by decide) (by decide)); have h10 := bI_le (h 10 (by decide) (by decide)); have h11 := bI_le (h 11 (by decide) (by decide))
  rcases (show k = 0 ∨ k = 1 ∨ k = 2 ∨ k = 3 ∨ k = 4 ∨ k = 5 ∨ k = 6 ∨ k = 7 ∨ k = 8 ∨ k = 9 ∨ k = 10 ∨ k = 11 by omega) with e | e | e | e | e | e | e | e | e | e | e | e <;> subst e <;> omega
/-- a comes before b: at the first net in which they differ, a has it -/
def pre (a b : Int) : Prop := ∃ i, (0 ≤ i ∧ i < 12) ∧ (∀ j, 0 ≤ j → j < i → (zB a j ↔ zB b j)) ∧ zB a i ∧ ¬ zB b i
theorem pre_asym {a b : Int} (h1 : pre a b) (h2 : pre b a) : False := by
  obtain ⟨i, hi, ha, hb, hc⟩ := h1
  obtain ⟨j, hj, ka, kb, kc⟩ := h2
  rcases (show i < j ∨ i = j ∨ j < i by omega) with q | q | q
  · exact hc ((ka i hi.1 q).mpr hb)
  · subst q; exact hc kb
  · exact kc ((ha j hj.1 q).mpr kb)
theorem pre_trans {a b c : Int} (h1 : pre a b) (h2 : pre b c) : pre a c := by
  obtain ⟨i, hi, ha, hb, hc⟩ := h1
  obtain ⟨j, hj, ka, kb, kc⟩ := h2
  rcases (show i < j ∨ i = j ∨ j < i by omega) with q | q | q
  · exact ⟨i, hi, fun k k0 k1 => (ha k k0 k1).trans (ka k k0 (by omega)), hb, fun z => hc ((ka i hi.1 q).mpr z)⟩
  · subst q; exact absurd kb hc
  · exact ⟨j, hj, fun k k0 k1 => (ha k k0 (by omega)).trans (ka k k0 k1), (ha j hj.1 q).mpr kb, kc⟩
theorem zX_iff {a b i : Int} : zB (zXor a b) i ↔ ¬ (zB a i ↔ zB b i) := by
  unfold zB zXor
  rw [Int.toNat_natCast, Nat.testBit_xor]
  cases a.toNat.testBit i.toNat <;> cases b.toNat.testBit i.toNat <;> simp
theorem lbF_sp (d : Int) : ∀ (f : Nat) (i : Int), (∃ k, i ≤ k ∧ k < i + f ∧ zB d k) → (i ≤ lbF d f i ∧ lbF d f i < i + f ∧ zB d (lbF d f i) ∧ ∀ j, i ≤ j → j < lbF d f i → ¬ zB d j)
  | 0, i, ⟨k, h1, h2, h3⟩ => by exfalso; omega
  | f + 1, i, ⟨k, h1, h2, h3⟩ => by
    rw [lbF_s]
    by_cases q : zB d i
    · rw [if_pos q]; exact ⟨by omega, by omega, q, fun j a b => by omega⟩
    · rw [if_neg q]
      have ki : k ≠ i := fun e => q (e ▸ h3)
      obtain ⟨a1, a2, a3, a4⟩ := lbF_sp d f (i + 1) ⟨k, by omega, by omega, h3⟩
      refine ⟨by omega, by omega, a3, fun j b1 b2 => ?_⟩
      by_cases e : j = i
      · rw [e]; exact q
      · exact a4 j (by omega) b2
theorem cmF_iff {a b : Int} (ha : 0 ≤ a ∧ a < 4096) (hb : 0 ≤ b ∧ b < 4096) (hne : ¬ a = b) : cmF a b ↔ pre a b := by
  have hex : ∃ k, (0 : Int) ≤ k ∧ k < 0 + (12 : Nat) ∧ zB (zXor a b) k := by
    by_cases h : ∃ k, (0 : Int) ≤ k ∧ k < 0 + (12 : Nat) ∧ zB (zXor a b) k
    · exact h
    · refine absurd (set_ext ha hb (fun i h0 h1 => ?_)) hne
      by_cases z : zB a i ↔ zB b i
      · exact z
      · exact absurd ⟨i, h0, by omega, zX_iff.mpr z⟩ h
  obtain ⟨a1, a2, a3, a4⟩ := lbF_sp (zXor a b) 12 0 hex
  generalize hi : lbF (zXor a b) 12 0 = i at a1 a2 a3 a4
  have a3 := zX_iff.mp a3
  have a5 : ∀ j, 0 ≤ j → j < i → (zB a j ↔ zB b j) := fun j h0 h1 => by
    by_cases z : zB a j ↔ zB b j
    · exact z
    · exact absurd (zX_iff.mpr z) (a4 j h0 h1)
  show zB a (lbF (zXor a b) 12 0) ↔ _
  rw [hi]
  constructor
  · intro h
    exact ⟨i, ⟨a1, by omega⟩, a5, h, fun z => a3 ⟨fun _ => z, fun _ => h⟩⟩
  · rintro ⟨j, hj, k1, k2, k3⟩
    rcases (show i < j ∨ i = j ∨ j < i by omega) with q | q | q
    · exact absurd (k1 i a1 q) a3
    · rw [q]; exact k2
    · exact absurd ((a5 j hj.1 q).mp k2) k3
theorem pre_tot {a b : Int} (ha : 0 ≤ a ∧ a < 4096) (hb : 0 ≤ b ∧ b < 4096) (hne : ¬ a = b) : pre a b ∨ pre b a := by
  by_cases h : cmF a b
  · exact Or.inl ((cmF_iff ha hb hne).mp h)
  · have hex : ∃ k, (0 : Int) ≤ k ∧ k < 0 + (12 : Nat) ∧ zB (zXor a b) k := by
      by_cases h : ∃ k, (0 : Int) ≤ k ∧ k < 0 + (12 : Nat) ∧ zB (zXor a b) k
      · exact h
      · refine absurd (set_ext ha hb (fun i h0 h1 => ?_)) hne
        by_cases z : zB a i ↔ zB b i
        · exact z
        · exact absurd ⟨i, h0, by omega, zX_iff.mpr z⟩ h
    obtain ⟨a1, a2, a3, a4⟩ := lbF_sp (zXor a b) 12 0 hex
    refine Or.inr ⟨_, ⟨a1, by omega⟩, fun j h0 h1 => ?_, ?_, h⟩
    · by_cases z : zB a j ↔ zB b j
      · exact z.symm
      · exact absurd (zX_iff.mpr z) (a4 j h0 h1)
    · have a3 := zX_iff.mp a3
      by_cases z : zB b (lbF (zXor a b) 12 0)
      · exact z
      · exact absurd ⟨fun q => absurd q h, fun q => absurd q z⟩ a3
/-- the better of two sets -/
def bet (a b : Int) : Prop := popc a < popc b ∨ (popc a = popc b ∧ pre a b)
theorem bet_trans {a b c : Int} (h1 : bet a b) (h2 : bet b c) : bet a c := by
  rcases h1 with h1 | ⟨h1, p1⟩ <;> rcases h2 with h2 | ⟨h2, p2⟩
  · exact Or.inl (by omega)
  · exact Or.inl (by omega)
  · exact Or.inl (by omega)
  · exact Or.inr ⟨by omega, pre_trans p1 p2⟩
theorem bet_asym {a b : Int} (h1 : bet a b) (h2 : bet b a) : False := by
  rcases h1 with h1 | ⟨h1, p1⟩ <;> rcases h2 with h2 | ⟨h2, p2⟩
  · omega
  · omega
  · omega
  · exact pre_asym p1 p2
theorem bet_tot {a b : Int} (ha : 0 ≤ a ∧ a < 4096) (hb : 0 ≤ b ∧ b < 4096) (hne : ¬ a = b) : bet a b ∨ bet b a := by
  rcases (show popc a < popc b ∨ popc a = popc b ∨ popc b < popc a by omega) with q | q | q
  · exact Or.inl (Or.inl q)
  · rcases pre_tot ha hb hne with h | h
    · exact Or.inl (Or.inr ⟨q, h⟩)
    · exact Or.inr (Or.inr ⟨q.symm, h⟩)
  · exact Or.inr (Or.inl q)
def Expl (w : Int → Int) (t : Int) : Prop := ∀ n, 0 ≤ n → n < 12 → zB t n ∨ xzN (w n) t = 0
def BestC (w : Int → Int) (t : Int) : Prop := (0 ≤ t ∧ t < 4096) ∧ Expl w t ∧ ∀ v, (0 ≤ v ∧ v < 4096) → Expl w v → v = t ∨ bet t v
theorem BestC.uniq {w : Int → Int} {s t : Int} (h1 : BestC w s) (h2 : BestC w t) : s = t := by
  rcases h1.2.2 t h2.1 h2.2.1 with q | q
  · exact q.symm
  · rcases h2.2.2 s h1.1 h1.2.1 with r | r
    · exact r
    · exact (bet_asym q r).elim
/-- what is known of failed rows -/
def RwOk (w : Int → Int) (N : Int) : Prop := (∀ i, 0 ≤ w i ∧ w i < 4096) ∧ ∀ a b, (0 ≤ a ∧ a < 12) → (0 ≤ b ∧ b < 12) → zB (w a) b → a < N ∧ b < N ∧ ¬ a = b ∧ zB (w b) a
theorem exB_iff {μ : St} (a : Int) : ∀ (f : Nat) (n : Int), exB μ a f n = true ↔ ∀ k, n ≤ k → k < n + f → zB a k ∨ xzN (μ 21 k) a = 0
  | 0, n => ⟨fun _ k h1 h2 => by omega, fun _ => rfl⟩
  | f + 1, n => by
    rw [exB_s]
    by_cases q : ¬ zB a n ∧ ¬ xzN (μ 21 n) a = 0
    · rw [if_pos q]
      refine ⟨fun h => (by cases h), fun h => ?_⟩
      rcases h n (by omega) (by omega) with z | z
      · exact absurd z q.1
      · exact absurd z q.2
    · rw [if_neg q, exB_iff a f (n + 1)]
      have q' : zB a n ∨ xzN (μ 21 n) a = 0 := by
        by_cases z : zB a n
        · exact Or.inl z
        · by_cases y : xzN (μ 21 n) a = 0
          · exact Or.inr y
          · exact absurd ⟨z, y⟩ q
      constructor
      · intro h k h1 h2
        by_cases e : k = n
        · rw [e]; exact q'
        · exact h k (by omega) (by omega)
      · intro h k h1 h2
        exact h k (by omega) (by omega)
theorem exPl_iff {μ : St} (hR : RwOk (μ 21) (μ 1 0)) (hN : 0 ≤ μ 1 0 ∧ μ 1 0 ≤ 12) (a : Int) : exPl μ a ↔ Expl (μ 21) a := by
  show exB μ a (μ 1 0).toNat 0 = true ↔ _
  rw [exB_iff]
  constructor
  · intro h n h0 h1
    by_cases q : n < μ 1 0
    · exact h n h0 (by omega)
    · refine Or.inr ((xz_iff (hR.1 n)).mpr (fun i i0 i1 hb => ?_))
      exact absurd (hR.2 n i ⟨h0, h1⟩ ⟨i0, i1⟩ hb).1 q
  · intro h k h0 h1
    exact h k h0 (by omega)
theorem ssP_iff {μ : St} (hR : RwOk (μ 21) (μ 1 0)) (hN : 0 ≤ μ 1 0 ∧ μ 1 0 ≤ 12) {v t : Int} (hv : 0 ≤ v ∧ v < 4096) (ht : 0 ≤ t ∧ t < 4096) : ssP μ v t ↔ (Expl (μ 21) v ∧ ¬ v = t ∧ bet v t) := by
  show (exPl μ v ∧ (popc v < popc t ∨ (popc v = popc t ∧ ¬ v = t ∧ cmF v t))) ↔ _
  rw [exPl_iff hR hN]
  constructor
  · rintro ⟨h1, h2 | ⟨h2, h3, h4⟩⟩
    · exact ⟨h1, fun e => by rw [e] at h2; omega, Or.inl h2⟩
    · exact ⟨h1, h3, Or.inr ⟨h2, (cmF_iff hv ht h3).mp h4⟩⟩
  · rintro ⟨h1, h3, h2 | ⟨h2, h4⟩⟩
    · exact ⟨h1, Or.inl h2⟩
    · exact ⟨h1, Or.inr ⟨h2, h3, (cmF_iff hv ht h3).mpr h4⟩⟩
theorem ssF_best {μ : St} (hR : RwOk (μ 21) (μ 1 0)) (hN : 0 ≤ μ 1 0 ∧ μ 1 0 ≤ 12) : ∀ (f : Nat) (v t : Int), (0 ≤ v ∧ v + f ≤ 4096) → (0 ≤ t ∧ t < 4096) → Expl (μ 21) t → Expl (μ 21) (ssF μ f v t) ∧ (ssF μ f v t = t ∨ bet (ssF μ f v t) t) ∧ ∀ u, v ≤ u → u < v + f → Expl (μ 21) u → u = ssF μ f v t ∨ bet (ssF μ f v t) u
  | 0, v, t, hv, ht, he => ⟨he, Or.inl rfl, fun u h1 h2 => by omega⟩
  | f + 1, v, t, hv, ht, he => by
    rw [ssF_s]
    have hv' : 0 ≤ v ∧ v < 4096 := by omega
    by_cases q : ssP μ v t
    · rw [if_pos q]
      obtain ⟨q1, q2, q3⟩ := (ssP_iff hR hN hv' ht).mp q
      obtain ⟨a1, a2, a3⟩ := ssF_best hR hN f (v + 1) v (by omega) hv' q1
      refine ⟨a1, Or.inr (a2.elim (fun e => by rw [e]; exact q3) (fun e => bet_trans e q3)), fun u h1 h2 hu => ?_⟩
      by_cases e : u = v
      · rw [e]; exact a2.elim (fun z => Or.inl z.symm) Or.inr
      · exact a3 u (by omega) (by omega) hu
    · rw [if_neg q]
      obtain ⟨a1, a2, a3⟩ := ssF_best hR hN f (v + 1) t (by omega) ht he
      refine ⟨a1, a2, fun u h1 h2 hu => ?_⟩
      by_cases e : u = v
      · subst e
        by_cases e2 : u = t
        · subst e2
          exact a2.elim (fun z => Or.inl z.symm) Or.inr
        · have hb : bet t u := by
            rcases bet_tot hv' ht e2 with z | z
            · exact absurd ((ssP_iff hR hN hv' ht).mpr ⟨hu, e2, z⟩) q
            · exact z
          exact Or.inr (a2.elim (fun z => by rw [z]; exact hb) (fun z => bet_trans z hb))
      · exact a3 u (by omega) (by omega) hu
theorem zB_mod {v k i : Int} (hv : 0 ≤ v) (hi : 0 ≤ i) : zB (((v.toNat % 2 ^ k.toNat : Nat)) : Int) i ↔ (i.toNat < k.toNat ∧ zB v i) := by
  unfold zB
  rw [Int.toNat_natCast, Nat.testBit_mod_two_pow, Bool.and_eq_true, decide_eq_true_iff]
theorem suS_best {μ : St} (hR : RwOk (μ 21) (μ 1 0)) (hN : 0 ≤ μ 1 0 ∧ μ 1 0 ≤ 12) : BestC (μ 21) (suS μ) := by
  have hp := Nat.pow_le_pow_right (n := 2) (by decide) (show (μ 1 0).toNat ≤ 12 by omega)
  have h12 : (2 : Nat) ^ 12 = 4096 := rfl
  have full : Expl (μ 21) 4095 := fun n h0 h1 => Or.inl (by
    unfold zB
    rw [show (4095 : Int).toNat = 2 ^ 12 - 1 from rfl, Nat.testBit_two_pow_sub_one]; simp; omega)
  obtain ⟨a1, a2, a3⟩ := ssF_best hR hN (2 ^ (μ 1 0).toNat) 0 4095 (by rw [h12] at hp; generalize 2 ^ (μ 1 0).toNat = w at hp ⊢; omega) (by decide) full
  refine ⟨suS_bd hN, a1, fun v hv he => ?_⟩
  by_cases q : v < ((2 ^ (μ 1 0).toNat : Nat) : Int)
  · exact a3 v hv.1 (by omega) he
  · -- the part of v below the count of nets explains too, with fewer nets
    generalize hv' : (((v.toNat % 2 ^ (μ 1 0).toNat : Nat)) : Int) = v'
    have hpos : 0 < 2 ^ (μ 1 0).toNat := Nat.pow_pos (by decide)
    have hlt : v.toNat % 2 ^ (μ 1 0).toNat < 2 ^ (μ 1 0).toNat := Nat.mod_lt _ hpos
    have hvb : 0 ≤ v' ∧ v' < ((2 ^ (μ 1 0).toNat : Nat) : Int) := by rw [← hv']; exact ⟨Int.natCast_nonneg _, Int.ofNat_lt.mpr hlt⟩
    have hvb2 : 0 ≤ v' ∧ v' < 4096 := by rw [h12] at hp; generalize 2 ^ (μ 1 0).toNat = w at hp hvb; omega
    have hb : ∀ i, 0 ≤ i → (zB v' i ↔ (i < μ 1 0 ∧ zB v i)) := fun i h0 => by
      rw [← hv', zB_mod hv.1 h0]
      exact ⟨fun z => ⟨by omega, z.2⟩, fun z => ⟨by omega, z.2⟩⟩
    have he' : Expl (μ 21) v' := by
      intro n h0 h1
      by_cases z : zB v' n
      · exact Or.inl z
      · refine Or.inr ((xz_iff (hR.1 n)).mpr (fun i i0 i1 hi => ?_))
        have r := hR.2 n i ⟨h0, h1⟩ ⟨i0, i1⟩ hi
        refine (hb i i0).mpr ⟨r.2.1, ?_⟩
        rcases he n h0 h1 with y | y
        · exact absurd ((hb n h0).mpr ⟨r.1, y⟩) z
        · exact (xz_iff (hR.1 n)).mp y i i0 i1 hi
    have hne : ∃ k, (0 ≤ k ∧ k < 12) ∧ zB v k ∧ ¬ zB v' k := by
      by_cases z : ∃ k, (0 ≤ k ∧ k < 12) ∧ zB v k ∧ ¬ zB v' k
      · exact z
      · exfalso
        have : v = v' := set_ext hv hvb2 (fun i h0 h1 => ⟨fun y => by
          by_cases x : zB v' i
          · exact x
          · exact absurd ⟨i, ⟨h0, h1⟩, y, x⟩ z, fun y => ((hb i h0).mp y).2⟩)
        omega
    obtain ⟨k, hk, k1, k2⟩ := hne
    have hlt2 : popc v' < popc v := popc_strict hvb2 hv (fun i h0 _ z => ((hb i h0).mp z).2) hk k2 k1
    have hb2 : bet v' v := Or.inl hlt2
    rcases a3 v' hvb.1 (by omega) he' with z | z
    · right
      have : suS μ = v' := z.symm
      rw [this]; exact hb2
    · exact Or.inr (bet_trans z hb2)
