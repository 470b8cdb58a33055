/-! the class's way to the smallest cover comes to the best set -/
theorem zB_orr {x y c : Int} : zB (zOr x y) c ↔ (zB x c ∨ zB y c) := by
  unfold zB zOr
  rw [Int.toNat_natCast, Nat.testBit_or, Bool.or_eq_true]
/-- what is settled of the nets below n -/
def Stl (w : Int → Int) (n t : Int) : Prop := ∀ i, 0 ≤ i → i < n → zB t i ∨ xzN (w i) t = 0
section EXC
variable {w : Int → Int} {N : Int}
/-- an unsettled net shares no row with a net below it that isn't taken -/
theorem stl_low (hR : RwOk w N) {n t : Int} (hn : 0 ≤ n ∧ n < 12) (hS : Stl w n t) (hnt : ¬ zB t n) {i : Int} (hi : 0 ≤ i ∧ i < n) (hb : zB (w n) i) : zB t i := by
  rcases hS i hi.1 hi.2 with z | z
  · exact z
  · have r := hR.2 n i hn ⟨hi.1, by omega⟩ hb
    exact absurd ((xz_iff (hR.1 i)).mp z n hn.1 hn.2 r.2.2.2) hnt
theorem stl_sub {n s t : Int} (hS : Stl w n s) (hR : RwOk w N) (h : ∀ i, 0 ≤ i → i < 12 → zB s i → zB t i) (hn : n ≤ 12) : Stl w n t := fun i h0 h1 => by
  rcases hS i h0 h1 with z | z
  · exact Or.inl (h i h0 (by omega) z)
  · exact Or.inr ((xz_iff (hR.1 i)).mpr (fun k k0 k1 hk => h k k0 k1 ((xz_iff (hR.1 i)).mp z k k0 k1 hk)))
theorem stl_1 (hR : RwOk w N) {n t : Int} (hn : 0 ≤ n ∧ n < 12) (hS : Stl w n t) : Stl w (n + 1) (zOr t ((2 ^ n.toNat : Nat) : Int)) := fun i h0 h1 => by
  by_cases e : i = n
  · exact Or.inl ((zB_or hn.1 h0).mpr (Or.inr e))
  · exact stl_sub hS hR (fun k k0 k1 z => (zB_or hn.1 k0).mpr (Or.inl z)) (by omega) i h0 (by omega)
theorem stl_2 (hR : RwOk w N) {n t : Int} (hn : 0 ≤ n ∧ n < 12) (hS : Stl w n t) : Stl w (n + 1) (zOr t (w n)) := fun i h0 h1 => by
  by_cases e : i = n
  · rw [e]; exact Or.inr ((xz_iff (hR.1 n)).mpr (fun k k0 k1 z => zB_orr.mpr (Or.inr z)))
  · exact stl_sub hS hR (fun k k0 k1 z => zB_orr.mpr (Or.inl z)) (by omega) i h0 (by omega)
theorem stl_0 {n t : Int} (hS : Stl w n t) (h : zB t n ∨ xzN (w n) t = 0) : Stl w (n + 1) t := fun i h0 h1 => by
  by_cases e : i = n
  · rw [e]; exact h
  · exact hS i h0 (by omega)
theorem stl_ex {t : Int} (hS : Stl w 12 t) : Expl w t := fun n h0 h1 => hS n h0 h1
theorem or2_bd {t n : Int} (hn : 0 ≤ n ∧ n < 12) (ht : 0 ≤ t ∧ t < 4096) : 0 ≤ zOr t ((2 ^ n.toNat : Nat) : Int) ∧ zOr t ((2 ^ n.toNat : Nat) : Int) < 4096 := zOr12 ht (pw_bd hn)
/-- with the best one kept, nothing changes -/
theorem ex_B (hR : RwOk w N) {B : Int} (hB : BestC w B) : ∀ (f : Nat) (σ : St) (n t : Int), σ 40 = w → (0 ≤ n ∧ n + f = 12) → (0 ≤ t ∧ t < 4096) → Stl w n t → σ 42 0 = popc B → σ 41 0 = B → (ex f σ n t) 42 0 = popc B ∧ (ex f σ n t) 41 0 = B ∧ (ex f σ n t) 40 = w
  | 0, σ, n, t, hw, hn, ht, hS, h42, h41 => by
    unfold ex
    by_cases q : σ 42 0 ≤ popc t
    · rw [if_pos q]; exact ⟨h42, h41, hw⟩
    · exfalso
      have hS : Stl w 12 t := by rw [show (12 : Int) = n by omega]; exact hS
      rcases hB.2.2 t ht (stl_ex hS) with z | z
      · rw [z] at q; omega
      · rcases z with z | z <;> omega
  | f + 1, σ, n, t, hw, hn, ht, hS, h42, h41 => by
    rw [ex_s]
    have hn' : 0 ≤ n ∧ n < 12 := by omega
    by_cases q : σ 42 0 ≤ popc t
    · rw [if_pos q]; exact ⟨h42, h41, hw⟩
    · rw [if_neg q]
      by_cases s : zB t n ∨ xzN (σ 40 n) t = 0
      · rw [if_pos s]
        exact ex_B hR hB f σ (n + 1) t hw (by omega) ht (stl_0 hS (by rw [hw] at s; exact s)) h42 h41
      · rw [if_neg s]
        obtain ⟨a1, a2, a3⟩ := ex_B hR hB f σ (n + 1) (zOr t ((2 ^ n.toNat : Nat) : Int)) hw (by omega) (or2_bd hn' ht) (stl_1 hR hn' hS) h42 h41
        rw [hw]
        exact ex_B hR hB f _ (n + 1) (zOr t (w n)) a3 (by omega) (zOr12 ht (hR.1 n)) (stl_2 hR hn' hS) a1 a2
/-- below a set that comes before the best one nothing as small is kept -/
theorem ex_C (hR : RwOk w N) {B : Int} (hB : BestC w B) {i : Int} (hi : 0 ≤ i ∧ ¬ zB B i) : ∀ (f : Nat) (σ : St) (n t : Int), σ 40 = w → (0 ≤ n ∧ n + f = 12) → i < n → (0 ≤ t ∧ t < 4096) → Stl w n t → (∀ j, 0 ≤ j → j < i → (zB t j ↔ zB B j)) → zB t i → popc B < σ 42 0 → popc B < (ex f σ n t) 42 0 ∧ (ex f σ n t) 40 = w
  | 0, σ, n, t, hw, hn, hin, ht, hS, hl, hti, h42 => by
    unfold ex
    by_cases q : σ 42 0 ≤ popc t
    · rw [if_pos q]; exact ⟨h42, hw⟩
    · rw [if_neg q]
      have hS : Stl w 12 t := by rw [show (12 : Int) = n by omega]; exact hS
      refine ⟨?_, by rw [up_f _ _ _ (by decide), up_f _ _ _ (by decide)]; exact hw⟩
      rw [up_s]
      have hp : pre t B := ⟨i, ⟨hi.1, by omega⟩, hl, hti, hi.2⟩
      rcases hB.2.2 t ht (stl_ex hS) with z | z
      · rw [z] at hti; exact absurd hti hi.2
      · rcases z with z | ⟨z, z2⟩
        · exact z
        · exact (pre_asym hp z2).elim
  | f + 1, σ, n, t, hw, hn, hin, ht, hS, hl, hti, h42 => by
    rw [ex_s]
    have hn' : 0 ≤ n ∧ n < 12 := by omega
    by_cases q : σ 42 0 ≤ popc t
    · rw [if_pos q]; exact ⟨h42, hw⟩
    · rw [if_neg q]
      by_cases s : zB t n ∨ xzN (σ 40 n) t = 0
      · rw [if_pos s]
        exact ex_C hR hB hi f σ (n + 1) t hw (by omega) (by omega) ht (stl_0 hS (by rw [hw] at s; exact s)) hl hti h42
      · rw [if_neg s]
        have hnt : ¬ zB t n := fun z => s (Or.inl z)
        obtain ⟨a1, a2⟩ := ex_C hR hB hi f σ (n + 1) (zOr t ((2 ^ n.toNat : Nat) : Int)) hw (by omega) (by omega) (or2_bd hn' ht) (stl_1 hR hn' hS) (fun j j0 j1 => by
          rw [zB_or hn'.1 j0, ← hl j j0 j1]
          exact ⟨fun z => z.elim id (fun e => by omega), Or.inl⟩) ((zB_or hn'.1 hi.1).mpr (Or.inl hti)) h42
        rw [hw]
        exact ex_C hR hB hi f _ (n + 1) (zOr t (w n)) a2 (by omega) (by omega) (zOr12 ht (hR.1 n)) (stl_2 hR hn' hS) (fun j j0 j1 => by
          rw [zB_orr, ← hl j j0 j1]
          exact ⟨fun z => z.elim id (fun e => stl_low hR hn' hS hnt ⟨j0, by omega⟩ e), Or.inl⟩) (zB_orr.mpr (Or.inl hti)) a1
/-- on the way to the best one, it is found -/
theorem ex_A (hR : RwOk w N) {B : Int} (hB : BestC w B) : ∀ (f : Nat) (σ : St) (n t : Int), σ 40 = w → (0 ≤ n ∧ n + f = 12) → (0 ≤ t ∧ t < 4096) → Stl w n t → (∀ j, 0 ≤ j → j < 12 → zB t j → zB B j) → (∀ j, 0 ≤ j → j < n → (zB t j ↔ zB B j)) → popc B < σ 42 0 → (ex f σ n t) 42 0 = popc B ∧ (ex f σ n t) 41 0 = B ∧ (ex f σ n t) 40 = w
  | 0, σ, n, t, hw, hn, ht, hS, hsub, hl, h42 => by
    have e : t = B := set_ext ht hB.1 (fun i h0 h1 => hl i h0 (by omega))
    unfold ex
    rw [if_neg (by rw [e]; omega), e]
    exact ⟨by rw [up_s], by rw [up_o _ _ _ _ (by decide), up_s], by rw [up_f _ _ _ (by decide), up_f _ _ _ (by decide)]; exact hw⟩
  | f + 1, σ, n, t, hw, hn, ht, hS, hsub, hl, h42 => by
    rw [ex_s]
    have hn' : 0 ≤ n ∧ n < 12 := by omega
    have hp := popc_mono ht hB.1 hsub
    rw [if_neg (by omega)]
    by_cases s : zB t n ∨ xzN (σ 40 n) t = 0
    · rw [if_pos s]
      rw [hw] at s
      refine ex_A hR hB f σ (n + 1) t hw (by omega) ht (stl_0 hS s) hsub (fun j j0 j1 => ?_) h42
      by_cases e : j = n
      · subst e
        refine ⟨hsub j j0 (by omega), fun z => ?_⟩
        rcases s with s | s
        · exact s
        · -- the best one without j would explain as well
          by_cases y : zB t j
          · exact y
          · exfalso
            generalize hB' : zAnd B (4095 - ((2 ^ j.toNat : Nat) : Int)) = B'
            have p2 := pw_bd hn'
            have hB'b : 0 ≤ B' ∧ B' < 4096 := by rw [← hB']; exact zAnd_bd hB.1
            have hbit : ∀ i, 0 ≤ i → i < 12 → (zB B' i ↔ (zB B i ∧ ¬ i = j)) := fun i i0 i1 => by
              rw [← hB', zB_and]
              have : zB (4095 - ((2 ^ j.toNat : Nat) : Int)) i ↔ ¬ i = j := by
                unfold zB
                have hj : 2 ^ j.toNat < 2 ^ 12 := Nat.pow_lt_pow_right (by decide) (by omega)
                have e1 : (4095 - ((2 ^ j.toNat : Nat) : Int)).toNat = 2 ^ 12 - (2 ^ j.toNat + 1) := by
                  have : (2 : Nat) ^ 12 = 4096 := rfl
                  generalize 2 ^ j.toNat = w9 at hj ⊢
                  omega
                rw [e1, Nat.testBit_two_pow_sub_succ hj, Nat.testBit_two_pow]
                simp
                constructor
                · intro h e; exact h.2 (by rw [e])
                · intro h; exact ⟨by omega, fun e => h (by omega)⟩
              rw [this]
            have hE : Expl w B' := by
              intro m m0 m1
              by_cases z2 : zB B' m
              · exact Or.inl z2
              · refine Or.inr ((xz_iff (hR.1 m)).mpr (fun i i0 i1 hb => (hbit i i0 i1).mpr ?_))
                have r := hR.2 m i ⟨m0, m1⟩ ⟨i0, i1⟩ hb
                by_cases e2 : m = j
                · subst e2
                  exact ⟨hsub i i0 i1 ((xz_iff (hR.1 m)).mp s i i0 i1 hb), fun e3 => r.2.2.1 e3.symm⟩
                · have hmB : ¬ zB B m := fun z3 => z2 ((hbit m m0 m1).mpr ⟨z3, e2⟩)
                  refine ⟨?_, fun e3 => ?_⟩
                  · rcases hB.2.1 m m0 m1 with z3 | z3
                    · exact absurd z3 hmB
                    · exact (xz_iff (hR.1 m)).mp z3 i i0 i1 hb
                  · subst e3
                    exact hmB (hsub m m0 m1 ((xz_iff (hR.1 i)).mp s m m0 m1 r.2.2.2))
            have hlt : popc B' < popc B := popc_strict hB'b hB.1 (fun i i0 i1 z2 => ((hbit i i0 i1).mp z2).1) hn' (fun z2 => ((hbit j hn'.1 hn'.2).mp z2).2 rfl) z
            rcases hB.2.2 B' hB'b hE with z2 | z2
            · rw [z2] at hlt; omega
            · rcases z2 with z2 | z2 <;> omega
      · exact hl j j0 (by omega)
    · rw [if_neg s]
      have hnt : ¬ zB t n := fun z => s (Or.inl z)
      by_cases hnB : zB B n
      · obtain ⟨a1, a2, a3⟩ := ex_A hR hB f σ (n + 1) (zOr t ((2 ^ n.toNat : Nat) : Int)) hw (by omega) (or2_bd hn' ht) (stl_1 hR hn' hS) (fun j j0 j1 z => by
          rcases (zB_or hn'.1 j0).mp z with y | y
          · exact hsub j j0 j1 y
          · rw [y]; exact hnB) (fun j j0 j1 => by
          rw [zB_or hn'.1 j0]
          by_cases e : j = n
          · subst e; exact ⟨fun _ => hnB, fun _ => Or.inr rfl⟩
          · rw [← hl j j0 (by omega)]
            exact ⟨fun z => z.elim id (fun y => absurd y e), Or.inl⟩) h42
        rw [hw]
        exact ex_B hR hB f _ (n + 1) (zOr t (w n)) a3 (by omega) (zOr12 ht (hR.1 n)) (stl_2 hR hn' hS) a1 a2
      · obtain ⟨a1, a2⟩ := ex_C hR hB (i := n) ⟨hn'.1, hnB⟩ f σ (n + 1) (zOr t ((2 ^ n.toNat : Nat) : Int)) hw (by omega) (by omega) (or2_bd hn' ht) (stl_1 hR hn' hS) (fun j j0 j1 => by
          rw [zB_or hn'.1 j0, ← hl j j0 j1]
          exact ⟨fun z => z.elim id (fun y => by omega), Or.inl⟩) ((zB_or hn'.1 hn'.1).mpr (Or.inr rfl)) h42
        rw [hw]
        have hwB : ∀ j, 0 ≤ j → j < 12 → zB (w n) j → zB B j := fun j j0 j1 z => by
          rcases hB.2.1 n hn'.1 hn'.2 with y | y
          · exact absurd y hnB
          · exact (xz_iff (hR.1 n)).mp y j j0 j1 z
        refine ex_A hR hB f _ (n + 1) (zOr t (w n)) a2 (by omega) (zOr12 ht (hR.1 n)) (stl_2 hR hn' hS) (fun j j0 j1 z => ?_) (fun j j0 j1 => ?_) a1
        · rcases zB_orr.mp z with y | y
          · exact hsub j j0 j1 y
          · exact hwB j j0 j1 y
        · rw [zB_orr]
          by_cases e : j = n
          · subst e
            exact ⟨fun z => z.elim (fun y => absurd y hnt) (fun y => absurd rfl (hR.2 j j hn' hn' y).2.2.1), fun z => absurd z hnB⟩
          · rw [← hl j j0 (by omega)]
            exact ⟨fun z => z.elim id (fun y => stl_low hR hn' hS hnt ⟨j0, by omega⟩ y), Or.inl⟩
end EXC
theorem ex_best {σ : St} {N B : Int} (hR : RwOk (σ 40) N) (hB : BestC (σ 40) B) (h42 : σ 42 0 = 13) : (ex 12 σ 0 0) 42 0 = popc B ∧ (ex 12 σ 0 0) 41 0 = B := by
  have z0 : ∀ j, ¬ zB 0 j := fun j => by unfold zB; rw [show (0 : Int).toNat = 0 from rfl, Nat.zero_testBit]; simp
  have := ex_A hR hB 12 σ 0 0 rfl (by decide) (by decide) (fun i h0 h1 => by omega) (fun j j0 j1 z => absurd z (z0 j)) (fun j j0 j1 => by omega) (by have := popc_bd B; omega)
  exact ⟨this.1, this.2.1⟩
