/-! the order by place, on both sides -/
theorem befP_irr (σ : St) (a : Int) : ¬ befP σ a a := by intro h; rcases h with h | ⟨-, h | ⟨-, h⟩⟩ <;> omega
theorem befP_asym {σ : St} {a b : Int} (h1 : befP σ a b) (h2 : befP σ b a) : False := by
  rcases h1 with h | ⟨h, h | ⟨h3, h4⟩⟩ <;> rcases h2 with k | ⟨k, k | ⟨k3, k4⟩⟩ <;> omega
theorem befP_trans {σ : St} {a b c : Int} (h1 : befP σ a b) (h2 : befP σ b c) : befP σ a c := by
  show σ 3 a < σ 3 c ∨ (σ 3 a = σ 3 c ∧ (σ 4 a < σ 4 c ∨ (σ 4 a = σ 4 c ∧ a < c)))
  rcases h1 with h | ⟨h, h | ⟨h3, h4⟩⟩ <;> rcases h2 with k | ⟨k, k | ⟨k3, k4⟩⟩ <;> omega
theorem befP_tot {σ : St} {a b : Int} (h : ¬ a = b) (h1 : ¬ befP σ a b) : befP σ b a := by
  have h1' : ¬ (σ 3 a < σ 3 b ∨ (σ 3 a = σ 3 b ∧ (σ 4 a < σ 4 b ∨ (σ 4 a = σ 4 b ∧ a < b)))) := h1
  show σ 3 b < σ 3 a ∨ (σ 3 b = σ 3 a ∧ (σ 4 b < σ 4 a ∨ (σ 4 b = σ 4 a ∧ b < a)))
  omega
theorem befP_cg {σ τ : St} {a b : Int} (h3 : τ 3 a = σ 3 a) (h3' : τ 3 b = σ 3 b) (h4 : τ 4 a = σ 4 a) (h4' : τ 4 b = σ 4 b) : befP τ a b ↔ befP σ a b := by
  show (τ 3 a < τ 3 b ∨ (τ 3 a = τ 3 b ∧ (τ 4 a < τ 4 b ∨ (τ 4 a = τ 4 b ∧ a < b)))) ↔ (σ 3 a < σ 3 b ∨ (σ 3 a = σ 3 b ∧ (σ 4 a < σ 4 b ∨ (σ 4 a = σ 4 b ∧ a < b))))
  rw [h3, h3', h4, h4']
/-- the first n of a field, as a list -/
def fL (f : Int → Int) (n : Nat) : List Int := (List.range n).map (fun i : Nat => f (i : Int))
theorem fL_s (f : Int → Int) (n : Nat) : fL f (n + 1) = fL f n ++ [f (n : Int)] := by unfold fL; rw [List.range_succ, List.map_append]; rfl
theorem fL_mem {f : Int → Int} {n : Nat} {x : Int} : x ∈ fL f n ↔ ∃ i : Int, 0 ≤ i ∧ i < n ∧ x = f i := by
  unfold fL
  rw [List.mem_map]
  constructor
  · rintro ⟨i, hi, e⟩
    exact ⟨i, by omega, by have := List.mem_range.mp hi; omega, e.symm⟩
  · rintro ⟨i, h0, h1, e⟩
    exact ⟨i.toNat, List.mem_range.mpr (by omega), by rw [e, Int.toNat_of_nonneg h0]⟩
theorem fL_cg {f g : Int → Int} {n : Nat} (h : ∀ i : Int, 0 ≤ i → i < n → f i = g i) : fL f n = fL g n := by
  unfold fL
  refine List.map_congr_left (fun i hi => h i (by omega) (by have := List.mem_range.mp hi; omega))
theorem fL_len (f : Int → Int) (n : Nat) : (fL f n).length = n := by unfold fL; simp
theorem fL_at {f : Int → Int} {n k : Nat} (h : k < n) : (fL f n)[k]? = some (f (k : Int)) := by unfold fL; simp [h]
theorem insF_hi (q : Int) : ∀ (a : Nat) (τ : St) (i : Int), (a : Int) < i → insF q a τ 23 i = τ 23 i
  | 0, τ, i, h => up_n _ _ _ (by omega)
  | a + 1, τ, i, h => by
    rw [insF_s]; split
    · rw [insF_hi q a _ i (by omega), up_n _ _ _ (by omega)]
    · exact up_n _ _ _ (by omega)
theorem insF_perm (q : Int) : ∀ (a : Nat) (τ : St), List.Perm (fL (insF q a τ 23) (a + 1)) (q :: fL (τ 23) a)
  | 0, τ => by
    have e : fL (insF q 0 τ 23) (0 + 1) = [q] := by
      rw [fL_s]
      show [] ++ [insF q 0 τ 23 (0 : Nat)] = [q]
      unfold insF
      show [up τ 23 0 q 23 0] = [q]
      rw [up_s]
    rw [e]; exact List.Perm.refl _
  | a + 1, τ => by
    rw [insF_s]
    split
    · rw [fL_s (insF q a (up τ 23 ((a : Int) + 1) (τ 23 a)) 23) (a + 1), insF_hi q a _ _ (by omega)]
      have e1 : up τ 23 ((a : Int) + 1) (τ 23 a) 23 ((a + 1 : Nat) : Int) = τ 23 a := by
        rw [show ((a + 1 : Nat) : Int) = (a : Int) + 1 by omega, up_s]
      rw [e1]
      have ih := insF_perm q a (up τ 23 ((a : Int) + 1) (τ 23 a))
      have e2 : fL (up τ 23 ((a : Int) + 1) (τ 23 a) 23) a = fL (τ 23) a := fL_cg (fun i h0 h1 => up_n _ _ _ (by omega))
      rw [e2] at ih
      rw [fL_s (τ 23) a]
      exact ih.append_right [τ 23 a]
    · rw [fL_s (up τ 23 ((a : Int) + 1) q 23) (a + 1)]
      have e1 : up τ 23 ((a : Int) + 1) q 23 ((a + 1 : Nat) : Int) = q := by
        rw [show ((a + 1 : Nat) : Int) = (a : Int) + 1 by omega, up_s]
      have e2 : fL (up τ 23 ((a : Int) + 1) q 23) (a + 1) = fL (τ 23) (a + 1) := fL_cg (fun i h0 h1 => up_n _ _ _ (by omega))
      rw [e1, e2]
      exact List.perm_append_singleton _ _
theorem insF_sorted (q : Int) : ∀ (a : Nat) (τ : St), (fL (τ 23) a).Pairwise (befP τ) → (∀ x ∈ fL (τ 23) a, ¬ x = q) → (fL (insF q a τ 23) (a + 1)).Pairwise (befP τ)
  | 0, τ, hs, hq => by
    have e : fL (insF q 0 τ 23) (0 + 1) = [q] := by
      rw [fL_s]
      show [] ++ [insF q 0 τ 23 (0 : Nat)] = [q]
      unfold insF
      show [up τ 23 0 q 23 0] = [q]
      rw [up_s]
    rw [e]; exact List.pairwise_singleton _ _
  | a + 1, τ, hs, hq => by
    rw [fL_s (τ 23) a] at hs hq
    have hs' := List.pairwise_append.mp hs
    have hlast : ∀ x ∈ fL (τ 23) a, befP τ x (τ 23 a) := fun x hx => hs'.2.2 x hx _ (List.mem_singleton.mpr rfl)
    rw [insF_s]
    split
    · rename_i hb
      have e2 : fL (up τ 23 ((a : Int) + 1) (τ 23 a) 23) a = fL (τ 23) a := fL_cg (fun i h0 h1 => up_n _ _ _ (by omega))
      have hc : ∀ x y, befP (up τ 23 ((a : Int) + 1) (τ 23 a)) x y ↔ befP τ x y := fun x y => befP_cg (up_o _ _ _ _ (by decide)) (up_o _ _ _ _ (by decide)) (up_o _ _ _ _ (by decide)) (up_o _ _ _ _ (by decide))
      have ih := insF_sorted q a (up τ 23 ((a : Int) + 1) (τ 23 a)) (by rw [e2]; exact hs'.1.imp (fun h => (hc _ _).mpr h)) (by rw [e2]; exact fun x hx => hq x (List.mem_append_left _ hx))
      rw [fL_s (insF q a (up τ 23 ((a : Int) + 1) (τ 23 a)) 23) (a + 1), insF_hi q a _ _ (by omega)]
      have e1 : up τ 23 ((a : Int) + 1) (τ 23 a) 23 ((a + 1 : Nat) : Int) = τ 23 a := by
        rw [show ((a + 1 : Nat) : Int) = (a : Int) + 1 by omega, up_s]
      rw [e1]
      refine List.pairwise_append.mpr ⟨ih.imp (fun h => (hc _ _).mp h), List.pairwise_singleton _ _, fun x hx y hy => ?_⟩
      rw [List.mem_singleton.mp hy]
      have hp := insF_perm q a (up τ 23 ((a : Int) + 1) (τ 23 a))
      rw [e2] at hp
      rcases List.mem_cons.mp (hp.mem_iff.mp hx) with z | z
      · rw [z]; exact hb
      · exact hlast x z
    · rename_i hb
      rw [fL_s (up τ 23 ((a : Int) + 1) q 23) (a + 1)]
      have e1 : up τ 23 ((a : Int) + 1) q 23 ((a + 1 : Nat) : Int) = q := by
        rw [show ((a + 1 : Nat) : Int) = (a : Int) + 1 by omega, up_s]
      have e2 : fL (up τ 23 ((a : Int) + 1) q 23) (a + 1) = fL (τ 23) (a + 1) := fL_cg (fun i h0 h1 => up_n _ _ _ (by omega))
      rw [e1, e2, fL_s (τ 23) a]
      have hlq : befP τ (τ 23 a) q := befP_tot (fun e => hq (τ 23 a) (List.mem_append_right _ (List.mem_singleton.mpr rfl)) e.symm) hb
      refine List.pairwise_append.mpr ⟨hs, List.pairwise_singleton _ _, fun x hx y hy => ?_⟩
      rw [List.mem_singleton.mp hy]
      rcases List.mem_append.mp hx with z | z
      · exact befP_trans (hlast x z) hlq
      · rw [List.mem_singleton.mp z]; exact hlq
/-- the probes are apart -/
def Apt (f : Int → Int) (n : Int) : Prop := ∀ i j, 0 ≤ i → i < n → 0 ≤ j → j < n → f i = f j → i = j
theorem so_ok {σ : St} {c : Int} (hd : Apt (σ 20) c) : ∀ n : Nat, (n : Int) ≤ c → List.Perm (fL (so σ n 23) n) (fL (σ 20) n) ∧ (fL (so σ n 23) n).Pairwise (befP σ)
  | 0, _ => ⟨List.Perm.refl _, List.Pairwise.nil⟩
  | n + 1, hn => by
    obtain ⟨h1, h2⟩ := so_ok hd n (by omega)
    have e20 : so σ n 20 = σ 20 := so_o σ n 20 (by decide)
    have hc : ∀ x y, befP (so σ n) x y ↔ befP σ x y := fun x y => befP_cg (by rw [so_o σ n 3 (by decide)]) (by rw [so_o σ n 3 (by decide)]) (by rw [so_o σ n 4 (by decide)]) (by rw [so_o σ n 4 (by decide)])
    show List.Perm (fL (insF (so σ n 20 n) n (so σ n) 23) (n + 1)) _ ∧ (fL (insF (so σ n 20 n) n (so σ n) 23) (n + 1)).Pairwise _
    rw [e20]
    refine ⟨?_, ?_⟩
    · refine (insF_perm (σ 20 n) n (so σ n)).trans ?_
      rw [fL_s (σ 20) n]
      exact (List.Perm.cons _ h1).trans (List.perm_append_singleton _ _).symm
    · refine (insF_sorted (σ 20 n) n (so σ n) (h2.imp (fun h => (hc _ _).mpr h)) (fun x hx e => ?_)).imp (fun h => (hc _ _).mp h)
      obtain ⟨i, i0, i1, ei⟩ := fL_mem.mp (h1.mem_iff.mp hx)
      have := hd i n i0 (by omega) (by omega) (by omega) (by rw [← ei]; exact e)
      omega
def SoOk (σ : St) : Prop := List.Perm (fL (σ 23) (σ 25 0).toNat) (fL (σ 20) (σ 25 0).toNat) ∧ (fL (σ 23) (σ 25 0).toNat).Pairwise (befP σ)
/-- in a sorted list as many lie before an element as its place says -/
theorem rank_of {r : Int → Int → Prop} [DecidableRel r] (hirr : ∀ a, ¬ r a a) (has : ∀ a b, r a b → r b a → False) : ∀ (l : List Int) (k : Nat) (x : Int), l.Pairwise r → l[k]? = some x → l.countP (fun y => decide (r y x)) = k
  | [], k, x, _, h => by simp at h
  | z :: l, 0, x, hp, h => by
    have e : z = x := by simpa using h
    subst e
    rw [List.countP_eq_zero]
    intro y hy
    rcases List.mem_cons.mp hy with q | q
    · rw [q]; simpa using hirr z
    · have := (List.pairwise_cons.mp hp).1 y q
      simpa using fun w => has _ _ this w
  | z :: l, k + 1, x, hp, h => by
    have h' : l[k]? = some x := by simpa using h
    have ih := rank_of hirr has l k x (List.pairwise_cons.mp hp).2 h'
    have hz : r z x := (List.pairwise_cons.mp hp).1 x (List.mem_of_getElem? h')
    rw [List.countP_cons, ih]
    simp [hz]
theorem ahF_cnt {μ : St} {i : Int} {q : Int} (hq : μ 18 i = q) : ∀ (f : Nat) (j : Nat) (t : Int), ahF μ i f (j : Int) t = t + (((List.range f).countP (fun k => decide (mAh μ (μ 18 ((j + k : Nat) : Int)) q)) : Nat) : Int)
  | 0, j, t => by simp [ahF]
  | f + 1, j, t => by
    rw [ahF_s, show (j : Int) + 1 = ((j + 1 : Nat) : Int) by omega, ahF_cnt hq f (j + 1), List.range_succ_eq_map, List.countP_cons, List.countP_map]
    have e1 : (List.range f).countP ((fun k => decide (mAh μ (μ 18 ((j + k : Nat) : Int)) q)) ∘ Nat.succ) = (List.range f).countP (fun k => decide (mAh μ (μ 18 ((j + 1 + k : Nat) : Int)) q)) := by
      congr 1; funext k; show decide _ = decide _; rw [show j + Nat.succ k = j + 1 + k by omega]
    rw [e1]
    have e2 : bI (¬ i = (j : Int) ∧ mAh μ (μ 18 (j : Int)) (μ 18 i)) = ((if decide (mAh μ (μ 18 ((j + 0 : Nat) : Int)) q) = true then 1 else 0 : Nat) : Int) := by
      rw [Nat.add_zero, hq]
      by_cases h : mAh μ (μ 18 (j : Int)) q
      · have hne : ¬ i = (j : Int) := fun e => by
          rw [← e, hq] at h
          rcases h with h | ⟨-, h | ⟨-, h⟩⟩ <;> omega
        rw [bI_t ⟨hne, h⟩, if_pos (by simpa using h)]; rfl
      · rw [bI_f (fun z => h z.2), if_neg (by simpa using h)]; rfl
    rw [e2]; omega
theorem ahd_cnt {μ : St} (i : Int) : ahd μ i = (((fL (μ 18) (μ 17 0).toNat).countP (fun y => decide (mAh μ y (μ 18 i))) : Nat) : Int) := by
  unfold ahd
  have := ahF_cnt (μ := μ) (i := i) rfl (μ 17 0).toNat 0 0
  rw [show ((0 : Nat) : Int) = 0 from rfl] at this
  rw [this, Int.zero_add]
  unfold fL
  rw [List.countP_map]
  congr 2
  funext k
  show decide _ = decide _
  rw [Nat.zero_add]
theorem plF_sp {μ : St} {k r : Int} : ∀ (f : Nat) (i : Int), (∀ j, i ≤ j → j < i + f → ahd μ j = k → μ 18 j = r) → (∃ j, i ≤ j ∧ j < i + f ∧ ahd μ j = k) → plF μ k f i = r
  | 0, i, _, ⟨j, h1, h2, _⟩ => by exfalso; omega
  | f + 1, i, h, ⟨j, h1, h2, h3⟩ => by
    rw [plF_s]
    by_cases q : ahd μ i = k
    · rw [if_pos q]; exact h i (by omega) (by omega) q
    · rw [if_neg q]
      have : j ≠ i := fun e => q (e ▸ h3)
      exact plF_sp f (i + 1) (fun j a b c => h j (by omega) (by omega) c) ⟨j, by omega, by omega, h3⟩
theorem plF_no {μ : St} {k : Int} : ∀ (f : Nat) (i : Int), (∀ j, i ≤ j → j < i + f → ¬ ahd μ j = k) → plF μ k f i = -1
  | 0, i, _ => rfl
  | f + 1, i, h => by
    rw [plF_s, if_neg (h i (by omega) (by omega))]
    exact plF_no f (i + 1) (fun j a b => h j (by omega) (by omega))
theorem mAh_bef {σ μ : St} (h3 : σ 3 = μ 6) (h4 : σ 4 = μ 7) (a b : Int) : mAh μ a b ↔ befP σ a b := by
  show (μ 6 a < μ 6 b ∨ (μ 6 a = μ 6 b ∧ (μ 7 a < μ 7 b ∨ (μ 7 a = μ 7 b ∧ a < b)))) ↔ (σ 3 a < σ 3 b ∨ (σ 3 a = σ 3 b ∧ (σ 4 a < σ 4 b ∨ (σ 4 a = σ 4 b ∧ a < b))))
  rw [h3, h4]
/-- the reference's order is the class's -/
theorem plc_eq {σ μ : St} (h3 : σ 3 = μ 6) (h4 : σ 4 = μ 7) (hn : σ 25 0 = μ 17 0) (h0 : 0 ≤ σ 25 0) (hp : ∀ i, 0 ≤ i → i < σ 25 0 → σ 20 i = μ 18 i) (hs : SoOk σ) (k : Int) : plc μ k = nthR σ 23 (σ 25 0) k := by
  have ePL : fL (μ 18) (μ 17 0).toNat = fL (σ 20) (σ 25 0).toNat := by rw [← hn]; exact fL_cg (fun i a b => (hp i a (by omega)).symm)
  -- the rank of the probe i
  have rank : ∀ i, 0 ≤ i → i < σ 25 0 → ∃ m : Int, 0 ≤ m ∧ m < σ 25 0 ∧ μ 18 i = σ 23 m ∧ ahd μ i = m := by
    intro i a b
    have hm : μ 18 i ∈ fL (σ 23) (σ 25 0).toNat := by
      rw [hs.1.mem_iff]
      exact fL_mem.mpr ⟨i, a, by omega, (hp i a b).symm⟩
    obtain ⟨m, m0, m1, em⟩ := fL_mem.mp hm
    refine ⟨m, m0, by omega, em, ?_⟩
    rw [ahd_cnt, ePL, ← hs.1.countP_eq]
    have e : (fun y => decide (mAh μ y (μ 18 i))) = (fun y => decide (befP σ y (μ 18 i))) := by
      funext y; exact decide_eq_decide.mpr (mAh_bef h3 h4 y _)
    rw [e]
    have := rank_of (r := befP σ) (fun a => befP_irr σ a) (fun a b => befP_asym) (fL (σ 23) (σ 25 0).toNat) m.toNat (μ 18 i) hs.2 (by rw [fL_at (by omega), Int.toNat_of_nonneg m0, em])
    rw [this]; omega
  -- the places are apart
  have inj : ∀ m m', 0 ≤ m → m < m' → m' < σ 25 0 → ¬ σ 23 m = σ 23 m' := by
    intro m m' a b c e
    have h1 := List.pairwise_iff_getElem.mp hs.2 m.toNat m'.toNat (by rw [fL_len]; omega) (by rw [fL_len]; omega) (by omega)
    have g1 : (fL (σ 23) (σ 25 0).toNat)[m.toNat]'(by rw [fL_len]; omega) = σ 23 m := by
      have := fL_at (f := σ 23) (n := (σ 25 0).toNat) (k := m.toNat) (by omega)
      rw [List.getElem?_eq_getElem (by rw [fL_len]; omega)] at this
      rw [Option.some.inj this, Int.toNat_of_nonneg a]
    have g2 : (fL (σ 23) (σ 25 0).toNat)[m'.toNat]'(by rw [fL_len]; omega) = σ 23 m' := by
      have := fL_at (f := σ 23) (n := (σ 25 0).toNat) (k := m'.toNat) (by omega)
      rw [List.getElem?_eq_getElem (by rw [fL_len]; omega)] at this
      rw [Option.some.inj this, Int.toNat_of_nonneg (by omega)]
    rw [g1, g2, e] at h1
    exact befP_irr σ _ h1
  unfold plc
  by_cases hk : 0 ≤ k ∧ k < σ 25 0
  · rw [show nthR σ 23 (σ 25 0) k = σ 23 k from if_pos hk]
    refine plF_sp _ 0 (fun j a b c => ?_) ?_
    · obtain ⟨m, m0, m1, em, er⟩ := rank j a (by omega)
      rw [em]; congr 1; omega
    · have hm : σ 23 k ∈ fL (σ 20) (σ 25 0).toNat := hs.1.mem_iff.mp (fL_mem.mpr ⟨k, hk.1, by omega, rfl⟩)
      obtain ⟨i, i0, i1, ei⟩ := fL_mem.mp hm
      obtain ⟨m, m0, m1, em, er⟩ := rank i i0 (by omega)
      have e5 : σ 23 k = σ 23 m := by rw [ei, hp i i0 (by omega), em]
      refine ⟨i, i0, by omega, ?_⟩
      rw [er]
      rcases (show m < k ∨ m = k ∨ k < m by omega) with z | z | z
      · exact absurd e5.symm (inj m k m0 z hk.2)
      · exact z
      · exact absurd e5 (inj k m hk.1 z m1)
  · rw [show nthR σ 23 (σ 25 0) k = -1 from if_neg hk]
    refine plF_no _ 0 (fun j a b c => ?_)
    obtain ⟨m, m0, m1, em, er⟩ := rank j a (by omega)
    omega
theorem SoOk.in {σ : St} (hs : SoOk σ) {k : Int} (hk : 0 ≤ k ∧ k < σ 25 0) : ∃ i, 0 ≤ i ∧ i < σ 25 0 ∧ σ 23 k = σ 20 i := by
  obtain ⟨i, a, b, c⟩ := fL_mem.mp (hs.1.mem_iff.mp (fL_mem.mpr ⟨k, hk.1, by omega, rfl⟩))
  exact ⟨i, a, by omega, c⟩
theorem SoOk.of {σ τ : St} (hs : SoOk σ) (h20 : τ 20 = σ 20) (h23 : τ 23 = σ 23) (h25 : τ 25 = σ 25) (hx : ∀ i, 0 ≤ i → i < σ 25 0 → τ 3 (σ 20 i) = σ 3 (σ 20 i) ∧ τ 4 (σ 20 i) = σ 4 (σ 20 i)) : SoOk τ := by
  unfold SoOk
  rw [h20, h23, h25]
  refine ⟨hs.1, ?_⟩
  refine List.Pairwise.imp_of_mem ?_ hs.2
  intro a b ha hb h
  obtain ⟨i, i0, i1, ei⟩ := fL_mem.mp (hs.1.mem_iff.mp ha)
  obtain ⟨j, j0, j1, ej⟩ := fL_mem.mp (hs.1.mem_iff.mp hb)
  have hi := hx i i0 (by omega)
  have hj := hx j j0 (by omega)
  rw [← ei] at hi
  rw [← ej] at hj
  exact (befP_cg hi.1 hj.1 hi.2 hj.2).mpr h
