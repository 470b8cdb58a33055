/-! run: the reference takes the first of the best choices -/
def vF (d : Int → Int) : Nat → Int
  | 0 => 0
  | k + 1 => vF d k * 4 + d k
theorem vF_s (d : Int → Int) (k : Nat) : vF d (k + 1) = vF d k * 4 + d k := rfl
theorem vD_vF (μ : St) : ∀ n, vD μ n = vF (μ 14) n
  | 0 => rfl
  | n + 1 => by
    show vD μ n * 4 + μ 14 n = _
    rw [vD_vF μ n]; rfl
abbrev Dig (d : Int → Int) : Prop := ∀ k, 0 ≤ d k ∧ d k ≤ 3
theorem vF_inj {a b : Int → Int} (ha : Dig a) (hb : Dig b) : ∀ n : Nat, vF a n = vF b n → ∀ k, 0 ≤ k → k < (n : Int) → a k = b k
  | 0, _, k, h0, h1 => by omega
  | n + 1, h, k, h0, h1 => by
    rw [vF_s, vF_s] at h
    have x := ha n
    have y := hb n
    by_cases e : k = n
    · rw [e]; omega
    · exact vF_inj ha hb n (by omega) k h0 (by omega)
theorem vF_lt {a b : Int → Int} (ha : Dig a) (hb : Dig b) {i : Int} (hi : 0 ≤ i) (hl : ∀ j, 0 ≤ j → j < i → a j = b j) (hab : a i < b i) : ∀ n : Nat, i < (n : Int) → vF a n < vF b n
  | 0, h => by omega
  | n + 1, h => by
    rw [vF_s, vF_s]
    have x := ha n
    have y := hb n
    by_cases e : i = n
    · have : vF a n = vF b n := by
        have : ∀ m : Nat, (m : Int) ≤ i → vF a m = vF b m := by
          intro m
          induction m with
          | zero => intro _; rfl
          | succ m ih => intro hm; rw [vF_s, vF_s, ih (by omega), hl m (by omega) (by omega)]
        exact this n (by omega)
      rw [e] at hab
      omega
    · have := vF_lt ha hb hi hl hab n (by omega)
      omega
theorem vF_bd {a : Int → Int} (ha : Dig a) : ∀ n : Nat, 0 ≤ vF a n ∧ vF a n + 1 ≤ 4 ^ n
  | 0 => by unfold vF; decide
  | n + 1 => by
    have x := vF_bd ha n
    have y := ha n
    rw [vF_s, Int.pow_succ]
    omega
/-- how many, with what force -/
def cV (μ : St) (d : Int → Int) : Nat → Int × Int
  | 0 => (0, 0)
  | k + 1 => ((cV μ d k).1 + (if d k < 3 then 1 else 0), (cV μ d k).2 + (if d k < 3 then μ 9 (mPA μ k (d k)) else 0))
theorem cV_s (μ : St) (d : Int → Int) (k : Nat) : cV μ d (k + 1) = ((cV μ d k).1 + (if d k < 3 then 1 else 0), (cV μ d k).2 + (if d k < 3 then μ 9 (mPA μ k (d k)) else 0)) := rfl
def Vr (μ : St) (d : Int → Int) : Prop := (∀ k, 0 ≤ k → k < μ 12 0 → d k < 3 → d k < μ 3 (μ 13 k)) ∧ ∀ k j, 0 ≤ j → j < k → k < μ 12 0 → d k < 3 → d j < 3 → mAp μ (mPA μ k (d k)) (mPA μ j (d j))
/-- the same but for digits and best digits -/
def Sd (μ ν : St) : Prop := ∀ g, g ≠ 14 → g ≠ 15 → ν g = μ g
theorem mPA_cg {μ ν : St} (h : Sd μ ν) (k d : Int) : mPA ν k d = mPA μ k d := by unfold mPA; rw [h 4 (by decide) (by decide), h 13 (by decide) (by decide)]
theorem mAp_cg {μ ν : St} (h : Sd μ ν) (a b : Int) : mAp ν a b ↔ mAp μ a b := by
  show (ν 10 0 + ν 8 a + ν 8 b) * (ν 10 0 + ν 8 a + ν 8 b) ≤ mSq ν a b ↔ (μ 10 0 + μ 8 a + μ 8 b) * (μ 10 0 + μ 8 a + μ 8 b) ≤ mSq μ a b
  unfold mSq
  rw [h 10 (by decide) (by decide), h 8 (by decide) (by decide), h 6 (by decide) (by decide), h 7 (by decide) (by decide)]
theorem cF_cV {μ ν : St} (h : Sd μ ν) : ∀ n, cF ν n = cV μ (ν 14) n
  | 0 => rfl
  | n + 1 => by
    show ((cF ν n).1 + (if ν 14 n < 3 then 1 else 0), (cF ν n).2 + (if ν 14 n < 3 then ν 9 (mPA ν n (ν 14 n)) else 0)) = _
    rw [cF_cV h n, cV_s, mPA_cg h, h 9 (by decide) (by decide)]
theorem cV_cg (μ : St) {a b : Int → Int} : ∀ n : Nat, (∀ k, 0 ≤ k → k < (n : Int) → a k = b k) → cV μ a n = cV μ b n
  | 0, _ => rfl
  | n + 1, h => by rw [cV_s, cV_s, cV_cg μ n (fun k x y => h k x (by omega)), h n (by omega) (by omega)]
theorem Vr_cg {μ : St} {a b : Int → Int} (h : ∀ k, 0 ≤ k → k < μ 12 0 → a k = b k) (hv : Vr μ a) : Vr μ b := by
  refine ⟨fun k k0 k1 k2 => ?_, fun k j j0 j1 k1 k2 k3 => ?_⟩
  · rw [← h k k0 k1] at k2 ⊢; exact hv.1 k k0 k1 k2
  · rw [← h k (by omega) k1] at k2 ⊢
    rw [← h j j0 (by omega)] at k3 ⊢
    exact hv.2 k j j0 j1 k1 k2 k3
theorem okF_iff (ν : St) : ∀ (f : Nat) (k : Int), okF ν f k = true ↔ ∀ i, k ≤ i → i < k + f → ¬ (ν 14 i < 3 ∧ ν 3 (ν 13 i) ≤ ν 14 i)
  | 0, k => ⟨fun _ i a b => by omega, fun _ => rfl⟩
  | f + 1, k => by
    rw [okF_s]
    by_cases q : ν 14 k < 3 ∧ ν 3 (ν 13 k) ≤ ν 14 k
    · rw [if_pos q]
      exact ⟨fun h => (by cases h), fun h => absurd q (h k (by omega) (by omega))⟩
    · rw [if_neg q, okF_iff ν f (k + 1)]
      constructor
      · intro h i a b
        by_cases e : i = k
        · rw [e]; exact q
        · exact h i (by omega) (by omega)
      · intro h i a b
        exact h i (by omega) (by omega)
theorem apI_iff (ν : St) (k : Int) : ∀ (f : Nat) (j : Int), apI ν k f j = true ↔ ∀ i, j ≤ i → i < j + f → ¬ (ν 14 k < 3 ∧ ν 14 i < 3 ∧ ¬ mAp ν (mPA ν k (ν 14 k)) (mPA ν i (ν 14 i)))
  | 0, j => ⟨fun _ i a b => by omega, fun _ => rfl⟩
  | f + 1, j => by
    rw [apI_s]
    by_cases q : ν 14 k < 3 ∧ ν 14 j < 3 ∧ ¬ mAp ν (mPA ν k (ν 14 k)) (mPA ν j (ν 14 j))
    · rw [if_pos q]
      exact ⟨fun h => (by cases h), fun h => absurd q (h j (by omega) (by omega))⟩
    · rw [if_neg q, apI_iff ν k f (j + 1)]
      constructor
      · intro h i a b
        by_cases e : i = j
        · rw [e]; exact q
        · exact h i (by omega) (by omega)
      · intro h i a b
        exact h i (by omega) (by omega)
theorem apO_iff (ν : St) : ∀ (f : Nat) (k : Int), apO ν f k = true ↔ ∀ i, k ≤ i → i < k + f → apI ν i i.toNat 0 = true
  | 0, k => ⟨fun _ i a b => by omega, fun _ => rfl⟩
  | f + 1, k => by
    rw [apO_s]
    by_cases q : apI ν k k.toNat 0 = true
    · rw [if_pos q, apO_iff ν f (k + 1)]
      constructor
      · intro h i a b
        by_cases e : i = k
        · rw [e]; exact q
        · exact h i (by omega) (by omega)
      · intro h i a b
        exact h i (by omega) (by omega)
    · rw [if_neg q]
      exact ⟨fun h => (by cases h), fun h => absurd (h k (by omega) (by omega)) q⟩
theorem isCh_iff {μ ν : St} (h : Sd μ ν) (hK : 0 ≤ μ 12 0) : isCh ν ↔ Vr μ (ν 14) := by
  have e12 : ν 12 = μ 12 := h 12 (by decide) (by decide)
  show (okF ν (ν 12 0).toNat 0 = true ∧ apO ν (ν 12 0).toNat 0 = true) ↔ _
  rw [okF_iff, apO_iff, e12]
  constructor
  · rintro ⟨h1, h2⟩
    refine ⟨fun k k0 k1 k2 => ?_, fun k j j0 j1 k1 k2 k3 => ?_⟩
    · have := h1 k k0 (by omega)
      rw [h 3 (by decide) (by decide), h 13 (by decide) (by decide)] at this
      omega
    · have := (apI_iff ν k k.toNat 0).mp (h2 k (by omega) (by omega)) j j0 (by omega)
      by_cases z : mAp μ (mPA μ k (ν 14 k)) (mPA μ j (ν 14 j))
      · exact z
      · exfalso
        refine this ⟨k2, k3, fun w => z ?_⟩
        rw [mPA_cg h, mPA_cg h] at w
        exact (mAp_cg h _ _).mp w
  · rintro ⟨h1, h2⟩
    refine ⟨fun k k0 k1 => ?_, fun k k0 k1 => ?_⟩
    · rw [h 3 (by decide) (by decide), h 13 (by decide) (by decide)]
      rintro ⟨z1, z2⟩
      have := h1 k k0 (by omega) z1
      omega
    · refine (apI_iff ν k k.toNat 0).mpr (fun j j0 j1 => ?_)
      rintro ⟨z1, z2, z3⟩
      refine z3 ?_
      rw [mPA_cg h, mPA_cg h]
      exact (mAp_cg h _ _).mpr (h2 k j j0 (by omega) (by omega) z1 z2)
def bt (a b : Int × Int) : Prop := b.1 < a.1 ∨ (a.1 = b.1 ∧ a.2 < b.2)
/-- among the choices below the number v, what is kept is the first of the best -/
def Kp (μ : St) (v : Int) (t : St × Int × Int) : Prop := Sd μ t.1 ∧ Dig (t.1 14) ∧ Dig (t.1 15) ∧ (∀ d, Dig d → Vr μ d → vF d (μ 12 0).toNat < v → ¬ bt (cV μ d (μ 12 0).toNat) t.2 ∧ (cV μ d (μ 12 0).toNat = t.2 → vF (t.1 15) (μ 12 0).toNat ≤ vF d (μ 12 0).toNat)) ∧ (t.2 = (-1, 0) ∨ (Vr μ (t.1 15) ∧ cV μ (t.1 15) (μ 12 0).toNat = t.2 ∧ vF (t.1 15) (μ 12 0).toNat < v))
theorem cpS_Dig {σ : St} {f t : Nat} {n : Int} (h1 : Dig (σ f)) (h2 : Dig (σ t)) : Dig (cpS σ f t n t) := fun k => by
  unfold cpS; split
  · exact h1 k
  · exact h2 k
theorem kp_step {μ : St} (hK : 0 ≤ μ 12 0) {v : Int} {t : St × Int × Int} (h : Kp μ v t) (hv : vF (t.1 14) (μ 12 0).toNat = v) : Kp μ (v + 1) (cmS t) ∧ (cmS t).1 14 = t.1 14 := by
  obtain ⟨h1, h2, h3, h4, h5⟩ := h
  have e12 : t.1 12 = μ 12 := h1 12 (by decide) (by decide)
  have ecF := cF_cV h1 (μ 12 0).toNat
  have eCh := isCh_iff h1 hK
  unfold cmS
  by_cases q : cmB t
  · rw [if_pos q]
    obtain ⟨q1, q2⟩ := q
    rw [e12, ecF] at q2 ⊢
    have q1 := eCh.mp q1
    have e15 : ∀ k, 0 ≤ k → k < μ 12 0 → cpS t.1 14 15 (μ 12 0) 15 k = t.1 14 k := fun k a b => cpS_i _ _ _ _ a b
    have hbt : bt (cV μ (t.1 14) (μ 12 0).toNat) t.2 := q2
    have evb : vF (cpS t.1 14 15 (μ 12 0) 15) (μ 12 0).toNat = vF (t.1 14) (μ 12 0).toNat := by
      have : ∀ m : Nat, (m : Int) ≤ μ 12 0 → vF (cpS t.1 14 15 (μ 12 0) 15) m = vF (t.1 14) m := by
        intro m
        induction m with
        | zero => intro _; rfl
        | succ m ih => intro hm; rw [vF_s, vF_s, ih (by omega), e15 m (by omega) (by omega)]
      exact this _ (by omega)
    refine ⟨⟨fun g a b => ?_, ?_, ?_, fun d hd hvd hlt => ?_, Or.inr ⟨?_, ?_, ?_⟩⟩, ?_⟩
    · show cpS t.1 14 15 (μ 12 0) g = μ g
      rw [cpS_o _ _ _ _ b]; exact h1 g a b
    · show Dig (cpS t.1 14 15 (μ 12 0) 14)
      rw [cpS_o _ _ _ _ (by decide)]; exact h2
    · exact cpS_Dig h2 h3
    · show ¬ bt (cV μ d (μ 12 0).toNat) (cV μ (t.1 14) (μ 12 0).toNat) ∧ (cV μ d (μ 12 0).toNat = cV μ (t.1 14) (μ 12 0).toNat → vF (cpS t.1 14 15 (μ 12 0) 15) (μ 12 0).toNat ≤ vF d (μ 12 0).toNat)
      rw [evb]
      by_cases e : vF d (μ 12 0).toNat = v
      · have hdk := vF_inj hd h2 (μ 12 0).toNat (e.trans hv.symm)
        have ec := cV_cg μ (μ 12 0).toNat hdk
        rw [ec]
        exact ⟨fun z => by rcases z with z | z <;> omega, fun _ => by omega⟩
      · have h4' := h4 d hd hvd (by omega)
        refine ⟨fun z => h4'.1 ?_, fun z => absurd (show bt (cV μ d (μ 12 0).toNat) t.2 by rw [z]; exact hbt) h4'.1⟩
        generalize cV μ d (μ 12 0).toNat = A at z ⊢
        generalize cV μ (t.1 14) (μ 12 0).toNat = B at z hbt
        unfold bt at *
        omega
    · exact Vr_cg (fun k a b => (e15 k a b).symm) q1
    · show cV μ (cpS t.1 14 15 (μ 12 0) 15) (μ 12 0).toNat = cV μ (t.1 14) (μ 12 0).toNat
      exact cV_cg μ _ (fun k a b => e15 k a (by omega))
    · show vF (cpS t.1 14 15 (μ 12 0) 15) (μ 12 0).toNat < v + 1
      omega
    · show cpS t.1 14 15 (μ 12 0) 14 = t.1 14
      exact cpS_o _ _ _ _ (by decide)
  · rw [if_neg q]
    refine ⟨⟨h1, h2, h3, fun d hd hvd hlt => ?_, ?_⟩, rfl⟩
    · by_cases e : vF d (μ 12 0).toNat = v
      · have hdk := vF_inj hd h2 (μ 12 0).toNat (e.trans hv.symm)
        have ec := cV_cg μ (μ 12 0).toNat hdk
        have hvc : Vr μ (t.1 14) := Vr_cg (fun k a b => hdk k a (by omega)) hvd
        have nb : ¬ bt (cV μ (t.1 14) (μ 12 0).toNat) t.2 := fun z => q ⟨eCh.mpr hvc, by rw [e12, ecF]; exact z⟩
        rw [ec]
        refine ⟨nb, fun z => ?_⟩
        rcases h5 with z5 | ⟨-, -, z5⟩
        · exfalso
          rw [z5] at z
          have hc : 0 ≤ (cV μ (t.1 14) (μ 12 0).toNat).1 := by
            have : ∀ m : Nat, 0 ≤ (cV μ (t.1 14) m).1 := by
              intro m
              induction m with
              | zero => unfold cV; decide
              | succ m ih => rw [cV_s]; show 0 ≤ (cV μ (t.1 14) m).1 + _; split <;> omega
            exact this _
          rw [z] at hc
          exact absurd hc (by decide)
        · omega
      · exact h4 d hd hvd (by omega)
    · rcases h5 with z5 | ⟨z1, z2, z3⟩
      · exact Or.inl z5
      · exact Or.inr ⟨z1, z2, by omega⟩
theorem cm_run {μ : St} (hK : 0 ≤ μ 12 0) : ∀ (f : Nat) (t : St × Int × Int), Kp μ (vF (t.1 14) (μ 12 0).toNat) t → vF (t.1 14) (μ 12 0).toNat + f = 4 ^ (μ 12 0).toNat → Kp μ (4 ^ (μ 12 0).toNat) (cmL f t)
  | 0, t, h, hf => by
    have := vF_bd h.2.1 (μ 12 0).toNat
    exfalso; omega
  | f + 1, t, h, hf => by
    obtain ⟨k1, k2⟩ := kp_step hK h rfl
    have e12 : t.1 12 = μ 12 := h.1 12 (by decide) (by decide)
    rw [cmL_s, e12]
    have hdg : Dg (cmS t).1 := k1.2.1
    have g := goF_v (μ 12 0).toNat (cmS t).1 hdg
    rw [vD_vF (cmS t).1, k2, vD_vF] at g
    have go : ∀ x, x ≠ 14 → (goF (μ 12 0).toNat (cmS t).1).1 x = (cmS t).1 x := fun x hx => goF_o _ _ _ hx
    have kpn : ∀ v, Kp μ v (cmS t) → Kp μ v ((goF (μ 12 0).toNat (cmS t).1).1, (cmS t).2) := by
      intro v hv
      obtain ⟨a1, a2, a3, a4, a5⟩ := hv
      refine ⟨fun x x1 x2 => (go x x1).trans (a1 x x1 x2), goF_dg _ _ hdg, ?_, ?_, ?_⟩
      · show Dig ((goF (μ 12 0).toNat (cmS t).1).1 15)
        rw [go 15 (by decide)]; exact a3
      · show ∀ d, Dig d → Vr μ d → vF d (μ 12 0).toNat < v → ¬ bt (cV μ d (μ 12 0).toNat) (cmS t).2 ∧ (cV μ d (μ 12 0).toNat = (cmS t).2 → vF ((goF (μ 12 0).toNat (cmS t).1).1 15) (μ 12 0).toNat ≤ vF d (μ 12 0).toNat)
        rw [go 15 (by decide)]; exact a4
      · show (cmS t).2 = (-1, 0) ∨ (Vr μ ((goF (μ 12 0).toNat (cmS t).1).1 15) ∧ cV μ ((goF (μ 12 0).toNat (cmS t).1).1 15) (μ 12 0).toNat = (cmS t).2 ∧ vF ((goF (μ 12 0).toNat (cmS t).1).1 15) (μ 12 0).toNat < v)
        rw [go 15 (by decide)]; exact a5
    by_cases q : (goF (μ 12 0).toNat (cmS t).1).2 = true
    · rw [if_pos q]
      have gv := g.1 q
      refine cm_run hK f _ ?_ ?_
      · show Kp μ (vF ((goF (μ 12 0).toNat (cmS t).1).1 14) (μ 12 0).toNat) _
        rw [gv]; exact kpn _ k1
      · show vF ((goF (μ 12 0).toNat (cmS t).1).1 14) (μ 12 0).toNat + (f : Int) = _
        rw [gv]; omega
    · rw [if_neg q]
      have gv := g.2 (by cases hh : (goF (μ 12 0).toNat (cmS t).1).2 with | false => rfl | true => exact absurd hh q)
      rw [← gv]
      exact kpn _ k1
/-- what the reference's choice says of all choices -/
theorem cm_best {μ : St} (hK : 0 ≤ μ 12 0 ∧ μ 12 0 ≤ 8) (hD : Dig (μ 14)) (h15 : Dig (μ 15)) : Sd μ (cmT μ).1 ∧ Dig ((cmT μ).1 14) ∧ Dig ((cmT μ).1 15) ∧ Vr μ ((cmT μ).1 15) ∧ ∀ d, Dig d → Vr μ d → ¬ bt (cV μ d (μ 12 0).toNat) (cV μ ((cmT μ).1 15) (μ 12 0).toNat) ∧ (cV μ d (μ 12 0).toNat = cV μ ((cmT μ).1 15) (μ 12 0).toNat → vF ((cmT μ).1 15) (μ 12 0).toNat ≤ vF d (μ 12 0).toNat) := by
  have z14 : ∀ k, 0 ≤ k → k < μ 12 0 → fillA μ 14 (μ 12 0) 0 14 k = 0 := fun k a b => by unfold fillA; rw [if_pos ⟨rfl, a, b⟩]
  have hv0 : vF (fillA μ 14 (μ 12 0) 0 14) (μ 12 0).toNat = 0 := by
    have : ∀ m : Nat, (m : Int) ≤ μ 12 0 → vF (fillA μ 14 (μ 12 0) 0 14) m = 0 := by
      intro m
      induction m with
      | zero => intro _; rfl
      | succ m ih => intro hm; rw [vF_s, ih (by omega), z14 m (by omega) (by omega)]; rfl
    exact this _ (by omega)
  have h0 : Kp μ 0 (fillA μ 14 (μ 12 0) 0, -1, 0) := by
    refine ⟨fun g a b => fillA_o _ _ _ _ a, ?_, ?_, fun d hd hvd hlt => ?_, Or.inl rfl⟩
    · intro k
      show 0 ≤ fillA μ 14 (μ 12 0) 0 14 k ∧ fillA μ 14 (μ 12 0) 0 14 k ≤ 3
      unfold fillA
      split
      · decide
      · exact hD k
    · show Dig (fillA μ 14 (μ 12 0) 0 15)
      rw [fillA_o _ _ _ _ (by decide)]; exact h15
    · have := vF_bd hd (μ 12 0).toNat
      exfalso; omega
  have hrun := cm_run hK.1 (4 ^ (μ 12 0).toNat) (fillA μ 14 (μ 12 0) 0, -1, 0) (by rw [hv0]; exact h0) (by rw [hv0]; push_cast; omega)
  unfold cmT
  generalize cmL (4 ^ (μ 12 0).toNat) (fillA μ 14 (μ 12 0) 0, -1, 0) = t at hrun ⊢
  obtain ⟨a1, a2, a3, a4, a5⟩ := hrun
  have alld : ∀ d, Dig d → vF d (μ 12 0).toNat < 4 ^ (μ 12 0).toNat := fun d hd => by have := vF_bd hd (μ 12 0).toNat; omega
  have h3 : Vr μ (fun _ => 3) := ⟨fun k _ _ z => absurd (show (3 : Int) < 3 from z) (by decide), fun k j _ _ _ z => absurd (show (3 : Int) < 3 from z) (by decide)⟩
  have d3 : Dig (fun _ => 3) := fun _ => (show (0 : Int) ≤ 3 ∧ (3 : Int) ≤ 3 by decide)
  rcases a5 with z | ⟨z1, z2, z3⟩
  · exfalso
    refine (a4 _ d3 h3 (alld _ d3)).1 ?_
    rw [z]
    left
    show (-1 : Int) < (cV μ (fun _ => 3) (μ 12 0).toNat).1
    have : ∀ m : Nat, 0 ≤ (cV μ (fun _ => 3) m).1 := by
      intro m
      induction m with
      | zero => unfold cV; decide
      | succ m ih => rw [cV_s]; show 0 ≤ (cV μ (fun _ => 3) m).1 + _; split <;> omega
    have := this (μ 12 0).toNat
    omega
  · refine ⟨a1, a2, a3, z1, fun d hd hvd => ?_⟩
    rw [z2]
    exact a4 d hd hvd (alld d hd)
