/-! run: the class's descent comes to the first of the best choices -/
/-- the same but for what a descent changes -/
def S2 (τ ρ : St) : Prop := ∀ g, g ≠ 15 → g ≠ 16 → g ≠ 18 → ρ g = τ g
theorem bsF_cg {τ ρ : St} (h : ρ 13 = τ 13) (bl : Int) : ∀ (f : Nat) (t fd : Int), bsF ρ bl f t fd = bsF τ bl f t fd
  | 0, t, fd => rfl
  | f + 1, t, fd => by rw [bsF_s, bsF_s, h, bsF_cg h bl f]
theorem bs_cg {τ ρ : St} (h : S2 τ ρ) (i bl : Int) : bs ρ i bl = bs τ i bl := by
  unfold bs; rw [h 11 (by decide) (by decide) (by decide), bsF_cg (h 13 (by decide) (by decide) (by decide))]
theorem mwF_cg {τ ρ : St} (h : S2 τ ρ) (bl : Int) : ∀ (f : Nat) (k t : Int), mwF ρ bl f k t = mwF τ bl f k t
  | 0, k, t => rfl
  | f + 1, k, t => by rw [mwF_s, mwF_s, bs_cg h, h 13 (by decide) (by decide) (by decide), mwF_cg h bl f]
theorem mw_cg {τ ρ : St} (h : S2 τ ρ) (d bl : Int) : mw ρ d bl = mw τ d bl := by unfold mw; rw [h 17 (by decide) (by decide) (by decide), mwF_cg h]
theorem bsF_sp (τ : St) (bl : Int) : ∀ (f : Nat) (t fd : Int), 0 ≤ t → (fd = -1 ∨ (0 ≤ fd ∧ fd < t)) → ((¬ fd = -1) → ¬ bsF τ bl f t fd = -1 ∧ τ 13 fd ≤ τ 13 (bsF τ bl f t fd)) ∧ (∀ u, t ≤ u → u < t + f → ¬ zB bl u → ¬ bsF τ bl f t fd = -1 ∧ τ 13 u ≤ τ 13 (bsF τ bl f t fd)) ∧ (bsF τ bl f t fd = fd ∨ (t ≤ bsF τ bl f t fd ∧ bsF τ bl f t fd < t + f ∧ ¬ zB bl (bsF τ bl f t fd)))
  | 0, t, fd, h0, h1 => ⟨fun z => ⟨z, Int.le_refl _⟩, fun u a b => by omega, Or.inl rfl⟩
  | f + 1, t, fd, h0, h1 => by
    rw [bsF_s]
    by_cases q : ¬ zB bl t ∧ (fd = -1 ∨ τ 13 fd < τ 13 t)
    · rw [if_pos q]
      obtain ⟨a1, a2, a3⟩ := bsF_sp τ bl f (t + 1) t (by omega) (Or.inr ⟨h0, by omega⟩)
      have a1 := a1 (by omega)
      refine ⟨fun z => ⟨a1.1, ?_⟩, fun u u0 u1 uz => ?_, ?_⟩
      · rcases q.2 with w | w
        · exact absurd w z
        · omega
      · by_cases e : u = t
        · rw [e]; exact a1
        · exact a2 u (by omega) (by omega) uz
      · rcases a3 with w | w
        · rw [w]; exact Or.inr ⟨by omega, by omega, q.1⟩
        · exact Or.inr ⟨by omega, by omega, w.2.2⟩
    · rw [if_neg q]
      obtain ⟨a1, a2, a3⟩ := bsF_sp τ bl f (t + 1) fd (by omega) (by omega)
      refine ⟨a1, fun u u0 u1 uz => ?_, ?_⟩
      · by_cases e : u = t
        · rw [e]
          rw [e] at uz
          have hf : ¬ fd = -1 := fun w => q ⟨uz, Or.inl w⟩
          have := a1 hf
          refine ⟨this.1, ?_⟩
          have : ¬ τ 13 fd < τ 13 t := fun w => q ⟨uz, Or.inr w⟩
          omega
        · exact a2 u (by omega) (by omega) uz
      · rcases a3 with w | w
        · exact Or.inl w
        · exact Or.inr ⟨by omega, by omega, w.2.2⟩
/-- valid up to the depth d -/
def Vc (τ : St) (D : Int → Int) (d : Int) : Prop := (∀ k, 0 ≤ k → k < d → D k = 3 ∨ (0 ≤ D k ∧ D k < τ 11 k)) ∧ ∀ j k, 0 ≤ j → j < k → k < d → D j < 3 → D k < 3 → canB τ (τ 12 (j * 3 + D j)) (τ 12 (k * 3 + D k))
def wo (τ : St) (D : Int → Int) : Nat → Int
  | 0 => 0
  | k + 1 => wo τ D k + (if D k < 3 then τ 13 (k * 3 + D k) else 0)
theorem wo_s (τ : St) (D : Int → Int) (k : Nat) : wo τ D (k + 1) = wo τ D k + (if D k < 3 then τ 13 (k * 3 + D k) else 0) := rfl
theorem wo_cg {τ : St} {D E : Int → Int} : ∀ n : Nat, (∀ k, 0 ≤ k → k < (n : Int) → D k = E k) → wo τ D n = wo τ E n
  | 0, _ => rfl
  | n + 1, h => by rw [wo_s, wo_s, wo_cg n (fun k a b => h k a (by omega)), h n (by omega) (by omega)]
def Bk (τ : St) (D : Int → Int) (d bl : Int) : Prop := r24 bl ∧ ∀ k j, d ≤ k → k < τ 17 0 → 0 ≤ j → j < τ 11 k → (zB bl (k * 3 + j) ↔ ∃ i, 0 ≤ i ∧ i < d ∧ D i < 3 ∧ ¬ canB τ (τ 12 (i * 3 + D i)) (τ 12 (k * 3 + j)))
/-- what is known of the search's tables -/
def Env0 (τ : St) : Prop := (0 ≤ τ 17 0 ∧ τ 17 0 ≤ 8) ∧ (∀ i, 0 ≤ τ 11 i ∧ τ 11 i ≤ 3) ∧ (∀ i, 0 ≤ τ 13 i) ∧ (∀ x, r24 (τ 14 x)) ∧ ∀ k j, 0 ≤ k → k < τ 17 0 → 0 ≤ j → j < τ 11 k → ∀ v, 0 ≤ v → (zB (τ 14 (k * 3 + j)) v ↔ Cl τ (k * 3 + j) (k + 1) (τ 17 0) v)
def uD (D : Int → Int) (d j : Int) : Int → Int := fun k => if k = d then j else D k
theorem uD_s (D : Int → Int) (d j : Int) : uD D d j d = j := if_pos rfl
theorem uD_n (D : Int → Int) (d j : Int) {k : Int} (h : ¬ k = d) : uD D d j k = D k := if_neg h
theorem uD_Dig {D : Int → Int} (h : Dig D) {d j : Int} (hj : 0 ≤ j ∧ j ≤ 3) : Dig (uD D d j) := fun k => by
  unfold uD; split
  · exact hj
  · exact h k
theorem wo_uD {τ : St} (D : Int → Int) (d j : Int) (hd : 0 ≤ d) : wo τ (uD D d j) (d + 1).toNat = wo τ D d.toNat + (if j < 3 then τ 13 (d * 3 + j) else 0) := by
  rw [show (d + 1).toNat = d.toNat + 1 by omega, wo_s, Int.toNat_of_nonneg hd, uD_s, wo_cg (τ := τ) (E := D) d.toNat (fun k a b => uD_n _ _ _ (by omega))]
theorem bk_none {τ : St} {D : Int → Int} {d bl : Int} (h : Bk τ D d bl) : Bk τ (uD D d 3) (d + 1) bl := by
  refine ⟨h.1, fun k j k0 k1 j0 j1 => ?_⟩
  rw [h.2 k j (by omega) k1 j0 j1]
  constructor
  · rintro ⟨i, i0, i1, i2, i3⟩
    exact ⟨i, i0, by omega, by rw [uD_n _ _ _ (by omega)]; exact i2, by rw [uD_n _ _ _ (by omega)]; exact i3⟩
  · rintro ⟨i, i0, i1, i2, i3⟩
    by_cases e : i = d
    · rw [e, uD_s] at i2; exact absurd i2 (by decide)
    · rw [uD_n _ _ _ e] at i2 i3
      exact ⟨i, i0, by omega, i2, i3⟩
theorem bk_slot {τ : St} (hE : Env0 τ) {D : Int → Int} {d bl j : Int} (h : Bk τ D d bl) (hd : 0 ≤ d ∧ d < τ 17 0) (hj : 0 ≤ j ∧ j < τ 11 d) : Bk τ (uD D d j) (d + 1) (zOr bl (τ 14 (d * 3 + j))) := by
  have h3 := hE.2.1
  refine ⟨zOr24 h.1 (hE.2.2.2.1 _), fun k j2 k0 k1 j0 j1 => ?_⟩
  have bk := h3 k
  have bd := h3 d
  rw [zB_orr, h.2 k j2 (by omega) k1 j0 j1, hE.2.2.2.2 d j hd.1 hd.2 hj.1 hj.2 (k * 3 + j2) (by omega)]
  constructor
  · rintro (⟨i, i0, i1, i2, i3⟩ | ⟨k', a1, a2, a3, a4, a5⟩)
    · exact ⟨i, i0, by omega, by rw [uD_n _ _ _ (by omega)]; exact i2, by rw [uD_n _ _ _ (by omega)]; exact i3⟩
    · exact ⟨d, hd.1, by omega, by rw [uD_s]; omega, by rw [uD_s]; exact a5⟩
  · rintro ⟨i, i0, i1, i2, i3⟩
    by_cases e : i = d
    · rw [e, uD_s] at i3
      exact Or.inr ⟨k, k0, k1, by omega, by omega, i3⟩
    · rw [uD_n _ _ _ e] at i2 i3
      exact Or.inl ⟨i, i0, by omega, i2, i3⟩
theorem vc_none {τ : St} {D : Int → Int} {d : Int} (h : Vc τ D d) : Vc τ (uD D d 3) (d + 1) := by
  refine ⟨fun k k0 k1 => ?_, fun j k j0 j1 k1 z1 z2 => ?_⟩
  · by_cases e : k = d
    · rw [e, uD_s]; exact Or.inl rfl
    · rw [uD_n _ _ _ e]; exact h.1 k k0 (by omega)
  · by_cases e : k = d
    · rw [e, uD_s] at z2; exact absurd z2 (by decide)
    · rw [uD_n _ _ _ e] at z2 ⊢
      rw [uD_n _ _ _ (by omega)] at z1 ⊢
      exact h.2 j k j0 j1 (by omega) z1 z2
theorem vc_slot {τ : St} {D : Int → Int} {d bl j : Int} (h : Vc τ D d) (hb : Bk τ D d bl) (hd : 0 ≤ d ∧ d < τ 17 0) (hj : 0 ≤ j ∧ j < τ 11 d) (hf : ¬ zB bl (d * 3 + j)) : Vc τ (uD D d j) (d + 1) := by
  refine ⟨fun k k0 k1 => ?_, fun i k i0 i1 k1 z1 z2 => ?_⟩
  · by_cases e : k = d
    · rw [e, uD_s]; exact Or.inr hj
    · rw [uD_n _ _ _ e]; exact h.1 k k0 (by omega)
  · rw [uD_n D d j (show ¬ i = d by omega)] at z1 ⊢
    by_cases e : k = d
    · rw [e, uD_s]
      by_cases y : canB τ (τ 12 (i * 3 + D i)) (τ 12 (d * 3 + j))
      · exact y
      · exact absurd ((hb.2 d j (Int.le_refl _) hd.2 hj.1 hj.2).mpr ⟨i, i0, by omega, z1, y⟩) hf
    · rw [uD_n _ _ _ e] at z2 ⊢
      exact h.2 i k i0 i1 (by omega) z1 z2
/-- a slot of a valid choice isn't blocked -/
theorem vc_free {τ : St} {D E : Int → Int} {d bl k : Int} (hv : Vc τ E (τ 17 0)) (hb : Bk τ D d bl) (hag : ∀ i, 0 ≤ i → i < d → D i = E i) (hd : 0 ≤ d) (hk : d ≤ k ∧ k < τ 17 0) (h3 : E k < 3) : (0 ≤ E k ∧ E k < τ 11 k) ∧ ¬ zB bl (k * 3 + E k) := by
  have hs : 0 ≤ E k ∧ E k < τ 11 k := by
    rcases hv.1 k (by omega) hk.2 with z | z
    · omega
    · exact z
  refine ⟨hs, fun z => ?_⟩
  obtain ⟨i, i0, i1, i2, i3⟩ := (hb.2 k (E k) hk.1 hk.2 hs.1 hs.2).mp z
  rw [hag i i0 i1] at i2 i3
  exact i3 (hv.2 i k i0 (by omega) hk.2 i2 h3)
theorem mwF_up {τ : St} (hE : Env0 τ) {D E : Int → Int} {d bl : Int} (hv : Vc τ E (τ 17 0)) (hb : Bk τ D d bl) (hag : ∀ i, 0 ≤ i → i < d → D i = E i) (hd : 0 ≤ d) : ∀ (f : Nat) (k t : Int), d ≤ k → k + f = τ 17 0 → wo τ E (τ 17 0).toNat - wo τ E k.toNat ≤ mwF τ bl f k t - t
  | 0, k, t, h0, h1 => by
    show _ ≤ t - t
    rw [show (τ 17 0).toNat = k.toNat by omega]; omega
  | f + 1, k, t, h0, h1 => by
    rw [mwF_s]
    have ih := mwF_up hE hv hb hag hd f (k + 1)
    have ew : wo τ E (k + 1).toNat = wo τ E k.toNat + (if E k < 3 then τ 13 (k * 3 + E k) else 0) := by
      rw [show (k + 1).toNat = k.toNat + 1 by omega, wo_s, Int.toNat_of_nonneg (by omega)]
    have b11 := hE.2.1 k
    obtain ⟨a1, a2, a3⟩ := bsF_sp τ bl (τ 11 k).toNat (k * 3) (-1) (by omega) (Or.inl rfl)
    have hp := hE.2.2.1
    by_cases q : bs τ k bl = -1
    · rw [if_pos q]
      have i1 := ih t (by omega) (by omega)
      have : ¬ E k < 3 := fun z => by
        have w := vc_free hv hb hag hd ⟨h0, by omega⟩ z
        exact (a2 (k * 3 + E k) (by omega) (by omega) w.2).1 q
      rw [if_neg this] at ew
      omega
    · rw [if_neg q]
      have i1 := ih (t + τ 13 (bs τ k bl)) (by omega) (by omega)
      have b13 := hp (bs τ k bl)
      by_cases z : E k < 3
      · have w := vc_free hv hb hag hd ⟨h0, by omega⟩ z
        have w2 := (a2 (k * 3 + E k) (by omega) (by omega) w.2).2
        rw [if_pos z] at ew
        have : bs τ k bl = bsF τ bl (τ 11 k).toNat (k * 3) (-1) := rfl
        rw [← this] at w2
        omega
      · rw [if_neg z] at ew
        omega
theorem mw_up {τ : St} (hE : Env0 τ) {D E : Int → Int} {d bl : Int} (hv : Vc τ E (τ 17 0)) (hb : Bk τ D d bl) (hag : ∀ i, 0 ≤ i → i < d → D i = E i) (hd : 0 ≤ d ∧ d ≤ τ 17 0) : wo τ E (τ 17 0).toNat ≤ wo τ E d.toNat + mw τ d bl := by
  have := mwF_up hE hv hb hag hd.1 (τ 17 0 - d).toNat d 0 (Int.le_refl _) (by omega)
  unfold mw
  omega
/-- the plain choice is a choice -/
theorem wp_is {τ : St} (hE : Env0 τ) : ∀ (f : Nat) (i t bl : Int) (D : Int → Int), 0 ≤ i → i + f = τ 17 0 → Dig D → Vc τ D i → Bk τ D i bl → t = wo τ D i.toNat → ∃ E, Dig E ∧ Vc τ E (τ 17 0) ∧ wo τ E (τ 17 0).toNat = wpF τ f i t bl
  | 0, i, t, bl, D, h0, h1, hD, hv, hb, ht => ⟨D, hD, by rw [show τ 17 0 = i by omega]; exact hv, by rw [show (τ 17 0).toNat = i.toNat by omega]; exact ht.symm⟩
  | f + 1, i, t, bl, D, h0, h1, hD, hv, hb, ht => by
    rw [wpF_s]
    have b11 := hE.2.1 i
    obtain ⟨a1, a2, a3⟩ := bsF_sp τ bl (τ 11 i).toNat (i * 3) (-1) (by omega) (Or.inl rfl)
    by_cases q : bs τ i bl = -1
    · rw [if_pos q]
      refine wp_is hE f (i + 1) t bl (uD D i 3) (by omega) (by omega) (uD_Dig hD (by decide)) (vc_none hv) (bk_none hb) ?_
      rw [wo_uD D i 3 h0, if_neg (by decide), ht]; omega
    · rw [if_neg q]
      have e : bs τ i bl = bsF τ bl (τ 11 i).toNat (i * 3) (-1) := rfl
      rw [← e] at a3
      rcases a3 with z | z
      · exact absurd z q
      · generalize hj : bs τ i bl - i * 3 = j
        have ej : bs τ i bl = i * 3 + j := by omega
        rw [ej] at z ⊢
        have hj2 : 0 ≤ j ∧ j < τ 11 i := by omega
        refine wp_is hE f (i + 1) _ _ (uD D i j) (by omega) (by omega) (uD_Dig hD (by omega)) (vc_slot hv hb ⟨h0, by omega⟩ hj2 z.2.2) (bk_slot hE hb ⟨h0, by omega⟩ hj2) ?_
        rw [wo_uD D i j h0, if_pos (by omega), ht]
/-- where the descent stands -/
def Pth (τ : St) (D : Int → Int) (d w bl : Int) (ρ : St) : Prop := Dig D ∧ Vc τ D d ∧ w = wo τ D d.toNat ∧ Bk τ D d bl ∧ S2 τ ρ ∧ ∀ k, 0 ≤ k → k < d → ρ 15 k = if D k = 3 then -1 else τ 12 (k * 3 + D k)
theorem kp_o (ρ : St) (w : Int) (g : Nat) (h1 : g ≠ 16) (h2 : g ≠ 18) : kp ρ w g = ρ g := by unfold kp; rw [cpS_o _ _ _ _ h1, up_f _ _ _ h2]
theorem ds_keep : ∀ (f : Nat) (ρ : St) (d w bl : Int), (∀ g, g ≠ 15 → g ≠ 16 → g ≠ 18 → ds f ρ d w bl g = ρ g) ∧ ∀ k, k < d → ds f ρ d w bl 15 k = ρ 15 k
  | 0, ρ, d, w, bl => by
    unfold ds
    split
    · exact ⟨fun _ _ _ _ => rfl, fun _ _ => rfl⟩
    · exact ⟨fun g _ b c => kp_o ρ w g b c, fun k _ => by rw [kp_o ρ w 15 (by decide) (by decide)]⟩
  | f + 1, ρ, d, w, bl => by
    have inner : ∀ (n : Nat) (t : Int) (ρ : St), (∀ g, g ≠ 15 → g ≠ 16 → g ≠ 18 → dsL (ds f) d w bl n t ρ g = ρ g) ∧ ∀ k, k < d → dsL (ds f) d w bl n t ρ 15 k = ρ 15 k := by
      intro n
      induction n with
      | zero => intro t ρ; exact ⟨fun _ _ _ _ => rfl, fun _ _ => rfl⟩
      | succ n ih =>
        intro t ρ
        rw [dsL_s]
        obtain ⟨a1, a2⟩ := ih (t + 1) (if zB bl t then ρ else ds f (up ρ 15 d (ρ 12 t)) (d + 1) (w + ρ 13 t) (zOr bl (ρ 14 t)))
        refine ⟨fun g x y z => ?_, fun k hk => ?_⟩
        · rw [a1 g x y z]
          split
          · rfl
          · rw [(ds_keep f _ _ _ _).1 g x y z, up_f _ _ _ x]
        · rw [a2 k hk]
          split
          · rfl
          · rw [(ds_keep f _ _ _ _).2 k (by omega), up_n _ _ _ (by omega)]
    rw [ds_s]
    split
    · exact ⟨fun _ _ _ _ => rfl, fun _ _ => rfl⟩
    · obtain ⟨a1, a2⟩ := inner (ρ 11 d).toNat (d * 3) ρ
      refine ⟨fun g x y z => ?_, fun k hk => ?_⟩
      · rw [(ds_keep f _ _ _ _).1 g x y z, up_f _ _ _ x, a1 g x y z]
      · rw [(ds_keep f _ _ _ _).2 k (by omega), up_n _ _ _ (by omega), a2 k hk]
theorem pth_to {τ : St} {D : Int → Int} {d w bl : Int} {ρ ρ' : St} (h : Pth τ D d w bl ρ) (h1 : ∀ g, g ≠ 15 → g ≠ 16 → g ≠ 18 → ρ' g = ρ g) (h2 : ∀ k, k < d → ρ' 15 k = ρ 15 k) : Pth τ D d w bl ρ' := by
  obtain ⟨a1, a2, a3, a4, a5, a6⟩ := h
  exact ⟨a1, a2, a3, a4, fun g x y z => (h1 g x y z).trans (a5 g x y z), fun k k0 k1 => by rw [h2 k k1]; exact a6 k k0 k1⟩
theorem pth_none {τ : St} {D : Int → Int} {d w bl : Int} {ρ : St} (h : Pth τ D d w bl ρ) (hd : 0 ≤ d) : Pth τ (uD D d 3) (d + 1) w bl (up ρ 15 d (-1)) := by
  obtain ⟨a1, a2, a3, a4, a5, a6⟩ := h
  refine ⟨uD_Dig a1 (by decide), vc_none a2, ?_, bk_none a4, fun g x y z => by rw [up_f _ _ _ x]; exact a5 g x y z, fun k k0 k1 => ?_⟩
  · rw [wo_uD D d 3 hd, if_neg (by decide), a3]; omega
  · by_cases e : k = d
    · rw [e, up_s, uD_s, if_pos rfl]
    · rw [up_n _ _ _ e, uD_n _ _ _ e]; exact a6 k k0 (by omega)
theorem pth_slot {τ : St} (hE : Env0 τ) {D : Int → Int} {d w bl t : Int} {ρ : St} (h : Pth τ D d w bl ρ) (hd : 0 ≤ d ∧ d < τ 17 0) (ht : d * 3 ≤ t ∧ t < d * 3 + τ 11 d) (hf : ¬ zB bl t) : Pth τ (uD D d (t - d * 3)) (d + 1) (w + ρ 13 t) (zOr bl (ρ 14 t)) (up ρ 15 d (ρ 12 t)) := by
  obtain ⟨a1, a2, a3, a4, a5, a6⟩ := h
  have b := hE.2.1 d
  have e13 : ρ 13 = τ 13 := a5 13 (by decide) (by decide) (by decide)
  have e14 : ρ 14 = τ 14 := a5 14 (by decide) (by decide) (by decide)
  have e12 : ρ 12 = τ 12 := a5 12 (by decide) (by decide) (by decide)
  generalize hj : t - d * 3 = j
  have et : t = d * 3 + j := by omega
  rw [et] at hf ⊢
  rw [e13, e14, e12]
  have hj2 : 0 ≤ j ∧ j < τ 11 d := by omega
  refine ⟨uD_Dig a1 (by omega), vc_slot a2 a4 hd hj2 hf, ?_, bk_slot hE a4 hd hj2, fun g x y z => by rw [up_f _ _ _ x]; exact a5 g x y z, fun k k0 k1 => ?_⟩
  · rw [wo_uD D d j hd.1, if_pos (by omega), a3]
  · by_cases e : k = d
    · rw [e, up_s, uD_s, if_neg (by omega)]
    · rw [up_n _ _ _ e, uD_n _ _ _ e]; exact a6 k k0 (by omega)
/-- what stays over a descent: J of the state, for paths of the kind S -/
theorem dsL_J {τ : St} (hE : Env0 τ) {J : St → Prop} {S : (Int → Int) → Int → Prop} {f : Nat} {d w bl : Int} (hd : 0 ≤ d ∧ d + (f + 1 : Nat) = τ 17 0) {D : Int → Int} (hJ15 : ∀ ρ i v, J ρ → J (up ρ 15 i v))
    (ihd : ∀ (ρ : St) (w bl : Int) (E : Int → Int), Pth τ E (d + 1) w bl ρ → S E (d + 1) → J ρ → J (ds f ρ (d + 1) w bl)) : ∀ (n : Nat) (t : Int) (ρ : St), d * 3 ≤ t → t + n ≤ d * 3 + τ 11 d → (∀ j, t - d * 3 ≤ j → j < t - d * 3 + n → S (uD D d j) (d + 1)) → Pth τ D d w bl ρ → J ρ → J (dsL (ds f) d w bl n t ρ) ∧ Pth τ D d w bl (dsL (ds f) d w bl n t ρ)
  | 0, t, ρ, h0, h1, hS, hp, hJ => ⟨hJ, hp⟩
  | n + 1, t, ρ, h0, h1, hS, hp, hJ => by
    rw [dsL_s]
    by_cases q : zB bl t
    · rw [if_pos q]
      exact dsL_J hE hd hJ15 ihd n (t + 1) ρ (by omega) (by omega) (fun j a b => hS j (by omega) (by omega)) hp hJ
    · rw [if_neg q]
      have hp2 := pth_slot hE hp ⟨hd.1, by omega⟩ ⟨h0, by omega⟩ q
      have hJ2 := ihd _ _ _ _ hp2 (hS _ (Int.le_refl _) (by omega)) (hJ15 _ _ _ hJ)
      have kk := ds_keep f (up ρ 15 d (ρ 12 t)) (d + 1) (w + ρ 13 t) (zOr bl (ρ 14 t))
      have hp3 : Pth τ D d w bl (ds f (up ρ 15 d (ρ 12 t)) (d + 1) (w + ρ 13 t) (zOr bl (ρ 14 t))) := pth_to hp (fun g x y z => by rw [kk.1 g x y z, up_f _ _ _ x]) (fun k hk => by rw [kk.2 k (by omega), up_n _ _ _ (by omega)])
      exact dsL_J hE hd hJ15 ihd n (t + 1) _ (by omega) (by omega) (fun j a b => hS j (by omega) (by omega)) hp3 hJ2
theorem ds_J {τ : St} (hE : Env0 τ) {J : St → Prop} {S : (Int → Int) → Int → Prop} (hJ15 : ∀ ρ i v, J ρ → J (up ρ 15 i v)) (hext : ∀ D d j, 0 ≤ j → j ≤ 3 → S D d → S (uD D d j) (d + 1))
    (hleaf : ∀ (ρ : St) (w : Int) (D : Int → Int), Dig D → Vc τ D (τ 17 0) → w = wo τ D (τ 17 0).toNat → S D (τ 17 0) → S2 τ ρ → J ρ → ¬ w ≤ ρ 18 0 → J (kp ρ w)) : ∀ (f : Nat) (ρ : St) (d w bl : Int) (D : Int → Int), 0 ≤ d → d + f = τ 17 0 → Pth τ D d w bl ρ → S D d → J ρ → J (ds f ρ d w bl)
  | 0, ρ, d, w, bl, D, h0, h1, hp, hS, hJ => by
    obtain ⟨a1, a2, a3, a4, a5, a6⟩ := hp
    have ed : d = τ 17 0 := by omega
    unfold ds
    by_cases q : w + mw ρ d bl ≤ ρ 18 0
    · rw [if_pos q]; exact hJ
    · rw [if_neg q]
      have e0 : mw ρ d bl = 0 := by
        rw [mw_cg a5]; unfold mw
        rw [show (τ 17 0 - d).toNat = 0 by omega]; rfl
      rw [e0] at q
      rw [ed] at a2 a3 hS
      exact hleaf ρ w D a1 a2 a3 hS a5 hJ (by omega)
  | f + 1, ρ, d, w, bl, D, h0, h1, hp, hS, hJ => by
    rw [ds_s]
    by_cases q : w + mw ρ d bl ≤ ρ 18 0
    · rw [if_pos q]; exact hJ
    · rw [if_neg q]
      have ih := fun (ρ : St) (w bl : Int) (E : Int → Int) => ds_J hE hJ15 hext hleaf f ρ (d + 1) w bl E (by omega) (by omega)
      have e11 : ρ 11 = τ 11 := hp.2.2.2.2.1 11 (by decide) (by decide) (by decide)
      have b := hE.2.1 d
      rw [e11]
      obtain ⟨j1, j2⟩ := dsL_J (S := S) hE ⟨h0, h1⟩ (D := D) hJ15 ih (τ 11 d).toNat (d * 3) ρ (Int.le_refl _) (by omega) (fun j a c => hext D d j (by omega) (by omega) hS) hp hJ
      exact ih _ _ _ _ (pth_none j2 h0) (hext D d 3 (by decide) (by decide) hS) (hJ15 _ _ _ j1)
theorem dsL_app (r : St → Int → Int → Int → St) (d w bl : Int) (b : Nat) : ∀ (a : Nat) (t : Int) (σ : St), dsL r d w bl (a + b) t σ = dsL r d w bl b (t + a) (dsL r d w bl a t σ)
  | 0, t, σ => by
    rw [Nat.zero_add, show t + ((0 : Nat) : Int) = t by omega]; rfl
  | a + 1, t, σ => by
    rw [show a + 1 + b = (a + b) + 1 by omega, dsL_s, dsL_s, dsL_app r d w bl b a (t + 1), show t + 1 + (a : Int) = t + ((a + 1 : Nat) : Int) by omega]
/-- the first of the best choices -/
def Op (τ : St) (o : Int → Int) : Prop := Dig o ∧ Vc τ o (τ 17 0) ∧ ∀ D, Dig D → Vc τ D (τ 17 0) → wo τ D (τ 17 0).toNat < wo τ o (τ 17 0).toNat ∨ (wo τ D (τ 17 0).toNat = wo τ o (τ 17 0).toNat ∧ vF o (τ 17 0).toNat ≤ vF D (τ 17 0).toNat)
theorem ds_B {τ : St} (hE : Env0 τ) {o : Int → Int} (ho : Op τ o) (M : Int → Int) {f : Nat} {ρ : St} {d w bl : Int} {D : Int → Int} (h0 : 0 ≤ d) (h1 : d + f = τ 17 0) (hp : Pth τ D d w bl ρ) (hJ : ρ 18 0 = wo τ o (τ 17 0).toNat ∧ ρ 16 = M) : ds f ρ d w bl 18 0 = wo τ o (τ 17 0).toNat ∧ ds f ρ d w bl 16 = M :=
  ds_J (J := fun ρ => ρ 18 0 = wo τ o (τ 17 0).toNat ∧ ρ 16 = M) (S := fun _ _ => True) hE (fun ρ i v h => ⟨by rw [up_o _ _ _ _ (by decide)]; exact h.1, by rw [up_f _ _ _ (by decide)]; exact h.2⟩) (fun _ _ _ _ _ _ => trivial) (fun ρ w D a b c _ _ e g => by
    exfalso
    rcases ho.2.2 D a b with z | z <;> omega) f ρ d w bl D h0 h1 hp trivial hJ
/-- the path lies before the best choice -/
def Bf (o : Int → Int) (D : Int → Int) (d : Int) : Prop := ∃ i, 0 ≤ i ∧ i < d ∧ (∀ j, 0 ≤ j → j < i → D j = o j) ∧ D i < o i
theorem ds_C {τ : St} (hE : Env0 τ) {o : Int → Int} (ho : Op τ o) {f : Nat} {ρ : St} {d w bl : Int} {D : Int → Int} (h0 : 0 ≤ d) (h1 : d + f = τ 17 0) (hp : Pth τ D d w bl ρ) (hS : Bf o D d) (hJ : ρ 18 0 < wo τ o (τ 17 0).toNat) : ds f ρ d w bl 18 0 < wo τ o (τ 17 0).toNat :=
  ds_J (J := fun ρ => ρ 18 0 < wo τ o (τ 17 0).toNat) (S := Bf o) hE (fun ρ i v h => by rw [up_o _ _ _ _ (by decide)]; exact h) (fun D d j _ _ ⟨i, i0, i1, i2, i3⟩ => ⟨i, i0, by omega, fun k a b => by rw [uD_n _ _ _ (by omega)]; exact i2 k a b, by rw [uD_n _ _ _ (by omega)]; exact i3⟩) (fun ρ w D a b c ⟨i, i0, i1, i2, i3⟩ _ e g => by
    show kp ρ w 18 0 < _
    have e18 : kp ρ w 18 0 = w := by unfold kp; rw [cpS_o _ _ _ _ (by decide), up_s]
    rw [e18]
    have hv := vF_lt a ho.1 i0 i2 i3 (τ 17 0).toNat (by omega)
    rcases ho.2.2 D a b with z | z
    · omega
    · omega) f ρ d w bl D h0 h1 hp hS hJ
theorem ds_A {τ : St} (hE : Env0 τ) {o : Int → Int} (ho : Op τ o) : ∀ (f : Nat) (ρ : St) (d w bl : Int) (D : Int → Int), 0 ≤ d → d + f = τ 17 0 → Pth τ D d w bl ρ → (∀ k, 0 ≤ k → k < d → D k = o k) → ρ 18 0 < wo τ o (τ 17 0).toNat → ds f ρ d w bl 18 0 = wo τ o (τ 17 0).toNat ∧ ∀ k, 0 ≤ k → k < τ 17 0 → ds f ρ d w bl 16 k = if o k = 3 then -1 else τ 12 (k * 3 + o k)
  | 0, ρ, d, w, bl, D, h0, h1, hp, hag, hJ => by
    obtain ⟨a1, a2, a3, a4, a5, a6⟩ := hp
    have ed : d = τ 17 0 := by omega
    have e0 : mw ρ d bl = 0 := by
      rw [mw_cg a5]; unfold mw
      rw [show (τ 17 0 - d).toNat = 0 by omega]; rfl
    have ew : w = wo τ o (τ 17 0).toNat := by rw [a3, ed]; exact wo_cg _ (fun k a b => hag k a (by omega))
    unfold ds
    rw [e0, if_neg (by omega)]
    have hK := hE.1
    refine ⟨?_, fun k k0 k1 => ?_⟩
    · unfold kp; rw [cpS_o _ _ _ _ (by decide), up_s]; exact ew
    · unfold kp
      rw [cpS_i _ _ _ _ k0 (by omega), up_o _ _ _ _ (by decide), a6 k k0 (by omega), hag k k0 (by omega)]
  | f + 1, ρ, d, w, bl, D, h0, h1, hp, hag, hJ => by
    obtain ⟨a1, a2, a3, a4, a5, a6⟩ := id hp
    have hd : 0 ≤ d ∧ d < τ 17 0 := by omega
    have hup := mw_up hE ho.2.1 a4 hag ⟨h0, by omega⟩
    have ew : w = wo τ o d.toNat := by rw [a3]; exact wo_cg _ (fun k a b => hag k a (by omega))
    rw [ds_s, mw_cg a5, if_neg (by omega)]
    have e11 : ρ 11 = τ 11 := a5 11 (by decide) (by decide) (by decide)
    rw [e11]
    have b := hE.2.1 d
    have od := ho.1 d
    have hcJ15 : ∀ (ρ : St) (i v : Int), ρ 18 0 < wo τ o (τ 17 0).toNat → up ρ 15 i v 18 0 < wo τ o (τ 17 0).toNat := fun ρ i v h => by rw [up_o _ _ _ _ (by decide)]; exact h
    have ihC : ∀ (ρ : St) (w bl : Int) (E : Int → Int), Pth τ E (d + 1) w bl ρ → Bf o E (d + 1) → ρ 18 0 < wo τ o (τ 17 0).toNat → ds f ρ (d + 1) w bl 18 0 < wo τ o (τ 17 0).toNat := fun ρ w bl E x y z => ds_C hE ho (by omega) (by omega) x y z
    have hbf : ∀ j, j < o d → Bf o (uD D d j) (d + 1) := fun j hj => ⟨d, h0, by omega, fun k x y => by rw [uD_n _ _ _ (by omega)]; exact hag k x y, by rw [uD_s]; exact hj⟩
    by_cases q : o d < 3
    · -- its slot is tried, after those before it
      obtain ⟨s1, s2⟩ := vc_free ho.2.1 a4 hag h0 ⟨Int.le_refl _, hd.2⟩ q
      have en : (τ 11 d).toNat = (o d).toNat + (1 + (τ 11 d - o d - 1).toNat) := by omega
      rw [en, dsL_app, dsL_app]
      obtain ⟨j1, j2⟩ := dsL_J (J := fun ρ => ρ 18 0 < wo τ o (τ 17 0).toNat) (S := Bf o) hE ⟨h0, h1⟩ (D := D) hcJ15 ihC (o d).toNat (d * 3) ρ (Int.le_refl _) (by omega) (fun j x y => hbf j (by omega)) hp hJ
      generalize dsL (ds f) d w bl (o d).toNat (d * 3) ρ = ρ1 at j1 j2 ⊢
      rw [show d * 3 + ((o d).toNat : Int) = d * 3 + o d by omega]
      have e1 : dsL (ds f) d w bl 1 (d * 3 + o d) ρ1 = ds f (up ρ1 15 d (ρ1 12 (d * 3 + o d))) (d + 1) (w + ρ1 13 (d * 3 + o d)) (zOr bl (ρ1 14 (d * 3 + o d))) := by
        rw [dsL_s, if_neg s2]; rfl
      rw [e1]
      have hp2 := pth_slot hE j2 hd ⟨by omega, by omega⟩ s2
      rw [show d * 3 + o d - d * 3 = o d by omega] at hp2
      obtain ⟨r1, r2⟩ := ds_A hE ho f _ (d + 1) _ _ _ (by omega) (by omega) hp2 (fun k x y => by
        by_cases e : k = d
        · rw [e, uD_s]
        · rw [uD_n _ _ _ e]; exact hag k x (by omega)) (by rw [up_o _ _ _ _ (by decide)]; exact j1)
      have kk := ds_keep f (up ρ1 15 d (ρ1 12 (d * 3 + o d))) (d + 1) (w + ρ1 13 (d * 3 + o d)) (zOr bl (ρ1 14 (d * 3 + o d)))
      have hp3 : Pth τ D d w bl (ds f (up ρ1 15 d (ρ1 12 (d * 3 + o d))) (d + 1) (w + ρ1 13 (d * 3 + o d)) (zOr bl (ρ1 14 (d * 3 + o d)))) := pth_to j2 (fun g x y z => by rw [kk.1 g x y z, up_f _ _ _ x]) (fun k hk => by rw [kk.2 k (by omega), up_n _ _ _ (by omega)])
      generalize ds f (up ρ1 15 d (ρ1 12 (d * 3 + o d))) (d + 1) (w + ρ1 13 (d * 3 + o d)) (zOr bl (ρ1 14 (d * 3 + o d))) = ρ2 at r1 r2 hp3 ⊢
      rw [show d * 3 + o d + ((1 : Nat) : Int) = d * 3 + o d + 1 by omega]
      obtain ⟨q1, q2⟩ := dsL_J (J := fun ρ => ρ 18 0 = wo τ o (τ 17 0).toNat ∧ ρ 16 = ρ2 16) (S := fun _ _ => True) hE ⟨h0, h1⟩ (D := D) (fun ρ i v h => ⟨by rw [up_o _ _ _ _ (by decide)]; exact h.1, by rw [up_f _ _ _ (by decide)]; exact h.2⟩) (fun ρ w bl E x _ z => ds_B hE ho (ρ2 16) (by omega) (by omega) x z) (τ 11 d - o d - 1).toNat (d * 3 + o d + 1) ρ2 (by omega) (by omega) (fun _ _ _ => trivial) hp3 ⟨r1, rfl⟩
      have q3 := ds_B hE ho (ρ2 16) (f := f) (d := d + 1) (by omega) (by omega) (pth_none q2 h0) ⟨by rw [up_o _ _ _ _ (by decide)]; exact q1.1, by rw [up_f _ _ _ (by decide)]; exact q1.2⟩
      refine ⟨q3.1, fun k k0 k1 => ?_⟩
      rw [q3.2]; exact r2 k k0 k1
    · -- its net is left out, after all its slots
      have e3 : o d = 3 := by omega
      obtain ⟨j1, j2⟩ := dsL_J (J := fun ρ => ρ 18 0 < wo τ o (τ 17 0).toNat) (S := Bf o) hE ⟨h0, h1⟩ (D := D) hcJ15 ihC (τ 11 d).toNat (d * 3) ρ (Int.le_refl _) (by omega) (fun j x y => hbf j (by omega)) hp hJ
      refine ds_A hE ho f _ (d + 1) w bl (uD D d 3) (by omega) (by omega) (pth_none j2 h0) (fun k x y => ?_) (by rw [up_o _ _ _ _ (by decide)]; exact j1)
      by_cases e : k = d
      · rw [e, uD_s]; exact e3.symm
      · rw [uD_n _ _ _ e]; exact hag k x (by omega)
/-- the class's choice -/
theorem ds_run {τ : St} (hE : Env0 τ) {o : Int → Int} (ho : Op τ o) : ∀ k, 0 ≤ k → k < τ 17 0 → ds (τ 17 0).toNat (up τ 18 0 (wp0 τ - 1)) 0 0 0 16 k = if o k = 3 then -1 else τ 12 (k * 3 + o k) := by
  have hK := hE.1
  have zb : ∀ j, ¬ zB 0 j := fun j => by unfold zB; rw [show (0 : Int).toNat = 0 from rfl, Nat.zero_testBit]; simp
  have hD3 : Dig (fun _ => 3) := fun _ => (show (0 : Int) ≤ 3 ∧ (3 : Int) ≤ 3 by decide)
  have hv0 : Vc τ (fun _ => 3) 0 := ⟨fun k a b => by omega, fun j k a b c => by omega⟩
  have hb0 : Bk τ (fun _ => 3) 0 0 := ⟨⟨by decide, by decide⟩, fun k j a b c d => ⟨fun z => absurd z (zb _), fun ⟨i, x, y, _⟩ => by omega⟩⟩
  obtain ⟨E, e1, e2, e3⟩ := wp_is hE (τ 17 0).toNat 0 0 0 (fun _ => 3) (by decide) (by omega) hD3 hv0 hb0 rfl
  have hw : wp0 τ ≤ wo τ o (τ 17 0).toNat := by
    have : wp0 τ = wo τ E (τ 17 0).toNat := e3.symm
    rcases ho.2.2 E e1 e2 with z | z <;> omega
  have := ds_A hE ho (τ 17 0).toNat (up τ 18 0 (wp0 τ - 1)) 0 0 0 (fun _ => 3) (by decide) (by omega) ⟨hD3, hv0, rfl, hb0, fun g x y z => up_f _ _ _ z, fun k a b => by omega⟩ (fun k a b => by omega) (by rw [up_s]; omega)
  exact this.2
