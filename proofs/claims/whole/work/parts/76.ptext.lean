/-! the fixture's text, on both sides -/
def dgF : Nat → Int → Int → List Int
  | 0, _, _ => []
  | f + 1, r, u => if 0 < u then (48 + r / u % 10) :: dgF f r (u / 10) else []
theorem dgF_s (f : Nat) (r u : Int) : dgF (f + 1) r u = if 0 < u then (48 + r / u % 10) :: dgF f r (u / 10) else [] := rfl
def numL (z : Int) : List Int := (if z < 0 then [45] else []) ++ dgF 7 ((z.natAbs : Nat) : Int) (unF 6 1 ((z.natAbs : Nat) : Int))
def lineL (q x y : Int) : List Int := [112] ++ numL q ++ [32] ++ numL x ++ [32] ++ numL y ++ [10]
theorem dgF_len : ∀ (f : Nat) (r u : Int), (dgF f r u).length ≤ f
  | 0, _, _ => Nat.le_refl 0
  | f + 1, r, u => by
    rw [dgF_s]; split
    · have := dgF_len f r (u / 10); simp; omega
    · simp
theorem numL_len (z : Int) : (numL z).length ≤ 8 := by
  have := dgF_len 7 ((z.natAbs : Nat) : Int) (unF 6 1 ((z.natAbs : Nat) : Int))
  unfold numL
  rw [List.length_append]
  split <;> simp <;> omega
theorem numL_36 : ∀ q : Int, 0 ≤ q → q < 36 → (numL q).length ≤ 2 := by
  intro q h0 h1
  have h : (List.range 36).all (fun k => decide ((numL ((k : Nat) : Int)).length ≤ 2)) = true := by decide +kernel
  have := List.all_eq_true.mp h q.toNat (List.mem_range.mpr (by omega))
  rw [Int.toNat_of_nonneg h0] at this
  simpa using this
theorem lineL_len {q x y : Int} (h0 : 0 ≤ q) (h1 : q < 36) : (lineL q x y).length ≤ 22 := by
  have a := numL_36 q h0 h1
  have b := numL_len x
  have c := numL_len y
  unfold lineL
  simp only [List.length_append, List.length_singleton]
  omega
/-- what is written is the list -/
def Wr (τ : St) (l : List Int) : Prop := τ 27 0 = (l.length : Int) ∧ ∀ i : Nat, i < l.length → l[i]? = some (τ 24 (i : Int))
theorem Wr.wl {τ : St} {l : List Int} (h : Wr τ l) (hl : l.length < 176) (ch : Int) : Wr (wl τ ch) (l ++ [ch]) := by
  unfold Pilot.CProbeChoiceLaw_law_r9820_429802.wl
  rw [if_pos (by rw [h.1]; omega)]
  refine ⟨?_, fun i hi => ?_⟩
  · rw [up_s, h.1, List.length_append, List.length_singleton]; omega
  · rw [up_o _ _ _ _ (by decide)]
    rw [List.length_append, List.length_singleton] at hi
    by_cases e : i < l.length
    · rw [List.getElem?_append_left e, up_n _ _ _ (by rw [h.1]; omega)]; exact h.2 i e
    · have e2 : i = l.length := by omega
      rw [e2, List.getElem?_append_right (by omega), Nat.sub_self, h.1, up_s]; rfl
theorem Wr.wnF : ∀ (f : Nat) {τ : St} {l : List Int} {r u : Int}, Wr τ l → l.length + (dgF f r u).length ≤ 176 → Wr (wnF f τ r u) (l ++ dgF f r u)
  | 0, τ, l, r, u, h, hl => by
    show Wr τ (l ++ [])
    rw [List.append_nil]; exact h
  | f + 1, τ, l, r, u, h, hl => by
    rw [wnF_s, dgF_s]
    rw [dgF_s] at hl
    by_cases q : 0 < u
    · rw [if_pos q, if_pos q]
      rw [if_pos q, List.length_cons] at hl
      have := Wr.wnF f (r := r) (u := u / 10) (h.wl (by omega) (48 + r / u % 10)) (by rw [List.length_append, List.length_singleton]; omega)
      rw [List.append_assoc] at this
      exact this
    · rw [if_neg q, if_neg q, List.append_nil]; exact h
theorem Wr.wn {τ : St} {l : List Int} (h : Wr τ l) (z : Int) (hl : l.length + (numL z).length ≤ 176) : Wr (wn τ z) (l ++ numL z) := by
  unfold Pilot.CProbeChoiceLaw_law_r9820_429802.wn
  unfold numL at hl ⊢
  by_cases q : z < 0
  · rw [if_pos q, if_pos q]
    rw [if_pos q, List.length_append, List.length_singleton] at hl
    have := Wr.wnF 7 (r := ((z.natAbs : Nat) : Int)) (u := unF 6 1 ((z.natAbs : Nat) : Int)) (h.wl (by omega) 45) (by rw [List.length_append, List.length_singleton]; omega)
    rw [List.append_assoc] at this
    exact this
  · rw [if_neg q, if_neg q, List.nil_append]
    rw [if_neg q, List.nil_append] at hl
    exact Wr.wnF 7 h hl
theorem Wr.line {τ : St} {l : List Int} (h : Wr τ l) (q : Int) (hl : l.length + (lineL q (τ 3 q) (τ 4 q)).length ≤ 176) : Wr (wLine τ q) (l ++ lineL q (τ 3 q) (τ 4 q)) := by
  unfold lineL at hl ⊢
  simp only [List.length_append, List.length_singleton] at hl
  unfold wLine
  have a1 := h.wl (by omega) 112
  have a2 := a1.wn q (by simp only [List.length_append, List.length_singleton]; omega)
  have a3 := a2.wl (by simp only [List.length_append, List.length_singleton]; omega) 32
  have a4 := a3.wn (τ 3 q) (by simp only [List.length_append, List.length_singleton]; omega)
  have a5 := a4.wl (by simp only [List.length_append, List.length_singleton]; omega) 32
  have a6 := a5.wn (τ 4 q) (by simp only [List.length_append, List.length_singleton]; omega)
  have a7 := a6.wl (by simp only [List.length_append, List.length_singleton]; omega) 10
  simpa only [List.append_assoc] using a7
/-- the text of a list of points -/
def txtL (fx fy : Int → Int) (l : List Int) : List Int := l.flatMap (fun q => lineL q (fx q) (fy q))
theorem txtL_s (fx fy : Int → Int) (l : List Int) (q : Int) : txtL fx fy (l ++ [q]) = txtL fx fy l ++ lineL q (fx q) (fy q) := by unfold txtL; simp
theorem txtL_len (fx fy : Int → Int) : ∀ l : List Int, (∀ q ∈ l, 0 ≤ q ∧ q < 36) → (txtL fx fy l).length ≤ 22 * l.length
  | [], _ => by simp [txtL]
  | q :: l, h => by
    have a := lineL_len (x := fx q) (y := fy q) (h q List.mem_cons_self).1 (h q List.mem_cons_self).2
    have b := txtL_len fx fy l (fun x hx => h x (List.mem_cons_of_mem _ hx))
    unfold txtL at b ⊢
    rw [List.flatMap_cons, List.length_append, List.length_cons]
    omega
theorem wt_ok {σ : St} (n : Nat) (hn : n ≤ 8) (hb : ∀ i : Int, 0 ≤ i → i < n → 0 ≤ σ 23 i ∧ σ 23 i < 36) : Wr (wtF σ n) (txtL (σ 3) (σ 4) (fL (σ 23) n)) := by
  induction n with
  | zero => exact ⟨up_s _ _ _ _, fun i hi => absurd hi (Nat.not_lt_zero _)⟩
  | succ n ih =>
    have ih := ih (by omega) (fun i a b => hb i a (by omega))
    have e23 : wtF σ n 23 = σ 23 := wtF_o σ n 23 (by decide)
    have e3 : wtF σ n 3 = σ 3 := wtF_o σ n 3 (by decide)
    have e4 : wtF σ n 4 = σ 4 := wtF_o σ n 4 (by decide)
    show Wr (wLine (wtF σ n) (wtF σ n 23 n)) _
    rw [fL_s, txtL_s, e23]
    have hq := hb n (by omega) (by omega)
    have := ih.line (σ 23 n) (by
      have a := txtL_len (σ 3) (σ 4) (fL (σ 23) n) (fun q hq => by
        obtain ⟨i, i0, i1, e⟩ := fL_mem.mp hq
        rw [e]; exact hb i i0 (by omega))
      have b := lineL_len (x := wtF σ n 3 (σ 23 n)) (y := wtF σ n 4 (σ 23 n)) hq.1 hq.2
      rw [fL_len] at a
      omega)
    rw [e3, e4] at this
    exact this
/-- the reference's -/
def WrM (ν : St) (l : List Int) : Prop := ν 24 0 = (l.length : Int) ∧ ∀ i : Nat, i < l.length → l[i]? = some (ν 23 (i : Int))
theorem WrM.say {ν : St} {l : List Int} (h : WrM ν l) (ch : Int) : WrM (mSay ν ch) (l ++ [ch]) := by
  unfold mSay
  refine ⟨?_, fun i hi => ?_⟩
  · rw [up_s, h.1, List.length_append, List.length_singleton]; omega
  · rw [up_o _ _ _ _ (by decide)]
    rw [List.length_append, List.length_singleton] at hi
    by_cases e : i < l.length
    · rw [List.getElem?_append_left e, up_n _ _ _ (by rw [h.1]; omega)]; exact h.2 i e
    · have e2 : i = l.length := by omega
      rw [e2, List.getElem?_append_right (by omega), Nat.sub_self, h.1, up_s]; rfl
theorem WrM.snF : ∀ (f : Nat) {ν : St} {l : List Int} {r u : Int}, WrM ν l → WrM (snF f ν r u) (l ++ dgF f r u)
  | 0, ν, l, r, u, h => by
    show WrM ν (l ++ [])
    rw [List.append_nil]; exact h
  | f + 1, ν, l, r, u, h => by
    rw [snF_s, dgF_s]
    by_cases q : 0 < u
    · rw [if_pos q, if_pos q]
      have := WrM.snF f (r := r) (u := u / 10) (h.say (r / u % 10 + 48))
      rw [List.append_assoc, show r / u % 10 + 48 = 48 + r / u % 10 by omega] at this
      rw [show r / u % 10 + 48 = 48 + r / u % 10 by omega]
      exact this
    · rw [if_neg q, if_neg q, List.append_nil]; exact h
theorem sc_un : ∀ (f : Nat) (u r : Int), 0 < u → scF f u r = unF f u r
  | 0, u, r, h => rfl
  | f + 1, u, r, h => by
    rw [scF_s, unF_s, Int.mul_comm u 10, sc_un f (10 * u) r (by omega)]
    have : 10 ≤ r / u ↔ 10 * u ≤ r := Int.le_ediv_iff_mul_le h
    by_cases q : 10 ≤ r / u
    · rw [if_pos q, if_pos (this.mp q)]
    · rw [if_neg q, if_neg (fun z => q (this.mpr z))]
theorem WrM.sn {ν : St} {l : List Int} (h : WrM ν l) (z : Int) : WrM (sn ν z) (l ++ numL z) := by
  unfold Pilot.CProbeChoiceLaw_law_r9820_429802.sn
  unfold numL
  rw [sc_un 6 1 _ (by decide)]
  by_cases q : z < 0
  · rw [if_pos q, if_pos q]
    have := WrM.snF 7 (r := ((z.natAbs : Nat) : Int)) (u := unF 6 1 ((z.natAbs : Nat) : Int)) (h.say 45)
    rw [List.append_assoc] at this
    exact this
  · rw [if_neg q, if_neg q, List.nil_append]
    exact WrM.snF 7 h
theorem WrM.line {ν : St} {l : List Int} (h : WrM ν l) (q : Int) : WrM (snL ν q) (l ++ lineL q (ν 6 q) (ν 7 q)) := by
  unfold lineL snL
  have a7 := ((((((h.say 112).sn q).say 32).sn (ν 6 q)).say 32).sn (ν 7 q)).say 10
  simpa only [List.append_assoc] using a7
theorem ahF_cg {μ ν : St} (h : ∀ g, g = 6 ∨ g = 7 ∨ g = 17 ∨ g = 18 → ν g = μ g) (i : Int) : ∀ (f : Nat) (j t : Int), ahF ν i f j t = ahF μ i f j t
  | 0, j, t => rfl
  | f + 1, j, t => by
    rw [ahF_s, ahF_s, ahF_cg h i f]
    have e6 := h 6 (by decide); have e7 := h 7 (by decide); have e18 := h 18 (by decide)
    have : bI (¬ i = j ∧ mAh ν (ν 18 j) (ν 18 i)) = bI (¬ i = j ∧ mAh μ (μ 18 j) (μ 18 i)) := by
      have e : mAh ν (ν 18 j) (ν 18 i) ↔ mAh μ (μ 18 j) (μ 18 i) := by
        show (ν 6 _ < ν 6 _ ∨ (ν 6 _ = ν 6 _ ∧ (ν 7 _ < ν 7 _ ∨ (ν 7 _ = ν 7 _ ∧ _ < _)))) ↔ (μ 6 _ < μ 6 _ ∨ (μ 6 _ = μ 6 _ ∧ (μ 7 _ < μ 7 _ ∨ (μ 7 _ = μ 7 _ ∧ _ < _))))
        rw [e6, e7, e18]
      by_cases z : ¬ i = j ∧ mAh μ (μ 18 j) (μ 18 i)
      · rw [bI_t z, bI_t ⟨z.1, e.mpr z.2⟩]
      · rw [bI_f z, bI_f (fun y => z ⟨y.1, e.mp y.2⟩)]
    rw [this]
theorem plF_cg {μ ν : St} (h : ∀ g, g = 6 ∨ g = 7 ∨ g = 17 ∨ g = 18 → ν g = μ g) (k : Int) : ∀ (f : Nat) (i : Int), plF ν k f i = plF μ k f i
  | 0, i => rfl
  | f + 1, i => by
    rw [plF_s, plF_s, plF_cg h k f]
    have : ahd ν i = ahd μ i := by unfold ahd; rw [h 17 (by decide), ahF_cg h]
    rw [this, h 18 (by decide)]
theorem plc_cg {μ ν : St} (h : ∀ g, g = 6 ∨ g = 7 ∨ g = 17 ∨ g = 18 → ν g = μ g) (k : Int) : plc ν k = plc μ k := by unfold plc; rw [h 17 (by decide), plF_cg h]
theorem mt_ok {μ : St} (n : Nat) (s : Int → Int) (hs : ∀ k : Nat, k < n → plc μ k = s k) : WrM (mtF μ n) (txtL (μ 6) (μ 7) (fL s n)) := by
  induction n with
  | zero => exact ⟨up_s _ _ _ _, fun i hi => absurd hi (Nat.not_lt_zero _)⟩
  | succ n ih =>
    have ih := ih (fun k hk => hs k (by omega))
    show WrM (snL (mtF μ n) (plc (mtF μ n) n)) _
    have e : plc (mtF μ n) n = s n := by rw [plc_cg (fun g hg => mtF_o μ n g (by rcases hg with z | z | z | z <;> subst z <;> decide))]; exact hs n (by omega)
    rw [fL_s, txtL_s, e]
    have := ih.line (s n)
    rw [mtF_o μ n 6 (by decide), mtF_o μ n 7 (by decide)] at this
    exact this
def TxOk (σ : St) : Prop := Wr σ (txtL (σ 3) (σ 4) (fL (σ 23) (σ 25 0).toNat)) ∧ (txtL (σ 3) (σ 4) (fL (σ 23) (σ 25 0).toNat)).length ≤ 176
theorem txtL_c1 (fx fy : Int → Int) (q : Int) (l : List Int) : txtL fx fy (q :: l) = lineL q (fx q) (fy q) ++ txtL fx fy l := by unfold txtL; exact List.flatMap_cons
theorem txtL_cg {fx fy gx gy : Int → Int} (l : List Int) (h : ∀ q ∈ l, fx q = gx q ∧ fy q = gy q) : txtL fx fy l = txtL gx gy l := by
  induction l with
  | nil => unfold txtL; rw [List.flatMap_nil, List.flatMap_nil]
  | cons q l ih =>
    have e1 := h q List.mem_cons_self
    rw [txtL_c1, txtL_c1, e1.1, e1.2, ih (fun x hx => h x (List.mem_cons_of_mem _ hx))]
theorem TxOk.of {σ τ : St} (h : TxOk σ) (h23 : τ 23 = σ 23) (h24 : τ 24 = σ 24) (h25 : τ 25 = σ 25) (h27 : τ 27 = σ 27) (hx : ∀ i, 0 ≤ i → i < σ 25 0 → τ 3 (σ 23 i) = σ 3 (σ 23 i) ∧ τ 4 (σ 23 i) = σ 4 (σ 23 i)) : TxOk τ := by
  have e : txtL (τ 3) (τ 4) (fL (σ 23) (σ 25 0).toNat) = txtL (σ 3) (σ 4) (fL (σ 23) (σ 25 0).toNat) := txtL_cg _ (fun q hq => by
    obtain ⟨i, i0, i1, ei⟩ := fL_mem.mp hq
    rw [ei]; exact hx i i0 (by omega))
  unfold TxOk Wr
  rw [h23, h25, e, h24, h27]
  exact h
/-- both texts have the same letters -/
theorem tx_eq {σ μ : St} (h3 : σ 3 = μ 6) (h4 : σ 4 = μ 7) (hn : σ 25 0 = μ 17 0) (h0 : 0 ≤ σ 25 0) (hT : TxOk σ) (hp : ∀ k, 0 ≤ k → k < σ 25 0 → plc μ k = σ 23 k) {i : Int} (hi : 0 ≤ i) : ltrA σ i = mTxR μ i := by
  have hM := mt_ok (μ := μ) (μ 17 0).toNat (σ 23) (fun k hk => hp k (by omega) (by omega))
  rw [← h3, ← h4, ← hn] at hM
  unfold ltrA mTxR mTx
  rw [if_neg (show ¬ i < 0 by omega), ← hn]
  obtain ⟨⟨a1, a2⟩, a3⟩ := hT
  obtain ⟨b1, b2⟩ := hM
  rw [a1, b1]
  by_cases q : i < ((txtL (σ 3) (σ 4) (fL (σ 23) (σ 25 0).toNat)).length : Int)
  · rw [if_pos ⟨q, by omega⟩, if_pos q]
    have c1 := a2 i.toNat (by omega)
    have c2 := b2 i.toNat (by omega)
    rw [Int.toNat_of_nonneg hi] at c1 c2
    exact Option.some.inj (c1.symm.trans c2)
  · rw [if_neg (fun z => q z.1), if_neg q]
