/-! the fixture: copies, the flight, the order, all of it -/
theorem ac_s : Cond.static arraycopyName ∈ lw_gd := gd_at 463 (by decide +kernel) (by decide +kernel)
theorem ac_n : Cond.native arraycopyName ∈ lw_gd := gd_at 464 (by decide +kernel) (by decide +kernel)
theorem ac_i : Cond.initialized "java/lang/System" ∈ lw_gd := gd_at 14 (by decide +kernel) (by decide +kernel)
theorem lk_S_109 : Cond.methodLink "ProbeChoice$Search" 109 arraycopyName ∈ lw_gd := gd_at 462 (by decide +kernel) (by decide +kernel)
theorem lk_F_77 : Cond.methodLink "ProbeChoice$Fixture" 77 arraycopyName ∈ lw_gd := gd_at 481 (by decide +kernel) (by decide +kernel)
def cpS (σ : St) (f t : Nat) (n : Int) : St := fun g j => if g = t ∧ 0 ≤ j ∧ j < n then σ f j else σ g j
theorem cpS_o (σ : St) (f t : Nat) (n : Int) {g : Nat} (h : g ≠ t) : cpS σ f t n g = σ g := by
  funext j; unfold cpS; rw [if_neg (fun q => h q.1)]
theorem cpS_i (σ : St) (f t : Nat) (n : Int) {j : Int} (h0 : 0 ≤ j) (h : j < n) : cpS σ f t n t j = σ f j := by
  unfold cpS; rw [if_pos ⟨rfl, h0, h⟩]
theorem cpy_z {σ : St} {f t : Nat} {n : Int} (h : 0 ≤ n) (h2 : n < 2147483648) : va_cpy (fun k : Nat => zI (σ f k)) (fun k : Nat => zI (σ t k)) (zI 0).toNatClampNeg (zI 0).toNatClampNeg (zI n).toNatClampNeg = fun k : Nat => zI (cpS σ f t n t k) := by
  have e0 : (zI 0).toNatClampNeg = 0 := rfl
  rw [e0, zI_cl h h2]
  funext k
  unfold va_cpy cpS
  by_cases q : (k : Int) < n
  · rw [if_pos (by omega), if_pos ⟨rfl, by omega, q⟩]
    show zI (σ f ((0 + (k - 0) : Nat) : Int)) = _
    rw [Nat.zero_add, Nat.sub_zero]
  · rw [if_neg (by omega), if_neg (fun z => q z.2.2)]
section CP
variable {p : Program} {l : Launch} {e : Env} {R : Room} {s : State} {m : MethodId} {args : Array Value} {below : List Frame} {meth : Method} {c : Code} {H : Heap} {locs : List Loc} {cells slots : Nat} {Q : State → Prop}
variable {cc : ByteArray} {pc nL : Nat} {own : String} {ret : Option FieldType} {ls : Array Slot} {rest : List Value} {D : va_G} {ad : Nat → Nat} {ca : Nat → ClassId} {A : Nat → Prop} {σ : St}
theorem cpX_20_22 (hc : Cx p s m args c cc nL own meth ret D cl7 (tyX ca)) (hw : Wd D cl7 (wX ad ca) A s.heap σ H locs) (hl : ls.size = nL) {index : Nat} {n : Int} (lk : Cond.methodLink own index arraycopyName ∈ lw_gd) (d : decode cc pc = .ok (.invokestatic index, 3)) (hn : 0 ≤ n ∧ n ≤ 8) (hf : 1 ≤ R.frames) (hlo : (rest.map fun v => v.category).sum + (nativeFrameWords "java/lang/System" "arraycopy" 5 + 11) ≤ R.locals) (k : ∀ (H1 : Heap) (locs1 : List Loc), Wd D cl7 (wX ad ca) A s.heap (cpS σ 20 22 n) H1 locs1 → W p l e R s m args below meth c H1 locs1 cells slots Q (F0 m (pc + 3) ls rest)) : W p l e R s m args below meth c H locs cells slots Q (F0 m pc ls (.int (zI n) :: .int (zI 0) :: .ref (ad 22) :: .int (zI 0) :: .ref (ad 20) :: rest)) := by
  obtain ⟨hx, hb, hml, hown, hTB, hK, -, -⟩ := hc
  refine va_copyi (D := D) hx hb (hml.trans hl.symm) hown (hTB.hts args _ lk) (hTB.hts args _ ac_n) (hTB.hts args _ ac_s) (hTB.hts args _ ac_i) hK hw.1 hw.2.1 hw.2.2 13 15 7 9 rfl rfl rfl rfl rfl (by decide) (by decide) (fun q => by have := (zI_lt0 (a := n) ⟨by omega, by omega⟩).mp q; omega) (by rw [zI_cl hn.1 (by omega), show (zI 0).toNatClampNeg = 0 from rfl]; omega) (by rw [zI_cl hn.1 (by omega), show (zI 0).toNatClampNeg = 0 from rfl]; omega) (fun _ _ => rfl) hf hlo d (fun H1 locs1 hP hD hS => ?_)
  rw [cpy_z hn.1 (by omega)] at hP hD
  refine k H1 locs1 ⟨?_, ?_, hS⟩
  · exact hP
  · exact hD
theorem cpX_15_16 (hc : Cx p s m args c cc nL own meth ret D cl7 (tyX ca)) (hw : Wd D cl7 (wX ad ca) A s.heap σ H locs) (hl : ls.size = nL) {index : Nat} {n : Int} (lk : Cond.methodLink own index arraycopyName ∈ lw_gd) (d : decode cc pc = .ok (.invokestatic index, 3)) (hn : 0 ≤ n ∧ n ≤ 8) (hf : 1 ≤ R.frames) (hlo : (rest.map fun v => v.category).sum + (nativeFrameWords "java/lang/System" "arraycopy" 5 + 11) ≤ R.locals) (k : ∀ (H1 : Heap) (locs1 : List Loc), Wd D cl7 (wX ad ca) A s.heap (cpS σ 15 16 n) H1 locs1 → W p l e R s m args below meth c H1 locs1 cells slots Q (F0 m (pc + 3) ls rest)) : W p l e R s m args below meth c H locs cells slots Q (F0 m pc ls (.int (zI n) :: .int (zI 0) :: .ref (ad 16) :: .int (zI 0) :: .ref (ad 15) :: rest)) := by
  obtain ⟨hx, hb, hml, hown, hTB, hK, -, -⟩ := hc
  refine va_copyi (D := D) hx hb (hml.trans hl.symm) hown (hTB.hts args _ lk) (hTB.hts args _ ac_n) (hTB.hts args _ ac_s) (hTB.hts args _ ac_i) hK hw.1 hw.2.1 hw.2.2 32 33 26 27 rfl rfl rfl rfl rfl (by decide) (by decide) (fun q => by have := (zI_lt0 (a := n) ⟨by omega, by omega⟩).mp q; omega) (by rw [zI_cl hn.1 (by omega), show (zI 0).toNatClampNeg = 0 from rfl]; omega) (by rw [zI_cl hn.1 (by omega), show (zI 0).toNatClampNeg = 0 from rfl]; omega) (fun _ _ => rfl) hf hlo d (fun H1 locs1 hP hD hS => ?_)
  rw [cpy_z hn.1 (by omega)] at hP hD
  refine k H1 locs1 ⟨?_, ?_, hS⟩
  · exact hP
  · exact hD
end CP
theorem IB_of {σ τ : St} (h : ∀ g, g < 10 → τ g = σ g) (hI : IB σ) : IB τ := by
  unfold IB at *
  rw [h 0 (by decide), h 1 (by decide), h 2 (by decide), h 3 (by decide), h 4 (by decide), h 5 (by decide), h 6 (by decide), h 7 (by decide), h 8 (by decide), h 9 (by decide)]
  exact hI
/-- one flight: the state, the place -/
def pfN (cnt : Int) (t : St × Int × Int) (n : Int) : St × Int × Int :=
  (up (up (up t.1 22 (pnF t.1 t.2.1 t.2.2 (cnt - (n + 1)).toNat (n + 1) n) (t.1 22 n)) 22 n (t.1 22 (pnF t.1 t.2.1 t.2.2 (cnt - (n + 1)).toNat (n + 1) n))) 28 0
     (t.1 28 0 + max ((t.1 3 (t.1 22 (pnF t.1 t.2.1 t.2.2 (cnt - (n + 1)).toNat (n + 1) n)) - t.2.1).natAbs : Int) ((t.1 4 (t.1 22 (pnF t.1 t.2.1 t.2.2 (cnt - (n + 1)).toNat (n + 1) n)) - t.2.2).natAbs : Int)),
   t.1 3 (t.1 22 (pnF t.1 t.2.1 t.2.2 (cnt - (n + 1)).toNat (n + 1) n)), t.1 4 (t.1 22 (pnF t.1 t.2.1 t.2.2 (cnt - (n + 1)).toNat (n + 1) n)))
def pf (σ : St) : Nat → St × Int × Int
  | 0 => (up (cpS σ 20 22 (σ 25 0)) 28 0 0, 0, 0)
  | n + 1 => pfN (σ 25 0) (pf σ n) n
theorem pf_s (σ : St) (n : Nat) : pf σ (n + 1) = pfN (σ 25 0) (pf σ n) n := rfl
/-- the point q goes into the sorted at or before a -/
def insF (q : Int) : Nat → St → St
  | 0, τ => up τ 23 0 q
  | a + 1, τ => if befP τ q (τ 23 a) then insF q a (up τ 23 ((a : Int) + 1) (τ 23 a)) else up τ 23 ((a : Int) + 1) q
theorem insF_s (q : Int) (a : Nat) (τ : St) : insF q (a + 1) τ = if befP τ q (τ 23 a) then insF q a (up τ 23 ((a : Int) + 1) (τ 23 a)) else up τ 23 ((a : Int) + 1) q := rfl
def so (σ : St) : Nat → St
  | 0 => σ
  | n + 1 => insF (so σ n 20 n) n (so σ n)
theorem insF_o (q : Int) : ∀ (a : Nat) (τ : St) (g : Nat), g ≠ 23 → insF q a τ g = τ g
  | 0, τ, g, h => up_f _ _ _ h
  | a + 1, τ, g, h => by
    unfold insF; split
    · rw [insF_o q a _ g h, up_f _ _ _ h]
    · exact up_f _ _ _ h
theorem so_o (σ : St) (n g : Nat) (h : g ≠ 23) : so σ n g = σ g := by
  induction n with
  | zero => rfl
  | succ n ih => unfold so; rw [insF_o _ _ _ _ h, ih]
theorem tk_pr {σ : St} (n : Nat) (hB : ∀ i, 0 ≤ i → i < (n : Int) → σ 16 i = -1 ∨ (0 ≤ σ 16 i ∧ σ 16 i < 36)) : ∀ j, 0 ≤ j → j < tk σ n 25 0 → 0 ≤ tk σ n 20 j ∧ tk σ n 20 j < 36 := by
  induction n with
  | zero => intro j h0 h1; have : tk σ 0 25 0 = 0 := by simp [tk, up]
            omega
  | succ n ih =>
    have ih := ih (fun i h0 h1 => hB i h0 (by omega))
    have hbn := hB n (by omega) (by omega)
    have e16 : tk σ n 16 n = σ 16 n := by rw [tk_o σ n 16 (by decide)]
    intro j h0 h1
    unfold tk at h1 ⊢
    split at h1
    · rename_i hc
      rw [if_pos hc, up_o _ _ _ _ (by decide), up_o _ _ _ _ (by decide)]
      rw [up_o _ _ _ _ (by decide), up_o _ _ _ _ (by decide)] at h1
      exact ih j h0 h1
    · rename_i hc
      rw [if_neg hc, up_o _ _ _ _ (by decide)]
      rw [up_s] at h1
      by_cases q : j = tk σ n 25 0
      · rw [q, up_s]; omega
      · rw [up_n _ _ _ q]; exact ih j h0 (by omega)
theorem pf_o (σ : St) (n g : Nat) (h : g ≠ 22 ∧ g ≠ 28) : (pf σ n).1 g = σ g := by
  induction n with
  | zero => show up (cpS σ 20 22 (σ 25 0)) 28 0 0 g = _; rw [up_f _ _ _ h.2, cpS_o _ _ _ _ h.1]
  | succ n ih => rw [pf_s]; unfold pfN; show up (up (up _ 22 _ _) 22 _ _) 28 0 _ g = _; rw [up_f _ _ _ h.2, up_f _ _ _ h.1, up_f _ _ _ h.1, ih]
theorem insF_in (q : Int) (hq : 0 ≤ q ∧ q < 36) : ∀ (a : Nat) (τ : St), (∀ j, 0 ≤ j → j < (a : Int) → 0 ≤ τ 23 j ∧ τ 23 j < 36) → ∀ j, 0 ≤ j → j ≤ (a : Int) → 0 ≤ insF q a τ 23 j ∧ insF q a τ 23 j < 36
  | 0, τ, h, j, h0, h1 => by have : j = 0 := by omega
                             subst this; unfold insF; rw [up_s]; exact hq
  | a + 1, τ, h, j, h0, h1 => by
    unfold insF
    split
    · by_cases z : j ≤ (a : Int)
      · exact insF_in q hq a _ (fun i h2 h3 => by rw [up_n _ _ _ (by omega)]; exact h i h2 (by omega)) j h0 z
      · have e : j = (a : Int) + 1 := by omega
        subst e
        have : ∀ (b : Nat) (τ : St) (i : Int), (b : Int) < i → insF q b τ 23 i = τ 23 i := by
          intro b
          induction b with
          | zero => intro τ i hi; unfold insF; exact up_n _ _ _ (by omega)
          | succ b ih => intro τ i hi; unfold insF; split
                         · rw [ih _ _ (by omega), up_n _ _ _ (by omega)]
                         · exact up_n _ _ _ (by omega)
        rw [this a _ _ (by omega), up_s]
        exact h a (by omega) (by omega)
    · by_cases z : j = (a : Int) + 1
      · rw [z, up_s]; exact hq
      · rw [up_n _ _ _ z]; exact h j h0 (by omega)
theorem so_in {σ : St} (n : Nat) (hP : ∀ i, 0 ≤ i → i < (n : Int) → 0 ≤ σ 20 i ∧ σ 20 i < 36) : ∀ j, 0 ≤ j → j < (n : Int) → 0 ≤ so σ n 23 j ∧ so σ n 23 j < 36 := by
  induction n with
  | zero => intro j h0 h1; omega
  | succ n ih =>
    intro j h0 h1
    unfold so
    refine insF_in _ (by rw [so_o σ n 20 (by decide)]; exact hP n (by omega) (by omega)) n _ (ih (fun i a b => hP i a (by omega))) j h0 (by omega)
def fB1 (σ : St) : St := up σ 29 0 (bI (σ 17 0 = cntM σ (σ 7 0).toNat))
def fB2 (σ : St) : St := tk (fB1 σ) (σ 17 0).toNat
def fB3 (σ : St) : St := (pf (fB2 σ) (fB2 σ 25 0).toNat).1
def fB4 (σ : St) : St := so (fB3 σ) (fB3 σ 25 0).toNat
/-- the fixture is built -/
def fB (σ : St) : St := wtF (fB4 σ) (fB4 σ 25 0).toNat
