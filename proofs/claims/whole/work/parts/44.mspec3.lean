/-! the reference: out, parts, guards, order, text -/
def moF (μ : St) : Nat → Int → Int → Int
  | 0, _, _ => -1
  | f + 1, i, lf => if μ 15 i < 3 then moF μ f (i + 1) lf else if lf = 0 then μ 13 i else moF μ f (i + 1) (lf - 1)
theorem moF_s (μ : St) (f : Nat) (i lf : Int) : moF μ (f + 1) i lf = if μ 15 i < 3 then moF μ f (i + 1) lf else if lf = 0 then μ 13 i else moF μ f (i + 1) (lf - 1) := rfl
def mOut (μ : St) (k : Int) : Int := if 0 ≤ k then moF μ (μ 12 0).toNat 0 k else -1
def mPaT (μ : St) (a b lo hi : Int) : Int := if ¬ ((0 ≤ a ∧ a < μ 1 0) ∧ (0 ≤ b ∧ b < μ 1 0)) then 1 else if 1 ≤ lo ∧ lo ≤ hi ∧ hi ≤ 1000 then 0 else 2
def mPaS (μ : St) (q lo hi : Int) : St := up (up (up (up μ 0 0 0) 20 (8 * q + 2 * μ 19 q) lo) 20 (8 * q + 2 * μ 19 q + 1) hi) 19 q (μ 19 q + 1)
abbrev mPaY (μ : St) (a b lo hi : Int) : Prop := mPaT μ a b lo hi = 0 ∧ ¬ a = b ∧ ¬ μ 19 (mPr a b) = 4
def mPart (μ : St) (a b lo hi : Int) : St := if mPaY μ a b lo hi then mPaS μ (mPr a b) lo hi else up μ 0 0 (mPaT μ a b lo hi)
theorem mPr_bd {a b : Int} (ha : 0 ≤ a ∧ a < 12) (hb : 0 ≤ b ∧ b < 12) : 0 ≤ mPr a b ∧ mPr a b < 144 := by unfold mPr; split <;> omega
abbrev hvP (μ : St) (a b : Int) : Prop := ¬ a = b ∧ 0 < μ 19 (mPr a b)
abbrev gdP (μ : St) (a b n : Int) : Prop := ¬ n = a ∧ ¬ n = b ∧ hvP μ n a ∧ hvP μ n b
def gdF (μ : St) (a b : Int) : Nat → Int → Int → Int
  | 0, _, _ => -1
  | f + 1, n, lf => if ¬ gdP μ a b n then gdF μ a b f (n + 1) lf else if lf = 0 then n else gdF μ a b f (n + 1) (lf - 1)
theorem gdF_s (μ : St) (a b : Int) (f : Nat) (n lf : Int) : gdF μ a b (f + 1) n lf = if ¬ gdP μ a b n then gdF μ a b f (n + 1) lf else if lf = 0 then n else gdF μ a b f (n + 1) (lf - 1) := rfl
abbrev twoN (μ : St) (a b : Int) : Prop := (0 ≤ a ∧ a < μ 1 0) ∧ (0 ≤ b ∧ b < μ 1 0)
def mGdR (μ : St) (a b k : Int) : Int := if ¬ twoN μ a b then 0 else if 0 ≤ k then gdF μ a b (μ 1 0).toNat 0 k else -1
/-- how many of the first f probes from j on lie ahead of the i-th -/
def ahF (μ : St) (i : Int) : Nat → Int → Int → Int
  | 0, _, t => t
  | f + 1, j, t => ahF μ i f (j + 1) (t + bI (¬ i = j ∧ mAh μ (μ 18 j) (μ 18 i)))
theorem ahF_s (μ : St) (i : Int) (f : Nat) (j t : Int) : ahF μ i (f + 1) j t = ahF μ i f (j + 1) (t + bI (¬ i = j ∧ mAh μ (μ 18 j) (μ 18 i))) := rfl
def ahd (μ : St) (i : Int) : Int := ahF μ i (μ 17 0).toNat 0 0
def plF (μ : St) (k : Int) : Nat → Int → Int
  | 0, _ => -1
  | f + 1, i => if ahd μ i = k then μ 18 i else plF μ k f (i + 1)
theorem plF_s (μ : St) (k : Int) (f : Nat) (i : Int) : plF μ k (f + 1) i = if ahd μ i = k then μ 18 i else plF μ k f (i + 1) := rfl
def plc (μ : St) (k : Int) : Int := plF μ k (μ 17 0).toNat 0
theorem mSay_o (μ : St) (u : Int) (g : Nat) (h : g ≠ 23 ∧ g ≠ 24) : mSay μ u g = μ g := by
  unfold mSay; rw [up_f _ _ _ h.2, up_f _ _ _ h.1]
theorem mSay_24 (μ : St) (u : Int) : mSay μ u 24 0 = μ 24 0 + 1 := by unfold mSay; rw [up_s]
/-- the scale of w, from s on -/
def scF : Nat → Int → Int → Int
  | 0, s, _ => s
  | f + 1, s, w => if 10 ≤ w / s then scF f (10 * s) w else s
theorem scF_s (f : Nat) (s w : Int) : scF (f + 1) s w = if 10 ≤ w / s then scF f (10 * s) w else s := rfl
def snF : Nat → St → Int → Int → St
  | 0, μ, _, _ => μ
  | f + 1, μ, w, s => if 0 < s then snF f (mSay μ (w / s % 10 + 48)) w (s / 10) else μ
theorem snF_s (f : Nat) (μ : St) (w s : Int) : snF (f + 1) μ w s = if 0 < s then snF f (mSay μ (w / s % 10 + 48)) w (s / 10) else μ := rfl
def sn (μ : St) (z : Int) : St := snF 7 (if z < 0 then mSay μ 45 else μ) ((z.natAbs : Nat) : Int) (scF 6 1 ((z.natAbs : Nat) : Int))
theorem snF_o : ∀ (f : Nat) (μ : St) (w s : Int) (g : Nat), g ≠ 23 ∧ g ≠ 24 → snF f μ w s g = μ g
  | 0, μ, w, s, g, h => rfl
  | f + 1, μ, w, s, g, h => by
    rw [snF_s]; split
    · rw [snF_o f _ w _ g h, mSay_o _ _ _ h]
    · rfl
theorem snF_bd : ∀ (f : Nat) (μ : St) (w s : Int), μ 24 0 ≤ snF f μ w s 24 0 ∧ snF f μ w s 24 0 ≤ μ 24 0 + f
  | 0, μ, w, s => by unfold snF; omega
  | f + 1, μ, w, s => by
    rw [snF_s]; split
    · have := snF_bd f (mSay μ (w / s % 10 + 48)) w (s / 10)
      rw [mSay_24] at this; omega
    · omega
theorem sn_o (μ : St) (z : Int) (g : Nat) (h : g ≠ 23 ∧ g ≠ 24) : sn μ z g = μ g := by
  unfold sn; rw [snF_o _ _ _ _ _ h]; split
  · exact mSay_o _ _ _ h
  · rfl
theorem sn_bd (μ : St) (z : Int) : μ 24 0 ≤ sn μ z 24 0 ∧ sn μ z 24 0 ≤ μ 24 0 + 8 := by
  have h := snF_bd 7 (if z < 0 then mSay μ 45 else μ) ((z.natAbs : Nat) : Int) (scF 6 1 ((z.natAbs : Nat) : Int))
  unfold sn
  split at h
  · rw [if_pos (by assumption)]; rw [mSay_24] at h; omega
  · rw [if_neg (by assumption)]; omega
def snL (μ : St) (q : Int) : St := mSay (sn (mSay (sn (mSay (sn (mSay μ 112) q) 32) (μ 6 q)) 32) (μ 7 q)) 10
theorem snL_o (μ : St) (q : Int) (g : Nat) (h : g ≠ 23 ∧ g ≠ 24) : snL μ q g = μ g := by
  unfold snL; rw [mSay_o _ _ _ h, sn_o _ _ _ h, mSay_o _ _ _ h, sn_o _ _ _ h, mSay_o _ _ _ h, sn_o _ _ _ h, mSay_o _ _ _ h]
theorem snL_bd (μ : St) (q : Int) : μ 24 0 ≤ snL μ q 24 0 ∧ snL μ q 24 0 ≤ μ 24 0 + 28 := by
  unfold snL
  rw [mSay_24]
  have a := sn_bd (mSay (sn (mSay (sn (mSay μ 112) q) 32) (μ 6 q)) 32) (μ 7 q)
  rw [mSay_24] at a
  have b := sn_bd (mSay (sn (mSay μ 112) q) 32) (μ 6 q)
  rw [mSay_24] at b
  have c := sn_bd (mSay μ 112) q
  rw [mSay_24] at c
  omega
/-- the text of the first n lines -/
def mtF (μ : St) : Nat → St
  | 0 => up (up μ 0 0 0) 24 0 0
  | n + 1 => snL (mtF μ n) (plc (mtF μ n) n)
theorem mtF_o (μ : St) (n g : Nat) (h : g ≠ 0 ∧ g ≠ 23 ∧ g ≠ 24) : mtF μ n g = μ g := by
  induction n with
  | zero => unfold mtF; rw [up_f _ _ _ h.2.2, up_f _ _ _ h.1]
  | succ n ih => unfold mtF; rw [snL_o _ _ _ h.2, ih]
theorem mtF_bd (μ : St) (n : Nat) : 0 ≤ mtF μ n 24 0 ∧ mtF μ n 24 0 ≤ n * 28 := by
  induction n with
  | zero => unfold mtF; rw [up_s]; omega
  | succ n ih => unfold mtF; have := snL_bd (mtF μ n) (plc (mtF μ n) n); omega
def mTx (μ : St) : St := mtF μ (μ 17 0).toNat
def mTxR (μ : St) (i : Int) : Int := if i < 0 then 0 else if i < mTx μ 24 0 then mTx μ 23 i else -1
def mTxS (μ : St) (i : Int) : St := if i < 0 then up μ 0 0 1 else mTx μ
theorem plF_in (μ : St) (k : Int) : ∀ (f : Nat) (i : Int), 0 ≤ i → plF μ k f i = -1 ∨ ∃ j, 0 ≤ j ∧ j < i + f ∧ plF μ k f i = μ 18 j
  | 0, i, h => Or.inl rfl
  | f + 1, i, h => by
    rw [plF_s]
    split
    · exact Or.inr ⟨i, h, by omega, rfl⟩
    · rcases plF_in μ k f (i + 1) (by omega) with q | ⟨j, h1, h2, h3⟩
      · exact Or.inl q
      · exact Or.inr ⟨j, h1, by omega, h3⟩
