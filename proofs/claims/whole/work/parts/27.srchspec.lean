/-! the search -/
def IS (σ : St) : Prop := (0 ≤ σ 17 0 ∧ σ 17 0 ≤ 8) ∧ (∀ i, 0 ≤ σ 11 i ∧ σ 11 i ≤ 3) ∧ (∀ i, 0 ≤ σ 12 i ∧ σ 12 i ≤ 35) ∧ (∀ i, 0 ≤ σ 13 i ∧ σ 13 i ≤ 8000001) ∧ (∀ i, 0 ≤ σ 14 i ∧ σ 14 i < 16777216)
theorem IS_of {σ τ : St} (h : ∀ g, (g = 11 ∨ g = 12 ∨ g = 13 ∨ g = 14 ∨ g = 17) → τ g = σ g) (hI : IS σ) : IS τ := by
  unfold IS at *
  rw [h 11 (by decide), h 12 (by decide), h 13 (by decide), h 14 (by decide), h 17 (by decide)]
  exact hI
/-- the best free slot among the next f, from t on -/
def bsF (σ : St) (bl : Int) : Nat → Int → Int → Int
  | 0, _, fd => fd
  | f + 1, t, fd => bsF σ bl f (t + 1) (if ¬ zB bl t ∧ (fd = -1 ∨ σ 13 fd < σ 13 t) then t else fd)
theorem bsF_s (σ : St) (bl : Int) (f : Nat) (t fd : Int) : bsF σ bl (f + 1) t fd = bsF σ bl f (t + 1) (if ¬ zB bl t ∧ (fd = -1 ∨ σ 13 fd < σ 13 t) then t else fd) := rfl
def bs (σ : St) (i bl : Int) : Int := bsF σ bl (σ 11 i).toNat (i * 3) (-1)
theorem bsF_bd (σ : St) (bl : Int) : ∀ (f : Nat) (t fd lo : Int), lo ≤ t → (fd = -1 ∨ (lo ≤ fd ∧ fd < t)) → bsF σ bl f t fd = -1 ∨ (lo ≤ bsF σ bl f t fd ∧ bsF σ bl f t fd < t + f)
  | 0, t, fd, lo, h0, h => by unfold bsF; omega
  | f + 1, t, fd, lo, h0, h => by
    unfold bsF
    split
    · have := bsF_bd σ bl f (t + 1) t lo (by omega) (by omega); omega
    · have := bsF_bd σ bl f (t + 1) fd lo (by omega) (by omega); omega
theorem bs_bd {σ : St} (hS : IS σ) (i bl : Int) (hi : 0 ≤ i ∧ i < 8) : bs σ i bl = -1 ∨ (i * 3 ≤ bs σ i bl ∧ bs σ i bl < i * 3 + σ 11 i) := by
  have h := hS.2.1 i
  have := bsF_bd σ bl (σ 11 i).toNat (i * 3) (-1) (i * 3) (by omega) (by omega)
  unfold bs; omega
def mwF (σ : St) (bl : Int) : Nat → Int → Int → Int
  | 0, _, t => t
  | f + 1, k, t => mwF σ bl f (k + 1) (if bs σ k bl = -1 then t else t + σ 13 (bs σ k bl))
theorem mwF_s (σ : St) (bl : Int) (f : Nat) (k t : Int) : mwF σ bl (f + 1) k t = mwF σ bl f (k + 1) (if bs σ k bl = -1 then t else t + σ 13 (bs σ k bl)) := rfl
def mw (σ : St) (d bl : Int) : Int := mwF σ bl (σ 17 0 - d).toNat d 0
theorem mwF_bd {σ : St} (hS : IS σ) (bl : Int) : ∀ (f : Nat) (k t : Int), t ≤ mwF σ bl f k t ∧ mwF σ bl f k t ≤ t + f * 8000001
  | 0, k, t => by unfold mwF; omega
  | f + 1, k, t => by
    unfold mwF
    have h13 := hS.2.2.2.1 (bs σ k bl)
    split
    · have := mwF_bd hS bl f (k + 1) t; omega
    · have := mwF_bd hS bl f (k + 1) (t + σ 13 (bs σ k bl)); omega
def wpF (σ : St) : Nat → Int → Int → Int → Int
  | 0, _, t, _ => t
  | f + 1, i, t, bl => if bs σ i bl = -1 then wpF σ f (i + 1) t bl else wpF σ f (i + 1) (t + σ 13 (bs σ i bl)) (zOr bl (σ 14 (bs σ i bl)))
theorem wpF_s (σ : St) (f : Nat) (i t bl : Int) : wpF σ (f + 1) i t bl = if bs σ i bl = -1 then wpF σ f (i + 1) t bl else wpF σ f (i + 1) (t + σ 13 (bs σ i bl)) (zOr bl (σ 14 (bs σ i bl))) := rfl
def wp0 (σ : St) : Int := wpF σ (σ 17 0).toNat 0 0 0
theorem wpF_bd {σ : St} (hS : IS σ) : ∀ (f : Nat) (i t bl : Int), t ≤ wpF σ f i t bl ∧ wpF σ f i t bl ≤ t + f * 8000001
  | 0, i, t, bl => by unfold wpF; omega
  | f + 1, i, t, bl => by
    unfold wpF
    have h13 := hS.2.2.2.1 (bs σ i bl)
    split
    · have := wpF_bd hS f (i + 1) t bl; omega
    · have := wpF_bd hS f (i + 1) (t + σ 13 (bs σ i bl)) (zOr bl (σ 14 (bs σ i bl))); omega
def kp (σ : St) (w : Int) : St := cpS (up σ 18 0 w) 15 16 8
def mcN (t : Int) : Nat → Int → St → St
  | 0, _, σ => σ
  | n + 1, u, σ => mcN t n (u + 1) (if canB σ (σ 12 t) (σ 12 u) then σ else up σ 14 t (zOr (σ 14 t) ((2 ^ u.toNat : Nat) : Int)))
theorem mcN_s (t : Int) (n : Nat) (u : Int) (σ : St) : mcN t (n + 1) u σ = mcN t n (u + 1) (if canB σ (σ 12 t) (σ 12 u) then σ else up σ 14 t (zOr (σ 14 t) ((2 ^ u.toNat : Nat) : Int))) := rfl
def mcA (t : Int) : Nat → Int → St → St
  | 0, _, σ => σ
  | n + 1, k, σ => mcA t n (k + 1) (mcN t (σ 11 k).toNat (k * 3) σ)
theorem mcA_s (t : Int) (n : Nat) (k : Int) (σ : St) : mcA t (n + 1) k σ = mcA t n (k + 1) (mcN t (σ 11 k).toNat (k * 3) σ) := rfl
def mcB (i : Int) : Nat → Int → St → St
  | 0, _, σ => σ
  | n + 1, t, σ => mcB i n (t + 1) (mcA t (σ 17 0 - (i + 1)).toNat (i + 1) σ)
theorem mcB_s (i : Int) (n : Nat) (t : Int) (σ : St) : mcB i (n + 1) t σ = mcB i n (t + 1) (mcA t (σ 17 0 - (i + 1)).toNat (i + 1) σ) := rfl
def mcC : Nat → Int → St → St
  | 0, _, σ => σ
  | n + 1, i, σ => mcC n (i + 1) (mcB i (σ 11 i).toNat (i * 3) σ)
theorem mcC_s (n : Nat) (i : Int) (σ : St) : mcC (n + 1) i σ = mcC n (i + 1) (mcB i (σ 11 i).toNat (i * 3) σ) := rfl
def mkC (σ : St) : St := mcC (σ 17 0).toNat 0 (fillA σ 14 24 0)
def lnP (n : Int) : Nat → Int → St → St
  | 0, _, σ => σ
  | f + 1, j, σ => lnP n f (j + 1) (up (up σ 12 (σ 17 0 * 3 + j) (σ 2 (n * 3 + j))) 13 (σ 17 0 * 3 + j) (8000001 - σ 6 (σ 2 (n * 3 + j))))
theorem lnP_s (n : Int) (f : Nat) (j : Int) (σ : St) : lnP n (f + 1) j σ = lnP n f (j + 1) (up (up σ 12 (σ 17 0 * 3 + j) (σ 2 (n * 3 + j))) 13 (σ 17 0 * 3 + j) (8000001 - σ 6 (σ 2 (n * 3 + j)))) := rfl
def lnI (σ : St) : St := up σ 17 0 (σ 17 0 + 1)
def lnB (σ : St) (n : Int) : St := lnI (lnP n (σ 1 n).toNat 0 (up (up σ 10 (σ 17 0) n) 11 (σ 17 0) (σ 1 n)))
def lnF (mo : Int) : Nat → Int → St → St
  | 0, _, σ => σ
  | f + 1, n, σ => lnF mo f (n + 1) (if ¬ σ 0 n = 0 ∧ σ 17 0 < mo ∧ σ 17 0 < 8 then lnB σ n else σ)
theorem lnF_s (mo : Int) (f : Nat) (n : Int) (σ : St) : lnF mo (f + 1) n σ = lnF mo f (n + 1) (if ¬ σ 0 n = 0 ∧ σ 17 0 < mo ∧ σ 17 0 < 8 then lnB σ n else σ) := rfl
def lkN (σ : St) (mo : Int) : St := lnF mo (σ 7 0).toNat 0 (up σ 17 0 0)
