/-! the search: clashes, nets, the descent -/
theorem up_P {P : Int → Prop} (σ : St) (f : Nat) (i v : Int) (h1 : P v) (h2 : ∀ j, P (σ f j)) (j : Int) : P (up σ f i v f j) := by
  by_cases q : j = i
  · rw [q, up_s]; exact h1
  · rw [up_n _ _ _ q]; exact h2 j
theorem IS_fill {σ : St} (hS : IS σ) : IS (fillA σ 14 24 0) := by
  have e : ∀ g, g ≠ 14 → fillA σ 14 24 0 g = σ g := fun g h => by funext j; unfold fillA; rw [if_neg (fun q => h q.1)]
  refine ⟨by rw [e 17 (by decide)]; exact hS.1, by rw [e 11 (by decide)]; exact hS.2.1, by rw [e 12 (by decide)]; exact hS.2.2.1, by rw [e 13 (by decide)]; exact hS.2.2.2.1, fun j => ?_⟩
  unfold fillA
  split
  · exact ⟨by decide, by decide⟩
  · exact hS.2.2.2.2 j
theorem fillA_o (σ : St) (f : Nat) (n v : Int) {g : Nat} (h : g ≠ f) : fillA σ f n v g = σ g := by
  funext j; unfold fillA; rw [if_neg (fun q => h q.1)]
def dsL (r : St → Int → Int → Int → St) (d w bl : Int) : Nat → Int → St → St
  | 0, _, σ => σ
  | n + 1, t, σ => dsL r d w bl n (t + 1) (if zB bl t then σ else r (up σ 15 d (σ 12 t)) (d + 1) (w + σ 13 t) (zOr bl (σ 14 t)))
theorem dsL_s (r : St → Int → Int → Int → St) (d w bl : Int) (n : Nat) (t : Int) (σ : St) : dsL r d w bl (n + 1) t σ = dsL r d w bl n (t + 1) (if zB bl t then σ else r (up σ 15 d (σ 12 t)) (d + 1) (w + σ 13 t) (zOr bl (σ 14 t))) := rfl
def ds : Nat → St → Int → Int → Int → St
  | 0, σ, d, w, bl => if w + mw σ d bl ≤ σ 18 0 then σ else kp σ w
  | f + 1, σ, d, w, bl => if w + mw σ d bl ≤ σ 18 0 then σ else ds f (up (dsL (ds f) d w bl (σ 11 d).toNat (d * 3) σ) 15 d (-1)) (d + 1) w bl
theorem ds_s (f : Nat) (σ : St) (d w bl : Int) : ds (f + 1) σ d w bl = if w + mw σ d bl ≤ σ 18 0 then σ else ds f (up (dsL (ds f) d w bl (σ 11 d).toNat (d * 3) σ) 15 d (-1)) (d + 1) w bl := rfl
/-- what stays over a descent -/
def Dk (σ τ : St) : Prop := (∀ g, g ≠ 15 → g ≠ 16 → g ≠ 18 → τ g = σ g) ∧ -1 ≤ τ 18 0 ∧ τ 18 0 ≤ 64000008
theorem Dk.IS {σ τ : St} (h : Dk σ τ) (hS : IS σ) : IS τ := IS_of (fun g hg => h.1 g (by omega) (by omega) (by omega)) hS
def chA (σ : St) (mo : Int) : St := mkC (lkN σ mo)
def chS (σ : St) (mo : Int) : St := ds (chA σ mo 17 0).toNat (up (chA σ mo) 18 0 (wp0 (chA σ mo) - 1)) 0 0 0
def xzN (a t : Int) : Int := ((a.toNat &&& (4095 ^^^ t.toNat) : Nat) : Int)
theorem andn_z {a t : Int} (ha : 0 ≤ a ∧ a < 4096) (ht : 0 ≤ t) : zI a &&& (zI t ^^^ zI (-1)) = zI (xzN a t) := by
  rw [zI_pos ha.1, zI_pos ht]
  unfold xzN
  rw [← zI_nI]
  have hA : a.toNat < 2 ^ 12 := by omega
  generalize a.toNat = A at hA ⊢
  generalize t.toNat = T
  apply Int32.toBitVec_inj.mp
  show BitVec.ofNat 32 A &&& (BitVec.ofNat 32 T ^^^ BitVec.allOnes 32) = BitVec.ofNat 32 (A &&& (4095 ^^^ T))
  apply BitVec.eq_of_getLsbD_eq
  intro i hi
  simp only [BitVec.getLsbD_and, BitVec.getLsbD_xor, BitVec.getLsbD_ofNat, BitVec.getLsbD_allOnes, hi, decide_true, Bool.true_and, Nat.testBit_and, Nat.testBit_xor]
  by_cases h12 : i < 12
  · rw [show Nat.testBit 4095 i = true from by rw [show (4095 : Nat) = 2 ^ 12 - 1 from rfl, Nat.testBit_two_pow_sub_one]; simp [h12]]
    cases A.testBit i <;> cases T.testBit i <;> rfl
  · rw [Nat.testBit_lt_two_pow (Nat.lt_of_lt_of_le hA (Nat.pow_le_pow_right (by decide) (by omega)))]
    rfl
section ZN
variable {p : Program} {l : Launch} {e : Env} {R : Room} {s : State} {m : MethodId} {args : Array Value} {below : List Frame} {meth : Method} {c : Code} {H : Heap} {locs : List Loc} {cells slots : Nat} {Q : State → Prop}
theorem z_andn {cc : ByteArray} {pc : Nat} {ls : Array Slot} {rest : List Value} {a t : Int} (hx : p.tables.exec = Jvm.exec) (hb : c.code = cc) (d : decode cc pc = .ok (.iand, 1)) (h : (0 ≤ a ∧ a < 4096) ∧ 0 ≤ t) (k : W p l e R s m args below meth c H locs cells slots Q (F0 m (pc + 1) ls (.int (zI (xzN a t)) :: rest))) : W p l e R s m args below meth c H locs cells slots Q (F0 m pc ls (.int (zI t ^^^ zI (-1)) :: .int (zI a) :: rest)) := lv_iand hx hb d (by rw [andn_z h.1 h.2]; exact k)
end ZN
theorem xzN_bd {a t : Int} (ha : 0 ≤ a ∧ a < 4096) : 0 ≤ xzN a t ∧ xzN a t < 4096 := by
  unfold xzN
  have := Nat.and_le_left (n := a.toNat) (m := 4095 ^^^ t.toNat)
  omega
def ex : Nat → St → Int → Int → St
  | 0, σ, _, t => if σ 42 0 ≤ popc t then σ else up (up σ 41 0 t) 42 0 (popc t)
  | f + 1, σ, n, t => if σ 42 0 ≤ popc t then σ else if zB t n ∨ xzN (σ 40 n) t = 0 then ex f σ (n + 1) t else ex f (ex f σ (n + 1) (zOr t ((2 ^ n.toNat : Nat) : Int))) (n + 1) (zOr t (σ 40 n))
theorem ex_s (f : Nat) (σ : St) (n t : Int) : ex (f + 1) σ n t = if σ 42 0 ≤ popc t then σ else if zB t n ∨ xzN (σ 40 n) t = 0 then ex f σ (n + 1) t else ex f (ex f σ (n + 1) (zOr t ((2 ^ n.toNat : Nat) : Int))) (n + 1) (zOr t (σ 40 n)) := rfl
/-- what stays over an explanation -/
def Ek (σ τ : St) : Prop := (∀ g, g ≠ 41 → g ≠ 42 → τ g = σ g) ∧ (0 ≤ τ 42 0 ∧ τ 42 0 ≤ 13) ∧ (0 ≤ τ 41 0 ∧ τ 41 0 < 4096)
def smC (σ : St) : St := if σ 43 0 = 0 then σ else up (ex 12 (up σ 42 0 13) 0 0) 43 0 0
def sDep (d : Int) : Int := d * 8000001
