/-! the reference: sets -/
theorem zAnd_one {v : Int} (h : 0 ≤ v) : zAnd v 1 = v % 2 := by
  unfold zAnd
  show ((v.toNat &&& 1 : Nat) : Int) = _
  rw [Nat.and_one_is_mod]; omega
theorem shr_one {v : Int} (h : 0 ≤ v) : ((v.toNat / 2 ^ (1 : Int).toNat : Nat) : Int) = v / 2 := by
  show ((v.toNat / 2 ^ 1 : Nat) : Int) = _
  omega
theorem popN_ext : ∀ (k n : Nat), n < 2 ^ k → popN (k + 1) n = popN k n
  | 0, n, h => by have : n = 0 := by omega
                  subst this; rfl
  | k + 1, n, h => by
    have := popN_ext k (n / 2) (by rw [Nat.pow_succ] at h; omega)
    unfold popN
    rw [this]
theorem popc_step {v : Int} (h : 0 ≤ v ∧ v < 4096) : popc v = v % 2 + popc (v / 2) := by
  unfold popc
  have e : popN 12 v.toNat = v.toNat % 2 + popN 11 (v.toNat / 2) := rfl
  have e2 := popN_ext 11 (v.toNat / 2) (by omega)
  have e3 : (v / 2).toNat = v.toNat / 2 := by omega
  rw [e, e3, e2]; omega
theorem popc_0 : popc 0 = 0 := by decide
def exB (μ : St) (a : Int) : Nat → Int → Bool
  | 0, _ => true
  | f + 1, n => if ¬ zB a n ∧ ¬ xzN (μ 21 n) a = 0 then false else exB μ a f (n + 1)
theorem exB_s (μ : St) (a : Int) (f : Nat) (n : Int) : exB μ a (f + 1) n = if ¬ zB a n ∧ ¬ xzN (μ 21 n) a = 0 then false else exB μ a f (n + 1) := rfl
abbrev exPl (μ : St) (a : Int) : Prop := exB μ a (μ 1 0).toNat 0 = true
def zXor (a b : Int) : Int := ((a.toNat ^^^ b.toNat : Nat) : Int)
theorem nI_xor (a b : Nat) : nI a ^^^ nI b = nI (a ^^^ b) := by
  apply Int32.toBitVec_inj.mp
  show BitVec.ofNat 32 a ^^^ BitVec.ofNat 32 b = BitVec.ofNat 32 (a ^^^ b)
  apply BitVec.eq_of_getLsbD_eq
  intro i hi
  simp [Nat.testBit_xor, hi]
section ZX
variable {p : Program} {l : Launch} {e : Env} {R : Room} {s : State} {m : MethodId} {args : Array Value} {below : List Frame} {meth : Method} {c : Code} {H : Heap} {locs : List Loc} {cells slots : Nat} {Q : State → Prop}
theorem z_ixor {cc : ByteArray} {pc : Nat} {ls : Array Slot} {rest : List Value} {a b : Int} (hx : p.tables.exec = Jvm.exec) (hb : c.code = cc) (d : decode cc pc = .ok (.ixor, 1)) (h : 0 ≤ a ∧ 0 ≤ b) (k : W p l e R s m args below meth c H locs cells slots Q (F0 m (pc + 1) ls (.int (zI (zXor a b)) :: rest))) : W p l e R s m args below meth c H locs cells slots Q (F0 m pc ls (.int (zI b) :: .int (zI a) :: rest)) := lv_ixor hx hb d (by rw [zI_pos h.1, zI_pos h.2, nI_xor]; exact k)
end ZX
theorem zXor_bd {a b : Int} (ha : 0 ≤ a ∧ a < 4096) (hb : 0 ≤ b ∧ b < 4096) : 0 ≤ zXor a b ∧ zXor a b < 4096 := by
  unfold zXor
  have := Nat.xor_lt_two_pow (x := a.toNat) (y := b.toNat) (n := 12) (by omega) (by omega)
  omega
theorem bits_0 {d : Int} (h : 0 ≤ d ∧ d < 4096) (hb : ∀ j, 0 ≤ j → j < 12 → ¬ zB d j) : d = 0 := by
  have : d.toNat = 0 := by
    apply Nat.eq_of_testBit_eq
    intro i
    rw [Nat.zero_testBit]
    by_cases hi : i < 12
    · have := hb i (by omega) (by omega)
      unfold zB at this
      simpa using this
    · exact Nat.testBit_lt_two_pow (Nat.lt_of_lt_of_le (show d.toNat < 2 ^ 12 by omega) (Nat.pow_le_pow_right (by decide) (by omega)))
  omega
theorem zXor_0 {a b : Int} (ha : 0 ≤ a) (hb : 0 ≤ b) (h : zXor a b = 0) : a = b := by
  unfold zXor at h
  have h2 : a.toNat ^^^ b.toNat = 0 := by omega
  have h3 : a.toNat = b.toNat := by
    apply Nat.eq_of_testBit_eq
    intro i
    have := congrArg (fun z => z.testBit i) h2
    simp only [Nat.testBit_xor, Nat.zero_testBit] at this
    revert this
    cases a.toNat.testBit i <;> cases b.toNat.testBit i <;> simp
  omega
def lbF (d : Int) : Nat → Int → Int
  | 0, i => i
  | f + 1, i => if zB d i then i else lbF d f (i + 1)
theorem lbF_s (d : Int) (f : Nat) (i : Int) : lbF d (f + 1) i = if zB d i then i else lbF d f (i + 1) := rfl
abbrev cmF (a b : Int) : Prop := zB a (lbF (zXor a b) 12 0)
abbrev ssP (μ : St) (v t : Int) : Prop := exPl μ v ∧ (popc v < popc t ∨ (popc v = popc t ∧ ¬ v = t ∧ cmF v t))
def ssF (μ : St) : Nat → Int → Int → Int
  | 0, _, t => t
  | f + 1, v, t => ssF μ f (v + 1) (if ssP μ v t then v else t)
theorem ssF_s (μ : St) (f : Nat) (v t : Int) : ssF μ (f + 1) v t = ssF μ f (v + 1) (if ssP μ v t then v else t) := rfl
def suS (μ : St) : Int := ssF μ (2 ^ (μ 1 0).toNat) 0 4095
theorem ssF_bd (μ : St) : ∀ (f : Nat) (v t : Int), (0 ≤ v ∧ v + f ≤ 4096) → (0 ≤ t ∧ t < 4096) → 0 ≤ ssF μ f v t ∧ ssF μ f v t < 4096
  | 0, v, t, _, h => h
  | f + 1, v, t, hv, h => by
    rw [ssF_s]
    apply ssF_bd μ f
    · omega
    · split
      · omega
      · exact h
theorem suS_bd {μ : St} (hI : 0 ≤ μ 1 0 ∧ μ 1 0 ≤ 12) : 0 ≤ suS μ ∧ suS μ < 4096 := by
  have h := Nat.pow_le_pow_right (n := 2) (by decide) (show (μ 1 0).toNat ≤ 12 by omega)
  exact ssF_bd μ _ 0 4095 (by have : (2 : Nat) ^ 12 = 4096 := rfl
                              omega) (by decide)
abbrev fOk (μ : St) (r : Int) : Prop := 0 ≤ r ∧ r / 16 < μ 1 0 ∧ r % 16 < μ 1 0
def mFail (μ : St) (r : Int) : St := if ¬ fOk μ r then up μ 0 0 1 else if r / 16 = r % 16 ∨ zB (μ 21 (r / 16)) (r % 16) then up μ 0 0 0 else
  up (up (up μ 0 0 0) 21 (r / 16) (zOr (μ 21 (r / 16)) ((2 ^ (r % 16).toNat : Nat) : Int))) 21 (r % 16) (zOr (up (up μ 0 0 0) 21 (r / 16) (zOr (μ 21 (r / 16)) ((2 ^ (r % 16).toNat : Nat) : Int)) 21 (r % 16)) ((2 ^ (r / 16).toNat : Nat) : Int))
