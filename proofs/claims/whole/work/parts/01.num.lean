/-! ints and longs by their whole number -/
def zI (z : Int) : Int32 := Int32.ofInt z
def zL (z : Int) : Int64 := Int64.ofInt z
abbrev r32 (z : Int) : Prop := -2147483648 ≤ z ∧ z < 2147483648
abbrev r64 (z : Int) : Prop := -9223372036854775808 ≤ z ∧ z < 9223372036854775808
theorem zI_t {z : Int} (h : r32 z) : (zI z).toInt = z := Int32.toInt_ofInt_of_le h.1 h.2
theorem zL_t {z : Int} (h : r64 z) : (zL z).toInt = z := Int64.toInt_ofInt_of_le h.1 h.2
theorem zI_of (x : Int32) : zI x.toInt = x := Int32.ofInt_toInt x
theorem zL_of (x : Int64) : zL x.toInt = x := Int64.ofInt_toInt x
theorem zI_r (x : Int32) : r32 x.toInt := ⟨x.le_toInt, x.toInt_lt⟩
theorem zL_r (x : Int64) : r64 x.toInt := ⟨x.le_toInt, x.toInt_lt⟩
theorem zI_ex (x : Int32) : ∃ z : Int, r32 z ∧ x = zI z := ⟨x.toInt, zI_r x, (zI_of x).symm⟩
theorem zL_ex (x : Int64) : ∃ z : Int, r64 z ∧ x = zL z := ⟨x.toInt, zL_r x, (zL_of x).symm⟩
theorem zI_add (a b : Int) : zI a + zI b = zI (a + b) := (Int32.ofInt_add a b).symm
theorem zI_sub (a b : Int) : zI a - zI b = zI (a - b) := (Int32.ofInt_sub a b).symm
theorem zI_mul (a b : Int) : zI a * zI b = zI (a * b) := (Int32.ofInt_mul a b).symm
theorem zI_neg (a : Int) : -zI a = zI (-a) := (Int32.ofInt_neg a).symm
theorem zL_add (a b : Int) : zL a + zL b = zL (a + b) := (Int64.ofInt_add a b).symm
theorem zL_sub (a b : Int) : zL a - zL b = zL (a - b) := (Int64.ofInt_sub a b).symm
theorem zL_mul (a b : Int) : zL a * zL b = zL (a * b) := (Int64.ofInt_mul a b).symm
theorem zL_neg (a : Int) : -zL a = zL (-a) := (Int64.ofInt_neg a).symm
theorem zI_lt {a b : Int} (ha : r32 a) (hb : r32 b) : zI a < zI b ↔ a < b := by rw [Int32.lt_iff_toInt_lt, zI_t ha, zI_t hb]
theorem zI_le {a b : Int} (ha : r32 a) (hb : r32 b) : zI a ≤ zI b ↔ a ≤ b := by rw [Int32.le_iff_toInt_le, zI_t ha, zI_t hb]
theorem zI_eq {a b : Int} (ha : r32 a) (hb : r32 b) : zI a = zI b ↔ a = b := by rw [← Int32.toInt_inj, zI_t ha, zI_t hb]
theorem zL_lt {a b : Int} (ha : r64 a) (hb : r64 b) : zL a < zL b ↔ a < b := by rw [Int64.lt_iff_toInt_lt, zL_t ha, zL_t hb]
theorem zL_le {a b : Int} (ha : r64 a) (hb : r64 b) : zL a ≤ zL b ↔ a ≤ b := by rw [Int64.le_iff_toInt_le, zL_t ha, zL_t hb]
theorem zL_eq {a b : Int} (ha : r64 a) (hb : r64 b) : zL a = zL b ↔ a = b := by rw [← Int64.toInt_inj, zL_t ha, zL_t hb]
theorem zI_0 : (0 : Int32) = zI 0 := rfl
theorem zL_0 : (0 : Int64) = zL 0 := rfl
theorem zI_lt0 {a : Int} (ha : r32 a) : zI a < 0 ↔ a < 0 := zI_lt (b := 0) ha (by decide)
theorem zI_le0 {a : Int} (ha : r32 a) : zI a ≤ 0 ↔ a ≤ 0 := zI_le (b := 0) ha (by decide)
theorem zI_ge0 {a : Int} (ha : r32 a) : 0 ≤ zI a ↔ 0 ≤ a := zI_le (a := 0) (by decide) ha
theorem zI_gt0 {a : Int} (ha : r32 a) : 0 < zI a ↔ 0 < a := zI_lt (a := 0) (by decide) ha
theorem zI_eq0 {a : Int} (ha : r32 a) : zI a = 0 ↔ a = 0 := zI_eq (b := 0) ha (by decide)
theorem zL_eq0 {a : Int} (ha : r64 a) : zL a = 0 ↔ a = 0 := zL_eq (b := 0) ha (by decide)
theorem zI_L {a : Int} (ha : r32 a) : (zI a).toInt64 = zL a := Int64.toInt_inj.mp (by rw [Int32.toInt_toInt64, zI_t ha, zL_t ⟨by omega, by omega⟩])
theorem zL_I (a : Int) : (zL a).toInt32 = zI a := Int64.toInt32_ofInt
theorem zI_cl {a : Int} (h0 : 0 ≤ a) (h1 : a < 2147483648) : (zI a).toNatClampNeg = a.toNat := Int32.toNatClampNeg_ofInt_of_le (by omega) h1
theorem zI_in {a : Int} {n : Nat} (h0 : 0 ≤ a) (h1 : a < n) (hn : n < 2147483648) : vp_in (zI a) n := by
  rw [vp_in_iff, zI_t ⟨by omega, by omega⟩]; exact ⟨h0, h1⟩
theorem zI_nI (n : Nat) : nI n = zI (n : Int) := rfl
theorem zL_lN (n : Nat) : lN n = zL (n : Int) := rfl
theorem zI_pos {a : Int} (h : 0 ≤ a) : zI a = nI a.toNat := by
  rw [zI_nI, Int.toNat_of_nonneg h]
theorem zL_pos {a : Int} (h : 0 ≤ a) : zL a = lN a.toNat := by
  rw [zL_lN, Int.toNat_of_nonneg h]
theorem zI_div {a b : Int} (h0 : 0 ≤ a) (ha : a < 2147483648) (hb0 : 0 < b) (hb : b < 2147483648) : zI a / zI b = zI (a / b) := by
  obtain ⟨m, rfl⟩ := Int.eq_ofNat_of_zero_le h0
  obtain ⟨n, rfl⟩ := Int.eq_ofNat_of_zero_le (Int.le_of_lt hb0)
  exact pk_div (by omega) (by omega) (by omega)
theorem zI_rem {a b : Int} (h0 : 0 ≤ a) (ha : a < 2147483648) (hb0 : 0 < b) (hb : b < 2147483648) : zI a - zI a / zI b * zI b = zI (a % b) := by
  obtain ⟨m, rfl⟩ := Int.eq_ofNat_of_zero_le h0
  obtain ⟨n, rfl⟩ := Int.eq_ofNat_of_zero_le (Int.le_of_lt hb0)
  exact pk_rem (by omega) (by omega) (by omega)
theorem zL_div {a b : Int} (h0 : 0 ≤ a) (ha : a < 9223372036854775808) (hb0 : 0 < b) (hb : b < 9223372036854775808) : zL a / zL b = zL (a / b) := by
  obtain ⟨m, rfl⟩ := Int.eq_ofNat_of_zero_le h0
  obtain ⟨n, rfl⟩ := Int.eq_ofNat_of_zero_le (Int.le_of_lt hb0)
  exact pk_lDiv (by omega) (by omega) (by omega)
theorem zL_rem {a b : Int} (h0 : 0 ≤ a) (ha : a < 9223372036854775808) (hb0 : 0 < b) (hb : b < 9223372036854775808) : zL a - zL a / zL b * zL b = zL (a % b) := by
  obtain ⟨m, rfl⟩ := Int.eq_ofNat_of_zero_le h0
  obtain ⟨n, rfl⟩ := Int.eq_ofNat_of_zero_le (Int.le_of_lt hb0)
  exact pk_lRem (by omega) (by omega) (by omega)
/-- a truth as an int -/
def bI (P : Prop) [Decidable P] : Int := if P then 1 else 0
theorem bI_t {P : Prop} [Decidable P] (h : P) : bI P = 1 := if_pos h
theorem bI_f {P : Prop} [Decidable P] (h : ¬ P) : bI P = 0 := if_neg h
theorem bI_01 (P : Prop) [Decidable P] : bI P = 0 ∨ bI P = 1 := by unfold bI; split <;> simp
theorem bI_r (P : Prop) [Decidable P] : 0 ≤ bI P ∧ bI P ≤ 1 := by unfold bI; split <;> simp
theorem bI_0 {P : Prop} [Decidable P] : bI P = 0 ↔ ¬ P := by unfold bI; split <;> simp_all
theorem bI_1 {P : Prop} [Decidable P] : bI P = 1 ↔ P := by unfold bI; split <;> simp_all
theorem bI_cg {P Q : Prop} [Decidable P] [Decidable Q] (h : P ↔ Q) : bI P = bI Q := by unfold bI; simp [h]
section ZR
variable {p : Program} {l : Launch} {e : Env} {R : Room} {s : State} {m : MethodId} {args : Array Value} {below : List Frame} {meth : Method} {c : Code} {H : Heap} {locs : List Loc} {cells slots : Nat} {Q : State → Prop}
variable {cc : ByteArray} {pc : Nat} {ls : Array Slot} {rest : List Value} {a b : Int}
theorem z_ic (hx : p.tables.exec = Jvm.exec) (hb : c.code = cc) {n : Int} (d : decode cc pc = .ok (.iconst n, 1)) (k : W p l e R s m args below meth c H locs cells slots Q (F0 m (pc + 1) ls (.int (zI n) :: rest))) : W p l e R s m args below meth c H locs cells slots Q (F0 m pc ls rest) := lv_iconst hx hb d rfl k
theorem z_bi (hx : p.tables.exec = Jvm.exec) (hb : c.code = cc) {n : Int} (d : decode cc pc = .ok (.bipush n, 2)) (hn : -128 ≤ n ∧ n < 128) (k : W p l e R s m args below meth c H locs cells slots Q (F0 m (pc + 2) ls (.int (zI n) :: rest))) : W p l e R s m args below meth c H locs cells slots Q (F0 m pc ls rest) := lv_bipush hx hb d (Int32.toInt_inj.mp (by rw [Int8.toInt_toInt32, Int8.toInt_ofInt_of_le (by omega) (by omega), zI_t ⟨by omega, by omega⟩])) k
theorem z_si (hx : p.tables.exec = Jvm.exec) (hb : c.code = cc) {n : Int} (d : decode cc pc = .ok (.sipush n, 3)) (hn : -32768 ≤ n ∧ n < 32768) (k : W p l e R s m args below meth c H locs cells slots Q (F0 m (pc + 3) ls (.int (zI n) :: rest))) : W p l e R s m args below meth c H locs cells slots Q (F0 m pc ls rest) := lv_sipush hx hb d (Int32.toInt_inj.mp (by rw [Int16.toInt_toInt32, Int16.toInt_ofInt_of_le (by omega) (by omega), zI_t ⟨by omega, by omega⟩])) k
theorem z_lc0 (hx : p.tables.exec = Jvm.exec) (hb : c.code = cc) (d : decode cc pc = .ok (.lconst 0, 1)) (k : W p l e R s m args below meth c H locs cells slots Q (F0 m (pc + 1) ls (.long (zL 0) :: rest))) : W p l e R s m args below meth c H locs cells slots Q (F0 m pc ls rest) := lv_lconst hx hb d rfl k
theorem z_lc1 (hx : p.tables.exec = Jvm.exec) (hb : c.code = cc) (d : decode cc pc = .ok (.lconst 1, 1)) (k : W p l e R s m args below meth c H locs cells slots Q (F0 m (pc + 1) ls (.long (zL 1) :: rest))) : W p l e R s m args below meth c H locs cells slots Q (F0 m pc ls rest) := lv_lconst hx hb d rfl k
theorem z_iadd (hx : p.tables.exec = Jvm.exec) (hb : c.code = cc) (d : decode cc pc = .ok (.iadd, 1)) (k : W p l e R s m args below meth c H locs cells slots Q (F0 m (pc + 1) ls (.int (zI (a + b)) :: rest))) : W p l e R s m args below meth c H locs cells slots Q (F0 m pc ls (.int (zI b) :: .int (zI a) :: rest)) := lv_iadd hx hb d (by rw [zI_add]; exact k)
theorem z_isub (hx : p.tables.exec = Jvm.exec) (hb : c.code = cc) (d : decode cc pc = .ok (.isub, 1)) (k : W p l e R s m args below meth c H locs cells slots Q (F0 m (pc + 1) ls (.int (zI (a - b)) :: rest))) : W p l e R s m args below meth c H locs cells slots Q (F0 m pc ls (.int (zI b) :: .int (zI a) :: rest)) := lv_isub hx hb d (by rw [zI_sub]; exact k)
theorem z_imul (hx : p.tables.exec = Jvm.exec) (hb : c.code = cc) (d : decode cc pc = .ok (.imul, 1)) (k : W p l e R s m args below meth c H locs cells slots Q (F0 m (pc + 1) ls (.int (zI (a * b)) :: rest))) : W p l e R s m args below meth c H locs cells slots Q (F0 m pc ls (.int (zI b) :: .int (zI a) :: rest)) := lv_imul hx hb d (by rw [zI_mul]; exact k)
theorem z_ladd (hx : p.tables.exec = Jvm.exec) (hb : c.code = cc) (d : decode cc pc = .ok (.ladd, 1)) (k : W p l e R s m args below meth c H locs cells slots Q (F0 m (pc + 1) ls (.long (zL (a + b)) :: rest))) : W p l e R s m args below meth c H locs cells slots Q (F0 m pc ls (.long (zL b) :: .long (zL a) :: rest)) := lv_ladd hx hb d (by rw [zL_add]; exact k)
theorem z_lsub (hx : p.tables.exec = Jvm.exec) (hb : c.code = cc) (d : decode cc pc = .ok (.lsub, 1)) (k : W p l e R s m args below meth c H locs cells slots Q (F0 m (pc + 1) ls (.long (zL (a - b)) :: rest))) : W p l e R s m args below meth c H locs cells slots Q (F0 m pc ls (.long (zL b) :: .long (zL a) :: rest)) := lv_lsub hx hb d (by rw [zL_sub]; exact k)
theorem z_lmul (hx : p.tables.exec = Jvm.exec) (hb : c.code = cc) (d : decode cc pc = .ok (.lmul, 1)) (k : W p l e R s m args below meth c H locs cells slots Q (F0 m (pc + 1) ls (.long (zL (a * b)) :: rest))) : W p l e R s m args below meth c H locs cells slots Q (F0 m pc ls (.long (zL b) :: .long (zL a) :: rest)) := lv_lmul hx hb d (by rw [zL_mul]; exact k)
theorem z_lneg (hx : p.tables.exec = Jvm.exec) (hb : c.code = cc) (d : decode cc pc = .ok (.lneg, 1)) (k : W p l e R s m args below meth c H locs cells slots Q (F0 m (pc + 1) ls (.long (zL (-a)) :: rest))) : W p l e R s m args below meth c H locs cells slots Q (F0 m pc ls (.long (zL a) :: rest)) := lv_lneg hx hb d (by rw [zL_neg]; exact k)
theorem z_idiv (hx : p.tables.exec = Jvm.exec) (hb : c.code = cc) (d : decode cc pc = .ok (.idiv, 1)) (h : (0 ≤ a ∧ a < 2147483648) ∧ 0 < b ∧ b < 2147483648) (k : W p l e R s m args below meth c H locs cells slots Q (F0 m (pc + 1) ls (.int (zI (a / b)) :: rest))) : W p l e R s m args below meth c H locs cells slots Q (F0 m pc ls (.int (zI b) :: .int (zI a) :: rest)) := lv_idiv hx hb d (fun q => by have := (zI_eq0 (a := b) ⟨by omega, by omega⟩).mp q; omega) (by rw [zI_div h.1.1 h.1.2 h.2.1 h.2.2]; exact k)
theorem z_irem (hx : p.tables.exec = Jvm.exec) (hb : c.code = cc) (d : decode cc pc = .ok (.irem, 1)) (h : (0 ≤ a ∧ a < 2147483648) ∧ 0 < b ∧ b < 2147483648) (k : W p l e R s m args below meth c H locs cells slots Q (F0 m (pc + 1) ls (.int (zI (a % b)) :: rest))) : W p l e R s m args below meth c H locs cells slots Q (F0 m pc ls (.int (zI b) :: .int (zI a) :: rest)) := lv_irem hx hb d (fun q => by have := (zI_eq0 (a := b) ⟨by omega, by omega⟩).mp q; omega) (by rw [zI_rem h.1.1 h.1.2 h.2.1 h.2.2]; exact k)
theorem z_ldiv (hx : p.tables.exec = Jvm.exec) (hb : c.code = cc) (d : decode cc pc = .ok (.ldiv, 1)) (h : (0 ≤ a ∧ a < 9223372036854775808) ∧ 0 < b ∧ b < 9223372036854775808) (k : W p l e R s m args below meth c H locs cells slots Q (F0 m (pc + 1) ls (.long (zL (a / b)) :: rest))) : W p l e R s m args below meth c H locs cells slots Q (F0 m pc ls (.long (zL b) :: .long (zL a) :: rest)) := lv_ldiv hx hb d (fun q => by have := (zL_eq0 (a := b) ⟨by omega, by omega⟩).mp q; omega) (by rw [zL_div h.1.1 h.1.2 h.2.1 h.2.2]; exact k)
theorem z_lrem (hx : p.tables.exec = Jvm.exec) (hb : c.code = cc) (d : decode cc pc = .ok (.lrem, 1)) (h : (0 ≤ a ∧ a < 9223372036854775808) ∧ 0 < b ∧ b < 9223372036854775808) (k : W p l e R s m args below meth c H locs cells slots Q (F0 m (pc + 1) ls (.long (zL (a % b)) :: rest))) : W p l e R s m args below meth c H locs cells slots Q (F0 m pc ls (.long (zL b) :: .long (zL a) :: rest)) := lv_lrem hx hb d (fun q => by have := (zL_eq0 (a := b) ⟨by omega, by omega⟩).mp q; omega) (by rw [zL_rem h.1.1 h.1.2 h.2.1 h.2.2]; exact k)
theorem z_i2l (hx : p.tables.exec = Jvm.exec) (hb : c.code = cc) (d : decode cc pc = .ok (.i2l, 1)) (h : r32 a) (k : W p l e R s m args below meth c H locs cells slots Q (F0 m (pc + 1) ls (.long (zL a) :: rest))) : W p l e R s m args below meth c H locs cells slots Q (F0 m pc ls (.int (zI a) :: rest)) := lv_i2l hx hb d (zI_L h) k
theorem z_l2i (hx : p.tables.exec = Jvm.exec) (hb : c.code = cc) (d : decode cc pc = .ok (.l2i, 1)) (k : W p l e R s m args below meth c H locs cells slots Q (F0 m (pc + 1) ls (.int (zI a) :: rest))) : W p l e R s m args below meth c H locs cells slots Q (F0 m pc ls (.long (zL a) :: rest)) := lv_l2i hx hb d (zL_I a) k
-- BRANCH ROWS: if, icmp, lcmp+if; a truth value
theorem z_if_eq (hx : p.tables.exec = Jvm.exec) (hb : c.code = cc) {off : Int} (tgt : Nat) (d : decode cc pc = .ok (.ifCond .eq off, 3)) (h : r32 a) (ht : (pc : Int) + off = (tgt : Int)) (kt : a = 0 → W p l e R s m args below meth c H locs cells slots Q (F0 m tgt ls rest)) (kf : ¬ a = 0 → W p l e R s m args below meth c H locs cells slots Q (F0 m (pc + 3) ls rest)) : W p l e R s m args below meth c H locs cells slots Q (F0 m pc ls (.int (zI a) :: rest)) := lv_if_eq hx hb d ht (fun q => kt ((zI_eq0 h).mp q)) (fun q => kf (fun q2 => q ((zI_eq0 h).mpr q2)))
theorem z_icmp_eq (hx : p.tables.exec = Jvm.exec) (hb : c.code = cc) {off : Int} (tgt : Nat) (d : decode cc pc = .ok (.if_icmp .eq off, 3)) (h1 : r32 a) (h2 : r32 b) (ht : (pc : Int) + off = (tgt : Int)) (kt : a = b → W p l e R s m args below meth c H locs cells slots Q (F0 m tgt ls rest)) (kf : ¬ a = b → W p l e R s m args below meth c H locs cells slots Q (F0 m (pc + 3) ls rest)) : W p l e R s m args below meth c H locs cells slots Q (F0 m pc ls (.int (zI b) :: .int (zI a) :: rest)) := lv_icmp_eq hx hb d ht (fun q => kt ((zI_eq h1 h2).mp q)) (fun q => kf (fun q2 => q ((zI_eq h1 h2).mpr q2)))
theorem z_if_ne (hx : p.tables.exec = Jvm.exec) (hb : c.code = cc) {off : Int} (tgt : Nat) (d : decode cc pc = .ok (.ifCond .ne off, 3)) (h : r32 a) (ht : (pc : Int) + off = (tgt : Int)) (kt : ¬ a = 0 → W p l e R s m args below meth c H locs cells slots Q (F0 m tgt ls rest)) (kf : a = 0 → W p l e R s m args below meth c H locs cells slots Q (F0 m (pc + 3) ls rest)) : W p l e R s m args below meth c H locs cells slots Q (F0 m pc ls (.int (zI a) :: rest)) := lv_if_ne hx hb d ht (fun q => kt (fun q2 => q ((zI_eq0 h).mpr q2))) (fun q => kf ((zI_eq0 h).mp q))
theorem z_icmp_ne (hx : p.tables.exec = Jvm.exec) (hb : c.code = cc) {off : Int} (tgt : Nat) (d : decode cc pc = .ok (.if_icmp .ne off, 3)) (h1 : r32 a) (h2 : r32 b) (ht : (pc : Int) + off = (tgt : Int)) (kt : ¬ a = b → W p l e R s m args below meth c H locs cells slots Q (F0 m tgt ls rest)) (kf : a = b → W p l e R s m args below meth c H locs cells slots Q (F0 m (pc + 3) ls rest)) : W p l e R s m args below meth c H locs cells slots Q (F0 m pc ls (.int (zI b) :: .int (zI a) :: rest)) := lv_icmp_ne hx hb d ht (fun q => kt (fun q2 => q ((zI_eq h1 h2).mpr q2))) (fun q => kf ((zI_eq h1 h2).mp q))
theorem z_if_lt (hx : p.tables.exec = Jvm.exec) (hb : c.code = cc) {off : Int} (tgt : Nat) (d : decode cc pc = .ok (.ifCond .lt off, 3)) (h : r32 a) (ht : (pc : Int) + off = (tgt : Int)) (kt : a < 0 → W p l e R s m args below meth c H locs cells slots Q (F0 m tgt ls rest)) (kf : 0 ≤ a → W p l e R s m args below meth c H locs cells slots Q (F0 m (pc + 3) ls rest)) : W p l e R s m args below meth c H locs cells slots Q (F0 m pc ls (.int (zI a) :: rest)) := lv_if_lt hx hb d ht (fun q => kt ((zI_lt0 h).mp q)) (fun q => kf (by have q3 := mt (zI_lt0 h).mpr q; omega))
theorem z_icmp_lt (hx : p.tables.exec = Jvm.exec) (hb : c.code = cc) {off : Int} (tgt : Nat) (d : decode cc pc = .ok (.if_icmp .lt off, 3)) (h1 : r32 a) (h2 : r32 b) (ht : (pc : Int) + off = (tgt : Int)) (kt : a < b → W p l e R s m args below meth c H locs cells slots Q (F0 m tgt ls rest)) (kf : b ≤ a → W p l e R s m args below meth c H locs cells slots Q (F0 m (pc + 3) ls rest)) : W p l e R s m args below meth c H locs cells slots Q (F0 m pc ls (.int (zI b) :: .int (zI a) :: rest)) := lv_icmp_lt hx hb d ht (fun q => kt ((zI_lt h1 h2).mp q)) (fun q => kf (by have q3 := mt (zI_lt h1 h2).mpr q; omega))
theorem z_if_ge (hx : p.tables.exec = Jvm.exec) (hb : c.code = cc) {off : Int} (tgt : Nat) (d : decode cc pc = .ok (.ifCond .ge off, 3)) (h : r32 a) (ht : (pc : Int) + off = (tgt : Int)) (kt : 0 ≤ a → W p l e R s m args below meth c H locs cells slots Q (F0 m tgt ls rest)) (kf : a < 0 → W p l e R s m args below meth c H locs cells slots Q (F0 m (pc + 3) ls rest)) : W p l e R s m args below meth c H locs cells slots Q (F0 m pc ls (.int (zI a) :: rest)) := lv_if_ge hx hb d ht (fun q => kt ((zI_ge0 h).mp q)) (fun q => kf (by have q3 := mt (zI_ge0 h).mpr q; omega))
theorem z_icmp_ge (hx : p.tables.exec = Jvm.exec) (hb : c.code = cc) {off : Int} (tgt : Nat) (d : decode cc pc = .ok (.if_icmp .ge off, 3)) (h1 : r32 a) (h2 : r32 b) (ht : (pc : Int) + off = (tgt : Int)) (kt : b ≤ a → W p l e R s m args below meth c H locs cells slots Q (F0 m tgt ls rest)) (kf : a < b → W p l e R s m args below meth c H locs cells slots Q (F0 m (pc + 3) ls rest)) : W p l e R s m args below meth c H locs cells slots Q (F0 m pc ls (.int (zI b) :: .int (zI a) :: rest)) := lv_icmp_ge hx hb d ht (fun q => kt ((zI_le h2 h1).mp q)) (fun q => kf (by have q3 := mt (zI_le h2 h1).mpr q; omega))
theorem z_if_gt (hx : p.tables.exec = Jvm.exec) (hb : c.code = cc) {off : Int} (tgt : Nat) (d : decode cc pc = .ok (.ifCond .gt off, 3)) (h : r32 a) (ht : (pc : Int) + off = (tgt : Int)) (kt : 0 < a → W p l e R s m args below meth c H locs cells slots Q (F0 m tgt ls rest)) (kf : a ≤ 0 → W p l e R s m args below meth c H locs cells slots Q (F0 m (pc + 3) ls rest)) : W p l e R s m args below meth c H locs cells slots Q (F0 m pc ls (.int (zI a) :: rest)) := lv_if_gt hx hb d ht (fun q => kt ((zI_gt0 h).mp q)) (fun q => kf (by have q3 := mt (zI_gt0 h).mpr q; omega))
theorem z_icmp_gt (hx : p.tables.exec = Jvm.exec) (hb : c.code = cc) {off : Int} (tgt : Nat) (d : decode cc pc = .ok (.if_icmp .gt off, 3)) (h1 : r32 a) (h2 : r32 b) (ht : (pc : Int) + off = (tgt : Int)) (kt : b < a → W p l e R s m args below meth c H locs cells slots Q (F0 m tgt ls rest)) (kf : a ≤ b → W p l e R s m args below meth c H locs cells slots Q (F0 m (pc + 3) ls rest)) : W p l e R s m args below meth c H locs cells slots Q (F0 m pc ls (.int (zI b) :: .int (zI a) :: rest)) := lv_icmp_gt hx hb d ht (fun q => kt ((zI_lt h2 h1).mp q)) (fun q => kf (by have q3 := mt (zI_lt h2 h1).mpr q; omega))
theorem z_if_le (hx : p.tables.exec = Jvm.exec) (hb : c.code = cc) {off : Int} (tgt : Nat) (d : decode cc pc = .ok (.ifCond .le off, 3)) (h : r32 a) (ht : (pc : Int) + off = (tgt : Int)) (kt : a ≤ 0 → W p l e R s m args below meth c H locs cells slots Q (F0 m tgt ls rest)) (kf : 0 < a → W p l e R s m args below meth c H locs cells slots Q (F0 m (pc + 3) ls rest)) : W p l e R s m args below meth c H locs cells slots Q (F0 m pc ls (.int (zI a) :: rest)) := lv_if_le hx hb d ht (fun q => kt ((zI_le0 h).mp q)) (fun q => kf (by have q3 := mt (zI_le0 h).mpr q; omega))
theorem z_icmp_le (hx : p.tables.exec = Jvm.exec) (hb : c.code = cc) {off : Int} (tgt : Nat) (d : decode cc pc = .ok (.if_icmp .le off, 3)) (h1 : r32 a) (h2 : r32 b) (ht : (pc : Int) + off = (tgt : Int)) (kt : a ≤ b → W p l e R s m args below meth c H locs cells slots Q (F0 m tgt ls rest)) (kf : b < a → W p l e R s m args below meth c H locs cells slots Q (F0 m (pc + 3) ls rest)) : W p l e R s m args below meth c H locs cells slots Q (F0 m pc ls (.int (zI b) :: .int (zI a) :: rest)) := lv_icmp_le hx hb d ht (fun q => kt ((zI_le h1 h2).mp q)) (fun q => kf (by have q3 := mt (zI_le h1 h2).mpr q; omega))
theorem lg_cmp_z {a b : Int} (h1 : r64 a) (h2 : r64 b) : lg_cmp (zL a) (zL b) = zI (if b < a then 1 else if a = b then 0 else -1) := by
  unfold lg_cmp
  simp only [zL_lt h2 h1, zL_eq h1 h2]
  split
  · rfl
  · split <;> rfl
theorem z_lcmp_eq (hx : p.tables.exec = Jvm.exec) (hb : c.code = cc) {off : Int} (tgt : Nat) (d1 : decode cc pc = .ok (.lcmp, 1)) (d : decode cc (pc + 1) = .ok (.ifCond .eq off, 3)) (h1 : r64 a) (h2 : r64 b) (ht : ((pc + 1 : Nat) : Int) + off = (tgt : Int)) (kt : a = b → W p l e R s m args below meth c H locs cells slots Q (F0 m tgt ls rest)) (kf : ¬ a = b → W p l e R s m args below meth c H locs cells slots Q (F0 m (pc + 4) ls rest)) : W p l e R s m args below meth c H locs cells slots Q (F0 m pc ls (.long (zL b) :: .long (zL a) :: rest)) := by
  refine W.lcmp hx hb d1 ?_
  rw [lg_cmp_z h1 h2]
  refine z_if_eq hx hb tgt d (by split <;> (try split) <;> decide) ht (fun q => kt ?_) (fun q => kf ?_)
  · (split at q <;> (try split at q)) <;> omega
  · (split at q <;> (try split at q)) <;> omega
theorem z_lcmp_ne (hx : p.tables.exec = Jvm.exec) (hb : c.code = cc) {off : Int} (tgt : Nat) (d1 : decode cc pc = .ok (.lcmp, 1)) (d : decode cc (pc + 1) = .ok (.ifCond .ne off, 3)) (h1 : r64 a) (h2 : r64 b) (ht : ((pc + 1 : Nat) : Int) + off = (tgt : Int)) (kt : ¬ a = b → W p l e R s m args below meth c H locs cells slots Q (F0 m tgt ls rest)) (kf : a = b → W p l e R s m args below meth c H locs cells slots Q (F0 m (pc + 4) ls rest)) : W p l e R s m args below meth c H locs cells slots Q (F0 m pc ls (.long (zL b) :: .long (zL a) :: rest)) := by
  refine W.lcmp hx hb d1 ?_
  rw [lg_cmp_z h1 h2]
  refine z_if_ne hx hb tgt d (by split <;> (try split) <;> decide) ht (fun q => kt ?_) (fun q => kf ?_)
  · (split at q <;> (try split at q)) <;> omega
  · (split at q <;> (try split at q)) <;> omega
theorem z_lcmp_lt (hx : p.tables.exec = Jvm.exec) (hb : c.code = cc) {off : Int} (tgt : Nat) (d1 : decode cc pc = .ok (.lcmp, 1)) (d : decode cc (pc + 1) = .ok (.ifCond .lt off, 3)) (h1 : r64 a) (h2 : r64 b) (ht : ((pc + 1 : Nat) : Int) + off = (tgt : Int)) (kt : a < b → W p l e R s m args below meth c H locs cells slots Q (F0 m tgt ls rest)) (kf : b ≤ a → W p l e R s m args below meth c H locs cells slots Q (F0 m (pc + 4) ls rest)) : W p l e R s m args below meth c H locs cells slots Q (F0 m pc ls (.long (zL b) :: .long (zL a) :: rest)) := by
  refine W.lcmp hx hb d1 ?_
  rw [lg_cmp_z h1 h2]
  refine z_if_lt hx hb tgt d (by split <;> (try split) <;> decide) ht (fun q => kt ?_) (fun q => kf ?_)
  · (split at q <;> (try split at q)) <;> omega
  · (split at q <;> (try split at q)) <;> omega
theorem z_lcmp_ge (hx : p.tables.exec = Jvm.exec) (hb : c.code = cc) {off : Int} (tgt : Nat) (d1 : decode cc pc = .ok (.lcmp, 1)) (d : decode cc (pc + 1) = .ok (.ifCond .ge off, 3)) (h1 : r64 a) (h2 : r64 b) (ht : ((pc + 1 : Nat) : Int) + off = (tgt : Int)) (kt : b ≤ a → W p l e R s m args below meth c H locs cells slots Q (F0 m tgt ls rest)) (kf : a < b → W p l e R s m args below meth c H locs cells slots Q (F0 m (pc + 4) ls rest)) : W p l e R s m args below meth c H locs cells slots Q (F0 m pc ls (.long (zL b) :: .long (zL a) :: rest)) := by
  refine W.lcmp hx hb d1 ?_
  rw [lg_cmp_z h1 h2]
  refine z_if_ge hx hb tgt d (by split <;> (try split) <;> decide) ht (fun q => kt ?_) (fun q => kf ?_)
  · (split at q <;> (try split at q)) <;> omega
  · (split at q <;> (try split at q)) <;> omega
theorem z_lcmp_gt (hx : p.tables.exec = Jvm.exec) (hb : c.code = cc) {off : Int} (tgt : Nat) (d1 : decode cc pc = .ok (.lcmp, 1)) (d : decode cc (pc + 1) = .ok (.ifCond .gt off, 3)) (h1 : r64 a) (h2 : r64 b) (ht : ((pc + 1 : Nat) : Int) + off = (tgt : Int)) (kt : b < a → W p l e R s m args below meth c H locs cells slots Q (F0 m tgt ls rest)) (kf : a ≤ b → W p l e R s m args below meth c H locs cells slots Q (F0 m (pc + 4) ls rest)) : W p l e R s m args below meth c H locs cells slots Q (F0 m pc ls (.long (zL b) :: .long (zL a) :: rest)) := by
  refine W.lcmp hx hb d1 ?_
  rw [lg_cmp_z h1 h2]
  refine z_if_gt hx hb tgt d (by split <;> (try split) <;> decide) ht (fun q => kt ?_) (fun q => kf ?_)
  · (split at q <;> (try split at q)) <;> omega
  · (split at q <;> (try split at q)) <;> omega
theorem z_lcmp_le (hx : p.tables.exec = Jvm.exec) (hb : c.code = cc) {off : Int} (tgt : Nat) (d1 : decode cc pc = .ok (.lcmp, 1)) (d : decode cc (pc + 1) = .ok (.ifCond .le off, 3)) (h1 : r64 a) (h2 : r64 b) (ht : ((pc + 1 : Nat) : Int) + off = (tgt : Int)) (kt : a ≤ b → W p l e R s m args below meth c H locs cells slots Q (F0 m tgt ls rest)) (kf : b < a → W p l e R s m args below meth c H locs cells slots Q (F0 m (pc + 4) ls rest)) : W p l e R s m args below meth c H locs cells slots Q (F0 m pc ls (.long (zL b) :: .long (zL a) :: rest)) := by
  refine W.lcmp hx hb d1 ?_
  rw [lg_cmp_z h1 h2]
  refine z_if_le hx hb tgt d (by split <;> (try split) <;> decide) ht (fun q => kt ?_) (fun q => kf ?_)
  · (split at q <;> (try split at q)) <;> omega
  · (split at q <;> (try split at q)) <;> omega
theorem z_ifb_eq {P : Prop} [Decidable P] (hx : p.tables.exec = Jvm.exec) (hb : c.code = cc) {off : Int} (tgt : Nat) (d : decode cc pc = .ok (.ifCond .eq off, 3)) (ht : (pc : Int) + off = (tgt : Int)) (kt : ¬ P → W p l e R s m args below meth c H locs cells slots Q (F0 m tgt ls rest)) (kf : P → W p l e R s m args below meth c H locs cells slots Q (F0 m (pc + 3) ls rest)) : W p l e R s m args below meth c H locs cells slots Q (F0 m pc ls (.int (zI (bI P)) :: rest)) :=
  z_if_eq hx hb tgt d ⟨by have := bI_r P; omega, by have := bI_r P; omega⟩ ht (fun q => kt (bI_0.mp q)) (fun q => kf (Decidable.byContradiction fun q2 => q (bI_0.mpr q2)))
theorem z_ifb_ne {P : Prop} [Decidable P] (hx : p.tables.exec = Jvm.exec) (hb : c.code = cc) {off : Int} (tgt : Nat) (d : decode cc pc = .ok (.ifCond .ne off, 3)) (ht : (pc : Int) + off = (tgt : Int)) (kt : P → W p l e R s m args below meth c H locs cells slots Q (F0 m tgt ls rest)) (kf : ¬ P → W p l e R s m args below meth c H locs cells slots Q (F0 m (pc + 3) ls rest)) : W p l e R s m args below meth c H locs cells slots Q (F0 m pc ls (.int (zI (bI P)) :: rest)) :=
  z_if_ne hx hb tgt d ⟨by have := bI_r P; omega, by have := bI_r P; omega⟩ ht (fun q => kt (Decidable.byContradiction fun q2 => q (bI_0.mpr q2))) (fun q => kf (bI_0.mp q))
theorem z_ist_n (hx : p.tables.exec = Jvm.exec) (hb : c.code = cc) {k : Fin 4} {i nL : Nat} {lv : List (Nat × Value)} (d : decode cc pc = .ok (.istore_n k, 1)) (hi : (k : Nat) = i) (h : lv_has ls nL lv) (hn : i < nL) (kk : ∀ x : Int, x = a → ∀ ls' : Array Slot, lv_has ls' nL ((i, Value.int (zI x)) :: lv.filter (fun q => !(q.1 == i) && !(q.1 + 1 == i && q.2.category == 2))) → W p l e R s m args below meth c H locs cells slots Q (F0 m (pc + 1) ls' rest)) : W p l e R s m args below meth c H locs cells slots Q (F0 m pc ls (.int (zI a) :: rest)) := lv_istore_n hx hb d hi h hn rfl (fun ls' h' => kk a rfl ls' h')
theorem z_ist (hx : p.tables.exec = Jvm.exec) (hb : c.code = cc) {i nL : Nat} {lv : List (Nat × Value)} (d : decode cc pc = .ok (.istore i, 2)) (h : lv_has ls nL lv) (hn : i < nL) (kk : ∀ x : Int, x = a → ∀ ls' : Array Slot, lv_has ls' nL ((i, Value.int (zI x)) :: lv.filter (fun q => !(q.1 == i) && !(q.1 + 1 == i && q.2.category == 2))) → W p l e R s m args below meth c H locs cells slots Q (F0 m (pc + 2) ls' rest)) : W p l e R s m args below meth c H locs cells slots Q (F0 m pc ls (.int (zI a) :: rest)) := lv_istore hx hb d h hn rfl (fun ls' h' => kk a rfl ls' h')
theorem z_lst_n (hx : p.tables.exec = Jvm.exec) (hb : c.code = cc) {k : Fin 4} {i nL : Nat} {lv : List (Nat × Value)} (d : decode cc pc = .ok (.lstore_n k, 1)) (hi : (k : Nat) = i) (h : lv_has ls nL lv) (hn : i + 1 < nL) (kk : ∀ x : Int, x = a → ∀ ls' : Array Slot, lv_has ls' nL ((i, Value.long (zL x)) :: lv.filter (fun q => !(q.1 == i) && (!(q.1 == i + 1) && !(q.1 + 1 == i && q.2.category == 2)))) → W p l e R s m args below meth c H locs cells slots Q (F0 m (pc + 1) ls' rest)) : W p l e R s m args below meth c H locs cells slots Q (F0 m pc ls (.long (zL a) :: rest)) := lv_lstore_n hx hb d hi h hn rfl (fun ls' h' => kk a rfl ls' h')
theorem z_lst (hx : p.tables.exec = Jvm.exec) (hb : c.code = cc) {i nL : Nat} {lv : List (Nat × Value)} (d : decode cc pc = .ok (.lstore i, 2)) (h : lv_has ls nL lv) (hn : i + 1 < nL) (kk : ∀ x : Int, x = a → ∀ ls' : Array Slot, lv_has ls' nL ((i, Value.long (zL x)) :: lv.filter (fun q => !(q.1 == i) && (!(q.1 == i + 1) && !(q.1 + 1 == i && q.2.category == 2)))) → W p l e R s m args below meth c H locs cells slots Q (F0 m (pc + 2) ls' rest)) : W p l e R s m args below meth c H locs cells slots Q (F0 m pc ls (.long (zL a) :: rest)) := lv_lstore hx hb d h hn rfl (fun ls' h' => kk a rfl ls' h')
theorem z_iinc (hx : p.tables.exec = Jvm.exec) (hb : c.code = cc) {i nL k : Nat} {n : Int} {lv : List (Nat × Value)} (d : decode cc pc = .ok (.iinc i n, 3)) (h : lv_has ls nL lv) (hk : lv[k]? = some (i, .int (zI a))) (hn : i < nL) (kk : ∀ x : Int, x = a + n → ∀ ls' : Array Slot, lv_has ls' nL ((i, Value.int (zI x)) :: lv.filter (fun q => !(q.1 == i) && !(q.1 + 1 == i && q.2.category == 2))) → W p l e R s m args below meth c H locs cells slots Q (F0 m (pc + 3) ls' rest)) : W p l e R s m args below meth c H locs cells slots Q (F0 m pc ls rest) := lv_iinc (v := zI (a + n)) hx hb d h hk (zI_add a n) hn rfl (fun ls' h' => kk (a + n) rfl ls' h')
theorem z_topi (k : ∀ x : Int, x = a → W p l e R s m args below meth c H locs cells slots Q (F0 m pc ls (.int (zI x) :: rest))) : W p l e R s m args below meth c H locs cells slots Q (F0 m pc ls (.int (zI a) :: rest)) := k a rfl
theorem z_topl (k : ∀ x : Int, x = a → W p l e R s m args below meth c H locs cells slots Q (F0 m pc ls (.long (zL x) :: rest))) : W p l e R s m args below meth c H locs cells slots Q (F0 m pc ls (.long (zL a) :: rest)) := k a rfl
end ZR
