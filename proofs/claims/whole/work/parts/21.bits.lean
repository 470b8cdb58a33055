/-! lengths; sets; parts; rows -/
section AL
variable {p : Program} {l : Launch} {e : Env} {R : Room} {s : State} {m : MethodId} {args : Array Value} {below : List Frame} {meth : Method} {c : Code} {H : Heap} {locs : List Loc} {cells slots : Nat} {Q : State → Prop}
variable {cc : ByteArray} {pc nL : Nat} {own : String} {ret : Option FieldType} {ls : Array Slot} {rest : List Value} {D : va_G} {ad : Nat → Nat} {ca : Nat → ClassId} {A : Nat → Prop} {σ : St}
theorem alX_F_probes (hc : Cx p s m args c cc nL own meth ret D cl7 (tyX ca)) (hw : Wd D cl7 (wX ad ca) A s.heap σ H locs) (d : decode cc pc = .ok (.arraylength, 1)) (k : W p l e R s m args below meth c H locs cells slots Q (F0 m (pc + 1) ls (.int (zI 8) :: rest))) : W p l e R s m args below meth c H locs cells slots Q (F0 m pc ls (.ref (ad 20) :: rest)) := va_alen (D := D) hc.1 hc.2.1 hc.2.2.2.2.2.1 hw.1 13 7 rfl rfl rfl d k
theorem alX_F_left (hc : Cx p s m args c cc nL own meth ret D cl7 (tyX ca)) (hw : Wd D cl7 (wX ad ca) A s.heap σ H locs) (d : decode cc pc = .ok (.arraylength, 1)) (k : W p l e R s m args below meth c H locs cells slots Q (F0 m (pc + 1) ls (.int (zI 8) :: rest))) : W p l e R s m args below meth c H locs cells slots Q (F0 m pc ls (.ref (ad 21) :: rest)) := va_alen (D := D) hc.1 hc.2.1 hc.2.2.2.2.2.1 hw.1 14 8 rfl rfl rfl d k
theorem alX_F_flown (hc : Cx p s m args c cc nL own meth ret D cl7 (tyX ca)) (hw : Wd D cl7 (wX ad ca) A s.heap σ H locs) (d : decode cc pc = .ok (.arraylength, 1)) (k : W p l e R s m args below meth c H locs cells slots Q (F0 m (pc + 1) ls (.int (zI 8) :: rest))) : W p l e R s m args below meth c H locs cells slots Q (F0 m pc ls (.ref (ad 22) :: rest)) := va_alen (D := D) hc.1 hc.2.1 hc.2.2.2.2.2.1 hw.1 15 9 rfl rfl rfl d k
theorem alX_F_sorted (hc : Cx p s m args c cc nL own meth ret D cl7 (tyX ca)) (hw : Wd D cl7 (wX ad ca) A s.heap σ H locs) (d : decode cc pc = .ok (.arraylength, 1)) (k : W p l e R s m args below meth c H locs cells slots Q (F0 m (pc + 1) ls (.int (zI 8) :: rest))) : W p l e R s m args below meth c H locs cells slots Q (F0 m pc ls (.ref (ad 23) :: rest)) := va_alen (D := D) hc.1 hc.2.1 hc.2.2.2.2.2.1 hw.1 16 10 rfl rfl rfl d k
theorem alX_S_clashes (hc : Cx p s m args c cc nL own meth ret D cl7 (tyX ca)) (hw : Wd D cl7 (wX ad ca) A s.heap σ H locs) (d : decode cc pc = .ok (.arraylength, 1)) (k : W p l e R s m args below meth c H locs cells slots Q (F0 m (pc + 1) ls (.int (zI 24) :: rest))) : W p l e R s m args below meth c H locs cells slots Q (F0 m pc ls (.ref (ad 14) :: rest)) := va_alen (D := D) hc.1 hc.2.1 hc.2.2.2.2.2.1 hw.1 31 25 rfl rfl rfl d k
end AL
def nbF (a k : Int) : Nat → Int → Int → Int
  | 0, _, _ => -1
  | f + 1, net, bf => if zB a net then (if bf = k then net else nbF a k f (net + 1) (bf + 1)) else nbF a k f (net + 1) bf
abbrev nthR (σ : St) (f : Nat) (n k : Int) : Int := if 0 ≤ k ∧ k < n then σ f k else -1
def popN : Nat → Nat → Nat
  | 0, _ => 0
  | k + 1, n => n % 2 + popN k (n / 2)
def popc (a : Int) : Int := ((popN 12 a.toNat : Nat) : Int)
theorem popN_le : ∀ k n, popN k n ≤ k
  | 0, _ => Nat.le_refl 0
  | k + 1, n => by have := popN_le k (n / 2); simp only [popN]; omega
theorem popc_bd (a : Int) : 0 ≤ popc a ∧ popc a ≤ 12 := by have := popN_le 12 a.toNat; unfold popc; omega
def bitC (x : Int32) : Int32 :=
  let a := x - ((x.toUInt32 >>> ((1 : Int32).toUInt32 &&& Int32.toUInt32 31)).toInt32 &&& 1431655765)
  let b := (a &&& 858993459) + ((a.toUInt32 >>> ((2 : Int32).toUInt32 &&& Int32.toUInt32 31)).toInt32 &&& 858993459)
  let c := (b + (b.toUInt32 >>> ((4 : Int32).toUInt32 &&& Int32.toUInt32 31)).toInt32) &&& 252645135
  let d := c + (c.toUInt32 >>> ((8 : Int32).toUInt32 &&& Int32.toUInt32 31)).toInt32
  let e := d + (d.toUInt32 >>> ((16 : Int32).toUInt32 &&& Int32.toUInt32 31)).toInt32
  e &&& 63
def bN1 (n : Nat) : Nat := n - ((n / 2) &&& 1431655765)
def bN2 (n : Nat) : Nat := (n &&& 858993459) + ((n / 4) &&& 858993459)
def bN3 (n : Nat) : Nat := (n + n / 16) &&& 252645135
def bN4 (n : Nat) : Nat := n + n / 256
def bN5 (n : Nat) : Nat := n + n / 65536
def bitOK (n : Nat) : Bool := (bN5 (bN4 (bN3 (bN2 (bN1 n)))) &&& 63) == popN 12 n
theorem bitN_all : (List.range 4096).all bitOK = true := by decide +kernel
theorem bN1_lt {n : Nat} (h : n < 4096) : bN1 n < 4096 := by unfold bN1; omega
theorem bN2_lt {n : Nat} (h : n < 4096) : bN2 n < 8192 := by
  unfold bN2
  have a := Nat.and_le_left (n := n) (m := 858993459)
  have b := Nat.and_le_left (n := n / 4) (m := 858993459)
  omega
theorem bN3_lt {n : Nat} (h : n < 8192) : bN3 n < 16384 := by
  unfold bN3
  have a := Nat.and_le_left (n := n + n / 16) (m := 252645135)
  omega
theorem bN4_lt {n : Nat} (h : n < 16384) : bN4 n < 32768 := by unfold bN4; omega
theorem us_k (k : Nat) (y : Int32) (hs : ((y.toUInt32 &&& Int32.toUInt32 31).toBitVec % 32).toNat = k) {n : Nat} (hn : n < 2 ^ 31) : ((nI n).toUInt32 >>> (y.toUInt32 &&& Int32.toUInt32 31)).toInt32 = nI (n / 2 ^ k) := pk_ushrN (by omega) y k hs
theorem bitC_ok {a : Int} (h : 0 ≤ a ∧ a < 4096) : bitC (zI a) = zI (popc a) := by
  have h9 := List.all_eq_true.mp bitN_all a.toNat (List.mem_range.mpr (by omega))
  unfold bitOK at h9
  rw [zI_pos h.1]
  unfold popc
  have hn : a.toNat < 4096 := by omega
  generalize a.toNat = n at h9 hn ⊢
  have l1 := bN1_lt hn
  have l2 := bN2_lt l1
  have l3 := bN3_lt l2
  have l4 := bN4_lt l3
  have e1 : nI n - (((nI n).toUInt32 >>> ((1 : Int32).toUInt32 &&& Int32.toUInt32 31)).toInt32 &&& 1431655765) = nI (bN1 n) := by
    rw [us_k 1 1 (by decide) (by omega), show (1431655765 : Int32) = nI 1431655765 from rfl, nI_and, pk_sub (by have := Nat.and_le_left (n := n / 2 ^ 1) (m := 1431655765); omega)]
    rfl
  have e2 : (nI (bN1 n) &&& 858993459) + (((nI (bN1 n)).toUInt32 >>> ((2 : Int32).toUInt32 &&& Int32.toUInt32 31)).toInt32 &&& 858993459) = nI (bN2 (bN1 n)) := by
    rw [us_k 2 2 (by decide) (by omega), show (858993459 : Int32) = nI 858993459 from rfl, nI_and, nI_and, nI_add]
    rfl
  have e3 : (nI (bN2 (bN1 n)) + ((nI (bN2 (bN1 n))).toUInt32 >>> ((4 : Int32).toUInt32 &&& Int32.toUInt32 31)).toInt32) &&& 252645135 = nI (bN3 (bN2 (bN1 n))) := by
    rw [us_k 4 4 (by decide) (by omega), show (252645135 : Int32) = nI 252645135 from rfl, nI_add, nI_and]
    rfl
  have e4 : nI (bN3 (bN2 (bN1 n))) + ((nI (bN3 (bN2 (bN1 n)))).toUInt32 >>> ((8 : Int32).toUInt32 &&& Int32.toUInt32 31)).toInt32 = nI (bN4 (bN3 (bN2 (bN1 n)))) := by
    rw [us_k 8 8 (by decide) (by omega), nI_add]
    rfl
  have e5 : nI (bN4 (bN3 (bN2 (bN1 n)))) + ((nI (bN4 (bN3 (bN2 (bN1 n))))).toUInt32 >>> ((16 : Int32).toUInt32 &&& Int32.toUInt32 31)).toInt32 = nI (bN5 (bN4 (bN3 (bN2 (bN1 n))))) := by
    rw [us_k 16 16 (by decide) (by omega), nI_add]
    rfl
  unfold bitC
  dsimp only
  rw [e1, e2, e3, e4, e5, show (63 : Int32) = nI 63 from rfl, nI_and, eq_of_beq h9, zI_nI]
def rAdd (σ : St) (a b : Int) : St := up (up (up σ 40 a (zOr (σ 40 a) ((2 ^ b.toNat : Nat) : Int))) 40 b (zOr (up σ 40 a (zOr (σ 40 a) ((2 ^ b.toNat : Nat) : Int)) 40 b) ((2 ^ a.toNat : Nat) : Int))) 43 0 1
def prOf (a b : Int) : Int := min a b * 12 + max a b
def pInv (e : Nat) (σ : St) (p r : Int) : St := up (up σ (32 + e) p (σ (32 + e) p * r + (if σ 30 p = 0 then 1 else σ (34 + e) p))) (34 + e) p ((if σ 30 p = 0 then 1 else σ (34 + e) p) * r)
def pCnt (σ : St) (p : Int) : St := up σ 30 p (σ 30 p + 1)
def pJoin (σ : St) (a b : Int) : St := up σ 31 a (zOr (σ 31 a) ((2 ^ b.toNat : Nat) : Int))
def pAdd (σ : St) (a b lo hi : Int) : St := if 4 ≤ σ 30 (prOf a b) then σ else pJoin (pJoin (pCnt (pInv 1 (pInv 0 σ (prOf a b) lo) (prOf a b) hi) (prOf a b)) a b) b a
theorem nbF_s (a k : Int) (f : Nat) (net bf : Int) : nbF a k (f + 1) net bf = if zB a net then (if bf = k then net else nbF a k f (net + 1) (bf + 1)) else nbF a k f (net + 1) bf := rfl
def gcdF : Nat → Int → Int → Int
  | 0, g, _ => g
  | f + 1, g, s => if s = 0 then g else gcdF f s (g % s)
theorem gcdF_s (f : Nat) (g s : Int) : gcdF (f + 1) g s = if s = 0 then g else gcdF f s (g % s) := rfl
theorem gcdF_bd : ∀ (f : Nat) (g s : Int), 0 ≤ g → 0 ≤ s → g < 4611686018427387904 → s < 4611686018427387904 → 0 ≤ gcdF f g s ∧ gcdF f g s < 4611686018427387904
  | 0, g, s, h1, h2, h3, h4 => ⟨h1, h3⟩
  | f + 1, g, s, h1, h2, h3, h4 => by
    unfold gcdF
    split
    · exact ⟨h1, h3⟩
    · rename_i q
      have a := Int.emod_nonneg g q
      have b := Int.emod_lt_of_pos g (show 0 < s by omega)
      exact gcdF_bd f s (g % s) h2 a h4 (by omega)
def fillA (σ : St) (f : Nat) (n v : Int) : St := fun g j => if g = f ∧ 0 ≤ j ∧ j < n then v else σ g j
theorem fillA_0 (σ : St) (f : Nat) (v : Int) : fillA σ f 0 v = σ := by
  funext g j
  unfold fillA
  rw [if_neg (by omega)]
theorem fillA_s (σ : St) (f : Nat) (i v : Int) (h : 0 ≤ i) : up (fillA σ f i v) f i v = fillA σ f (i + 1) v := by
  funext g j
  unfold up fillA
  by_cases h1 : g = f
  · by_cases h2 : j = i
    · rw [if_pos ⟨h1, h2⟩, if_pos ⟨h1, by omega, by omega⟩]
    · rw [if_neg (fun q => h2 q.2)]
      by_cases h3 : 0 ≤ j ∧ j < i
      · rw [if_pos ⟨h1, h3⟩, if_pos ⟨h1, by omega, by omega⟩]
      · rw [if_neg (fun q => h3 q.2), if_neg (fun q => h3 (by omega))]
  · rw [if_neg (fun q => h1 q.1), if_neg (fun q => h1 q.1), if_neg (fun q => h1 q.1)]
theorem zOr_bd {a b : Int} {k : Nat} (ha : 0 ≤ a ∧ a < ((2 ^ k : Nat) : Int)) (hb : 0 ≤ b ∧ b < ((2 ^ k : Nat) : Int)) : 0 ≤ zOr a b ∧ zOr a b < ((2 ^ k : Nat) : Int) := by
  unfold zOr
  have := Nat.or_lt_two_pow (x := a.toNat) (y := b.toNat) (n := k) (by omega) (by omega)
  omega
theorem zAnd_bd {a b n : Int} (ha : 0 ≤ a ∧ a < n) : 0 ≤ zAnd a b ∧ zAnd a b < n := by
  unfold zAnd
  have := Nat.and_le_left (n := a.toNat) (m := b.toNat)
  omega
theorem p2_bd {b : Int} {k : Nat} (h : 0 ≤ b ∧ b < k) : 0 ≤ ((2 ^ b.toNat : Nat) : Int) ∧ ((2 ^ b.toNat : Nat) : Int) < ((2 ^ k : Nat) : Int) := by
  have := Nat.pow_lt_pow_right (a := 2) (by decide) (show b.toNat < k by omega)
  exact ⟨Int.natCast_nonneg _, Int.ofNat_lt.mpr this⟩
set_option maxHeartbeats 4000000 in
set_option maxRecDepth 100000 in
theorem k_JI_bitCount {l : Launch} {D : va_G} {ad : Nat → Nat} {ca : Nat → ClassId} (σ : St) (a : Int) (ha : 0 ≤ a ∧ a < 4096) : Cw l D cl7 (tyX ca) (wX ad ca) y_JI_bitCount c_JI_bitCount 1 (some .int) 0 [.int (zI a)] σ (RW (.int (zI (popc a))) (σ = ·)) := by
  refine Cw.enterF (by decide +kernel) (Nat.le_of_ble_eq_true rfl) ?_
  intro A p e s m below meth c hc ls hl hw
  have hl : lv_has ls 1 [(0, .int (zI a))] := hl
  obtain ⟨hx, hb, hml, hown, hTB, hK, hr, hlk⟩ := id hc
  have hq : bitC (zI a) = zI (popc a) := bitC_ok ha
  unfold bitC at hq
  dsimp only at hq
  generalize zI a = x0 at hc hl hq ⊢
  refine lv_iload_n hx hb d_JI_bitCount_0 rfl (lv_at hl 0 rfl) ?_
  refine lv_iload_n hx hb d_JI_bitCount_1 rfl (lv_at hl 0 rfl) ?_
  refine lv_iconst (v := 1) hx hb d_JI_bitCount_2 (by decide) ?_
  refine lv_iushr hx hb d_JI_bitCount_3 rfl ?_
  refine lv_ldcw hx hb hown (hTB.hts _ _ lk_JI_265) d_JI_bitCount_4 ?_
  refine lv_iand hx hb d_JI_bitCount_7 ?_
  refine lv_isub hx hb d_JI_bitCount_8 ?_
  refine lv_topi (fun x1 e1 => ?_)
  refine lv_istore_n (lv' := [(0, .int x1)]) hx hb d_JI_bitCount_9 rfl hl (by decide) rfl (fun ls hl => ?_)
  rw [← e1] at hq
  refine lv_iload_n hx hb d_JI_bitCount_10 rfl (lv_at hl 0 rfl) ?_
  refine lv_ldcw hx hb hown (hTB.hts _ _ lk_JI_266) d_JI_bitCount_11 ?_
  refine lv_iand hx hb d_JI_bitCount_14 ?_
  refine lv_iload_n hx hb d_JI_bitCount_15 rfl (lv_at hl 0 rfl) ?_
  refine lv_iconst (v := 2) hx hb d_JI_bitCount_16 (by decide) ?_
  refine lv_iushr hx hb d_JI_bitCount_17 rfl ?_
  refine lv_ldcw hx hb hown (hTB.hts _ _ lk_JI_266) d_JI_bitCount_18 ?_
  refine lv_iand hx hb d_JI_bitCount_21 ?_
  refine lv_iadd hx hb d_JI_bitCount_22 ?_
  refine lv_topi (fun x2 e2 => ?_)
  refine lv_istore_n (lv' := [(0, .int x2)]) hx hb d_JI_bitCount_23 rfl hl (by decide) rfl (fun ls hl => ?_)
  rw [← e2] at hq
  refine lv_iload_n hx hb d_JI_bitCount_24 rfl (lv_at hl 0 rfl) ?_
  refine lv_iload_n hx hb d_JI_bitCount_25 rfl (lv_at hl 0 rfl) ?_
  refine lv_iconst (v := 4) hx hb d_JI_bitCount_26 (by decide) ?_
  refine lv_iushr hx hb d_JI_bitCount_27 rfl ?_
  refine lv_iadd hx hb d_JI_bitCount_28 ?_
  refine lv_ldcw hx hb hown (hTB.hts _ _ lk_JI_267) d_JI_bitCount_29 ?_
  refine lv_iand hx hb d_JI_bitCount_32 ?_
  refine lv_topi (fun x3 e3 => ?_)
  refine lv_istore_n (lv' := [(0, .int x3)]) hx hb d_JI_bitCount_33 rfl hl (by decide) rfl (fun ls hl => ?_)
  rw [← e3] at hq
  refine lv_iload_n hx hb d_JI_bitCount_34 rfl (lv_at hl 0 rfl) ?_
  refine lv_iload_n hx hb d_JI_bitCount_35 rfl (lv_at hl 0 rfl) ?_
  refine lv_bipush (v := 8) hx hb d_JI_bitCount_36 (by decide) ?_
  refine lv_iushr hx hb d_JI_bitCount_38 rfl ?_
  refine lv_iadd hx hb d_JI_bitCount_39 ?_
  refine lv_topi (fun x4 e4 => ?_)
  refine lv_istore_n (lv' := [(0, .int x4)]) hx hb d_JI_bitCount_40 rfl hl (by decide) rfl (fun ls hl => ?_)
  rw [← e4] at hq
  refine lv_iload_n hx hb d_JI_bitCount_41 rfl (lv_at hl 0 rfl) ?_
  refine lv_iload_n hx hb d_JI_bitCount_42 rfl (lv_at hl 0 rfl) ?_
  refine lv_bipush (v := 16) hx hb d_JI_bitCount_43 (by decide) ?_
  refine lv_iushr hx hb d_JI_bitCount_45 rfl ?_
  refine lv_iadd hx hb d_JI_bitCount_46 ?_
  refine lv_topi (fun x5 e5 => ?_)
  refine lv_istore_n (lv' := [(0, .int x5)]) hx hb d_JI_bitCount_47 rfl hl (by decide) rfl (fun ls hl => ?_)
  rw [← e5] at hq
  refine lv_iload_n hx hb d_JI_bitCount_48 rfl (lv_at hl 0 rfl) ?_
  refine lv_bipush (v := 63) hx hb d_JI_bitCount_49 (by decide) ?_
  refine lv_iand hx hb d_JI_bitCount_51 ?_
  exact w_iret hc hw ⟨by rw [← hq], rfl⟩ d_JI_bitCount_52
