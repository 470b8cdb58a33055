section
-- ===== PART A: goes FIRST, ahead of the names: the tables' words, and 'selects' of the private methods out of them =====
/-- a private method of a class that the tables say can be made, by its rows of tables_1 -/
def lw_okq (q : MethodName × Nat) : Prop := (q.1.cls ≠ "java/lang/invoke/MethodHandle" ∧ q.1.cls ≠ "java/lang/invoke/VarHandle") ∧ Cond.instantiable q.1.cls q.2 ∈ tables_1 ∧ Cond.privateMethod q.1 ∈ tables_1 ∧ Cond.instanceMethod q.1 ∈ tables_1
theorem lw_p0 : lw_okq (⟨"ProbeChoice", "needNet", "(I)V"⟩, 5) := ⟨⟨by decide +kernel, by decide +kernel⟩, List.mem_of_getElem? (i := 19) (by decide +kernel), List.mem_of_getElem? (i := 287) (by decide +kernel), List.mem_of_getElem? (i := 288) (by decide +kernel)⟩
theorem lw_p1 : lw_okq (⟨"java/lang/Throwable", "fillInStackTrace", "(I)Ljava/lang/Throwable;"⟩, 6) := ⟨⟨by decide +kernel, by decide +kernel⟩, List.mem_of_getElem? (i := 333) (by decide +kernel), List.mem_of_getElem? (i := 331) (by decide +kernel), List.mem_of_getElem? (i := 332) (by decide +kernel)⟩
theorem lw_p2 : lw_okq (⟨"ProbeChoice$Search", "lookAtNets", "(LProbeChoice$Board;I)V"⟩, 9) := ⟨⟨by decide +kernel, by decide +kernel⟩, List.mem_of_getElem? (i := 75) (by decide +kernel), List.mem_of_getElem? (i := 415) (by decide +kernel), List.mem_of_getElem? (i := 416) (by decide +kernel)⟩
theorem lw_p3 : lw_okq (⟨"ProbeChoice$Search", "markClashes", "(LProbeChoice$Board;)V"⟩, 9) := ⟨⟨by decide +kernel, by decide +kernel⟩, List.mem_of_getElem? (i := 75) (by decide +kernel), List.mem_of_getElem? (i := 420) (by decide +kernel), List.mem_of_getElem? (i := 421) (by decide +kernel)⟩
theorem lw_p4 : lw_okq (⟨"ProbeChoice$Search", "endOf", "(I)I"⟩, 9) := ⟨⟨by decide +kernel, by decide +kernel⟩, List.mem_of_getElem? (i := 75) (by decide +kernel), List.mem_of_getElem? (i := 427) (by decide +kernel), List.mem_of_getElem? (i := 428) (by decide +kernel)⟩
theorem lw_p5 : lw_okq (⟨"ProbeChoice$Search", "markClashesWithNet", "(LProbeChoice$Board;II)V"⟩, 9) := ⟨⟨by decide +kernel, by decide +kernel⟩, List.mem_of_getElem? (i := 75) (by decide +kernel), List.mem_of_getElem? (i := 431) (by decide +kernel), List.mem_of_getElem? (i := 432) (by decide +kernel)⟩
theorem lw_p6 : lw_okq (⟨"ProbeChoice$Search", "worthOfPlainChoice", "()J"⟩, 9) := ⟨⟨by decide +kernel, by decide +kernel⟩, List.mem_of_getElem? (i := 75) (by decide +kernel), List.mem_of_getElem? (i := 443) (by decide +kernel), List.mem_of_getElem? (i := 444) (by decide +kernel)⟩
theorem lw_p7 : lw_okq (⟨"ProbeChoice$Search", "bestSlot", "(II)I"⟩, 9) := ⟨⟨by decide +kernel, by decide +kernel⟩, List.mem_of_getElem? (i := 75) (by decide +kernel), List.mem_of_getElem? (i := 447) (by decide +kernel), List.mem_of_getElem? (i := 448) (by decide +kernel)⟩
theorem lw_p8 : lw_okq (⟨"ProbeChoice$Search", "mostWorthFrom", "(II)J"⟩, 9) := ⟨⟨by decide +kernel, by decide +kernel⟩, List.mem_of_getElem? (i := 75) (by decide +kernel), List.mem_of_getElem? (i := 455) (by decide +kernel), List.mem_of_getElem? (i := 456) (by decide +kernel)⟩
theorem lw_p9 : lw_okq (⟨"ProbeChoice$Search", "keep", "(J)V"⟩, 9) := ⟨⟨by decide +kernel, by decide +kernel⟩, List.mem_of_getElem? (i := 75) (by decide +kernel), List.mem_of_getElem? (i := 459) (by decide +kernel), List.mem_of_getElem? (i := 460) (by decide +kernel)⟩
theorem lw_p10 : lw_okq (⟨"ProbeChoice$Fixture", "takeProbes", "(LProbeChoice$Search;)V"⟩, 10) := ⟨⟨by decide +kernel, by decide +kernel⟩, List.mem_of_getElem? (i := 112) (by decide +kernel), List.mem_of_getElem? (i := 474) (by decide +kernel), List.mem_of_getElem? (i := 475) (by decide +kernel)⟩
theorem lw_p11 : lw_okq (⟨"ProbeChoice$Fixture", "planFlight", "(LProbeChoice$Board;)V"⟩, 10) := ⟨⟨by decide +kernel, by decide +kernel⟩, List.mem_of_getElem? (i := 112) (by decide +kernel), List.mem_of_getElem? (i := 478) (by decide +kernel), List.mem_of_getElem? (i := 479) (by decide +kernel)⟩
theorem lw_p12 : lw_okq (⟨"ProbeChoice$Fixture", "placeOfNearest", "(LProbeChoice$Board;IJJ)I"⟩, 10) := ⟨⟨by decide +kernel, by decide +kernel⟩, List.mem_of_getElem? (i := 112) (by decide +kernel), List.mem_of_getElem? (i := 483) (by decide +kernel), List.mem_of_getElem? (i := 484) (by decide +kernel)⟩
theorem lw_p13 : lw_okq (⟨"ProbeChoice$Fixture", "sortByPlace", "(LProbeChoice$Board;)V"⟩, 10) := ⟨⟨by decide +kernel, by decide +kernel⟩, List.mem_of_getElem? (i := 112) (by decide +kernel), List.mem_of_getElem? (i := 494) (by decide +kernel), List.mem_of_getElem? (i := 495) (by decide +kernel)⟩
theorem lw_p14 : lw_okq (⟨"ProbeChoice$Fixture", "writeText", "(LProbeChoice$Board;)V"⟩, 10) := ⟨⟨by decide +kernel, by decide +kernel⟩, List.mem_of_getElem? (i := 112) (by decide +kernel), List.mem_of_getElem? (i := 502) (by decide +kernel), List.mem_of_getElem? (i := 503) (by decide +kernel)⟩
theorem lw_p15 : lw_okq (⟨"ProbeChoice$Fixture", "writeLetter", "(C)V"⟩, 10) := ⟨⟨by decide +kernel, by decide +kernel⟩, List.mem_of_getElem? (i := 112) (by decide +kernel), List.mem_of_getElem? (i := 506) (by decide +kernel), List.mem_of_getElem? (i := 507) (by decide +kernel)⟩
def lw_privs_1 : List (MethodName × Nat) := [(⟨"ProbeChoice", "needNet", "(I)V"⟩, 5), (⟨"java/lang/Throwable", "fillInStackTrace", "(I)Ljava/lang/Throwable;"⟩, 6), (⟨"ProbeChoice$Search", "lookAtNets", "(LProbeChoice$Board;I)V"⟩, 9), (⟨"ProbeChoice$Search", "markClashes", "(LProbeChoice$Board;)V"⟩, 9), (⟨"ProbeChoice$Search", "endOf", "(I)I"⟩, 9), (⟨"ProbeChoice$Search", "markClashesWithNet", "(LProbeChoice$Board;II)V"⟩, 9), (⟨"ProbeChoice$Search", "worthOfPlainChoice", "()J"⟩, 9), (⟨"ProbeChoice$Search", "bestSlot", "(II)I"⟩, 9), (⟨"ProbeChoice$Search", "mostWorthFrom", "(II)J"⟩, 9), (⟨"ProbeChoice$Search", "keep", "(J)V"⟩, 9), (⟨"ProbeChoice$Fixture", "takeProbes", "(LProbeChoice$Search;)V"⟩, 10), (⟨"ProbeChoice$Fixture", "planFlight", "(LProbeChoice$Board;)V"⟩, 10), (⟨"ProbeChoice$Fixture", "placeOfNearest", "(LProbeChoice$Board;IJJ)I"⟩, 10), (⟨"ProbeChoice$Fixture", "sortByPlace", "(LProbeChoice$Board;)V"⟩, 10), (⟨"ProbeChoice$Fixture", "writeText", "(LProbeChoice$Board;)V"⟩, 10), (⟨"ProbeChoice$Fixture", "writeLetter", "(C)V"⟩, 10)]
theorem lw_r1 : ∀ q ∈ lw_privs_1, lw_okq q := List.forall_mem_cons.mpr ⟨lw_p0, List.forall_mem_cons.mpr ⟨lw_p1, List.forall_mem_cons.mpr ⟨lw_p2, List.forall_mem_cons.mpr ⟨lw_p3, List.forall_mem_cons.mpr ⟨lw_p4, List.forall_mem_cons.mpr ⟨lw_p5, List.forall_mem_cons.mpr ⟨lw_p6, List.forall_mem_cons.mpr ⟨lw_p7, List.forall_mem_cons.mpr ⟨lw_p8, List.forall_mem_cons.mpr ⟨lw_p9, List.forall_mem_cons.mpr ⟨lw_p10, List.forall_mem_cons.mpr ⟨lw_p11, List.forall_mem_cons.mpr ⟨lw_p12, List.forall_mem_cons.mpr ⟨lw_p13, List.forall_mem_cons.mpr ⟨lw_p14, List.forall_mem_cons.mpr ⟨lw_p15, fun _ h => absurd h List.not_mem_nil⟩⟩⟩⟩⟩⟩⟩⟩⟩⟩⟩⟩⟩⟩⟩⟩
theorem lw_p16 : lw_okq (⟨"ProbeChoice$Fixture", "writeNumber", "(J)V"⟩, 10) := ⟨⟨by decide +kernel, by decide +kernel⟩, List.mem_of_getElem? (i := 112) (by decide +kernel), List.mem_of_getElem? (i := 510) (by decide +kernel), List.mem_of_getElem? (i := 511) (by decide +kernel)⟩
theorem lw_p17 : lw_okq (⟨"ProbeChoice$Parts", "addInverse", "(IIJ)V"⟩, 4) := ⟨⟨by decide +kernel, by decide +kernel⟩, List.mem_of_getElem? (i := 158) (by decide +kernel), List.mem_of_getElem? (i := 538) (by decide +kernel), List.mem_of_getElem? (i := 539) (by decide +kernel)⟩
theorem lw_p18 : lw_okq (⟨"ProbeChoiceModel", "isNet", "(I)Z"⟩, 26) := ⟨⟨by decide +kernel, by decide +kernel⟩, List.mem_of_getElem? (i := 655) (by decide +kernel), List.mem_of_getElem? (i := 758) (by decide +kernel), List.mem_of_getElem? (i := 759) (by decide +kernel)⟩
theorem lw_p19 : lw_okq (⟨"ProbeChoiceModel", "isPoint", "(I)Z"⟩, 26) := ⟨⟨by decide +kernel, by decide +kernel⟩, List.mem_of_getElem? (i := 655) (by decide +kernel), List.mem_of_getElem? (i := 770) (by decide +kernel), List.mem_of_getElem? (i := 771) (by decide +kernel)⟩
theorem lw_p20 : lw_okq (⟨"ProbeChoiceModel", "choose", "()V"⟩, 26) := ⟨⟨by decide +kernel, by decide +kernel⟩, List.mem_of_getElem? (i := 655) (by decide +kernel), List.mem_of_getElem? (i := 779) (by decide +kernel), List.mem_of_getElem? (i := 780) (by decide +kernel)⟩
theorem lw_p21 : lw_okq (⟨"ProbeChoiceModel", "isChoice", "()Z"⟩, 26) := ⟨⟨by decide +kernel, by decide +kernel⟩, List.mem_of_getElem? (i := 655) (by decide +kernel), List.mem_of_getElem? (i := 783) (by decide +kernel), List.mem_of_getElem? (i := 784) (by decide +kernel)⟩
theorem lw_p22 : lw_okq (⟨"ProbeChoiceModel", "pointAt", "(II)I"⟩, 26) := ⟨⟨by decide +kernel, by decide +kernel⟩, List.mem_of_getElem? (i := 655) (by decide +kernel), List.mem_of_getElem? (i := 787) (by decide +kernel), List.mem_of_getElem? (i := 788) (by decide +kernel)⟩
theorem lw_p23 : lw_okq (⟨"ProbeChoiceModel", "areApart", "(II)Z"⟩, 26) := ⟨⟨by decide +kernel, by decide +kernel⟩, List.mem_of_getElem? (i := 655) (by decide +kernel), List.mem_of_getElem? (i := 791) (by decide +kernel), List.mem_of_getElem? (i := 792) (by decide +kernel)⟩
theorem lw_p24 : lw_okq (⟨"ProbeChoiceModel", "goOn", "()Z"⟩, 26) := ⟨⟨by decide +kernel, by decide +kernel⟩, List.mem_of_getElem? (i := 655) (by decide +kernel), List.mem_of_getElem? (i := 795) (by decide +kernel), List.mem_of_getElem? (i := 796) (by decide +kernel)⟩
theorem lw_p25 : lw_okq (⟨"ProbeChoiceModel", "haveParts", "(II)Z"⟩, 26) := ⟨⟨by decide +kernel, by decide +kernel⟩, List.mem_of_getElem? (i := 655) (by decide +kernel), List.mem_of_getElem? (i := 831) (by decide +kernel), List.mem_of_getElem? (i := 832) (by decide +kernel)⟩
theorem lw_p26 : lw_okq (⟨"ProbeChoiceModel", "suspectSet", "()I"⟩, 26) := ⟨⟨by decide +kernel, by decide +kernel⟩, List.mem_of_getElem? (i := 655) (by decide +kernel), List.mem_of_getElem? (i := 843) (by decide +kernel), List.mem_of_getElem? (i := 844) (by decide +kernel)⟩
theorem lw_p27 : lw_okq (⟨"ProbeChoiceModel", "explains", "(I)Z"⟩, 26) := ⟨⟨by decide +kernel, by decide +kernel⟩, List.mem_of_getElem? (i := 655) (by decide +kernel), List.mem_of_getElem? (i := 847) (by decide +kernel), List.mem_of_getElem? (i := 848) (by decide +kernel)⟩
theorem lw_p28 : lw_okq (⟨"ProbeChoiceModel", "flyTo", "(I)I"⟩, 26) := ⟨⟨by decide +kernel, by decide +kernel⟩, List.mem_of_getElem? (i := 655) (by decide +kernel), List.mem_of_getElem? (i := 869) (by decide +kernel), List.mem_of_getElem? (i := 870) (by decide +kernel)⟩
theorem lw_p29 : lw_okq (⟨"ProbeChoiceModel", "nearest", "(JJ)I"⟩, 26) := ⟨⟨by decide +kernel, by decide +kernel⟩, List.mem_of_getElem? (i := 655) (by decide +kernel), List.mem_of_getElem? (i := 873) (by decide +kernel), List.mem_of_getElem? (i := 874) (by decide +kernel)⟩
theorem lw_p30 : lw_okq (⟨"ProbeChoiceModel", "placed", "(I)I"⟩, 26) := ⟨⟨by decide +kernel, by decide +kernel⟩, List.mem_of_getElem? (i := 655) (by decide +kernel), List.mem_of_getElem? (i := 888) (by decide +kernel), List.mem_of_getElem? (i := 889) (by decide +kernel)⟩
theorem lw_p31 : lw_okq (⟨"ProbeChoiceModel", "isAhead", "(II)Z"⟩, 26) := ⟨⟨by decide +kernel, by decide +kernel⟩, List.mem_of_getElem? (i := 655) (by decide +kernel), List.mem_of_getElem? (i := 892) (by decide +kernel), List.mem_of_getElem? (i := 893) (by decide +kernel)⟩
def lw_privs_2 : List (MethodName × Nat) := [(⟨"ProbeChoice$Fixture", "writeNumber", "(J)V"⟩, 10), (⟨"ProbeChoice$Parts", "addInverse", "(IIJ)V"⟩, 4), (⟨"ProbeChoiceModel", "isNet", "(I)Z"⟩, 26), (⟨"ProbeChoiceModel", "isPoint", "(I)Z"⟩, 26), (⟨"ProbeChoiceModel", "choose", "()V"⟩, 26), (⟨"ProbeChoiceModel", "isChoice", "()Z"⟩, 26), (⟨"ProbeChoiceModel", "pointAt", "(II)I"⟩, 26), (⟨"ProbeChoiceModel", "areApart", "(II)Z"⟩, 26), (⟨"ProbeChoiceModel", "goOn", "()Z"⟩, 26), (⟨"ProbeChoiceModel", "haveParts", "(II)Z"⟩, 26), (⟨"ProbeChoiceModel", "suspectSet", "()I"⟩, 26), (⟨"ProbeChoiceModel", "explains", "(I)Z"⟩, 26), (⟨"ProbeChoiceModel", "flyTo", "(I)I"⟩, 26), (⟨"ProbeChoiceModel", "nearest", "(JJ)I"⟩, 26), (⟨"ProbeChoiceModel", "placed", "(I)I"⟩, 26), (⟨"ProbeChoiceModel", "isAhead", "(II)Z"⟩, 26)]
theorem lw_r2 : ∀ q ∈ lw_privs_2, lw_okq q := List.forall_mem_cons.mpr ⟨lw_p16, List.forall_mem_cons.mpr ⟨lw_p17, List.forall_mem_cons.mpr ⟨lw_p18, List.forall_mem_cons.mpr ⟨lw_p19, List.forall_mem_cons.mpr ⟨lw_p20, List.forall_mem_cons.mpr ⟨lw_p21, List.forall_mem_cons.mpr ⟨lw_p22, List.forall_mem_cons.mpr ⟨lw_p23, List.forall_mem_cons.mpr ⟨lw_p24, List.forall_mem_cons.mpr ⟨lw_p25, List.forall_mem_cons.mpr ⟨lw_p26, List.forall_mem_cons.mpr ⟨lw_p27, List.forall_mem_cons.mpr ⟨lw_p28, List.forall_mem_cons.mpr ⟨lw_p29, List.forall_mem_cons.mpr ⟨lw_p30, List.forall_mem_cons.mpr ⟨lw_p31, fun _ h => absurd h List.not_mem_nil⟩⟩⟩⟩⟩⟩⟩⟩⟩⟩⟩⟩⟩⟩⟩⟩
theorem lw_p32 : lw_okq (⟨"ProbeChoiceModel", "say", "(I)V"⟩, 26) := ⟨⟨by decide +kernel, by decide +kernel⟩, List.mem_of_getElem? (i := 655) (by decide +kernel), List.mem_of_getElem? (i := 900) (by decide +kernel), List.mem_of_getElem? (i := 901) (by decide +kernel)⟩
theorem lw_p33 : lw_okq (⟨"ProbeChoiceModel", "sayNumber", "(J)V"⟩, 26) := ⟨⟨by decide +kernel, by decide +kernel⟩, List.mem_of_getElem? (i := 655) (by decide +kernel), List.mem_of_getElem? (i := 904) (by decide +kernel), List.mem_of_getElem? (i := 905) (by decide +kernel)⟩
def lw_privs_3 : List (MethodName × Nat) := [(⟨"ProbeChoiceModel", "say", "(I)V"⟩, 26), (⟨"ProbeChoiceModel", "sayNumber", "(J)V"⟩, 26)]
theorem lw_r3 : ∀ q ∈ lw_privs_3, lw_okq q := List.forall_mem_cons.mpr ⟨lw_p32, List.forall_mem_cons.mpr ⟨lw_p33, fun _ h => absurd h List.not_mem_nil⟩⟩
def lw_privs : List (MethodName × Nat) := lw_privs_1 ++ (lw_privs_2 ++ (lw_privs_3))
def lw_tbl : List Cond := k2_sels lw_privs ++ tables_1
theorem lw_privs_ok : ∀ q ∈ lw_privs, lw_okq q := by
  show ∀ q ∈ lw_privs_1 ++ (lw_privs_2 ++ (lw_privs_3)), lw_okq q
  exact List.forall_mem_append.mpr ⟨lw_r1, List.forall_mem_append.mpr ⟨lw_r2, lw_r3⟩⟩
end
section
/-! ints and longs by their whole number -/
def zI (z : Int) : Int32 := Int32.ofInt z
def zL (z : Int) : Int64 := Int64.ofInt z
abbrev r32 (z : Int) : Prop := -2147483648 ≤ z ∧ z < 2147483648
abbrev r64 (z : Int) : Prop := -9223372036854775808 ≤ z ∧ z < 9223372036854775808
theorem zI_t {z : Int} (h : r32 z) : (zI z).toInt = z := Int32.toInt_ofInt_of_le h.1 h.2
theorem zL_t {z : Int} (h : r64 z) : (zL z).toInt = z := Int64.toInt_ofInt_of_le h.1 h.2
theorem zI_of (x : Int32) : zI x.toInt = x := Int32.ofInt_toInt x
theorem zL_of (x : Int64) : zL x.toInt = x := Int64.ofInt_toInt x
theorem zI_r (x : Int32) : r32 x.toInt := ⟨x.le_toInt, x.toInt_lt⟩
theorem zL_r (x : Int64) : r64 x.toInt := ⟨x.le_toInt, x.toInt_lt⟩
theorem zI_ex (x : Int32) : ∃ z : Int, r32 z ∧ x = zI z := ⟨x.toInt, zI_r x, (zI_of x).symm⟩
theorem zL_ex (x : Int64) : ∃ z : Int, r64 z ∧ x = zL z := ⟨x.toInt, zL_r x, (zL_of x).symm⟩
theorem zI_add (a b : Int) : zI a + zI b = zI (a + b) := (Int32.ofInt_add a b).symm
theorem zI_sub (a b : Int) : zI a - zI b = zI (a - b) := (Int32.ofInt_sub a b).symm
theorem zI_mul (a b : Int) : zI a * zI b = zI (a * b) := (Int32.ofInt_mul a b).symm
theorem zI_neg (a : Int) : -zI a = zI (-a) := (Int32.ofInt_neg a).symm
theorem zL_add (a b : Int) : zL a + zL b = zL (a + b) := (Int64.ofInt_add a b).symm
theorem zL_sub (a b : Int) : zL a - zL b = zL (a - b) := (Int64.ofInt_sub a b).symm
theorem zL_mul (a b : Int) : zL a * zL b = zL (a * b) := (Int64.ofInt_mul a b).symm
theorem zL_neg (a : Int) : -zL a = zL (-a) := (Int64.ofInt_neg a).symm
theorem zI_lt {a b : Int} (ha : r32 a) (hb : r32 b) : zI a < zI b ↔ a < b := by rw [Int32.lt_iff_toInt_lt, zI_t ha, zI_t hb]
theorem zI_le {a b : Int} (ha : r32 a) (hb : r32 b) : zI a ≤ zI b ↔ a ≤ b := by rw [Int32.le_iff_toInt_le, zI_t ha, zI_t hb]
theorem zI_eq {a b : Int} (ha : r32 a) (hb : r32 b) : zI a = zI b ↔ a = b := by rw [← Int32.toInt_inj, zI_t ha, zI_t hb]
theorem zL_lt {a b : Int} (ha : r64 a) (hb : r64 b) : zL a < zL b ↔ a < b := by rw [Int64.lt_iff_toInt_lt, zL_t ha, zL_t hb]
theorem zL_le {a b : Int} (ha : r64 a) (hb : r64 b) : zL a ≤ zL b ↔ a ≤ b := by rw [Int64.le_iff_toInt_le, zL_t ha, zL_t hb]
theorem zL_eq {a b : Int} (ha : r64 a) (hb : r64 b) : zL a = zL b ↔ a = b := by rw [← Int64.toInt_inj, zL_t ha, zL_t hb]
theorem zI_0 : (0 : Int32) = zI 0 := rfl
theorem zL_0 : (0 : Int64) = zL 0 := rfl
theorem zI_lt0 {a : Int} (ha : r32 a) : zI a < 0 ↔ a < 0 := zI_lt (b := 0) ha (by decide)
theorem zI_le0 {a : Int} (ha : r32 a) : zI a ≤ 0 ↔ a ≤ 0 := zI_le (b := 0) ha (by decide)
theorem zI_ge0 {a : Int} (ha : r32 a) : 0 ≤ zI a ↔ 0 ≤ a := zI_le (a := 0) (by decide) ha
theorem zI_gt0 {a : Int} (ha : r32 a) : 0 < zI a ↔ 0 < a := zI_lt (a := 0) (by decide) ha
theorem zI_eq0 {a : Int} (ha : r32 a) : zI a = 0 ↔ a = 0 := zI_eq (b := 0) ha (by decide)
theorem zL_eq0 {a : Int} (ha : r64 a) : zL a = 0 ↔ a = 0 := zL_eq (b := 0) ha (by decide)
theorem zI_L {a : Int} (ha : r32 a) : (zI a).toInt64 = zL a := Int64.toInt_inj.mp (by rw [Int32.toInt_toInt64, zI_t ha, zL_t ⟨by omega, by omega⟩])
theorem zL_I (a : Int) : (zL a).toInt32 = zI a := Int64.toInt32_ofInt
theorem zI_cl {a : Int} (h0 : 0 ≤ a) (h1 : a < 2147483648) : (zI a).toNatClampNeg = a.toNat := Int32.toNatClampNeg_ofInt_of_le (by omega) h1
theorem zI_in {a : Int} {n : Nat} (h0 : 0 ≤ a) (h1 : a < n) (hn : n < 2147483648) : vp_in (zI a) n := by
  rw [vp_in_iff, zI_t ⟨by omega, by omega⟩]; exact ⟨h0, h1⟩
theorem zI_nI (n : Nat) : nI n = zI (n : Int) := rfl
theorem zL_lN (n : Nat) : lN n = zL (n : Int) := rfl
theorem zI_pos {a : Int} (h : 0 ≤ a) : zI a = nI a.toNat := by
  rw [zI_nI, Int.toNat_of_nonneg h]
theorem zL_pos {a : Int} (h : 0 ≤ a) : zL a = lN a.toNat := by
  rw [zL_lN, Int.toNat_of_nonneg h]
theorem zI_div {a b : Int} (h0 : 0 ≤ a) (ha : a < 2147483648) (hb0 : 0 < b) (hb : b < 2147483648) : zI a / zI b = zI (a / b) := by
  obtain ⟨m, rfl⟩ := Int.eq_ofNat_of_zero_le h0
  obtain ⟨n, rfl⟩ := Int.eq_ofNat_of_zero_le (Int.le_of_lt hb0)
  exact pk_div (by omega) (by omega) (by omega)
theorem zI_rem {a b : Int} (h0 : 0 ≤ a) (ha : a < 2147483648) (hb0 : 0 < b) (hb : b < 2147483648) : zI a - zI a / zI b * zI b = zI (a % b) := by
  obtain ⟨m, rfl⟩ := Int.eq_ofNat_of_zero_le h0
  obtain ⟨n, rfl⟩ := Int.eq_ofNat_of_zero_le (Int.le_of_lt hb0)
  exact pk_rem (by omega) (by omega) (by omega)
theorem zL_div {a b : Int} (h0 : 0 ≤ a) (ha : a < 9223372036854775808) (hb0 : 0 < b) (hb : b < 9223372036854775808) : zL a / zL b = zL (a / b) := by
  obtain ⟨m, rfl⟩ := Int.eq_ofNat_of_zero_le h0
  obtain ⟨n, rfl⟩ := Int.eq_ofNat_of_zero_le (Int.le_of_lt hb0)
  exact pk_lDiv (by omega) (by omega) (by omega)
theorem zL_rem {a b : Int} (h0 : 0 ≤ a) (ha : a < 9223372036854775808) (hb0 : 0 < b) (hb : b < 9223372036854775808) : zL a - zL a / zL b * zL b = zL (a % b) := by
  obtain ⟨m, rfl⟩ := Int.eq_ofNat_of_zero_le h0
  obtain ⟨n, rfl⟩ := Int.eq_ofNat_of_zero_le (Int.le_of_lt hb0)
  exact pk_lRem (by omega) (by omega) (by omega)
/-- a truth as an int -/
def bI (P : Prop) [Decidable P] : Int := if P then 1 else 0
theorem bI_t {P : Prop} [Decidable P] (h : P) : bI P = 1 := if_pos h
theorem bI_f {P : Prop} [Decidable P] (h : ¬ P) : bI P = 0 := if_neg h
theorem bI_01 (P : Prop) [Decidable P] : bI P = 0 ∨ bI P = 1 := by unfold bI; split <;> simp
theorem bI_r (P : Prop) [Decidable P] : 0 ≤ bI P ∧ bI P ≤ 1 := by unfold bI; split <;> simp
theorem bI_0 {P : Prop} [Decidable P] : bI P = 0 ↔ ¬ P := by unfold bI; split <;> simp_all
theorem bI_1 {P : Prop} [Decidable P] : bI P = 1 ↔ P := by unfold bI; split <;> simp_all
theorem bI_cg {P Q : Prop} [Decidable P] [Decidable Q] (h : P ↔ Q) : bI P = bI Q := by unfold bI; simp [h]
section ZR
variable {p : Program} {l : Launch} {e : Env} {R : Room} {s : State} {m : MethodId} {args : Array Value} {below : List Frame} {meth : Method} {c : Code} {H : Heap} {locs : List Loc} {cells slots : Nat} {Q : State → Prop}
variable {cc : ByteArray} {pc : Nat} {ls : Array Slot} {rest : List Value} {a b : Int}
theorem z_ic (hx : p.tables.exec = Jvm.exec) (hb : c.code = cc) {n : Int} (d : decode cc pc = .ok (.iconst n, 1)) (k : W p l e R s m args below meth c H locs cells slots Q (F0 m (pc + 1) ls (.int (zI n) :: rest))) : W p l e R s m args below meth c H locs cells slots Q (F0 m pc ls rest) := lv_iconst hx hb d rfl k
theorem z_bi (hx : p.tables.exec = Jvm.exec) (hb : c.code = cc) {n : Int} (d : decode cc pc = .ok (.bipush n, 2)) (hn : -128 ≤ n ∧ n < 128) (k : W p l e R s m args below meth c H locs cells slots Q (F0 m (pc + 2) ls (.int (zI n) :: rest))) : W p l e R s m args below meth c H locs cells slots Q (F0 m pc ls rest) := lv_bipush hx hb d (Int32.toInt_inj.mp (by rw [Int8.toInt_toInt32, Int8.toInt_ofInt_of_le (by omega) (by omega), zI_t ⟨by omega, by omega⟩])) k
theorem z_si (hx : p.tables.exec = Jvm.exec) (hb : c.code = cc) {n : Int} (d : decode cc pc = .ok (.sipush n, 3)) (hn : -32768 ≤ n ∧ n < 32768) (k : W p l e R s m args below meth c H locs cells slots Q (F0 m (pc + 3) ls (.int (zI n) :: rest))) : W p l e R s m args below meth c H locs cells slots Q (F0 m pc ls rest) := lv_sipush hx hb d (Int32.toInt_inj.mp (by rw [Int16.toInt_toInt32, Int16.toInt_ofInt_of_le (by omega) (by omega), zI_t ⟨by omega, by omega⟩])) k
theorem z_lc0 (hx : p.tables.exec = Jvm.exec) (hb : c.code = cc) (d : decode cc pc = .ok (.lconst 0, 1)) (k : W p l e R s m args below meth c H locs cells slots Q (F0 m (pc + 1) ls (.long (zL 0) :: rest))) : W p l e R s m args below meth c H locs cells slots Q (F0 m pc ls rest) := lv_lconst hx hb d rfl k
theorem z_lc1 (hx : p.tables.exec = Jvm.exec) (hb : c.code = cc) (d : decode cc pc = .ok (.lconst 1, 1)) (k : W p l e R s m args below meth c H locs cells slots Q (F0 m (pc + 1) ls (.long (zL 1) :: rest))) : W p l e R s m args below meth c H locs cells slots Q (F0 m pc ls rest) := lv_lconst hx hb d rfl k
theorem z_iadd (hx : p.tables.exec = Jvm.exec) (hb : c.code = cc) (d : decode cc pc = .ok (.iadd, 1)) (k : W p l e R s m args below meth c H locs cells slots Q (F0 m (pc + 1) ls (.int (zI (a + b)) :: rest))) : W p l e R s m args below meth c H locs cells slots Q (F0 m pc ls (.int (zI b) :: .int (zI a) :: rest)) := lv_iadd hx hb d (by rw [zI_add]; exact k)
theorem z_isub (hx : p.tables.exec = Jvm.exec) (hb : c.code = cc) (d : decode cc pc = .ok (.isub, 1)) (k : W p l e R s m args below meth c H locs cells slots Q (F0 m (pc + 1) ls (.int (zI (a - b)) :: rest))) : W p l e R s m args below meth c H locs cells slots Q (F0 m pc ls (.int (zI b) :: .int (zI a) :: rest)) := lv_isub hx hb d (by rw [zI_sub]; exact k)
theorem z_imul (hx : p.tables.exec = Jvm.exec) (hb : c.code = cc) (d : decode cc pc = .ok (.imul, 1)) (k : W p l e R s m args below meth c H locs cells slots Q (F0 m (pc + 1) ls (.int (zI (a * b)) :: rest))) : W p l e R s m args below meth c H locs cells slots Q (F0 m pc ls (.int (zI b) :: .int (zI a) :: rest)) := lv_imul hx hb d (by rw [zI_mul]; exact k)
theorem z_ladd (hx : p.tables.exec = Jvm.exec) (hb : c.code = cc) (d : decode cc pc = .ok (.ladd, 1)) (k : W p l e R s m args below meth c H locs cells slots Q (F0 m (pc + 1) ls (.long (zL (a + b)) :: rest))) : W p l e R s m args below meth c H locs cells slots Q (F0 m pc ls (.long (zL b) :: .long (zL a) :: rest)) := lv_ladd hx hb d (by rw [zL_add]; exact k)
theorem z_lsub (hx : p.tables.exec = Jvm.exec) (hb : c.code = cc) (d : decode cc pc = .ok (.lsub, 1)) (k : W p l e R s m args below meth c H locs cells slots Q (F0 m (pc + 1) ls (.long (zL (a - b)) :: rest))) : W p l e R s m args below meth c H locs cells slots Q (F0 m pc ls (.long (zL b) :: .long (zL a) :: rest)) := lv_lsub hx hb d (by rw [zL_sub]; exact k)
theorem z_lmul (hx : p.tables.exec = Jvm.exec) (hb : c.code = cc) (d : decode cc pc = .ok (.lmul, 1)) (k : W p l e R s m args below meth c H locs cells slots Q (F0 m (pc + 1) ls (.long (zL (a * b)) :: rest))) : W p l e R s m args below meth c H locs cells slots Q (F0 m pc ls (.long (zL b) :: .long (zL a) :: rest)) := lv_lmul hx hb d (by rw [zL_mul]; exact k)
theorem z_lneg (hx : p.tables.exec = Jvm.exec) (hb : c.code = cc) (d : decode cc pc = .ok (.lneg, 1)) (k : W p l e R s m args below meth c H locs cells slots Q (F0 m (pc + 1) ls (.long (zL (-a)) :: rest))) : W p l e R s m args below meth c H locs cells slots Q (F0 m pc ls (.long (zL a) :: rest)) := lv_lneg hx hb d (by rw [zL_neg]; exact k)
theorem z_idiv (hx : p.tables.exec = Jvm.exec) (hb : c.code = cc) (d : decode cc pc = .ok (.idiv, 1)) (h : (0 ≤ a ∧ a < 2147483648) ∧ 0 < b ∧ b < 2147483648) (k : W p l e R s m args below meth c H locs cells slots Q (F0 m (pc + 1) ls (.int (zI (a / b)) :: rest))) : W p l e R s m args below meth c H locs cells slots Q (F0 m pc ls (.int (zI b) :: .int (zI a) :: rest)) := lv_idiv hx hb d (fun q => by have := (zI_eq0 (a := b) ⟨by omega, by omega⟩).mp q; omega) (by rw [zI_div h.1.1 h.1.2 h.2.1 h.2.2]; exact k)
theorem z_irem (hx : p.tables.exec = Jvm.exec) (hb : c.code = cc) (d : decode cc pc = .ok (.irem, 1)) (h : (0 ≤ a ∧ a < 2147483648) ∧ 0 < b ∧ b < 2147483648) (k : W p l e R s m args below meth c H locs cells slots Q (F0 m (pc + 1) ls (.int (zI (a % b)) :: rest))) : W p l e R s m args below meth c H locs cells slots Q (F0 m pc ls (.int (zI b) :: .int (zI a) :: rest)) := lv_irem hx hb d (fun q => by have := (zI_eq0 (a := b) ⟨by omega, by omega⟩).mp q; omega) (by rw [zI_rem h.1.1 h.1.2 h.2.1 h.2.2]; exact k)
theorem z_ldiv (hx : p.tables.exec = Jvm.exec) (hb : c.code = cc) (d : decode cc pc = .ok (.ldiv, 1)) (h : (0 ≤ a ∧ a < 9223372036854775808) ∧ 0 < b ∧ b < 9223372036854775808) (k : W p l e R s m args below meth c H locs cells slots Q (F0 m (pc + 1) ls (.long (zL (a / b)) :: rest))) : W p l e R s m args below meth c H locs cells slots Q (F0 m pc ls (.long (zL b) :: .long (zL a) :: rest)) := lv_ldiv hx hb d (fun q => by have := (zL_eq0 (a := b) ⟨by omega, by omega⟩).mp q; omega) (by rw [zL_div h.1.1 h.1.2 h.2.1 h.2.2]; exact k)
theorem z_lrem (hx : p.tables.exec = Jvm.exec) (hb : c.code = cc) (d : decode cc pc = .ok (.lrem, 1)) (h : (0 ≤ a ∧ a < 9223372036854775808) ∧ 0 < b ∧ b < 9223372036854775808) (k : W p l e R s m args below meth c H locs cells slots Q (F0 m (pc + 1) ls (.long (zL (a % b)) :: rest))) : W p l e R s m args below meth c H locs cells slots Q (F0 m pc ls (.long (zL b) :: .long (zL a) :: rest)) := lv_lrem hx hb d (fun q => by have := (zL_eq0 (a := b) ⟨by omega, by omega⟩).mp q; omega) (by rw [zL_rem h.1.1 h.1.2 h.2.1 h.2.2]; exact k)
theorem z_i2l (hx : p.tables.exec = Jvm.exec) (hb : c.code = cc) (d : decode cc pc = .ok (.i2l, 1)) (h : r32 a) (k : W p l e R s m args below meth c H locs cells slots Q (F0 m (pc + 1) ls (.long (zL a) :: rest))) : W p l e R s m args below meth c H locs cells slots Q (F0 m pc ls (.int (zI a) :: rest)) := lv_i2l hx hb d (zI_L h) k
theorem z_l2i (hx : p.tables.exec = Jvm.exec) (hb : c.code = cc) (d : decode cc pc = .ok (.l2i, 1)) (k : W p l e R s m args below meth c H locs cells slots Q (F0 m (pc + 1) ls (.int (zI a) :: rest))) : W p l e R s m args below meth c H locs cells slots Q (F0 m pc ls (.long (zL a) :: rest)) := lv_l2i hx hb d (zL_I a) k
-- BRANCH ROWS: if, icmp, lcmp+if; a truth value
theorem z_if_eq (hx : p.tables.exec = Jvm.exec) (hb : c.code = cc) {off : Int} (tgt : Nat) (d : decode cc pc = .ok (.ifCond .eq off, 3)) (h : r32 a) (ht : (pc : Int) + off = (tgt : Int)) (kt : a = 0 → W p l e R s m args below meth c H locs cells slots Q (F0 m tgt ls rest)) (kf : ¬ a = 0 → W p l e R s m args below meth c H locs cells slots Q (F0 m (pc + 3) ls rest)) : W p l e R s m args below meth c H locs cells slots Q (F0 m pc ls (.int (zI a) :: rest)) := lv_if_eq hx hb d ht (fun q => kt ((zI_eq0 h).mp q)) (fun q => kf (fun q2 => q ((zI_eq0 h).mpr q2)))
theorem z_icmp_eq (hx : p.tables.exec = Jvm.exec) (hb : c.code = cc) {off : Int} (tgt : Nat) (d : decode cc pc = .ok (.if_icmp .eq off, 3)) (h1 : r32 a) (h2 : r32 b) (ht : (pc : Int) + off = (tgt : Int)) (kt : a = b → W p l e R s m args below meth c H locs cells slots Q (F0 m tgt ls rest)) (kf : ¬ a = b → W p l e R s m args below meth c H locs cells slots Q (F0 m (pc + 3) ls rest)) : W p l e R s m args below meth c H locs cells slots Q (F0 m pc ls (.int (zI b) :: .int (zI a) :: rest)) := lv_icmp_eq hx hb d ht (fun q => kt ((zI_eq h1 h2).mp q)) (fun q => kf (fun q2 => q ((zI_eq h1 h2).mpr q2)))
theorem z_if_ne (hx : p.tables.exec = Jvm.exec) (hb : c.code = cc) {off : Int} (tgt : Nat) (d : decode cc pc = .ok (.ifCond .ne off, 3)) (h : r32 a) (ht : (pc : Int) + off = (tgt : Int)) (kt : ¬ a = 0 → W p l e R s m args below meth c H locs cells slots Q (F0 m tgt ls rest)) (kf : a = 0 → W p l e R s m args below meth c H locs cells slots Q (F0 m (pc + 3) ls rest)) : W p l e R s m args below meth c H locs cells slots Q (F0 m pc ls (.int (zI a) :: rest)) := lv_if_ne hx hb d ht (fun q => kt (fun q2 => q ((zI_eq0 h).mpr q2))) (fun q => kf ((zI_eq0 h).mp q))
theorem z_icmp_ne (hx : p.tables.exec = Jvm.exec) (hb : c.code = cc) {off : Int} (tgt : Nat) (d : decode cc pc = .ok (.if_icmp .ne off, 3)) (h1 : r32 a) (h2 : r32 b) (ht : (pc : Int) + off = (tgt : Int)) (kt : ¬ a = b → W p l e R s m args below meth c H locs cells slots Q (F0 m tgt ls rest)) (kf : a = b → W p l e R s m args below meth c H locs cells slots Q (F0 m (pc + 3) ls rest)) : W p l e R s m args below meth c H locs cells slots Q (F0 m pc ls (.int (zI b) :: .int (zI a) :: rest)) := lv_icmp_ne hx hb d ht (fun q => kt (fun q2 => q ((zI_eq h1 h2).mpr q2))) (fun q => kf ((zI_eq h1 h2).mp q))
theorem z_if_lt (hx : p.tables.exec = Jvm.exec) (hb : c.code = cc) {off : Int} (tgt : Nat) (d : decode cc pc = .ok (.ifCond .lt off, 3)) (h : r32 a) (ht : (pc : Int) + off = (tgt : Int)) (kt : a < 0 → W p l e R s m args below meth c H locs cells slots Q (F0 m tgt ls rest)) (kf : 0 ≤ a → W p l e R s m args below meth c H locs cells slots Q (F0 m (pc + 3) ls rest)) : W p l e R s m args below meth c H locs cells slots Q (F0 m pc ls (.int (zI a) :: rest)) := lv_if_lt hx hb d ht (fun q => kt ((zI_lt0 h).mp q)) (fun q => kf (by have q3 := mt (zI_lt0 h).mpr q; omega))
theorem z_icmp_lt (hx : p.tables.exec = Jvm.exec) (hb : c.code = cc) {off : Int} (tgt : Nat) (d : decode cc pc = .ok (.if_icmp .lt off, 3)) (h1 : r32 a) (h2 : r32 b) (ht : (pc : Int) + off = (tgt : Int)) (kt : a < b → W p l e R s m args below meth c H locs cells slots Q (F0 m tgt ls rest)) (kf : b ≤ a → W p l e R s m args below meth c H locs cells slots Q (F0 m (pc + 3) ls rest)) : W p l e R s m args below meth c H locs cells slots Q (F0 m pc ls (.int (zI b) :: .int (zI a) :: rest)) := lv_icmp_lt hx hb d ht (fun q => kt ((zI_lt h1 h2).mp q)) (fun q => kf (by have q3 := mt (zI_lt h1 h2).mpr q; omega))
theorem z_if_ge (hx : p.tables.exec = Jvm.exec) (hb : c.code = cc) {off : Int} (tgt : Nat) (d : decode cc pc = .ok (.ifCond .ge off, 3)) (h : r32 a) (ht : (pc : Int) + off = (tgt : Int)) (kt : 0 ≤ a → W p l e R s m args below meth c H locs cells slots Q (F0 m tgt ls rest)) (kf : a < 0 → W p l e R s m args below meth c H locs cells slots Q (F0 m (pc + 3) ls rest)) : W p l e R s m args below meth c H locs cells slots Q (F0 m pc ls (.int (zI a) :: rest)) := lv_if_ge hx hb d ht (fun q => kt ((zI_ge0 h).mp q)) (fun q => kf (by have q3 := mt (zI_ge0 h).mpr q; omega))
theorem z_icmp_ge (hx : p.tables.exec = Jvm.exec) (hb : c.code = cc) {off : Int} (tgt : Nat) (d : decode cc pc = .ok (.if_icmp .ge off, 3)) (h1 : r32 a) (h2 : r32 b) (ht : (pc : Int) + off = (tgt : Int)) (kt : b ≤ a → W p l e R s m args below meth c H locs cells slots Q (F0 m tgt ls rest)) (kf : a < b → W p l e R s m args below meth c H locs cells slots Q (F0 m (pc + 3) ls rest)) : W p l e R s m args below meth c H locs cells slots Q (F0 m pc ls (.int (zI b) :: .int (zI a) :: rest)) := lv_icmp_ge hx hb d ht (fun q => kt ((zI_le h2 h1).mp q)) (fun q => kf (by have q3 := mt (zI_le h2 h1).mpr q; omega))
theorem z_if_gt (hx : p.tables.exec = Jvm.exec) (hb : c.code = cc) {off : Int} (tgt : Nat) (d : decode cc pc = .ok (.ifCond .gt off, 3)) (h : r32 a) (ht : (pc : Int) + off = (tgt : Int)) (kt : 0 < a → W p l e R s m args below meth c H locs cells slots Q (F0 m tgt ls rest)) (kf : a ≤ 0 → W p l e R s m args below meth c H locs cells slots Q (F0 m (pc + 3) ls rest)) : W p l e R s m args below meth c H locs cells slots Q (F0 m pc ls (.int (zI a) :: rest)) := lv_if_gt hx hb d ht (fun q => kt ((zI_gt0 h).mp q)) (fun q => kf (by have q3 := mt (zI_gt0 h).mpr q; omega))
theorem z_icmp_gt (hx : p.tables.exec = Jvm.exec) (hb : c.code = cc) {off : Int} (tgt : Nat) (d : decode cc pc = .ok (.if_icmp .gt off, 3)) (h1 : r32 a) (h2 : r32 b) (ht : (pc : Int) + off = (tgt : Int)) (kt : b < a → W p l e R s m args below meth c H locs cells slots Q (F0 m tgt ls rest)) (kf : a ≤ b → W p l e R s m args below meth c H locs cells slots Q (F0 m (pc + 3) ls rest)) : W p l e R s m args below meth c H locs cells slots Q (F0 m pc ls (.int (zI b) :: .int (zI a) :: rest)) := lv_icmp_gt hx hb d ht (fun q => kt ((zI_lt h2 h1).mp q)) (fun q => kf (by have q3 := mt (zI_lt h2 h1).mpr q; omega))
theorem z_if_le (hx : p.tables.exec = Jvm.exec) (hb : c.code = cc) {off : Int} (tgt : Nat) (d : decode cc pc = .ok (.ifCond .le off, 3)) (h : r32 a) (ht : (pc : Int) + off = (tgt : Int)) (kt : a ≤ 0 → W p l e R s m args below meth c H locs cells slots Q (F0 m tgt ls rest)) (kf : 0 < a → W p l e R s m args below meth c H locs cells slots Q (F0 m (pc + 3) ls rest)) : W p l e R s m args below meth c H locs cells slots Q (F0 m pc ls (.int (zI a) :: rest)) := lv_if_le hx hb d ht (fun q => kt ((zI_le0 h).mp q)) (fun q => kf (by have q3 := mt (zI_le0 h).mpr q; omega))
theorem z_icmp_le (hx : p.tables.exec = Jvm.exec) (hb : c.code = cc) {off : Int} (tgt : Nat) (d : decode cc pc = .ok (.if_icmp .le off, 3)) (h1 : r32 a) (h2 : r32 b) (ht : (pc : Int) + off = (tgt : Int)) (kt : a ≤ b → W p l e R s m args below meth c H locs cells slots Q (F0 m tgt ls rest)) (kf : b < a → W p l e R s m args below meth c H locs cells slots Q (F0 m (pc + 3) ls rest)) : W p l e R s m args below meth c H locs cells slots Q (F0 m pc ls (.int (zI b) :: .int (zI a) :: rest)) := lv_icmp_le hx hb d ht (fun q => kt ((zI_le h1 h2).mp q)) (fun q => kf (by have q3 := mt (zI_le h1 h2).mpr q; omega))
theorem lg_cmp_z {a b : Int} (h1 : r64 a) (h2 : r64 b) : lg_cmp (zL a) (zL b) = zI (if b < a then 1 else if a = b then 0 else -1) := by
  unfold lg_cmp
  simp only [zL_lt h2 h1, zL_eq h1 h2]
  split
  · rfl
  · split <;> rfl
theorem z_lcmp_eq (hx : p.tables.exec = Jvm.exec) (hb : c.code = cc) {off : Int} (tgt : Nat) (d1 : decode cc pc = .ok (.lcmp, 1)) (d : decode cc (pc + 1) = .ok (.ifCond .eq off, 3)) (h1 : r64 a) (h2 : r64 b) (ht : ((pc + 1 : Nat) : Int) + off = (tgt : Int)) (kt : a = b → W p l e R s m args below meth c H locs cells slots Q (F0 m tgt ls rest)) (kf : ¬ a = b → W p l e R s m args below meth c H locs cells slots Q (F0 m (pc + 4) ls rest)) : W p l e R s m args below meth c H locs cells slots Q (F0 m pc ls (.long (zL b) :: .long (zL a) :: rest)) := by
  refine W.lcmp hx hb d1 ?_
  rw [lg_cmp_z h1 h2]
  refine z_if_eq hx hb tgt d (by split <;> (try split) <;> decide) ht (fun q => kt ?_) (fun q => kf ?_)
  · (split at q <;> (try split at q)) <;> omega
  · (split at q <;> (try split at q)) <;> omega
theorem z_lcmp_ne (hx : p.tables.exec = Jvm.exec) (hb : c.code = cc) {off : Int} (tgt : Nat) (d1 : decode cc pc = .ok (.lcmp, 1)) (d : decode cc (pc + 1) = .ok (.ifCond .ne off, 3)) (h1 : r64 a) (h2 : r64 b) (ht : ((pc + 1 : Nat) : Int) + off = (tgt : Int)) (kt : ¬ a = b → W p l e R s m args below meth c H locs cells slots Q (F0 m tgt ls rest)) (kf : a = b → W p l e R s m args below meth c H locs cells slots Q (F0 m (pc + 4) ls rest)) : W p l e R s m args below meth c H locs cells slots Q (F0 m pc ls (.long (zL b) :: .long (zL a) :: rest)) := by
  refine W.lcmp hx hb d1 ?_
  rw [lg_cmp_z h1 h2]
  refine z_if_ne hx hb tgt d (by split <;> (try split) <;> decide) ht (fun q => kt ?_) (fun q => kf ?_)
  · (split at q <;> (try split at q)) <;> omega
  · (split at q <;> (try split at q)) <;> omega
theorem z_lcmp_lt (hx : p.tables.exec = Jvm.exec) (hb : c.code = cc) {off : Int} (tgt : Nat) (d1 : decode cc pc = .ok (.lcmp, 1)) (d : decode cc (pc + 1) = .ok (.ifCond .lt off, 3)) (h1 : r64 a) (h2 : r64 b) (ht : ((pc + 1 : Nat) : Int) + off = (tgt : Int)) (kt : a < b → W p l e R s m args below meth c H locs cells slots Q (F0 m tgt ls rest)) (kf : b ≤ a → W p l e R s m args below meth c H locs cells slots Q (F0 m (pc + 4) ls rest)) : W p l e R s m args below meth c H locs cells slots Q (F0 m pc ls (.long (zL b) :: .long (zL a) :: rest)) := by
  refine W.lcmp hx hb d1 ?_
  rw [lg_cmp_z h1 h2]
  refine z_if_lt hx hb tgt d (by split <;> (try split) <;> decide) ht (fun q => kt ?_) (fun q => kf ?_)
  · (split at q <;> (try split at q)) <;> omega
  · (split at q <;> (try split at q)) <;> omega
theorem z_lcmp_ge (hx : p.tables.exec = Jvm.exec) (hb : c.code = cc) {off : Int} (tgt : Nat) (d1 : decode cc pc = .ok (.lcmp, 1)) (d : decode cc (pc + 1) = .ok (.ifCond .ge off, 3)) (h1 : r64 a) (h2 : r64 b) (ht : ((pc + 1 : Nat) : Int) + off = (tgt : Int)) (kt : b ≤ a → W p l e R s m args below meth c H locs cells slots Q (F0 m tgt ls rest)) (kf : a < b → W p l e R s m args below meth c H locs cells slots Q (F0 m (pc + 4) ls rest)) : W p l e R s m args below meth c H locs cells slots Q (F0 m pc ls (.long (zL b) :: .long (zL a) :: rest)) := by
  refine W.lcmp hx hb d1 ?_
  rw [lg_cmp_z h1 h2]
  refine z_if_ge hx hb tgt d (by split <;> (try split) <;> decide) ht (fun q => kt ?_) (fun q => kf ?_)
  · (split at q <;> (try split at q)) <;> omega
  · (split at q <;> (try split at q)) <;> omega
theorem z_lcmp_gt (hx : p.tables.exec = Jvm.exec) (hb : c.code = cc) {off : Int} (tgt : Nat) (d1 : decode cc pc = .ok (.lcmp, 1)) (d : decode cc (pc + 1) = .ok (.ifCond .gt off, 3)) (h1 : r64 a) (h2 : r64 b) (ht : ((pc + 1 : Nat) : Int) + off = (tgt : Int)) (kt : b < a → W p l e R s m args below meth c H locs cells slots Q (F0 m tgt ls rest)) (kf : a ≤ b → W p l e R s m args below meth c H locs cells slots Q (F0 m (pc + 4) ls rest)) : W p l e R s m args below meth c H locs cells slots Q (F0 m pc ls (.long (zL b) :: .long (zL a) :: rest)) := by
  refine W.lcmp hx hb d1 ?_
  rw [lg_cmp_z h1 h2]
  refine z_if_gt hx hb tgt d (by split <;> (try split) <;> decide) ht (fun q => kt ?_) (fun q => kf ?_)
  · (split at q <;> (try split at q)) <;> omega
  · (split at q <;> (try split at q)) <;> omega
theorem z_lcmp_le (hx : p.tables.exec = Jvm.exec) (hb : c.code = cc) {off : Int} (tgt : Nat) (d1 : decode cc pc = .ok (.lcmp, 1)) (d : decode cc (pc + 1) = .ok (.ifCond .le off, 3)) (h1 : r64 a) (h2 : r64 b) (ht : ((pc + 1 : Nat) : Int) + off = (tgt : Int)) (kt : a ≤ b → W p l e R s m args below meth c H locs cells slots Q (F0 m tgt ls rest)) (kf : b < a → W p l e R s m args below meth c H locs cells slots Q (F0 m (pc + 4) ls rest)) : W p l e R s m args below meth c H locs cells slots Q (F0 m pc ls (.long (zL b) :: .long (zL a) :: rest)) := by
  refine W.lcmp hx hb d1 ?_
  rw [lg_cmp_z h1 h2]
  refine z_if_le hx hb tgt d (by split <;> (try split) <;> decide) ht (fun q => kt ?_) (fun q => kf ?_)
  · (split at q <;> (try split at q)) <;> omega
  · (split at q <;> (try split at q)) <;> omega
theorem z_ifb_eq {P : Prop} [Decidable P] (hx : p.tables.exec = Jvm.exec) (hb : c.code = cc) {off : Int} (tgt : Nat) (d : decode cc pc = .ok (.ifCond .eq off, 3)) (ht : (pc : Int) + off = (tgt : Int)) (kt : ¬ P → W p l e R s m args below meth c H locs cells slots Q (F0 m tgt ls rest)) (kf : P → W p l e R s m args below meth c H locs cells slots Q (F0 m (pc + 3) ls rest)) : W p l e R s m args below meth c H locs cells slots Q (F0 m pc ls (.int (zI (bI P)) :: rest)) :=
  z_if_eq hx hb tgt d ⟨by have := bI_r P; omega, by have := bI_r P; omega⟩ ht (fun q => kt (bI_0.mp q)) (fun q => kf (Decidable.byContradiction fun q2 => q (bI_0.mpr q2)))
theorem z_ifb_ne {P : Prop} [Decidable P] (hx : p.tables.exec = Jvm.exec) (hb : c.code = cc) {off : Int} (tgt : Nat) (d : decode cc pc = .ok (.ifCond .ne off, 3)) (ht : (pc : Int) + off = (tgt : Int)) (kt : P → W p l e R s m args below meth c H locs cells slots Q (F0 m tgt ls rest)) (kf : ¬ P → W p l e R s m args below meth c H locs cells slots Q (F0 m (pc + 3) ls rest)) : W p l e R s m args below meth c H locs cells slots Q (F0 m pc ls (.int (zI (bI P)) :: rest)) :=
  z_if_ne hx hb tgt d ⟨by have := bI_r P; omega, by have := bI_r P; omega⟩ ht (fun q => kt (Decidable.byContradiction fun q2 => q (bI_0.mpr q2))) (fun q => kf (bI_0.mp q))
theorem z_ist_n (hx : p.tables.exec = Jvm.exec) (hb : c.code = cc) {k : Fin 4} {i nL : Nat} {lv : List (Nat × Value)} (d : decode cc pc = .ok (.istore_n k, 1)) (hi : (k : Nat) = i) (h : lv_has ls nL lv) (hn : i < nL) (kk : ∀ x : Int, x = a → ∀ ls' : Array Slot, lv_has ls' nL ((i, Value.int (zI x)) :: lv.filter (fun q => !(q.1 == i) && !(q.1 + 1 == i && q.2.category == 2))) → W p l e R s m args below meth c H locs cells slots Q (F0 m (pc + 1) ls' rest)) : W p l e R s m args below meth c H locs cells slots Q (F0 m pc ls (.int (zI a) :: rest)) := lv_istore_n hx hb d hi h hn rfl (fun ls' h' => kk a rfl ls' h')
theorem z_ist (hx : p.tables.exec = Jvm.exec) (hb : c.code = cc) {i nL : Nat} {lv : List (Nat × Value)} (d : decode cc pc = .ok (.istore i, 2)) (h : lv_has ls nL lv) (hn : i < nL) (kk : ∀ x : Int, x = a → ∀ ls' : Array Slot, lv_has ls' nL ((i, Value.int (zI x)) :: lv.filter (fun q => !(q.1 == i) && !(q.1 + 1 == i && q.2.category == 2))) → W p l e R s m args below meth c H locs cells slots Q (F0 m (pc + 2) ls' rest)) : W p l e R s m args below meth c H locs cells slots Q (F0 m pc ls (.int (zI a) :: rest)) := lv_istore hx hb d h hn rfl (fun ls' h' => kk a rfl ls' h')
theorem z_lst_n (hx : p.tables.exec = Jvm.exec) (hb : c.code = cc) {k : Fin 4} {i nL : Nat} {lv : List (Nat × Value)} (d : decode cc pc = .ok (.lstore_n k, 1)) (hi : (k : Nat) = i) (h : lv_has ls nL lv) (hn : i + 1 < nL) (kk : ∀ x : Int, x = a → ∀ ls' : Array Slot, lv_has ls' nL ((i, Value.long (zL x)) :: lv.filter (fun q => !(q.1 == i) && (!(q.1 == i + 1) && !(q.1 + 1 == i && q.2.category == 2)))) → W p l e R s m args below meth c H locs cells slots Q (F0 m (pc + 1) ls' rest)) : W p l e R s m args below meth c H locs cells slots Q (F0 m pc ls (.long (zL a) :: rest)) := lv_lstore_n hx hb d hi h hn rfl (fun ls' h' => kk a rfl ls' h')
theorem z_lst (hx : p.tables.exec = Jvm.exec) (hb : c.code = cc) {i nL : Nat} {lv : List (Nat × Value)} (d : decode cc pc = .ok (.lstore i, 2)) (h : lv_has ls nL lv) (hn : i + 1 < nL) (kk : ∀ x : Int, x = a → ∀ ls' : Array Slot, lv_has ls' nL ((i, Value.long (zL x)) :: lv.filter (fun q => !(q.1 == i) && (!(q.1 == i + 1) && !(q.1 + 1 == i && q.2.category == 2)))) → W p l e R s m args below meth c H locs cells slots Q (F0 m (pc + 2) ls' rest)) : W p l e R s m args below meth c H locs cells slots Q (F0 m pc ls (.long (zL a) :: rest)) := lv_lstore hx hb d h hn rfl (fun ls' h' => kk a rfl ls' h')
theorem z_iinc (hx : p.tables.exec = Jvm.exec) (hb : c.code = cc) {i nL k : Nat} {n : Int} {lv : List (Nat × Value)} (d : decode cc pc = .ok (.iinc i n, 3)) (h : lv_has ls nL lv) (hk : lv[k]? = some (i, .int (zI a))) (hn : i < nL) (kk : ∀ x : Int, x = a + n → ∀ ls' : Array Slot, lv_has ls' nL ((i, Value.int (zI x)) :: lv.filter (fun q => !(q.1 == i) && !(q.1 + 1 == i && q.2.category == 2))) → W p l e R s m args below meth c H locs cells slots Q (F0 m (pc + 3) ls' rest)) : W p l e R s m args below meth c H locs cells slots Q (F0 m pc ls rest) := lv_iinc (v := zI (a + n)) hx hb d h hk (zI_add a n) hn rfl (fun ls' h' => kk (a + n) rfl ls' h')
theorem z_topi (k : ∀ x : Int, x = a → W p l e R s m args below meth c H locs cells slots Q (F0 m pc ls (.int (zI x) :: rest))) : W p l e R s m args below meth c H locs cells slots Q (F0 m pc ls (.int (zI a) :: rest)) := k a rfl
theorem z_topl (k : ∀ x : Int, x = a → W p l e R s m args below meth c H locs cells slots Q (F0 m pc ls (.long (zL x) :: rest))) : W p l e R s m args below meth c H locs cells slots Q (F0 m pc ls (.long (zL a) :: rest)) := k a rfl
end ZR
end
section
/-! words that hold at every state of the run; contracts over a world that is a function of a state of ours -/
def gd (w : Cond) : Bool := (w.onTables && w.keeps) || (match w with | .arrayClass _ => true | .fieldLinkNest .. => true | .methodLinkNest .. => true | _ => false)
theorem gd_spec {w : Cond} (h : gd w = true) : (w.onTables && w.keeps) = true ∨ (∃ ty, w = .arrayClass ty) ∨ (∃ a i b n d g, w = .fieldLinkNest a i b n d g) ∨ (∃ a i x g, w = .methodLinkNest a i x g) := by
  unfold gd at h
  rw [Bool.or_eq_true] at h
  rcases h with h | h
  · exact Or.inl h
  · split at h
    · exact Or.inr (Or.inl ⟨_, rfl⟩)
    · exact Or.inr (Or.inr (Or.inl ⟨_, _, _, _, _, _, rfl⟩))
    · exact Or.inr (Or.inr (Or.inr ⟨_, _, _, _, rfl⟩))
    · cases h
def lw_gd : List Cond := lw_tbl.filter gd
def TB (U : State) : Prop := ∀ w ∈ lw_gd, w.before #[] U = true
theorem TB.at {s U : State} (hW : s.WarmedH U.vm) (h : TB s) (a : Array Value) : ∀ w ∈ lw_gd, w.before a U = true := fun w hw => by
  have h1 := h w hw
  rcases gd_spec (List.mem_filter.mp hw).2 with h2 | ⟨ty, rfl⟩ | ⟨x1, x2, x3, x4, x5, x6, rfl⟩ | ⟨x1, x2, x3, x4, rfl⟩
  · exact word_at hW (Or.inl h2) h1
  · exact word_at hW (Or.inr ⟨ty, rfl⟩) h1
  · exact va_Nw.use rfl (va_Nw.warmF hW h1)
  · exact va_Nw.use rfl (va_Nw.warmM hW h1)
theorem TB.moved {s U : State} (hW : s.WarmedH U.vm) (h : TB s) : TB U := h.at hW #[]
theorem TB.hts {s : State} (h : TB s) (a : Array Value) : ∀ w ∈ lw_gd, w.before a s = true := h.at (State.WarmedH.refl s) a
/-- what holds all through a method: the machine, its code, the words, the classes -/
def Cx (p : Program) (s : State) (m : MethodId) (args : Array Value) (c : Code) (cc : ByteArray) (nL : Nat) (own : String) (meth : Method) (ret : Option FieldType) (D : va_G) (cl : List vw_C) (tys : List (ClassId × FieldType)) : Prop :=
  p.tables.exec = Jvm.exec ∧ c.code = cc ∧ c.maxLocals = nL ∧ s.vm.findClass own = some m.cls ∧ TB s ∧ va_K D cl tys s ∧ meth.sig.returnType = ret ∧ meth.locks = false
/-- the world at a heap: our state's cells, apart, in A; nothing outside A has changed -/
def Wd {S0 : Type} (D : va_G) (cl : List vw_C) (wf : S0 → va_W) (A : Nat → Prop) (H0 : Heap) (σ : S0) (H : Heap) (locs : List Loc) : Prop := va_P D cl (wf σ) H ∧ va_D A (wf σ) ∧ va_S A H0 H locs
def Rmh (h : Nat) : Room := { frames := h, cells := 0, slots := 0, locals := 64 * h }
def Qw {S0 : Type} (D : va_G) (cl : List vw_C) (wf : S0 → va_W) (A : Nat → Prop) (Post : Option Value → S0 → Prop) : Array Value → State → Outcome → State → Prop := fun _ st o t => ∃ v σ', o = .returned v ∧ Post v σ' ∧ va_P D cl (wf σ') t.heap ∧ va_D A (wf σ') ∧ va_F A st t
def Pw {S0 : Type} (D : va_G) (cl : List vw_C) (tys : List (ClassId × FieldType)) (wf : S0 → va_W) (A : Nat → Prop) (as : List Value) (σ : S0) : Array Value → State → Prop := va_Pc as (fun U => TB U ∧ va_K D cl tys U ∧ va_P D cl (wf σ) U.heap ∧ va_D A (wf σ))
/-- THE CONTRACT: from the state σ with the arguments as, y returns v at a state σ' with Post; it makes nothing, and changes nothing outside A, whatever A holds the world -/
def Cw {S0 : Type} (l : Launch) (D : va_G) (cl : List vw_C) (tys : List (ClassId × FieldType)) (wf : S0 → va_W) (y : MethodName) (cc : ByteArray) (nL : Nat) (ret : Option FieldType) (h : Nat) (as : List Value) (σ : S0) (Post : Option Value → S0 → Prop) : Prop :=
  ∀ A : Nat → Prop, Met l y [.code y cc nL ret] (Rmh h) (Pw D cl tys wf A as σ) (Qw D cl wf A Post) 0 0 A
/-- it answers r, at a state with P -/
def RW {S0 : Type} (r : Value) (P : S0 → Prop) : Option Value → S0 → Prop := fun v τ => v = some r ∧ P τ
/-- it answers nothing, at a state with P -/
def VW {S0 : Type} (P : S0 → Prop) : Option Value → S0 → Prop := fun v τ => v = none ∧ P τ
section CW
variable {S0 : Type} {l : Launch} {D : va_G} {cl : List vw_C} {tys : List (ClassId × FieldType)} {wf : S0 → va_W} {y : MethodName} {cc : ByteArray} {nL : Nat} {ret : Option FieldType} {h : Nat} {as : List Value} {σ : S0} {Post : Option Value → S0 → Prop}
theorem Cw.enter (hy : plainName y.cls = true) (hn : (lg_sl as).length ≤ nL)
    (body : ∀ (A : Nat → Prop) (p : Program) (e : Env) (s : State) (m : MethodId) (below : List Frame) (meth : Method) (c : Code), Cx p s m as.toArray c cc nL y.cls meth ret D cl tys → ∀ ls : Array Slot, lv_has ls nL (lv_args 0 as) → Wd D cl wf A s.heap σ s.heap [] →
      W p l e (Rmh h) s m as.toArray below meth c s.heap [] 0 0 (MQ below (Qw D cl wf A Post) as.toArray s 0 0 A) (F0 m 0 ls [])) : Cw l D cl tys wf y cc nL ret h as σ Post := by
  intro A
  refine Met.ofW (cc := cc) (maxL := nL) (ret := ret) hy rfl ?_
  intro p e s m args below meth c s₁ B hml hv
  obtain ⟨rfl, hTB, hK, hP, hD⟩ := hv
  have hl := lv_entry as (n := nL) hn
  rw [lg_entry_eq]
  exact body A p e s m below meth c ⟨B.exec, B.bytes, hml, findClass_of_methodNamed B.named, hTB, hK, B.returns, B.notSynchronized⟩ _ hl ⟨hP, hD, va_S.rf⟩
theorem Cw.mono {Post' : Option Value → S0 → Prop} (hC : Cw l D cl tys wf y cc nL ret h as σ Post) (hp : ∀ v τ, Post v τ → Post' v τ) : Cw l D cl tys wf y cc nL ret h as σ Post' := fun A =>
  MetFree.mono (hC A) (fun _ _ h => h) (fun _ _ _ _ _ h => h) (fun _ _ _ _ _ ⟨⟨v, τ, e, q, r⟩, z⟩ => ⟨⟨v, τ, e, hp v τ q, r⟩, z⟩)
end CW
section CR
variable {S0 : Type} {p : Program} {l : Launch} {e : Env} {R : Room} {s : State} {m : MethodId} {args : Array Value} {below : List Frame} {meth : Method} {c : Code} {H : Heap} {locs : List Loc} {cells slots : Nat} {Q : State → Prop}
variable {cc : ByteArray} {pc nL : Nat} {own : String} {ret : Option FieldType} {ls : Array Slot} {rest : List Value} {D : va_G} {cl : List vw_C} {tys : List (ClassId × FieldType)} {wf : S0 → va_W} {A : Nat → Prop} {σ : S0} {Post : Option Value → S0 → Prop} {ad : Array Value}
theorem w_iret (hc : Cx p s m args c cc nL own meth (some .int) D cl tys) (hw : Wd D cl wf A s.heap σ H locs) {v : Int32} (hp : Post (some (.int v)) σ) (d : decode cc pc = .ok (.ireturn, 1)) : W p l e R s m args below meth c H locs 0 0 (MQ below (Qw D cl wf A Post) args s 0 0 A) (F0 m pc ls [.int v]) := by
  obtain ⟨hx, hb, -, -, -, -, hr, hlk⟩ := hc
  exact W.iret hx hb hr (fun t ht hW => ⟨_, σ, rfl, hp, by rw [ht]; exact hw.1, hw.2.1, hw.2.2.F ht⟩) hw.2.2.2.2 d
theorem w_zret (hc : Cx p s m args c cc nL own meth (some .boolean) D cl tys) (hw : Wd D cl wf A s.heap σ H locs) {v : Int} (h01 : v = 0 ∨ v = 1) (hp : Post (some (.int (zI v))) σ) (d : decode cc pc = .ok (.ireturn, 1)) : W p l e R s m args below meth c H locs 0 0 (MQ below (Qw D cl wf A Post) args s 0 0 A) (F0 m pc ls [.int (zI v)]) := by
  obtain ⟨hx, hb, -, -, -, -, hr, hlk⟩ := hc
  exact W.zret hx hb hr (by rcases h01 with rfl | rfl <;> decide) (fun t ht hW => ⟨_, σ, rfl, hp, by rw [ht]; exact hw.1, hw.2.1, hw.2.2.F ht⟩) hw.2.2.2.2 d
theorem w_lret (hc : Cx p s m args c cc nL own meth (some .long) D cl tys) (hw : Wd D cl wf A s.heap σ H locs) {v : Int64} (hp : Post (some (.long v)) σ) (d : decode cc pc = .ok (.lreturn, 1)) : W p l e R s m args below meth c H locs 0 0 (MQ below (Qw D cl wf A Post) args s 0 0 A) (F0 m pc ls [.long v]) := by
  obtain ⟨hx, hb, -, -, -, -, hr, hlk⟩ := hc
  exact W.lret hx hb hr (fun t ht hW => ⟨_, σ, rfl, hp, by rw [ht]; exact hw.1, hw.2.1, hw.2.2.F ht⟩) hw.2.2.2.2 d
theorem w_vret (hc : Cx p s m args c cc nL own meth none D cl tys) (hw : Wd D cl wf A s.heap σ H locs) (hp : Post none σ) (d : decode cc pc = .ok (.return_, 1)) : W p l e R s m args below meth c H locs 0 0 (MQ below (Qw D cl wf A Post) args s 0 0 A) (F0 m pc ls []) := by
  obtain ⟨hx, hb, -, -, -, -, hr, hlk⟩ := hc
  exact W.vret hx hb hr (fun t ht hW => ⟨_, σ, rfl, hp, by rw [ht]; exact hw.1, hw.2.1, hw.2.2.F ht⟩) hw.2.2.2.2 d
/-- behind a call over the same world -/
theorem w_go {st : List Value} {σ0 : S0} (hr : CallRun p l e R s m args below meth c H locs cells slots 0 0 (F0 m pc ls st) rest (Qw D cl wf A Post ad) A) (hw : Wd D cl wf A s.heap σ0 H locs) (kk : ∀ (v : Option Value) (τ : S0) (H1 : Heap) (locs1 : List Loc), Post v τ → Wd D cl wf A s.heap τ H1 locs1 → W p l e R s m args below meth c H1 locs1 cells slots Q (F0 m (pc + 3) ls (v.toList ++ rest))) : W p l e R s m args below meth c H locs cells slots Q (F0 m pc ls st) := by
  intro T hT X
  obtain ⟨v, st₀, t, T', L, h0, X', hL, e1, ⟨v', τ, hv, hp, hP, hD, hF⟩, go⟩ := hr T hT X
  cases hv
  obtain ⟨-, -, s1, s2, s3⟩ := hw
  obtain ⟨f1, f2⟩ := hF
  rw [h0] at f1 f2
  obtain ⟨t2, a1, b1⟩ := kk v τ t.heap (locs ++ L) hp ⟨hP, hD, Nat.le_trans s1 f1, fun q g1 g2 => (f2 q (Nat.lt_of_lt_of_le g1 s1) g2).trans (s2 q g1 g2), fun q hq => (List.mem_append.mp hq).elim (s3 q) (hL q)⟩ T' e1 X'
  exact ⟨t2, go t2 a1, b1⟩
theorem pw_blind {as : List Value} : FrameBlind (Pw D cl tys wf A as σ) := fun a U g mk q => by
  obtain ⟨q0, q1, q2, q3, q4⟩ := q
  exact ⟨q0, TB.moved (s := U) (State.WarmedH.refl U) q1, va_K.moved (u := U) (U := U.calling g mk a) (Vm.Alike.refl U.vm) q2, q3, q4⟩
/-- a callee's own words -/
def Yw (y : MethodName) (cc : ByteArray) (nL : Nat) (ret : Option FieldType) (n : Nat) : Prop := Cond.code y cc nL ret ∈ lw_gd ∧ Cond.initialized y.cls ∈ lw_gd ∧ y.cls ≠ "java/lang/invoke/MethodHandle" ∧ y.cls ≠ "java/lang/invoke/VarHandle" ∧ (parseMethodDescriptor y.desc).map (fun d => d.parameters.length) = some n
theorem callB_w {y : MethodName} {bytes : ByteArray} {maxL n h index : Nat} {ret' : Option FieldType} (hTB : TB s) (yw : Yw y bytes maxL ret' n) (lk : Cond.methodLink own index y ∈ lw_gd) (hR : h + 1 ≤ R.frames ∧ 8 + (maxL + 11) + 64 * h ≤ R.locals) : CallB R s args own index y bytes maxL ret' [.code y bytes maxL ret'] (Rmh h) 0 0 n := by
  obtain ⟨y1, y2, y3, y4, y5⟩ := yw
  refine ⟨rfl, rfl, hR.1, hR.2, fun w hw a' U hW => ?_, List.mem_cons_self, hTB.hts args _ y1, hTB.hts args _ y2, ⟨y3, y4⟩, fun sig hs => ?_, hTB.hts args _ lk⟩
  · rw [List.mem_singleton.mp hw]
    exact hTB.at hW a' _ y1
  · rw [hs] at y5
    exact (Option.some.inj y5).symm
theorem va_CN_w {y : MethodName} {bytes : ByteArray} {maxL n h index : Nat} {ret' : Option FieldType} {host : String} (hTB : TB s) (yw : Yw y bytes maxL ret' n) (lk : Cond.methodLinkNest own index y host ∈ lw_gd) (hR : h + 1 ≤ R.frames ∧ 8 + (maxL + 11) + 64 * h ≤ R.locals) : va_CN R s args own index y host bytes maxL ret' [.code y bytes maxL ret'] (Rmh h) 0 0 n := by
  obtain ⟨y1, y2, y3, y4, y5⟩ := yw
  refine ⟨⟨rfl, rfl, hR.1, hR.2, fun w hw a' U hW => ?_, List.mem_cons_self⟩, hTB.hts args _ y1, hTB.hts args _ y2, ⟨y3, y4⟩, fun sig hs => ?_, hTB.hts args _ lk⟩
  · rw [List.mem_singleton.mp hw]
    exact hTB.at hW a' _ y1
  · rw [hs] at y5
    exact (Option.some.inj y5).symm
/-- invokevirtual of an object of the world -/
theorem w_cv {y : MethodName} {bytes : ByteArray} {maxL n h index q0 ci N b : Nat} {ret' : Option FieldType} {as st : List Value} {C : String} {T : u_T} {fs : List Value} (hc : Cx p s m args c cc nL own meth ret D cl tys) (hw : Wd D cl wf A s.heap σ H locs) (hC : Cw l D cl tys wf y bytes maxL ret' h (.ref b :: as) σ Post) (yw : Yw y bytes maxL ret' n) (yi : Cond.instanceMethod y ∈ lw_gd ∧ Cond.selects C y y ∈ lw_gd) (lk : Cond.methodLink own index y ∈ lw_gd) (d : decode cc pc = .ok (.invokevirtual index, 3))
    (hst : st = as.reverse ++ .ref b :: rest) (hq : (wf σ)[q0]? = some (b, .inr (ci, fs))) (hci : cl[ci]? = some (C, T, N)) (hn : as.length = n) (hl : ls.size = nL) (hrm : (rest.map fun v => v.category).sum ≤ 8) (hR : h + 1 ≤ R.frames ∧ 8 + (maxL + 11) + 64 * h ≤ R.locals) (hf : cells ≤ R.cells ∧ slots ≤ R.slots)
    (kk : ∀ (v : Option Value) (τ : S0) (H1 : Heap) (locs1 : List Loc), Post v τ → Wd D cl wf A s.heap τ H1 locs1 → W p l e R s m args below meth c H1 locs1 cells slots Q (F0 m (pc + 3) ls (v.toList ++ rest))) : W p l e R s m args below meth c H locs cells slots Q (F0 m pc ls st) := by
  obtain ⟨hx, hb, hml, hown, hTB, hK, -, -⟩ := hc
  refine w_go (W.runV (C := C) (Ts := lw_gd) ⟨hx, hb, hml, hown, hTB.hts args⟩ (hC A) ⟨callB_w hTB yw lk hR, hTB.hts args _ yi.1, hTB.hts args _ yi.2⟩ ⟨pw_blind, va_recv (q := (C, T, N)) hK hw.1 hci hq, fun U hU hW => ⟨rfl, hTB.moved hW, va_K.moved hW.alike hK, by rw [hU]; exact hw.1, hw.2.1⟩⟩ rfl hn hl hst (lv_room hrm) d hf) hw kk
/-- invokestatic -/
theorem w_cs {y : MethodName} {bytes : ByteArray} {maxL n h index : Nat} {ret' : Option FieldType} {as st : List Value} (hc : Cx p s m args c cc nL own meth ret D cl tys) (hw : Wd D cl wf A s.heap σ H locs) (hC : Cw l D cl tys wf y bytes maxL ret' h as σ Post) (yw : Yw y bytes maxL ret' n) (yi : Cond.static y ∈ lw_gd) (lk : Cond.methodLink own index y ∈ lw_gd) (d : decode cc pc = .ok (.invokestatic index, 3))
    (hst : st = as.reverse ++ rest) (hn : as.length = n) (hl : ls.size = nL) (hrm : (rest.map fun v => v.category).sum ≤ 8) (hR : h + 1 ≤ R.frames ∧ 8 + (maxL + 11) + 64 * h ≤ R.locals) (hf : cells ≤ R.cells ∧ slots ≤ R.slots)
    (kk : ∀ (v : Option Value) (τ : S0) (H1 : Heap) (locs1 : List Loc), Post v τ → Wd D cl wf A s.heap τ H1 locs1 → W p l e R s m args below meth c H1 locs1 cells slots Q (F0 m (pc + 3) ls (v.toList ++ rest))) : W p l e R s m args below meth c H locs cells slots Q (F0 m pc ls st) := by
  obtain ⟨hx, hb, hml, hown, hTB, hK, -, -⟩ := hc
  refine w_go (W.runS (Ts := lw_gd) ⟨hx, hb, hml, hown, hTB.hts args⟩ (hC A) ⟨callB_w hTB yw lk hR, hTB.hts args _ yi⟩ ⟨pw_blind, fun U hU hW => ⟨rfl, hTB.moved hW, va_K.moved hW.alike hK, by rw [hU]; exact hw.1, hw.2.1⟩⟩ rfl hn hl hst (lv_room hrm) d hf) hw kk
/-- invokestatic of a nest mate's -/
theorem w_csN {y : MethodName} {bytes : ByteArray} {maxL n h index : Nat} {ret' : Option FieldType} {as st : List Value} {host : String} (hc : Cx p s m args c cc nL own meth ret D cl tys) (hw : Wd D cl wf A s.heap σ H locs) (hC : Cw l D cl tys wf y bytes maxL ret' h as σ Post) (yw : Yw y bytes maxL ret' n) (yi : Cond.static y ∈ lw_gd) (lk : Cond.methodLinkNest own index y host ∈ lw_gd) (d : decode cc pc = .ok (.invokestatic index, 3))
    (hst : st = as.reverse ++ rest) (hn : as.length = n) (hl : ls.size = nL) (hrm : (rest.map fun v => v.category).sum ≤ 8) (hR : h + 1 ≤ R.frames ∧ 8 + (maxL + 11) + 64 * h ≤ R.locals) (hf : cells ≤ R.cells ∧ slots ≤ R.slots)
    (kk : ∀ (v : Option Value) (τ : S0) (H1 : Heap) (locs1 : List Loc), Post v τ → Wd D cl wf A s.heap τ H1 locs1 → W p l e R s m args below meth c H1 locs1 cells slots Q (F0 m (pc + 3) ls (v.toList ++ rest))) : W p l e R s m args below meth c H locs cells slots Q (F0 m pc ls st) := by
  obtain ⟨hx, hb, hml, hown, hTB, hK, -, -⟩ := hc
  refine w_go (ad := as.toArray) ?_ hw kk
  intro T hT X
  obtain ⟨v, st₀, t, T', L, h0, X', hL, e1, e2, h3, go⟩ := va_runSN (Ts := lw_gd) ⟨hx, hb, hml, hown, hTB.hts args⟩ (hC A) ⟨va_CN_w hTB yw lk hR, hTB.hts args _ yi, trivial⟩ ⟨pw_blind, fun U hU hW => ⟨rfl, hTB.moved hW, va_K.moved hW.alike hK, by rw [hU]; exact hw.1, hw.2.1⟩⟩ rfl hn hl hst (lv_room hrm) d hf T hT X
  exact ⟨v, st₀, t, T', L, h0, X', hL, e1, h3, go⟩
end CR
end
section
/-! calls that answer a value or nothing; constants; bits -/
section CR2
variable {S0 : Type} {p : Program} {l : Launch} {e : Env} {R : Room} {s : State} {m : MethodId} {args : Array Value} {below : List Frame} {meth : Method} {c : Code} {H : Heap} {locs : List Loc} {cells slots : Nat} {Q : State → Prop}
variable {cc : ByteArray} {pc nL : Nat} {own : String} {ret : Option FieldType} {ls : Array Slot} {rest : List Value} {D : va_G} {cl : List vw_C} {tys : List (ClassId × FieldType)} {wf : S0 → va_W} {A : Nat → Prop} {σ : S0} {r : Value} {P : S0 → Prop}
theorem w_cvR {y : MethodName} {bytes : ByteArray} {maxL n h index q0 ci N b : Nat} {ret' : Option FieldType} {as st : List Value} {C : String} {T : u_T} {fs : List Value} (hc : Cx p s m args c cc nL own meth ret D cl tys) (hw : Wd D cl wf A s.heap σ H locs) (hC : Cw l D cl tys wf y bytes maxL ret' h (.ref b :: as) σ (RW r P)) (yw : Yw y bytes maxL ret' n) (yi : Cond.instanceMethod y ∈ lw_gd ∧ Cond.selects C y y ∈ lw_gd) (lk : Cond.methodLink own index y ∈ lw_gd) (d : decode cc pc = .ok (.invokevirtual index, 3))
    (hst : st = as.reverse ++ .ref b :: rest) (hq : (wf σ)[q0]? = some (b, .inr (ci, fs))) (hci : cl[ci]? = some (C, T, N)) (hn : as.length = n) (hl : ls.size = nL) (hrm : (rest.map fun v => v.category).sum ≤ 8) (hR : h + 1 ≤ R.frames ∧ 8 + (maxL + 11) + 64 * h ≤ R.locals) (hf : cells ≤ R.cells ∧ slots ≤ R.slots)
    (kk : ∀ (τ : S0) (H1 : Heap) (locs1 : List Loc), P τ → Wd D cl wf A s.heap τ H1 locs1 → W p l e R s m args below meth c H1 locs1 cells slots Q (F0 m (pc + 3) ls (r :: rest))) : W p l e R s m args below meth c H locs cells slots Q (F0 m pc ls st) :=
  w_cv hc hw hC yw yi lk d hst hq hci hn hl hrm hR hf (fun v τ H1 locs1 hp hw => by obtain ⟨rfl, hp⟩ := hp; exact kk τ H1 locs1 hp hw)
theorem w_cvV {y : MethodName} {bytes : ByteArray} {maxL n h index q0 ci N b : Nat} {ret' : Option FieldType} {as st : List Value} {C : String} {T : u_T} {fs : List Value} (hc : Cx p s m args c cc nL own meth ret D cl tys) (hw : Wd D cl wf A s.heap σ H locs) (hC : Cw l D cl tys wf y bytes maxL ret' h (.ref b :: as) σ (VW P)) (yw : Yw y bytes maxL ret' n) (yi : Cond.instanceMethod y ∈ lw_gd ∧ Cond.selects C y y ∈ lw_gd) (lk : Cond.methodLink own index y ∈ lw_gd) (d : decode cc pc = .ok (.invokevirtual index, 3))
    (hst : st = as.reverse ++ .ref b :: rest) (hq : (wf σ)[q0]? = some (b, .inr (ci, fs))) (hci : cl[ci]? = some (C, T, N)) (hn : as.length = n) (hl : ls.size = nL) (hrm : (rest.map fun v => v.category).sum ≤ 8) (hR : h + 1 ≤ R.frames ∧ 8 + (maxL + 11) + 64 * h ≤ R.locals) (hf : cells ≤ R.cells ∧ slots ≤ R.slots)
    (kk : ∀ (τ : S0) (H1 : Heap) (locs1 : List Loc), P τ → Wd D cl wf A s.heap τ H1 locs1 → W p l e R s m args below meth c H1 locs1 cells slots Q (F0 m (pc + 3) ls rest)) : W p l e R s m args below meth c H locs cells slots Q (F0 m pc ls st) :=
  w_cv hc hw hC yw yi lk d hst hq hci hn hl hrm hR hf (fun v τ H1 locs1 hp hw => by obtain ⟨rfl, hp⟩ := hp; exact kk τ H1 locs1 hp hw)
theorem w_csR {y : MethodName} {bytes : ByteArray} {maxL n h index : Nat} {ret' : Option FieldType} {as st : List Value} (hc : Cx p s m args c cc nL own meth ret D cl tys) (hw : Wd D cl wf A s.heap σ H locs) (hC : Cw l D cl tys wf y bytes maxL ret' h as σ (RW r P)) (yw : Yw y bytes maxL ret' n) (yi : Cond.static y ∈ lw_gd) (lk : Cond.methodLink own index y ∈ lw_gd) (d : decode cc pc = .ok (.invokestatic index, 3))
    (hst : st = as.reverse ++ rest) (hn : as.length = n) (hl : ls.size = nL) (hrm : (rest.map fun v => v.category).sum ≤ 8) (hR : h + 1 ≤ R.frames ∧ 8 + (maxL + 11) + 64 * h ≤ R.locals) (hf : cells ≤ R.cells ∧ slots ≤ R.slots)
    (kk : ∀ (τ : S0) (H1 : Heap) (locs1 : List Loc), P τ → Wd D cl wf A s.heap τ H1 locs1 → W p l e R s m args below meth c H1 locs1 cells slots Q (F0 m (pc + 3) ls (r :: rest))) : W p l e R s m args below meth c H locs cells slots Q (F0 m pc ls st) :=
  w_cs hc hw hC yw yi lk d hst hn hl hrm hR hf (fun v τ H1 locs1 hp hw => by obtain ⟨rfl, hp⟩ := hp; exact kk τ H1 locs1 hp hw)
theorem w_csV {y : MethodName} {bytes : ByteArray} {maxL n h index : Nat} {ret' : Option FieldType} {as st : List Value} (hc : Cx p s m args c cc nL own meth ret D cl tys) (hw : Wd D cl wf A s.heap σ H locs) (hC : Cw l D cl tys wf y bytes maxL ret' h as σ (VW P)) (yw : Yw y bytes maxL ret' n) (yi : Cond.static y ∈ lw_gd) (lk : Cond.methodLink own index y ∈ lw_gd) (d : decode cc pc = .ok (.invokestatic index, 3))
    (hst : st = as.reverse ++ rest) (hn : as.length = n) (hl : ls.size = nL) (hrm : (rest.map fun v => v.category).sum ≤ 8) (hR : h + 1 ≤ R.frames ∧ 8 + (maxL + 11) + 64 * h ≤ R.locals) (hf : cells ≤ R.cells ∧ slots ≤ R.slots)
    (kk : ∀ (τ : S0) (H1 : Heap) (locs1 : List Loc), P τ → Wd D cl wf A s.heap τ H1 locs1 → W p l e R s m args below meth c H1 locs1 cells slots Q (F0 m (pc + 3) ls rest)) : W p l e R s m args below meth c H locs cells slots Q (F0 m pc ls st) :=
  w_cs hc hw hC yw yi lk d hst hn hl hrm hR hf (fun v τ H1 locs1 hp hw => by obtain ⟨rfl, hp⟩ := hp; exact kk τ H1 locs1 hp hw)
theorem w_csNR {y : MethodName} {bytes : ByteArray} {maxL n h index : Nat} {ret' : Option FieldType} {as st : List Value} {host : String} (hc : Cx p s m args c cc nL own meth ret D cl tys) (hw : Wd D cl wf A s.heap σ H locs) (hC : Cw l D cl tys wf y bytes maxL ret' h as σ (RW r P)) (yw : Yw y bytes maxL ret' n) (yi : Cond.static y ∈ lw_gd) (lk : Cond.methodLinkNest own index y host ∈ lw_gd) (d : decode cc pc = .ok (.invokestatic index, 3))
    (hst : st = as.reverse ++ rest) (hn : as.length = n) (hl : ls.size = nL) (hrm : (rest.map fun v => v.category).sum ≤ 8) (hR : h + 1 ≤ R.frames ∧ 8 + (maxL + 11) + 64 * h ≤ R.locals) (hf : cells ≤ R.cells ∧ slots ≤ R.slots)
    (kk : ∀ (τ : S0) (H1 : Heap) (locs1 : List Loc), P τ → Wd D cl wf A s.heap τ H1 locs1 → W p l e R s m args below meth c H1 locs1 cells slots Q (F0 m (pc + 3) ls (r :: rest))) : W p l e R s m args below meth c H locs cells slots Q (F0 m pc ls st) :=
  w_csN hc hw hC yw yi lk d hst hn hl hrm hR hf (fun v τ H1 locs1 hp hw => by obtain ⟨rfl, hp⟩ := hp; exact kk τ H1 locs1 hp hw)
theorem z_ldc2 {index : Nat} {v : Int64} {n : Int} (hc : Cx p s m args c cc nL own meth ret D cl tys) (lk : Cond.constantLong own index v ∈ lw_gd) (d : decode cc pc = .ok (.ldc2_w index, 3)) (hv : v = zL n) (k : W p l e R s m args below meth c H locs cells slots Q (F0 m (pc + 3) ls (.long (zL n) :: rest))) : W p l e R s m args below meth c H locs cells slots Q (F0 m pc ls rest) := by
  subst hv
  exact lv_ldc2 hc.1 hc.2.1 hc.2.2.2.1 (hc.2.2.2.2.1.hts args _ lk) d k
theorem z_ldcw {index : Nat} {v : Int32} {n : Int} (hc : Cx p s m args c cc nL own meth ret D cl tys) (lk : Cond.constant own index v ∈ lw_gd) (d : decode cc pc = .ok (.ldc_w index, 3)) (hv : v = zI n) (k : W p l e R s m args below meth c H locs cells slots Q (F0 m (pc + 3) ls (.int (zI n) :: rest))) : W p l e R s m args below meth c H locs cells slots Q (F0 m pc ls rest) := by
  subst hv
  exact lv_ldcw hc.1 hc.2.1 hc.2.2.2.1 (hc.2.2.2.2.1.hts args _ lk) d k
end CR2
/-! bits: sets as natural numbers in Int -/
theorem nI_and (a b : Nat) : nI a &&& nI b = nI (a &&& b) := by
  apply Int32.toBitVec_inj.mp
  show BitVec.ofNat 32 a &&& BitVec.ofNat 32 b = BitVec.ofNat 32 (a &&& b)
  apply BitVec.eq_of_getLsbD_eq
  intro i hi
  simp [Nat.testBit_and, hi]
theorem nI_or (a b : Nat) : nI a ||| nI b = nI (a ||| b) := by
  apply Int32.toBitVec_inj.mp
  show BitVec.ofNat 32 a ||| BitVec.ofNat 32 b = BitVec.ofNat 32 (a ||| b)
  apply BitVec.eq_of_getLsbD_eq
  intro i hi
  simp [Nat.testBit_or, hi]
theorem nI_sh : ∀ n, n < 32 → ((nI n &&& 31).toBitVec.smod 32).toNat = n := by decide +kernel
def zAnd (a b : Int) : Int := ((a.toNat &&& b.toNat : Nat) : Int)
def zOr (a b : Int) : Int := ((a.toNat ||| b.toNat : Nat) : Int)
/-- the bit i of a set -/
abbrev zB (a i : Int) : Prop := a.toNat.testBit i.toNat = true
section ZB
variable {p : Program} {l : Launch} {e : Env} {R : Room} {s : State} {m : MethodId} {args : Array Value} {below : List Frame} {meth : Method} {c : Code} {H : Heap} {locs : List Loc} {cells slots : Nat} {Q : State → Prop}
variable {cc : ByteArray} {pc : Nat} {ls : Array Slot} {rest : List Value} {a b : Int}
theorem z_iand (hx : p.tables.exec = Jvm.exec) (hb : c.code = cc) (d : decode cc pc = .ok (.iand, 1)) (h : 0 ≤ a ∧ 0 ≤ b) (k : W p l e R s m args below meth c H locs cells slots Q (F0 m (pc + 1) ls (.int (zI (zAnd a b)) :: rest))) : W p l e R s m args below meth c H locs cells slots Q (F0 m pc ls (.int (zI b) :: .int (zI a) :: rest)) := lv_iand hx hb d (by rw [zI_pos h.1, zI_pos h.2, nI_and]; exact k)
theorem z_ior (hx : p.tables.exec = Jvm.exec) (hb : c.code = cc) (d : decode cc pc = .ok (.ior, 1)) (h : 0 ≤ a ∧ 0 ≤ b) (k : W p l e R s m args below meth c H locs cells slots Q (F0 m (pc + 1) ls (.int (zI (zOr a b)) :: rest))) : W p l e R s m args below meth c H locs cells slots Q (F0 m pc ls (.int (zI b) :: .int (zI a) :: rest)) := lv_ior hx hb d (by rw [zI_pos h.1, zI_pos h.2, nI_or]; exact k)
theorem z_shl1 (hx : p.tables.exec = Jvm.exec) (hb : c.code = cc) (d : decode cc pc = .ok (.ishl, 1)) (h : 0 ≤ b ∧ b < 32) (k : W p l e R s m args below meth c H locs cells slots Q (F0 m (pc + 1) ls (.int (zI ((2 ^ b.toNat : Nat) : Int)) :: rest))) : W p l e R s m args below meth c H locs cells slots Q (F0 m pc ls (.int (zI b) :: .int (zI 1) :: rest)) := lv_ishl hx hb d (by
  have e : zI 1 <<< (zI b &&& 31) = zI ((2 ^ b.toNat : Nat) : Int) := by
    rw [zI_pos h.1, show zI 1 = nI 1 from rfl, pk_shlN (nI b.toNat &&& 31) b.toNat (nI_sh _ (by omega)) (by have := Nat.pow_lt_pow_right (a := 2) (by decide) (show b.toNat < 32 by omega); omega), Nat.one_mul]; rfl
  rw [e]; exact k)
theorem z_ishr (hx : p.tables.exec = Jvm.exec) (hb : c.code = cc) (d : decode cc pc = .ok (.ishr, 1)) (h : (0 ≤ a ∧ a < 2147483648) ∧ 0 ≤ b ∧ b < 32) (k : W p l e R s m args below meth c H locs cells slots Q (F0 m (pc + 1) ls (.int (zI ((a.toNat / 2 ^ b.toNat : Nat) : Int)) :: rest))) : W p l e R s m args below meth c H locs cells slots Q (F0 m pc ls (.int (zI b) :: .int (zI a) :: rest)) := lv_ishr hx hb d (by
  have e : zI a >>> (zI b &&& 31) = zI ((a.toNat / 2 ^ b.toNat : Nat) : Int) := by
    rw [zI_pos h.1.1, zI_pos h.2.1, pk_shrN (by omega) (nI b.toNat &&& 31) b.toNat (nI_sh _ (by omega))]; rfl
  rw [e]; exact k)
end ZB
theorem zAnd1 (a b : Int) (h : 0 ≤ a) : zAnd ((a.toNat / 2 ^ b.toNat : Nat) : Int) 1 = bI (zB a b) := by
  unfold zAnd
  show (((a.toNat / 2 ^ b.toNat) &&& 1 : Nat) : Int) = _
  rw [Nat.and_one_is_mod]
  unfold bI zB
  rw [Nat.testBit_eq_decide_div_mod_eq]
  split <;> rename_i q <;> simp at q <;> omega
end
section
/-! names: classes, their fields, methods, their words. Written by wip/whole/gen/world.py -/
def sel_i (n : Nat) : Nat := n
theorem gd_at {w : Cond} (i : Nat) (h : tables_1[i]? = some w) (g : gd w = true) : w ∈ lw_gd := List.mem_filter.mpr ⟨List.mem_append_right _ (List.mem_of_getElem? h), g⟩
theorem gd_sel {w : Cond} (i : Nat) (h : (k2_sels lw_privs)[i]? = some w) (g : gd w = true) : w ∈ lw_gd := List.mem_filter.mpr ⟨List.mem_append_left _ (List.mem_of_getElem? h), g⟩
def R_B : String := "ProbeChoice$Board"
def T_B : u_T := fun k => match k with
  | 0 => ("ProbeChoice$Board", "must", "[Z", true)
  | 1 => ("ProbeChoice$Board", "sizes", "[I", true)
  | 2 => ("ProbeChoice$Board", "pointsOfNets", "[I", true)
  | 3 => ("ProbeChoice$Board", "xs", "[J", true)
  | 4 => ("ProbeChoice$Board", "ys", "[J", true)
  | 5 => ("ProbeChoice$Board", "radii", "[J", true)
  | 6 => ("ProbeChoice$Board", "weights", "[J", true)
  | 7 => ("ProbeChoice$Board", "netCount", "I", false)
  | 8 => ("ProbeChoice$Board", "pointCount", "I", false)
  | _ => ("ProbeChoice$Board", "apart", "J", false)
def t_B : Nat → FieldType := fun k => match k with
  | 0 => .array .boolean
  | 1 => .array .int
  | 2 => .array .int
  | 3 => .array .long
  | 4 => .array .long
  | 5 => .array .long
  | 6 => .array .long
  | 7 => .int
  | 8 => .int
  | _ => .long
theorem n_B : ∀ a, a < 10 → ∀ b, b < 10 → a ≠ b → (T_B a).2.1 ≠ (T_B b).2.1 := by decide +kernel
theorem t_B_ok : ∀ k, k < 10 → parseFieldDescriptor (T_B k).2.2.1 = some (t_B k) := by decide +kernel
theorem in_B : ∀ w ∈ u_ws R_B T_B 10, w ∈ lw_gd := by
  intro w hw
  have h1 : (u_ws R_B T_B 10).map some = ([50, 52, 54, 56, 58, 60, 62, 64, 66, 68] : List Nat).map (fun i => tables_1[i]?) := by decide +kernel
  have h2 : some w ∈ (u_ws R_B T_B 10).map some := List.mem_map_of_mem hw
  rw [h1] at h2
  obtain ⟨i, -, hi⟩ := List.mem_map.mp h2
  have h3 : (u_ws R_B T_B 10).all gd = true := by decide +kernel
  exact gd_at i hi (List.all_eq_true.mp h3 w hw)
def R_F : String := "ProbeChoice$Fixture"
def T_F : u_T := fun k => match k with
  | 0 => ("ProbeChoice$Fixture", "probes", "[I", true)
  | 1 => ("ProbeChoice$Fixture", "left", "[I", true)
  | 2 => ("ProbeChoice$Fixture", "flown", "[I", true)
  | 3 => ("ProbeChoice$Fixture", "sorted", "[I", true)
  | 4 => ("ProbeChoice$Fixture", "letters", "[C", true)
  | 5 => ("ProbeChoice$Fixture", "probeCount", "I", false)
  | 6 => ("ProbeChoice$Fixture", "leftCount", "I", false)
  | 7 => ("ProbeChoice$Fixture", "length", "I", false)
  | 8 => ("ProbeChoice$Fixture", "flightTime", "J", false)
  | _ => ("ProbeChoice$Fixture", "sawAll", "Z", false)
def t_F : Nat → FieldType := fun k => match k with
  | 0 => .array .int
  | 1 => .array .int
  | 2 => .array .int
  | 3 => .array .int
  | 4 => .array .char
  | 5 => .int
  | 6 => .int
  | 7 => .int
  | 8 => .long
  | _ => .boolean
theorem n_F : ∀ a, a < 10 → ∀ b, b < 10 → a ≠ b → (T_F a).2.1 ≠ (T_F b).2.1 := by decide +kernel
theorem t_F_ok : ∀ k, k < 10 → parseFieldDescriptor (T_F k).2.2.1 = some (t_F k) := by decide +kernel
theorem in_F : ∀ w ∈ u_ws R_F T_F 10, w ∈ lw_gd := by
  intro w hw
  have h1 : (u_ws R_F T_F 10).map some = ([135, 137, 139, 141, 143, 145, 147, 149, 151, 153] : List Nat).map (fun i => tables_1[i]?) := by decide +kernel
  have h2 : some w ∈ (u_ws R_F T_F 10).map some := List.mem_map_of_mem hw
  rw [h1] at h2
  obtain ⟨i, -, hi⟩ := List.mem_map.mp h2
  have h3 : (u_ws R_F T_F 10).all gd = true := by decide +kernel
  exact gd_at i hi (List.all_eq_true.mp h3 w hw)
def R_P : String := "ProbeChoice$Parts"
def T_P : u_T := fun k => match k with
  | 0 => ("ProbeChoice$Parts", "counts", "[I", true)
  | 1 => ("ProbeChoice$Parts", "joined", "[I", true)
  | 2 => ("ProbeChoice$Parts", "above", "[[J", true)
  | _ => ("ProbeChoice$Parts", "below", "[[J", true)
def t_P : Nat → FieldType := fun k => match k with
  | 0 => .array .int
  | 1 => .array .int
  | 2 => .array (.array .long)
  | _ => .array (.array .long)
theorem n_P : ∀ a, a < 4 → ∀ b, b < 4 → a ≠ b → (T_P a).2.1 ≠ (T_P b).2.1 := by decide +kernel
theorem t_P_ok : ∀ k, k < 4 → parseFieldDescriptor (T_P k).2.2.1 = some (t_P k) := by decide +kernel
theorem in_P : ∀ w ∈ u_ws R_P T_P 4, w ∈ lw_gd := by
  intro w hw
  have h1 : (u_ws R_P T_P 4).map some = ([169, 171, 173, 175] : List Nat).map (fun i => tables_1[i]?) := by decide +kernel
  have h2 : some w ∈ (u_ws R_P T_P 4).map some := List.mem_map_of_mem hw
  rw [h1] at h2
  obtain ⟨i, -, hi⟩ := List.mem_map.mp h2
  have h3 : (u_ws R_P T_P 4).all gd = true := by decide +kernel
  exact gd_at i hi (List.all_eq_true.mp h3 w hw)
def R_R : String := "ProbeChoice$Rows"
def T_R : u_T := fun k => match k with
  | 0 => ("ProbeChoice$Rows", "others", "[I", true)
  | 1 => ("ProbeChoice$Rows", "cover", "I", false)
  | 2 => ("ProbeChoice$Rows", "coverSize", "I", false)
  | _ => ("ProbeChoice$Rows", "isStale", "Z", false)
def t_R : Nat → FieldType := fun k => match k with
  | 0 => .array .int
  | 1 => .int
  | 2 => .int
  | _ => .boolean
theorem n_R : ∀ a, a < 4 → ∀ b, b < 4 → a ≠ b → (T_R a).2.1 ≠ (T_R b).2.1 := by decide +kernel
theorem t_R_ok : ∀ k, k < 4 → parseFieldDescriptor (T_R k).2.2.1 = some (t_R k) := by decide +kernel
theorem in_R : ∀ w ∈ u_ws R_R T_R 4, w ∈ lw_gd := by
  intro w hw
  have h1 : (u_ws R_R T_R 4).map some = ([188, 190, 192, 194] : List Nat).map (fun i => tables_1[i]?) := by decide +kernel
  have h2 : some w ∈ (u_ws R_R T_R 4).map some := List.mem_map_of_mem hw
  rw [h1] at h2
  obtain ⟨i, -, hi⟩ := List.mem_map.mp h2
  have h3 : (u_ws R_R T_R 4).all gd = true := by decide +kernel
  exact gd_at i hi (List.all_eq_true.mp h3 w hw)
def R_S : String := "ProbeChoice$Search"
def T_S : u_T := fun k => match k with
  | 0 => ("ProbeChoice$Search", "nets", "[I", true)
  | 1 => ("ProbeChoice$Search", "sizes", "[I", true)
  | 2 => ("ProbeChoice$Search", "points", "[I", true)
  | 3 => ("ProbeChoice$Search", "worths", "[J", true)
  | 4 => ("ProbeChoice$Search", "clashes", "[I", true)
  | 5 => ("ProbeChoice$Search", "tried", "[I", true)
  | 6 => ("ProbeChoice$Search", "best", "[I", true)
  | 7 => ("ProbeChoice$Search", "looked", "I", false)
  | _ => ("ProbeChoice$Search", "bestWorth", "J", false)
def t_S : Nat → FieldType := fun k => match k with
  | 0 => .array .int
  | 1 => .array .int
  | 2 => .array .int
  | 3 => .array .long
  | 4 => .array .int
  | 5 => .array .int
  | 6 => .array .int
  | 7 => .int
  | _ => .long
theorem n_S : ∀ a, a < 9 → ∀ b, b < 9 → a ≠ b → (T_S a).2.1 ≠ (T_S b).2.1 := by decide +kernel
theorem t_S_ok : ∀ k, k < 9 → parseFieldDescriptor (T_S k).2.2.1 = some (t_S k) := by decide +kernel
theorem in_S : ∀ w ∈ u_ws R_S T_S 9, w ∈ lw_gd := by
  intro w hw
  have h1 : (u_ws R_S T_S 9).map some = ([92, 94, 96, 98, 100, 102, 104, 106, 108] : List Nat).map (fun i => tables_1[i]?) := by decide +kernel
  have h2 : some w ∈ (u_ws R_S T_S 9).map some := List.mem_map_of_mem hw
  rw [h1] at h2
  obtain ⟨i, -, hi⟩ := List.mem_map.mp h2
  have h3 : (u_ws R_S T_S 9).all gd = true := by decide +kernel
  exact gd_at i hi (List.all_eq_true.mp h3 w hw)
def R_X : String := "ProbeChoice"
def T_X : u_T := fun k => match k with
  | 0 => ("ProbeChoice", "board", "LProbeChoice$Board;", true)
  | 1 => ("ProbeChoice", "search", "LProbeChoice$Search;", true)
  | 2 => ("ProbeChoice", "fixture", "LProbeChoice$Fixture;", true)
  | 3 => ("ProbeChoice", "parts", "LProbeChoice$Parts;", true)
  | _ => ("ProbeChoice", "rows", "LProbeChoice$Rows;", true)
def t_X : Nat → FieldType := fun k => match k with
  | 0 => .object "ProbeChoice$Board"
  | 1 => .object "ProbeChoice$Search"
  | 2 => .object "ProbeChoice$Fixture"
  | 3 => .object "ProbeChoice$Parts"
  | _ => .object "ProbeChoice$Rows"
theorem n_X : ∀ a, a < 5 → ∀ b, b < 5 → a ≠ b → (T_X a).2.1 ≠ (T_X b).2.1 := by decide +kernel
theorem t_X_ok : ∀ k, k < 5 → parseFieldDescriptor (T_X k).2.2.1 = some (t_X k) := by decide +kernel
theorem in_X : ∀ w ∈ u_ws R_X T_X 5, w ∈ lw_gd := by
  intro w hw
  have h1 : (u_ws R_X T_X 5).map some = ([202, 204, 206, 208, 210] : List Nat).map (fun i => tables_1[i]?) := by decide +kernel
  have h2 : some w ∈ (u_ws R_X T_X 5).map some := List.mem_map_of_mem hw
  rw [h1] at h2
  obtain ⟨i, -, hi⟩ := List.mem_map.mp h2
  have h3 : (u_ws R_X T_X 5).all gd = true := by decide +kernel
  exact gd_at i hi (List.all_eq_true.mp h3 w hw)
def R_M : String := "ProbeChoiceModel"
def T_M : u_T := fun k => match k with
  | 0 => ("ProbeChoiceModel", "thrown", "I", false)
  | 1 => ("ProbeChoiceModel", "nets", "I", false)
  | 2 => ("ProbeChoiceModel", "must", "[Z", true)
  | 3 => ("ProbeChoiceModel", "pointCount", "[I", true)
  | 4 => ("ProbeChoiceModel", "pointsOf", "[I", true)
  | 5 => ("ProbeChoiceModel", "points", "I", false)
  | 6 => ("ProbeChoiceModel", "x", "[J", true)
  | 7 => ("ProbeChoiceModel", "y", "[J", true)
  | 8 => ("ProbeChoiceModel", "radius", "[J", true)
  | 9 => ("ProbeChoiceModel", "forces", "[J", true)
  | 10 => ("ProbeChoiceModel", "gap", "J", false)
  | 11 => ("ProbeChoiceModel", "ran", "Z", false)
  | 12 => ("ProbeChoiceModel", "looked", "I", false)
  | 13 => ("ProbeChoiceModel", "netAt", "[I", true)
  | 14 => ("ProbeChoiceModel", "digit", "[I", true)
  | 15 => ("ProbeChoiceModel", "best", "[I", true)
  | 16 => ("ProbeChoiceModel", "isProved", "Z", false)
  | 17 => ("ProbeChoiceModel", "probes", "I", false)
  | 18 => ("ProbeChoiceModel", "probe", "[I", true)
  | 19 => ("ProbeChoiceModel", "partCount", "[I", true)
  | 20 => ("ProbeChoiceModel", "parts", "[J", true)
  | 21 => ("ProbeChoiceModel", "failed", "[I", true)
  | 22 => ("ProbeChoiceModel", "flown", "[Z", true)
  | 23 => ("ProbeChoiceModel", "out", "[I", true)
  | 24 => ("ProbeChoiceModel", "written", "I", false)
  | _ => ("ProbeChoiceModel", "flight", "J", false)
def t_M : Nat → FieldType := fun k => match k with
  | 0 => .int
  | 1 => .int
  | 2 => .array .boolean
  | 3 => .array .int
  | 4 => .array .int
  | 5 => .int
  | 6 => .array .long
  | 7 => .array .long
  | 8 => .array .long
  | 9 => .array .long
  | 10 => .long
  | 11 => .boolean
  | 12 => .int
  | 13 => .array .int
  | 14 => .array .int
  | 15 => .array .int
  | 16 => .boolean
  | 17 => .int
  | 18 => .array .int
  | 19 => .array .int
  | 20 => .array .long
  | 21 => .array .int
  | 22 => .array .boolean
  | 23 => .array .int
  | 24 => .int
  | _ => .long
theorem n_M : ∀ a, a < 26 → ∀ b, b < 26 → a ≠ b → (T_M a).2.1 ≠ (T_M b).2.1 := by decide +kernel
theorem t_M_ok : ∀ k, k < 26 → parseFieldDescriptor (T_M k).2.2.1 = some (t_M k) := by decide +kernel
theorem in_M : ∀ w ∈ u_ws R_M T_M 26, w ∈ lw_gd := by
  intro w hw
  have h1 : (u_ws R_M T_M 26).map some = ([686, 688, 690, 692, 694, 696, 698, 700, 702, 704, 706, 708, 710, 712, 714, 716, 718, 720, 722, 724, 726, 728, 730, 732, 734, 736] : List Nat).map (fun i => tables_1[i]?) := by decide +kernel
  have h2 : some w ∈ (u_ws R_M T_M 26).map some := List.mem_map_of_mem hw
  rw [h1] at h2
  obtain ⟨i, -, hi⟩ := List.mem_map.mp h2
  have h3 : (u_ws R_M T_M 26).all gd = true := by decide +kernel
  exact gd_at i hi (List.all_eq_true.mp h3 w hw)
abbrev cl7 : List vw_C := [(R_B, T_B, 10), (R_F, T_F, 10), (R_P, T_P, 4), (R_R, T_R, 4), (R_S, T_S, 9), (R_X, T_X, 5), (R_M, T_M, 26)]
abbrev c_X_init : ByteArray := prog_1_method_1_code
abbrev y_X_init : MethodName := ⟨"ProbeChoice", "<init>", "()V"⟩
theorem yw_X_init : Yw y_X_init c_X_init 1 none 0 := ⟨gd_at 22 (by decide +kernel) (by decide +kernel), gd_at 1 (by decide +kernel) (by decide +kernel), by decide +kernel, by decide +kernel, by decide +kernel⟩
abbrev c_B_init : ByteArray := prog_2_method_1_code
abbrev y_B_init : MethodName := ⟨"ProbeChoice$Board", "<init>", "()V"⟩
theorem yw_B_init : Yw y_B_init c_B_init 1 none 0 := ⟨gd_at 30 (by decide +kernel) (by decide +kernel), gd_at 2 (by decide +kernel) (by decide +kernel), by decide +kernel, by decide +kernel, by decide +kernel⟩
abbrev c_S_init : ByteArray := prog_6_method_1_code
abbrev y_S_init : MethodName := ⟨"ProbeChoice$Search", "<init>", "()V"⟩
theorem yw_S_init : Yw y_S_init c_S_init 1 none 0 := ⟨gd_at 78 (by decide +kernel) (by decide +kernel), gd_at 3 (by decide +kernel) (by decide +kernel), by decide +kernel, by decide +kernel, by decide +kernel⟩
abbrev c_F_init : ByteArray := prog_3_method_1_code
abbrev y_F_init : MethodName := ⟨"ProbeChoice$Fixture", "<init>", "()V"⟩
theorem yw_F_init : Yw y_F_init c_F_init 1 none 0 := ⟨gd_at 115 (by decide +kernel) (by decide +kernel), gd_at 4 (by decide +kernel) (by decide +kernel), by decide +kernel, by decide +kernel, by decide +kernel⟩
abbrev c_P_init : ByteArray := prog_4_method_1_code
abbrev y_P_init : MethodName := ⟨"ProbeChoice$Parts", "<init>", "()V"⟩
theorem yw_P_init : Yw y_P_init c_P_init 1 none 0 := ⟨gd_at 161 (by decide +kernel) (by decide +kernel), gd_at 5 (by decide +kernel) (by decide +kernel), by decide +kernel, by decide +kernel, by decide +kernel⟩
abbrev c_R_init : ByteArray := prog_5_method_1_code
abbrev y_R_init : MethodName := ⟨"ProbeChoice$Rows", "<init>", "()V"⟩
theorem yw_R_init : Yw y_R_init c_R_init 1 none 0 := ⟨gd_at 182 (by decide +kernel) (by decide +kernel), gd_at 6 (by decide +kernel) (by decide +kernel), by decide +kernel, by decide +kernel, by decide +kernel⟩
abbrev c_X_net : ByteArray := prog_1_method_2_code
abbrev y_X_net : MethodName := ⟨"ProbeChoice", "net", "(Z)I"⟩
theorem yw_X_net : Yw y_X_net c_X_net 2 (some .int) 1 := ⟨gd_at 216 (by decide +kernel) (by decide +kernel), gd_at 1 (by decide +kernel) (by decide +kernel), by decide +kernel, by decide +kernel, by decide +kernel⟩
theorem yi_X_net : Cond.instanceMethod y_X_net ∈ lw_gd ∧ Cond.selects "ProbeChoice" y_X_net y_X_net ∈ lw_gd := ⟨gd_at 214 (by decide +kernel) (by decide +kernel), gd_at 215 (by decide +kernel) (by decide +kernel)⟩
abbrev c_B_addNet : ByteArray := prog_2_method_4_code
abbrev y_B_addNet : MethodName := ⟨"ProbeChoice$Board", "addNet", "(Z)I"⟩
theorem yw_B_addNet : Yw y_B_addNet c_B_addNet 2 (some .int) 1 := ⟨gd_at 220 (by decide +kernel) (by decide +kernel), gd_at 2 (by decide +kernel) (by decide +kernel), by decide +kernel, by decide +kernel, by decide +kernel⟩
theorem yi_B_addNet : Cond.instanceMethod y_B_addNet ∈ lw_gd ∧ Cond.selects "ProbeChoice$Board" y_B_addNet y_B_addNet ∈ lw_gd := ⟨gd_at 218 (by decide +kernel) (by decide +kernel), gd_at 219 (by decide +kernel) (by decide +kernel)⟩
abbrev c_X_probe : ByteArray := prog_1_method_6_code
abbrev y_X_probe : MethodName := ⟨"ProbeChoice", "probe", "(I)I"⟩
theorem yw_X_probe : Yw y_X_probe c_X_probe 2 (some .int) 1 := ⟨gd_at 224 (by decide +kernel) (by decide +kernel), gd_at 1 (by decide +kernel) (by decide +kernel), by decide +kernel, by decide +kernel, by decide +kernel⟩
theorem yi_X_probe : Cond.instanceMethod y_X_probe ∈ lw_gd ∧ Cond.selects "ProbeChoice" y_X_probe y_X_probe ∈ lw_gd := ⟨gd_at 222 (by decide +kernel) (by decide +kernel), gd_at 223 (by decide +kernel) (by decide +kernel)⟩
abbrev c_X_nth : ByteArray := prog_1_method_24_code
abbrev y_X_nth : MethodName := ⟨"ProbeChoice", "nth", "([III)I"⟩
theorem yw_X_nth : Yw y_X_nth c_X_nth 3 (some .int) 3 := ⟨gd_at 227 (by decide +kernel) (by decide +kernel), gd_at 1 (by decide +kernel) (by decide +kernel), by decide +kernel, by decide +kernel, by decide +kernel⟩
theorem yi_X_nth : Cond.static y_X_nth ∈ lw_gd := gd_at 226 (by decide +kernel) (by decide +kernel)
abbrev c_X_proved : ByteArray := prog_1_method_7_code
abbrev y_X_proved : MethodName := ⟨"ProbeChoice", "proved", "()Z"⟩
theorem yw_X_proved : Yw y_X_proved c_X_proved 1 (some .boolean) 0 := ⟨gd_at 231 (by decide +kernel) (by decide +kernel), gd_at 1 (by decide +kernel) (by decide +kernel), by decide +kernel, by decide +kernel, by decide +kernel⟩
theorem yi_X_proved : Cond.instanceMethod y_X_proved ∈ lw_gd ∧ Cond.selects "ProbeChoice" y_X_proved y_X_proved ∈ lw_gd := ⟨gd_at 229 (by decide +kernel) (by decide +kernel), gd_at 230 (by decide +kernel) (by decide +kernel)⟩
abbrev c_X_out : ByteArray := prog_1_method_8_code
abbrev y_X_out : MethodName := ⟨"ProbeChoice", "out", "(I)I"⟩
theorem yw_X_out : Yw y_X_out c_X_out 2 (some .int) 1 := ⟨gd_at 235 (by decide +kernel) (by decide +kernel), gd_at 1 (by decide +kernel) (by decide +kernel), by decide +kernel, by decide +kernel, by decide +kernel⟩
theorem yi_X_out : Cond.instanceMethod y_X_out ∈ lw_gd ∧ Cond.selects "ProbeChoice" y_X_out y_X_out ∈ lw_gd := ⟨gd_at 233 (by decide +kernel) (by decide +kernel), gd_at 234 (by decide +kernel) (by decide +kernel)⟩
abbrev c_X_suspects : ByteArray := prog_1_method_13_code
abbrev y_X_suspects : MethodName := ⟨"ProbeChoice", "suspects", "()I"⟩
theorem yw_X_suspects : Yw y_X_suspects c_X_suspects 1 (some .int) 0 := ⟨gd_at 239 (by decide +kernel) (by decide +kernel), gd_at 1 (by decide +kernel) (by decide +kernel), by decide +kernel, by decide +kernel, by decide +kernel⟩
theorem yi_X_suspects : Cond.instanceMethod y_X_suspects ∈ lw_gd ∧ Cond.selects "ProbeChoice" y_X_suspects y_X_suspects ∈ lw_gd := ⟨gd_at 237 (by decide +kernel) (by decide +kernel), gd_at 238 (by decide +kernel) (by decide +kernel)⟩
abbrev c_R_smallestCover : ByteArray := prog_5_method_4_code
abbrev y_R_smallestCover : MethodName := ⟨"ProbeChoice$Rows", "smallestCover", "()I"⟩
theorem yw_R_smallestCover : Yw y_R_smallestCover c_R_smallestCover 1 (some .int) 0 := ⟨gd_at 243 (by decide +kernel) (by decide +kernel), gd_at 6 (by decide +kernel) (by decide +kernel), by decide +kernel, by decide +kernel, by decide +kernel⟩
theorem yi_R_smallestCover : Cond.instanceMethod y_R_smallestCover ∈ lw_gd ∧ Cond.selects "ProbeChoice$Rows" y_R_smallestCover y_R_smallestCover ∈ lw_gd := ⟨gd_at 241 (by decide +kernel) (by decide +kernel), gd_at 242 (by decide +kernel) (by decide +kernel)⟩
abbrev c_R_explain : ByteArray := prog_5_method_5_code
abbrev y_R_explain : MethodName := ⟨"ProbeChoice$Rows", "explain", "(LProbeChoice$Rows;II)V"⟩
theorem yw_R_explain : Yw y_R_explain c_R_explain 4 none 3 := ⟨gd_at 246 (by decide +kernel) (by decide +kernel), gd_at 6 (by decide +kernel) (by decide +kernel), by decide +kernel, by decide +kernel, by decide +kernel⟩
theorem yi_R_explain : Cond.static y_R_explain ∈ lw_gd := gd_at 245 (by decide +kernel) (by decide +kernel)
abbrev c_JI_bitCount : ByteArray := prog_13_method_49_code
abbrev y_JI_bitCount : MethodName := ⟨"java/lang/Integer", "bitCount", "(I)I"⟩
theorem yw_JI_bitCount : Yw y_JI_bitCount c_JI_bitCount 1 (some .int) 1 := ⟨gd_at 249 (by decide +kernel) (by decide +kernel), gd_at 17 (by decide +kernel) (by decide +kernel), by decide +kernel, by decide +kernel, by decide +kernel⟩
theorem yi_JI_bitCount : Cond.static y_JI_bitCount ∈ lw_gd := gd_at 248 (by decide +kernel) (by decide +kernel)
abbrev c_X_hasBit : ByteArray := prog_1_method_26_code
abbrev y_X_hasBit : MethodName := ⟨"ProbeChoice", "hasBit", "(II)Z"⟩
theorem yw_X_hasBit : Yw y_X_hasBit c_X_hasBit 2 (some .boolean) 2 := ⟨gd_at 255 (by decide +kernel) (by decide +kernel), gd_at 1 (by decide +kernel) (by decide +kernel), by decide +kernel, by decide +kernel, by decide +kernel⟩
theorem yi_X_hasBit : Cond.static y_X_hasBit ∈ lw_gd := gd_at 254 (by decide +kernel) (by decide +kernel)
abbrev c_X_fly : ByteArray := prog_1_method_16_code
abbrev y_X_fly : MethodName := ⟨"ProbeChoice", "fly", "(I)I"⟩
theorem yw_X_fly : Yw y_X_fly c_X_fly 2 (some .int) 1 := ⟨gd_at 260 (by decide +kernel) (by decide +kernel), gd_at 1 (by decide +kernel) (by decide +kernel), by decide +kernel, by decide +kernel, by decide +kernel⟩
theorem yi_X_fly : Cond.instanceMethod y_X_fly ∈ lw_gd ∧ Cond.selects "ProbeChoice" y_X_fly y_X_fly ∈ lw_gd := ⟨gd_at 258 (by decide +kernel) (by decide +kernel), gd_at 259 (by decide +kernel) (by decide +kernel)⟩
abbrev c_X_seconds : ByteArray := prog_1_method_17_code
abbrev y_X_seconds : MethodName := ⟨"ProbeChoice", "seconds", "()J"⟩
theorem yw_X_seconds : Yw y_X_seconds c_X_seconds 1 (some .long) 0 := ⟨gd_at 264 (by decide +kernel) (by decide +kernel), gd_at 1 (by decide +kernel) (by decide +kernel), by decide +kernel, by decide +kernel, by decide +kernel⟩
theorem yi_X_seconds : Cond.instanceMethod y_X_seconds ∈ lw_gd ∧ Cond.selects "ProbeChoice" y_X_seconds y_X_seconds ∈ lw_gd := ⟨gd_at 262 (by decide +kernel) (by decide +kernel), gd_at 263 (by decide +kernel) (by decide +kernel)⟩
abbrev c_X_forces : ByteArray := prog_1_method_19_code
abbrev y_X_forces : MethodName := ⟨"ProbeChoice", "forces", "()J"⟩
theorem yw_X_forces : Yw y_X_forces c_X_forces 1 (some .long) 0 := ⟨gd_at 268 (by decide +kernel) (by decide +kernel), gd_at 1 (by decide +kernel) (by decide +kernel), by decide +kernel, by decide +kernel, by decide +kernel⟩
theorem yi_X_forces : Cond.instanceMethod y_X_forces ∈ lw_gd ∧ Cond.selects "ProbeChoice" y_X_forces y_X_forces ∈ lw_gd := ⟨gd_at 266 (by decide +kernel) (by decide +kernel), gd_at 267 (by decide +kernel) (by decide +kernel)⟩
abbrev c_F_sumOfForces : ByteArray := prog_3_method_3_code
abbrev y_F_sumOfForces : MethodName := ⟨"ProbeChoice$Fixture", "sumOfForces", "(LProbeChoice$Board;)J"⟩
theorem yw_F_sumOfForces : Yw y_F_sumOfForces c_F_sumOfForces 5 (some .long) 1 := ⟨gd_at 272 (by decide +kernel) (by decide +kernel), gd_at 4 (by decide +kernel) (by decide +kernel), by decide +kernel, by decide +kernel, by decide +kernel⟩
theorem yi_F_sumOfForces : Cond.instanceMethod y_F_sumOfForces ∈ lw_gd ∧ Cond.selects "ProbeChoice$Fixture" y_F_sumOfForces y_F_sumOfForces ∈ lw_gd := ⟨gd_at 270 (by decide +kernel) (by decide +kernel), gd_at 271 (by decide +kernel) (by decide +kernel)⟩
abbrev c_X_order : ByteArray := prog_1_method_21_code
abbrev y_X_order : MethodName := ⟨"ProbeChoice", "order", "(I)I"⟩
theorem yw_X_order : Yw y_X_order c_X_order 2 (some .int) 1 := ⟨gd_at 276 (by decide +kernel) (by decide +kernel), gd_at 1 (by decide +kernel) (by decide +kernel), by decide +kernel, by decide +kernel, by decide +kernel⟩
theorem yi_X_order : Cond.instanceMethod y_X_order ∈ lw_gd ∧ Cond.selects "ProbeChoice" y_X_order y_X_order ∈ lw_gd := ⟨gd_at 274 (by decide +kernel) (by decide +kernel), gd_at 275 (by decide +kernel) (by decide +kernel)⟩
abbrev c_X_point : ByteArray := prog_1_method_3_code
abbrev y_X_point : MethodName := ⟨"ProbeChoice", "point", "(IJJJ)I"⟩
theorem yw_X_point : Yw y_X_point c_X_point 8 (some .int) 4 := ⟨gd_at 285 (by decide +kernel) (by decide +kernel), gd_at 1 (by decide +kernel) (by decide +kernel), by decide +kernel, by decide +kernel, by decide +kernel⟩
theorem yi_X_point : Cond.instanceMethod y_X_point ∈ lw_gd ∧ Cond.selects "ProbeChoice" y_X_point y_X_point ∈ lw_gd := ⟨gd_at 283 (by decide +kernel) (by decide +kernel), gd_at 284 (by decide +kernel) (by decide +kernel)⟩
abbrev c_X_needNet : ByteArray := prog_1_method_22_code
abbrev y_X_needNet : MethodName := ⟨"ProbeChoice", "needNet", "(I)V"⟩
theorem yw_X_needNet : Yw y_X_needNet c_X_needNet 2 none 1 := ⟨gd_at 289 (by decide +kernel) (by decide +kernel), gd_at 1 (by decide +kernel) (by decide +kernel), by decide +kernel, by decide +kernel, by decide +kernel⟩
theorem yi_X_needNet : Cond.instanceMethod y_X_needNet ∈ lw_gd ∧ Cond.selects "ProbeChoice" y_X_needNet y_X_needNet ∈ lw_gd := ⟨gd_at 288 (by decide +kernel) (by decide +kernel), gd_sel 0 (by decide +kernel) (by decide +kernel)⟩
abbrev c_B_hasNet : ByteArray := prog_2_method_2_code
abbrev y_B_hasNet : MethodName := ⟨"ProbeChoice$Board", "hasNet", "(I)Z"⟩
theorem yw_B_hasNet : Yw y_B_hasNet c_B_hasNet 2 (some .boolean) 1 := ⟨gd_at 293 (by decide +kernel) (by decide +kernel), gd_at 2 (by decide +kernel) (by decide +kernel), by decide +kernel, by decide +kernel, by decide +kernel⟩
theorem yi_B_hasNet : Cond.instanceMethod y_B_hasNet ∈ lw_gd ∧ Cond.selects "ProbeChoice$Board" y_B_hasNet y_B_hasNet ∈ lw_gd := ⟨gd_at 291 (by decide +kernel) (by decide +kernel), gd_at 292 (by decide +kernel) (by decide +kernel)⟩
abbrev c_X_isWithin : ByteArray := prog_1_method_23_code
abbrev y_X_isWithin : MethodName := ⟨"ProbeChoice", "isWithin", "(JJJ)Z"⟩
theorem yw_X_isWithin : Yw y_X_isWithin c_X_isWithin 6 (some .boolean) 3 := ⟨gd_at 366 (by decide +kernel) (by decide +kernel), gd_at 1 (by decide +kernel) (by decide +kernel), by decide +kernel, by decide +kernel, by decide +kernel⟩
theorem yi_X_isWithin : Cond.static y_X_isWithin ∈ lw_gd := gd_at 365 (by decide +kernel) (by decide +kernel)
abbrev c_B_addPoint : ByteArray := prog_2_method_5_code
abbrev y_B_addPoint : MethodName := ⟨"ProbeChoice$Board", "addPoint", "(IJJJ)I"⟩
theorem yw_B_addPoint : Yw y_B_addPoint c_B_addPoint 9 (some .int) 4 := ⟨gd_at 388 (by decide +kernel) (by decide +kernel), gd_at 2 (by decide +kernel) (by decide +kernel), by decide +kernel, by decide +kernel, by decide +kernel⟩
theorem yi_B_addPoint : Cond.instanceMethod y_B_addPoint ∈ lw_gd ∧ Cond.selects "ProbeChoice$Board" y_B_addPoint y_B_addPoint ∈ lw_gd := ⟨gd_at 386 (by decide +kernel) (by decide +kernel), gd_at 387 (by decide +kernel) (by decide +kernel)⟩
abbrev c_X_gap : ByteArray := prog_1_method_4_code
abbrev y_X_gap : MethodName := ⟨"ProbeChoice", "gap", "(J)Z"⟩
theorem yw_X_gap : Yw y_X_gap c_X_gap 3 (some .boolean) 1 := ⟨gd_at 395 (by decide +kernel) (by decide +kernel), gd_at 1 (by decide +kernel) (by decide +kernel), by decide +kernel, by decide +kernel, by decide +kernel⟩
theorem yi_X_gap : Cond.instanceMethod y_X_gap ∈ lw_gd ∧ Cond.selects "ProbeChoice" y_X_gap y_X_gap ∈ lw_gd := ⟨gd_at 393 (by decide +kernel) (by decide +kernel), gd_at 394 (by decide +kernel) (by decide +kernel)⟩
abbrev c_B_setGap : ByteArray := prog_2_method_6_code
abbrev y_B_setGap : MethodName := ⟨"ProbeChoice$Board", "setGap", "(J)Z"⟩
theorem yw_B_setGap : Yw y_B_setGap c_B_setGap 4 (some .boolean) 1 := ⟨gd_at 400 (by decide +kernel) (by decide +kernel), gd_at 2 (by decide +kernel) (by decide +kernel), by decide +kernel, by decide +kernel, by decide +kernel⟩
theorem yi_B_setGap : Cond.instanceMethod y_B_setGap ∈ lw_gd ∧ Cond.selects "ProbeChoice$Board" y_B_setGap y_B_setGap ∈ lw_gd := ⟨gd_at 398 (by decide +kernel) (by decide +kernel), gd_at 399 (by decide +kernel) (by decide +kernel)⟩
abbrev c_X_run : ByteArray := prog_1_method_5_code
abbrev y_X_run : MethodName := ⟨"ProbeChoice", "run", "(J)I"⟩
theorem yw_X_run : Yw y_X_run c_X_run 3 (some .int) 1 := ⟨gd_at 407 (by decide +kernel) (by decide +kernel), gd_at 1 (by decide +kernel) (by decide +kernel), by decide +kernel, by decide +kernel, by decide +kernel⟩
theorem yi_X_run : Cond.instanceMethod y_X_run ∈ lw_gd ∧ Cond.selects "ProbeChoice" y_X_run y_X_run ∈ lw_gd := ⟨gd_at 405 (by decide +kernel) (by decide +kernel), gd_at 406 (by decide +kernel) (by decide +kernel)⟩
abbrev c_S_choose : ByteArray := prog_6_method_2_code
abbrev y_S_choose : MethodName := ⟨"ProbeChoice$Search", "choose", "(LProbeChoice$Board;I)V"⟩
theorem yw_S_choose : Yw y_S_choose c_S_choose 3 none 2 := ⟨gd_at 413 (by decide +kernel) (by decide +kernel), gd_at 3 (by decide +kernel) (by decide +kernel), by decide +kernel, by decide +kernel, by decide +kernel⟩
theorem yi_S_choose : Cond.instanceMethod y_S_choose ∈ lw_gd ∧ Cond.selects "ProbeChoice$Search" y_S_choose y_S_choose ∈ lw_gd := ⟨gd_at 411 (by decide +kernel) (by decide +kernel), gd_at 412 (by decide +kernel) (by decide +kernel)⟩
abbrev c_S_lookAtNets : ByteArray := prog_6_method_3_code
abbrev y_S_lookAtNets : MethodName := ⟨"ProbeChoice$Search", "lookAtNets", "(LProbeChoice$Board;I)V"⟩
theorem yw_S_lookAtNets : Yw y_S_lookAtNets c_S_lookAtNets 6 none 2 := ⟨gd_at 417 (by decide +kernel) (by decide +kernel), gd_at 3 (by decide +kernel) (by decide +kernel), by decide +kernel, by decide +kernel, by decide +kernel⟩
theorem yi_S_lookAtNets : Cond.instanceMethod y_S_lookAtNets ∈ lw_gd ∧ Cond.selects "ProbeChoice$Search" y_S_lookAtNets y_S_lookAtNets ∈ lw_gd := ⟨gd_at 416 (by decide +kernel) (by decide +kernel), gd_sel 2 (by decide +kernel) (by decide +kernel)⟩
abbrev c_S_markClashes : ByteArray := prog_6_method_4_code
abbrev y_S_markClashes : MethodName := ⟨"ProbeChoice$Search", "markClashes", "(LProbeChoice$Board;)V"⟩
theorem yw_S_markClashes : Yw y_S_markClashes c_S_markClashes 5 none 1 := ⟨gd_at 422 (by decide +kernel) (by decide +kernel), gd_at 3 (by decide +kernel) (by decide +kernel), by decide +kernel, by decide +kernel, by decide +kernel⟩
theorem yi_S_markClashes : Cond.instanceMethod y_S_markClashes ∈ lw_gd ∧ Cond.selects "ProbeChoice$Search" y_S_markClashes y_S_markClashes ∈ lw_gd := ⟨gd_at 421 (by decide +kernel) (by decide +kernel), gd_sel 3 (by decide +kernel) (by decide +kernel)⟩
abbrev c_JA_fill : ByteArray := prog_19_method_103_code
abbrev y_JA_fill : MethodName := ⟨"java/util/Arrays", "fill", "([II)V"⟩
theorem yw_JA_fill : Yw y_JA_fill c_JA_fill 4 none 2 := ⟨gd_at 425 (by decide +kernel) (by decide +kernel), gd_at 13 (by decide +kernel) (by decide +kernel), by decide +kernel, by decide +kernel, by decide +kernel⟩
theorem yi_JA_fill : Cond.static y_JA_fill ∈ lw_gd := gd_at 424 (by decide +kernel) (by decide +kernel)
abbrev c_S_endOf : ByteArray := prog_6_method_6_code
abbrev y_S_endOf : MethodName := ⟨"ProbeChoice$Search", "endOf", "(I)I"⟩
theorem yw_S_endOf : Yw y_S_endOf c_S_endOf 2 (some .int) 1 := ⟨gd_at 429 (by decide +kernel) (by decide +kernel), gd_at 3 (by decide +kernel) (by decide +kernel), by decide +kernel, by decide +kernel, by decide +kernel⟩
theorem yi_S_endOf : Cond.instanceMethod y_S_endOf ∈ lw_gd ∧ Cond.selects "ProbeChoice$Search" y_S_endOf y_S_endOf ∈ lw_gd := ⟨gd_at 428 (by decide +kernel) (by decide +kernel), gd_sel 4 (by decide +kernel) (by decide +kernel)⟩
abbrev c_S_markClashesWithNet : ByteArray := prog_6_method_5_code
abbrev y_S_markClashesWithNet : MethodName := ⟨"ProbeChoice$Search", "markClashesWithNet", "(LProbeChoice$Board;II)V"⟩
theorem yw_S_markClashesWithNet : Yw y_S_markClashesWithNet c_S_markClashesWithNet 5 none 3 := ⟨gd_at 433 (by decide +kernel) (by decide +kernel), gd_at 3 (by decide +kernel) (by decide +kernel), by decide +kernel, by decide +kernel, by decide +kernel⟩
theorem yi_S_markClashesWithNet : Cond.instanceMethod y_S_markClashesWithNet ∈ lw_gd ∧ Cond.selects "ProbeChoice$Search" y_S_markClashesWithNet y_S_markClashesWithNet ∈ lw_gd := ⟨gd_at 432 (by decide +kernel) (by decide +kernel), gd_sel 5 (by decide +kernel) (by decide +kernel)⟩
abbrev c_B_canBothBeProbes : ByteArray := prog_2_method_9_code
abbrev y_B_canBothBeProbes : MethodName := ⟨"ProbeChoice$Board", "canBothBeProbes", "(II)Z"⟩
theorem yw_B_canBothBeProbes : Yw y_B_canBothBeProbes c_B_canBothBeProbes 5 (some .boolean) 2 := ⟨gd_at 437 (by decide +kernel) (by decide +kernel), gd_at 2 (by decide +kernel) (by decide +kernel), by decide +kernel, by decide +kernel, by decide +kernel⟩
theorem yi_B_canBothBeProbes : Cond.instanceMethod y_B_canBothBeProbes ∈ lw_gd ∧ Cond.selects "ProbeChoice$Board" y_B_canBothBeProbes y_B_canBothBeProbes ∈ lw_gd := ⟨gd_at 435 (by decide +kernel) (by decide +kernel), gd_at 436 (by decide +kernel) (by decide +kernel)⟩
abbrev c_B_squareOfWay : ByteArray := prog_2_method_10_code
abbrev y_B_squareOfWay : MethodName := ⟨"ProbeChoice$Board", "squareOfWay", "(IJJ)J"⟩
theorem yw_B_squareOfWay : Yw y_B_squareOfWay c_B_squareOfWay 10 (some .long) 3 := ⟨gd_at 441 (by decide +kernel) (by decide +kernel), gd_at 2 (by decide +kernel) (by decide +kernel), by decide +kernel, by decide +kernel, by decide +kernel⟩
theorem yi_B_squareOfWay : Cond.instanceMethod y_B_squareOfWay ∈ lw_gd ∧ Cond.selects "ProbeChoice$Board" y_B_squareOfWay y_B_squareOfWay ∈ lw_gd := ⟨gd_at 439 (by decide +kernel) (by decide +kernel), gd_at 440 (by decide +kernel) (by decide +kernel)⟩
abbrev c_S_worthOfPlainChoice : ByteArray := prog_6_method_7_code
abbrev y_S_worthOfPlainChoice : MethodName := ⟨"ProbeChoice$Search", "worthOfPlainChoice", "()J"⟩
theorem yw_S_worthOfPlainChoice : Yw y_S_worthOfPlainChoice c_S_worthOfPlainChoice 6 (some .long) 0 := ⟨gd_at 445 (by decide +kernel) (by decide +kernel), gd_at 3 (by decide +kernel) (by decide +kernel), by decide +kernel, by decide +kernel, by decide +kernel⟩
theorem yi_S_worthOfPlainChoice : Cond.instanceMethod y_S_worthOfPlainChoice ∈ lw_gd ∧ Cond.selects "ProbeChoice$Search" y_S_worthOfPlainChoice y_S_worthOfPlainChoice ∈ lw_gd := ⟨gd_at 444 (by decide +kernel) (by decide +kernel), gd_sel 6 (by decide +kernel) (by decide +kernel)⟩
abbrev c_S_bestSlot : ByteArray := prog_6_method_9_code
abbrev y_S_bestSlot : MethodName := ⟨"ProbeChoice$Search", "bestSlot", "(II)I"⟩
theorem yw_S_bestSlot : Yw y_S_bestSlot c_S_bestSlot 5 (some .int) 2 := ⟨gd_at 449 (by decide +kernel) (by decide +kernel), gd_at 3 (by decide +kernel) (by decide +kernel), by decide +kernel, by decide +kernel, by decide +kernel⟩
theorem yi_S_bestSlot : Cond.instanceMethod y_S_bestSlot ∈ lw_gd ∧ Cond.selects "ProbeChoice$Search" y_S_bestSlot y_S_bestSlot ∈ lw_gd := ⟨gd_at 448 (by decide +kernel) (by decide +kernel), gd_sel 7 (by decide +kernel) (by decide +kernel)⟩
abbrev c_S_descend : ByteArray := prog_6_method_10_code
abbrev y_S_descend : MethodName := ⟨"ProbeChoice$Search", "descend", "(LProbeChoice$Search;IJI)V"⟩
theorem yw_S_descend : Yw y_S_descend c_S_descend 6 none 4 := ⟨gd_at 453 (by decide +kernel) (by decide +kernel), gd_at 3 (by decide +kernel) (by decide +kernel), by decide +kernel, by decide +kernel, by decide +kernel⟩
theorem yi_S_descend : Cond.static y_S_descend ∈ lw_gd := gd_at 452 (by decide +kernel) (by decide +kernel)
abbrev c_S_mostWorthFrom : ByteArray := prog_6_method_8_code
abbrev y_S_mostWorthFrom : MethodName := ⟨"ProbeChoice$Search", "mostWorthFrom", "(II)J"⟩
theorem yw_S_mostWorthFrom : Yw y_S_mostWorthFrom c_S_mostWorthFrom 7 (some .long) 2 := ⟨gd_at 457 (by decide +kernel) (by decide +kernel), gd_at 3 (by decide +kernel) (by decide +kernel), by decide +kernel, by decide +kernel, by decide +kernel⟩
theorem yi_S_mostWorthFrom : Cond.instanceMethod y_S_mostWorthFrom ∈ lw_gd ∧ Cond.selects "ProbeChoice$Search" y_S_mostWorthFrom y_S_mostWorthFrom ∈ lw_gd := ⟨gd_at 456 (by decide +kernel) (by decide +kernel), gd_sel 8 (by decide +kernel) (by decide +kernel)⟩
abbrev c_S_keep : ByteArray := prog_6_method_11_code
abbrev y_S_keep : MethodName := ⟨"ProbeChoice$Search", "keep", "(J)V"⟩
theorem yw_S_keep : Yw y_S_keep c_S_keep 3 none 1 := ⟨gd_at 461 (by decide +kernel) (by decide +kernel), gd_at 3 (by decide +kernel) (by decide +kernel), by decide +kernel, by decide +kernel, by decide +kernel⟩
theorem yi_S_keep : Cond.instanceMethod y_S_keep ∈ lw_gd ∧ Cond.selects "ProbeChoice$Search" y_S_keep y_S_keep ∈ lw_gd := ⟨gd_at 460 (by decide +kernel) (by decide +kernel), gd_sel 9 (by decide +kernel) (by decide +kernel)⟩
abbrev c_F_build : ByteArray := prog_3_method_2_code
abbrev y_F_build : MethodName := ⟨"ProbeChoice$Fixture", "build", "(LProbeChoice$Board;LProbeChoice$Search;)V"⟩
theorem yw_F_build : Yw y_F_build c_F_build 3 none 2 := ⟨gd_at 468 (by decide +kernel) (by decide +kernel), gd_at 4 (by decide +kernel) (by decide +kernel), by decide +kernel, by decide +kernel, by decide +kernel⟩
theorem yi_F_build : Cond.instanceMethod y_F_build ∈ lw_gd ∧ Cond.selects "ProbeChoice$Fixture" y_F_build y_F_build ∈ lw_gd := ⟨gd_at 466 (by decide +kernel) (by decide +kernel), gd_at 467 (by decide +kernel) (by decide +kernel)⟩
abbrev c_B_countOfMust : ByteArray := prog_2_method_8_code
abbrev y_B_countOfMust : MethodName := ⟨"ProbeChoice$Board", "countOfMust", "()I"⟩
theorem yw_B_countOfMust : Yw y_B_countOfMust c_B_countOfMust 3 (some .int) 0 := ⟨gd_at 472 (by decide +kernel) (by decide +kernel), gd_at 2 (by decide +kernel) (by decide +kernel), by decide +kernel, by decide +kernel, by decide +kernel⟩
theorem yi_B_countOfMust : Cond.instanceMethod y_B_countOfMust ∈ lw_gd ∧ Cond.selects "ProbeChoice$Board" y_B_countOfMust y_B_countOfMust ∈ lw_gd := ⟨gd_at 470 (by decide +kernel) (by decide +kernel), gd_at 471 (by decide +kernel) (by decide +kernel)⟩
abbrev c_F_takeProbes : ByteArray := prog_3_method_5_code
abbrev y_F_takeProbes : MethodName := ⟨"ProbeChoice$Fixture", "takeProbes", "(LProbeChoice$Search;)V"⟩
theorem yw_F_takeProbes : Yw y_F_takeProbes c_F_takeProbes 3 none 1 := ⟨gd_at 476 (by decide +kernel) (by decide +kernel), gd_at 4 (by decide +kernel) (by decide +kernel), by decide +kernel, by decide +kernel, by decide +kernel⟩
theorem yi_F_takeProbes : Cond.instanceMethod y_F_takeProbes ∈ lw_gd ∧ Cond.selects "ProbeChoice$Fixture" y_F_takeProbes y_F_takeProbes ∈ lw_gd := ⟨gd_at 475 (by decide +kernel) (by decide +kernel), gd_sel 10 (by decide +kernel) (by decide +kernel)⟩
abbrev c_F_planFlight : ByteArray := prog_3_method_6_code
abbrev y_F_planFlight : MethodName := ⟨"ProbeChoice$Fixture", "planFlight", "(LProbeChoice$Board;)V"⟩
theorem yw_F_planFlight : Yw y_F_planFlight c_F_planFlight 9 none 1 := ⟨gd_at 480 (by decide +kernel) (by decide +kernel), gd_at 4 (by decide +kernel) (by decide +kernel), by decide +kernel, by decide +kernel, by decide +kernel⟩
theorem yi_F_planFlight : Cond.instanceMethod y_F_planFlight ∈ lw_gd ∧ Cond.selects "ProbeChoice$Fixture" y_F_planFlight y_F_planFlight ∈ lw_gd := ⟨gd_at 479 (by decide +kernel) (by decide +kernel), gd_sel 11 (by decide +kernel) (by decide +kernel)⟩
abbrev c_F_placeOfNearest : ByteArray := prog_3_method_7_code
abbrev y_F_placeOfNearest : MethodName := ⟨"ProbeChoice$Fixture", "placeOfNearest", "(LProbeChoice$Board;IJJ)I"⟩
theorem yw_F_placeOfNearest : Yw y_F_placeOfNearest c_F_placeOfNearest 13 (some .int) 4 := ⟨gd_at 485 (by decide +kernel) (by decide +kernel), gd_at 4 (by decide +kernel) (by decide +kernel), by decide +kernel, by decide +kernel, by decide +kernel⟩
theorem yi_F_placeOfNearest : Cond.instanceMethod y_F_placeOfNearest ∈ lw_gd ∧ Cond.selects "ProbeChoice$Fixture" y_F_placeOfNearest y_F_placeOfNearest ∈ lw_gd := ⟨gd_at 484 (by decide +kernel) (by decide +kernel), gd_sel 12 (by decide +kernel) (by decide +kernel)⟩
abbrev c_JM_absL : ByteArray := prog_14_method_61_code
abbrev y_JM_absL : MethodName := ⟨"java/lang/Math", "abs", "(J)J"⟩
theorem yw_JM_absL : Yw y_JM_absL c_JM_absL 2 (some .long) 1 := ⟨gd_at 489 (by decide +kernel) (by decide +kernel), gd_at 15 (by decide +kernel) (by decide +kernel), by decide +kernel, by decide +kernel, by decide +kernel⟩
theorem yi_JM_absL : Cond.static y_JM_absL ∈ lw_gd := gd_at 488 (by decide +kernel) (by decide +kernel)
abbrev c_JM_maxL : ByteArray := prog_14_method_66_code
abbrev y_JM_maxL : MethodName := ⟨"java/lang/Math", "max", "(JJ)J"⟩
theorem yw_JM_maxL : Yw y_JM_maxL c_JM_maxL 4 (some .long) 2 := ⟨gd_at 492 (by decide +kernel) (by decide +kernel), gd_at 15 (by decide +kernel) (by decide +kernel), by decide +kernel, by decide +kernel, by decide +kernel⟩
theorem yi_JM_maxL : Cond.static y_JM_maxL ∈ lw_gd := gd_at 491 (by decide +kernel) (by decide +kernel)
abbrev c_F_sortByPlace : ByteArray := prog_3_method_8_code
abbrev y_F_sortByPlace : MethodName := ⟨"ProbeChoice$Fixture", "sortByPlace", "(LProbeChoice$Board;)V"⟩
theorem yw_F_sortByPlace : Yw y_F_sortByPlace c_F_sortByPlace 4 none 1 := ⟨gd_at 496 (by decide +kernel) (by decide +kernel), gd_at 4 (by decide +kernel) (by decide +kernel), by decide +kernel, by decide +kernel, by decide +kernel⟩
theorem yi_F_sortByPlace : Cond.instanceMethod y_F_sortByPlace ∈ lw_gd ∧ Cond.selects "ProbeChoice$Fixture" y_F_sortByPlace y_F_sortByPlace ∈ lw_gd := ⟨gd_at 495 (by decide +kernel) (by decide +kernel), gd_sel 13 (by decide +kernel) (by decide +kernel)⟩
abbrev c_B_isBeforeByPlace : ByteArray := prog_2_method_11_code
abbrev y_B_isBeforeByPlace : MethodName := ⟨"ProbeChoice$Board", "isBeforeByPlace", "(II)Z"⟩
theorem yw_B_isBeforeByPlace : Yw y_B_isBeforeByPlace c_B_isBeforeByPlace 3 (some .boolean) 2 := ⟨gd_at 500 (by decide +kernel) (by decide +kernel), gd_at 2 (by decide +kernel) (by decide +kernel), by decide +kernel, by decide +kernel, by decide +kernel⟩
theorem yi_B_isBeforeByPlace : Cond.instanceMethod y_B_isBeforeByPlace ∈ lw_gd ∧ Cond.selects "ProbeChoice$Board" y_B_isBeforeByPlace y_B_isBeforeByPlace ∈ lw_gd := ⟨gd_at 498 (by decide +kernel) (by decide +kernel), gd_at 499 (by decide +kernel) (by decide +kernel)⟩
abbrev c_F_writeText : ByteArray := prog_3_method_9_code
abbrev y_F_writeText : MethodName := ⟨"ProbeChoice$Fixture", "writeText", "(LProbeChoice$Board;)V"⟩
theorem yw_F_writeText : Yw y_F_writeText c_F_writeText 4 none 1 := ⟨gd_at 504 (by decide +kernel) (by decide +kernel), gd_at 4 (by decide +kernel) (by decide +kernel), by decide +kernel, by decide +kernel, by decide +kernel⟩
theorem yi_F_writeText : Cond.instanceMethod y_F_writeText ∈ lw_gd ∧ Cond.selects "ProbeChoice$Fixture" y_F_writeText y_F_writeText ∈ lw_gd := ⟨gd_at 503 (by decide +kernel) (by decide +kernel), gd_sel 14 (by decide +kernel) (by decide +kernel)⟩
abbrev c_F_writeLetter : ByteArray := prog_3_method_11_code
abbrev y_F_writeLetter : MethodName := ⟨"ProbeChoice$Fixture", "writeLetter", "(C)V"⟩
theorem yw_F_writeLetter : Yw y_F_writeLetter c_F_writeLetter 2 none 1 := ⟨gd_at 508 (by decide +kernel) (by decide +kernel), gd_at 4 (by decide +kernel) (by decide +kernel), by decide +kernel, by decide +kernel, by decide +kernel⟩
theorem yi_F_writeLetter : Cond.instanceMethod y_F_writeLetter ∈ lw_gd ∧ Cond.selects "ProbeChoice$Fixture" y_F_writeLetter y_F_writeLetter ∈ lw_gd := ⟨gd_at 507 (by decide +kernel) (by decide +kernel), gd_sel 15 (by decide +kernel) (by decide +kernel)⟩
abbrev c_F_writeNumber : ByteArray := prog_3_method_10_code
abbrev y_F_writeNumber : MethodName := ⟨"ProbeChoice$Fixture", "writeNumber", "(J)V"⟩
theorem yw_F_writeNumber : Yw y_F_writeNumber c_F_writeNumber 8 none 1 := ⟨gd_at 512 (by decide +kernel) (by decide +kernel), gd_at 4 (by decide +kernel) (by decide +kernel), by decide +kernel, by decide +kernel, by decide +kernel⟩
theorem yi_F_writeNumber : Cond.instanceMethod y_F_writeNumber ∈ lw_gd ∧ Cond.selects "ProbeChoice$Fixture" y_F_writeNumber y_F_writeNumber ∈ lw_gd := ⟨gd_at 511 (by decide +kernel) (by decide +kernel), gd_sel 16 (by decide +kernel) (by decide +kernel)⟩
abbrev c_X_part : ByteArray := prog_1_method_9_code
abbrev y_X_part : MethodName := ⟨"ProbeChoice", "part", "(IIJJ)Z"⟩
theorem yw_X_part : Yw y_X_part c_X_part 7 (some .boolean) 4 := ⟨gd_at 521 (by decide +kernel) (by decide +kernel), gd_at 1 (by decide +kernel) (by decide +kernel), by decide +kernel, by decide +kernel, by decide +kernel⟩
theorem yi_X_part : Cond.instanceMethod y_X_part ∈ lw_gd ∧ Cond.selects "ProbeChoice" y_X_part y_X_part ∈ lw_gd := ⟨gd_at 519 (by decide +kernel) (by decide +kernel), gd_at 520 (by decide +kernel) (by decide +kernel)⟩
abbrev c_P_add : ByteArray := prog_4_method_2_code
abbrev y_P_add : MethodName := ⟨"ProbeChoice$Parts", "add", "(IIJJ)Z"⟩
theorem yw_P_add : Yw y_P_add c_P_add 8 (some .boolean) 4 := ⟨gd_at 527 (by decide +kernel) (by decide +kernel), gd_at 5 (by decide +kernel) (by decide +kernel), by decide +kernel, by decide +kernel, by decide +kernel⟩
theorem yi_P_add : Cond.instanceMethod y_P_add ∈ lw_gd ∧ Cond.selects "ProbeChoice$Parts" y_P_add y_P_add ∈ lw_gd := ⟨gd_at 525 (by decide +kernel) (by decide +kernel), gd_at 526 (by decide +kernel) (by decide +kernel)⟩
abbrev c_P_pairOf : ByteArray := prog_4_method_7_code
abbrev y_P_pairOf : MethodName := ⟨"ProbeChoice$Parts", "pairOf", "(II)I"⟩
theorem yw_P_pairOf : Yw y_P_pairOf c_P_pairOf 2 (some .int) 2 := ⟨gd_at 530 (by decide +kernel) (by decide +kernel), gd_at 5 (by decide +kernel) (by decide +kernel), by decide +kernel, by decide +kernel, by decide +kernel⟩
theorem yi_P_pairOf : Cond.static y_P_pairOf ∈ lw_gd := gd_at 529 (by decide +kernel) (by decide +kernel)
abbrev c_JM_min : ByteArray := prog_14_method_69_code
abbrev y_JM_min : MethodName := ⟨"java/lang/Math", "min", "(II)I"⟩
theorem yw_JM_min : Yw y_JM_min c_JM_min 2 (some .int) 2 := ⟨gd_at 533 (by decide +kernel) (by decide +kernel), gd_at 15 (by decide +kernel) (by decide +kernel), by decide +kernel, by decide +kernel, by decide +kernel⟩
theorem yi_JM_min : Cond.static y_JM_min ∈ lw_gd := gd_at 532 (by decide +kernel) (by decide +kernel)
abbrev c_JM_max : ByteArray := prog_14_method_65_code
abbrev y_JM_max : MethodName := ⟨"java/lang/Math", "max", "(II)I"⟩
theorem yw_JM_max : Yw y_JM_max c_JM_max 2 (some .int) 2 := ⟨gd_at 536 (by decide +kernel) (by decide +kernel), gd_at 15 (by decide +kernel) (by decide +kernel), by decide +kernel, by decide +kernel, by decide +kernel⟩
theorem yi_JM_max : Cond.static y_JM_max ∈ lw_gd := gd_at 535 (by decide +kernel) (by decide +kernel)
abbrev c_P_addInverse : ByteArray := prog_4_method_6_code
abbrev y_P_addInverse : MethodName := ⟨"ProbeChoice$Parts", "addInverse", "(IIJ)V"⟩
theorem yw_P_addInverse : Yw y_P_addInverse c_P_addInverse 7 none 3 := ⟨gd_at 540 (by decide +kernel) (by decide +kernel), gd_at 5 (by decide +kernel) (by decide +kernel), by decide +kernel, by decide +kernel, by decide +kernel⟩
theorem yi_P_addInverse : Cond.instanceMethod y_P_addInverse ∈ lw_gd ∧ Cond.selects "ProbeChoice$Parts" y_P_addInverse y_P_addInverse ∈ lw_gd := ⟨gd_at 539 (by decide +kernel) (by decide +kernel), gd_sel 17 (by decide +kernel) (by decide +kernel)⟩
abbrev c_X_span : ByteArray := prog_1_method_10_code
abbrev y_X_span : MethodName := ⟨"ProbeChoice", "span", "(IIII)J"⟩
theorem yw_X_span : Yw y_X_span c_X_span 5 (some .long) 4 := ⟨gd_at 548 (by decide +kernel) (by decide +kernel), gd_at 1 (by decide +kernel) (by decide +kernel), by decide +kernel, by decide +kernel, by decide +kernel⟩
theorem yi_X_span : Cond.instanceMethod y_X_span ∈ lw_gd ∧ Cond.selects "ProbeChoice" y_X_span y_X_span ∈ lw_gd := ⟨gd_at 546 (by decide +kernel) (by decide +kernel), gd_at 547 (by decide +kernel) (by decide +kernel)⟩
abbrev c_P_areBetween : ByteArray := prog_4_method_3_code
abbrev y_P_areBetween : MethodName := ⟨"ProbeChoice$Parts", "areBetween", "(II)Z"⟩
theorem yw_P_areBetween : Yw y_P_areBetween c_P_areBetween 3 (some .boolean) 2 := ⟨gd_at 553 (by decide +kernel) (by decide +kernel), gd_at 5 (by decide +kernel) (by decide +kernel), by decide +kernel, by decide +kernel, by decide +kernel⟩
theorem yi_P_areBetween : Cond.instanceMethod y_P_areBetween ∈ lw_gd ∧ Cond.selects "ProbeChoice$Parts" y_P_areBetween y_P_areBetween ∈ lw_gd := ⟨gd_at 551 (by decide +kernel) (by decide +kernel), gd_at 552 (by decide +kernel) (by decide +kernel)⟩
abbrev c_P_termOfSpan : ByteArray := prog_4_method_5_code
abbrev y_P_termOfSpan : MethodName := ⟨"ProbeChoice$Parts", "termOfSpan", "(IIII)J"⟩
theorem yw_P_termOfSpan : Yw y_P_termOfSpan c_P_termOfSpan 12 (some .long) 4 := ⟨gd_at 574 (by decide +kernel) (by decide +kernel), gd_at 5 (by decide +kernel) (by decide +kernel), by decide +kernel, by decide +kernel, by decide +kernel⟩
theorem yi_P_termOfSpan : Cond.instanceMethod y_P_termOfSpan ∈ lw_gd ∧ Cond.selects "ProbeChoice$Parts" y_P_termOfSpan y_P_termOfSpan ∈ lw_gd := ⟨gd_at 572 (by decide +kernel) (by decide +kernel), gd_at 573 (by decide +kernel) (by decide +kernel)⟩
abbrev c_P_commonDivisor : ByteArray := prog_4_method_8_code
abbrev y_P_commonDivisor : MethodName := ⟨"ProbeChoice$Parts", "commonDivisor", "(JJ)J"⟩
theorem yw_P_commonDivisor : Yw y_P_commonDivisor c_P_commonDivisor 11 (some .long) 2 := ⟨gd_at 577 (by decide +kernel) (by decide +kernel), gd_at 5 (by decide +kernel) (by decide +kernel), by decide +kernel, by decide +kernel, by decide +kernel⟩
theorem yi_P_commonDivisor : Cond.static y_P_commonDivisor ∈ lw_gd := gd_at 576 (by decide +kernel) (by decide +kernel)
abbrev c_X_guard : ByteArray := prog_1_method_11_code
abbrev y_X_guard : MethodName := ⟨"ProbeChoice", "guard", "(III)I"⟩
theorem yw_X_guard : Yw y_X_guard c_X_guard 4 (some .int) 3 := ⟨gd_at 585 (by decide +kernel) (by decide +kernel), gd_at 1 (by decide +kernel) (by decide +kernel), by decide +kernel, by decide +kernel, by decide +kernel⟩
theorem yi_X_guard : Cond.instanceMethod y_X_guard ∈ lw_gd ∧ Cond.selects "ProbeChoice" y_X_guard y_X_guard ∈ lw_gd := ⟨gd_at 583 (by decide +kernel) (by decide +kernel), gd_at 584 (by decide +kernel) (by decide +kernel)⟩
abbrev c_P_joinedToBoth : ByteArray := prog_4_method_4_code
abbrev y_P_joinedToBoth : MethodName := ⟨"ProbeChoice$Parts", "joinedToBoth", "(II)I"⟩
theorem yw_P_joinedToBoth : Yw y_P_joinedToBoth c_P_joinedToBoth 3 (some .int) 2 := ⟨gd_at 589 (by decide +kernel) (by decide +kernel), gd_at 5 (by decide +kernel) (by decide +kernel), by decide +kernel, by decide +kernel, by decide +kernel⟩
theorem yi_P_joinedToBoth : Cond.instanceMethod y_P_joinedToBoth ∈ lw_gd ∧ Cond.selects "ProbeChoice$Parts" y_P_joinedToBoth y_P_joinedToBoth ∈ lw_gd := ⟨gd_at 587 (by decide +kernel) (by decide +kernel), gd_at 588 (by decide +kernel) (by decide +kernel)⟩
abbrev c_X_nthBit : ByteArray := prog_1_method_25_code
abbrev y_X_nthBit : MethodName := ⟨"ProbeChoice", "nthBit", "(II)I"⟩
theorem yw_X_nthBit : Yw y_X_nthBit c_X_nthBit 4 (some .int) 2 := ⟨gd_at 592 (by decide +kernel) (by decide +kernel), gd_at 1 (by decide +kernel) (by decide +kernel), by decide +kernel, by decide +kernel, by decide +kernel⟩
theorem yi_X_nthBit : Cond.static y_X_nthBit ∈ lw_gd := gd_at 591 (by decide +kernel) (by decide +kernel)
abbrev c_X_fail : ByteArray := prog_1_method_12_code
abbrev y_X_fail : MethodName := ⟨"ProbeChoice", "fail", "(I)Z"⟩
theorem yw_X_fail : Yw y_X_fail c_X_fail 4 (some .boolean) 1 := ⟨gd_at 600 (by decide +kernel) (by decide +kernel), gd_at 1 (by decide +kernel) (by decide +kernel), by decide +kernel, by decide +kernel, by decide +kernel⟩
theorem yi_X_fail : Cond.instanceMethod y_X_fail ∈ lw_gd ∧ Cond.selects "ProbeChoice" y_X_fail y_X_fail ∈ lw_gd := ⟨gd_at 598 (by decide +kernel) (by decide +kernel), gd_at 599 (by decide +kernel) (by decide +kernel)⟩
abbrev c_R_add : ByteArray := prog_5_method_2_code
abbrev y_R_add : MethodName := ⟨"ProbeChoice$Rows", "add", "(II)Z"⟩
theorem yw_R_add : Yw y_R_add c_R_add 3 (some .boolean) 2 := ⟨gd_at 605 (by decide +kernel) (by decide +kernel), gd_at 6 (by decide +kernel) (by decide +kernel), by decide +kernel, by decide +kernel, by decide +kernel⟩
theorem yi_R_add : Cond.instanceMethod y_R_add ∈ lw_gd ∧ Cond.selects "ProbeChoice$Rows" y_R_add y_R_add ∈ lw_gd := ⟨gd_at 603 (by decide +kernel) (by decide +kernel), gd_at 604 (by decide +kernel) (by decide +kernel)⟩
abbrev c_X_suspect : ByteArray := prog_1_method_14_code
abbrev y_X_suspect : MethodName := ⟨"ProbeChoice", "suspect", "(II)I"⟩
theorem yw_X_suspect : Yw y_X_suspect c_X_suspect 4 (some .int) 2 := ⟨gd_at 612 (by decide +kernel) (by decide +kernel), gd_at 1 (by decide +kernel) (by decide +kernel), by decide +kernel, by decide +kernel, by decide +kernel⟩
theorem yi_X_suspect : Cond.instanceMethod y_X_suspect ∈ lw_gd ∧ Cond.selects "ProbeChoice" y_X_suspect y_X_suspect ∈ lw_gd := ⟨gd_at 610 (by decide +kernel) (by decide +kernel), gd_at 611 (by decide +kernel) (by decide +kernel)⟩
abbrev c_R_countOf : ByteArray := prog_5_method_3_code
abbrev y_R_countOf : MethodName := ⟨"ProbeChoice$Rows", "countOf", "(I)I"⟩
theorem yw_R_countOf : Yw y_R_countOf c_R_countOf 2 (some .int) 1 := ⟨gd_at 617 (by decide +kernel) (by decide +kernel), gd_at 6 (by decide +kernel) (by decide +kernel), by decide +kernel, by decide +kernel, by decide +kernel⟩
theorem yi_R_countOf : Cond.instanceMethod y_R_countOf ∈ lw_gd ∧ Cond.selects "ProbeChoice$Rows" y_R_countOf y_R_countOf ∈ lw_gd := ⟨gd_at 615 (by decide +kernel) (by decide +kernel), gd_at 616 (by decide +kernel) (by decide +kernel)⟩
abbrev c_X_faults : ByteArray := prog_1_method_15_code
abbrev y_X_faults : MethodName := ⟨"ProbeChoice", "faults", "(I)I"⟩
theorem yw_X_faults : Yw y_X_faults c_X_faults 2 (some .int) 1 := ⟨gd_at 624 (by decide +kernel) (by decide +kernel), gd_at 1 (by decide +kernel) (by decide +kernel), by decide +kernel, by decide +kernel, by decide +kernel⟩
theorem yi_X_faults : Cond.instanceMethod y_X_faults ∈ lw_gd ∧ Cond.selects "ProbeChoice" y_X_faults y_X_faults ∈ lw_gd := ⟨gd_at 622 (by decide +kernel) (by decide +kernel), gd_at 623 (by decide +kernel) (by decide +kernel)⟩
abbrev c_X_force : ByteArray := prog_1_method_18_code
abbrev y_X_force : MethodName := ⟨"ProbeChoice", "force", "(IJ)Z"⟩
theorem yw_X_force : Yw y_X_force c_X_force 4 (some .boolean) 2 := ⟨gd_at 631 (by decide +kernel) (by decide +kernel), gd_at 1 (by decide +kernel) (by decide +kernel), by decide +kernel, by decide +kernel, by decide +kernel⟩
theorem yi_X_force : Cond.instanceMethod y_X_force ∈ lw_gd ∧ Cond.selects "ProbeChoice" y_X_force y_X_force ∈ lw_gd := ⟨gd_at 629 (by decide +kernel) (by decide +kernel), gd_at 630 (by decide +kernel) (by decide +kernel)⟩
abbrev c_B_hasPoint : ByteArray := prog_2_method_3_code
abbrev y_B_hasPoint : MethodName := ⟨"ProbeChoice$Board", "hasPoint", "(I)Z"⟩
theorem yw_B_hasPoint : Yw y_B_hasPoint c_B_hasPoint 2 (some .boolean) 1 := ⟨gd_at 635 (by decide +kernel) (by decide +kernel), gd_at 2 (by decide +kernel) (by decide +kernel), by decide +kernel, by decide +kernel, by decide +kernel⟩
theorem yi_B_hasPoint : Cond.instanceMethod y_B_hasPoint ∈ lw_gd ∧ Cond.selects "ProbeChoice$Board" y_B_hasPoint y_B_hasPoint ∈ lw_gd := ⟨gd_at 633 (by decide +kernel) (by decide +kernel), gd_at 634 (by decide +kernel) (by decide +kernel)⟩
abbrev c_B_setForce : ByteArray := prog_2_method_7_code
abbrev y_B_setForce : MethodName := ⟨"ProbeChoice$Board", "setForce", "(IJ)Z"⟩
theorem yw_B_setForce : Yw y_B_setForce c_B_setForce 5 (some .boolean) 2 := ⟨gd_at 641 (by decide +kernel) (by decide +kernel), gd_at 2 (by decide +kernel) (by decide +kernel), by decide +kernel, by decide +kernel, by decide +kernel⟩
theorem yi_B_setForce : Cond.instanceMethod y_B_setForce ∈ lw_gd ∧ Cond.selects "ProbeChoice$Board" y_B_setForce y_B_setForce ∈ lw_gd := ⟨gd_at 639 (by decide +kernel) (by decide +kernel), gd_at 640 (by decide +kernel) (by decide +kernel)⟩
abbrev c_X_text : ByteArray := prog_1_method_20_code
abbrev y_X_text : MethodName := ⟨"ProbeChoice", "text", "(I)I"⟩
theorem yw_X_text : Yw y_X_text c_X_text 2 (some .int) 1 := ⟨gd_at 648 (by decide +kernel) (by decide +kernel), gd_at 1 (by decide +kernel) (by decide +kernel), by decide +kernel, by decide +kernel, by decide +kernel⟩
theorem yi_X_text : Cond.instanceMethod y_X_text ∈ lw_gd ∧ Cond.selects "ProbeChoice" y_X_text y_X_text ∈ lw_gd := ⟨gd_at 646 (by decide +kernel) (by decide +kernel), gd_at 647 (by decide +kernel) (by decide +kernel)⟩
abbrev c_F_letterAt : ByteArray := prog_3_method_4_code
abbrev y_F_letterAt : MethodName := ⟨"ProbeChoice$Fixture", "letterAt", "(I)I"⟩
theorem yw_F_letterAt : Yw y_F_letterAt c_F_letterAt 2 (some .int) 1 := ⟨gd_at 653 (by decide +kernel) (by decide +kernel), gd_at 4 (by decide +kernel) (by decide +kernel), by decide +kernel, by decide +kernel, by decide +kernel⟩
theorem yi_F_letterAt : Cond.instanceMethod y_F_letterAt ∈ lw_gd ∧ Cond.selects "ProbeChoice$Fixture" y_F_letterAt y_F_letterAt ∈ lw_gd := ⟨gd_at 651 (by decide +kernel) (by decide +kernel), gd_at 652 (by decide +kernel) (by decide +kernel)⟩
abbrev c_M_init : ByteArray := prog_8_method_1_code
abbrev y_M_init : MethodName := ⟨"ProbeChoiceModel", "<init>", "()V"⟩
theorem yw_M_init : Yw y_M_init c_M_init 1 none 0 := ⟨gd_at 658 (by decide +kernel) (by decide +kernel), gd_at 7 (by decide +kernel) (by decide +kernel), by decide +kernel, by decide +kernel, by decide +kernel⟩
abbrev c_M_thrown : ByteArray := prog_8_method_2_code
abbrev y_M_thrown : MethodName := ⟨"ProbeChoiceModel", "thrown", "()I"⟩
theorem yw_M_thrown : Yw y_M_thrown c_M_thrown 1 (some .int) 0 := ⟨gd_at 742 (by decide +kernel) (by decide +kernel), gd_at 7 (by decide +kernel) (by decide +kernel), by decide +kernel, by decide +kernel, by decide +kernel⟩
theorem yi_M_thrown : Cond.instanceMethod y_M_thrown ∈ lw_gd ∧ Cond.selects "ProbeChoiceModel" y_M_thrown y_M_thrown ∈ lw_gd := ⟨gd_at 740 (by decide +kernel) (by decide +kernel), gd_at 741 (by decide +kernel) (by decide +kernel)⟩
abbrev c_M_net : ByteArray := prog_8_method_5_code
abbrev y_M_net : MethodName := ⟨"ProbeChoiceModel", "net", "(Z)I"⟩
theorem yw_M_net : Yw y_M_net c_M_net 2 (some .int) 1 := ⟨gd_at 746 (by decide +kernel) (by decide +kernel), gd_at 7 (by decide +kernel) (by decide +kernel), by decide +kernel, by decide +kernel, by decide +kernel⟩
theorem yi_M_net : Cond.instanceMethod y_M_net ∈ lw_gd ∧ Cond.selects "ProbeChoiceModel" y_M_net y_M_net ∈ lw_gd := ⟨gd_at 744 (by decide +kernel) (by decide +kernel), gd_at 745 (by decide +kernel) (by decide +kernel)⟩
abbrev c_M_point : ByteArray := prog_8_method_7_code
abbrev y_M_point : MethodName := ⟨"ProbeChoiceModel", "point", "(IJJJ)I"⟩
theorem yw_M_point : Yw y_M_point c_M_point 9 (some .int) 4 := ⟨gd_at 750 (by decide +kernel) (by decide +kernel), gd_at 7 (by decide +kernel) (by decide +kernel), by decide +kernel, by decide +kernel, by decide +kernel⟩
theorem yi_M_point : Cond.instanceMethod y_M_point ∈ lw_gd ∧ Cond.selects "ProbeChoiceModel" y_M_point y_M_point ∈ lw_gd := ⟨gd_at 748 (by decide +kernel) (by decide +kernel), gd_at 749 (by decide +kernel) (by decide +kernel)⟩
abbrev c_M_isPlace : ByteArray := prog_8_method_6_code
abbrev y_M_isPlace : MethodName := ⟨"ProbeChoiceModel", "isPlace", "(J)Z"⟩
theorem yw_M_isPlace : Yw y_M_isPlace c_M_isPlace 2 (some .boolean) 1 := ⟨gd_at 753 (by decide +kernel) (by decide +kernel), gd_at 7 (by decide +kernel) (by decide +kernel), by decide +kernel, by decide +kernel, by decide +kernel⟩
theorem yi_M_isPlace : Cond.static y_M_isPlace ∈ lw_gd := gd_at 752 (by decide +kernel) (by decide +kernel)
abbrev c_M_isNet : ByteArray := prog_8_method_3_code
abbrev y_M_isNet : MethodName := ⟨"ProbeChoiceModel", "isNet", "(I)Z"⟩
theorem yw_M_isNet : Yw y_M_isNet c_M_isNet 2 (some .boolean) 1 := ⟨gd_at 760 (by decide +kernel) (by decide +kernel), gd_at 7 (by decide +kernel) (by decide +kernel), by decide +kernel, by decide +kernel, by decide +kernel⟩
theorem yi_M_isNet : Cond.instanceMethod y_M_isNet ∈ lw_gd ∧ Cond.selects "ProbeChoiceModel" y_M_isNet y_M_isNet ∈ lw_gd := ⟨gd_at 759 (by decide +kernel) (by decide +kernel), gd_sel 18 (by decide +kernel) (by decide +kernel)⟩
abbrev c_M_gap : ByteArray := prog_8_method_8_code
abbrev y_M_gap : MethodName := ⟨"ProbeChoiceModel", "gap", "(J)Z"⟩
theorem yw_M_gap : Yw y_M_gap c_M_gap 3 (some .boolean) 1 := ⟨gd_at 764 (by decide +kernel) (by decide +kernel), gd_at 7 (by decide +kernel) (by decide +kernel), by decide +kernel, by decide +kernel, by decide +kernel⟩
theorem yi_M_gap : Cond.instanceMethod y_M_gap ∈ lw_gd ∧ Cond.selects "ProbeChoiceModel" y_M_gap y_M_gap ∈ lw_gd := ⟨gd_at 762 (by decide +kernel) (by decide +kernel), gd_at 763 (by decide +kernel) (by decide +kernel)⟩
abbrev c_M_force : ByteArray := prog_8_method_9_code
abbrev y_M_force : MethodName := ⟨"ProbeChoiceModel", "force", "(IJ)Z"⟩
theorem yw_M_force : Yw y_M_force c_M_force 4 (some .boolean) 2 := ⟨gd_at 768 (by decide +kernel) (by decide +kernel), gd_at 7 (by decide +kernel) (by decide +kernel), by decide +kernel, by decide +kernel, by decide +kernel⟩
theorem yi_M_force : Cond.instanceMethod y_M_force ∈ lw_gd ∧ Cond.selects "ProbeChoiceModel" y_M_force y_M_force ∈ lw_gd := ⟨gd_at 766 (by decide +kernel) (by decide +kernel), gd_at 767 (by decide +kernel) (by decide +kernel)⟩
abbrev c_M_isPoint : ByteArray := prog_8_method_4_code
abbrev y_M_isPoint : MethodName := ⟨"ProbeChoiceModel", "isPoint", "(I)Z"⟩
theorem yw_M_isPoint : Yw y_M_isPoint c_M_isPoint 2 (some .boolean) 1 := ⟨gd_at 772 (by decide +kernel) (by decide +kernel), gd_at 7 (by decide +kernel) (by decide +kernel), by decide +kernel, by decide +kernel, by decide +kernel⟩
theorem yi_M_isPoint : Cond.instanceMethod y_M_isPoint ∈ lw_gd ∧ Cond.selects "ProbeChoiceModel" y_M_isPoint y_M_isPoint ∈ lw_gd := ⟨gd_at 771 (by decide +kernel) (by decide +kernel), gd_sel 19 (by decide +kernel) (by decide +kernel)⟩
abbrev c_M_run : ByteArray := prog_8_method_15_code
abbrev y_M_run : MethodName := ⟨"ProbeChoiceModel", "run", "(J)I"⟩
theorem yw_M_run : Yw y_M_run c_M_run 5 (some .int) 1 := ⟨gd_at 776 (by decide +kernel) (by decide +kernel), gd_at 7 (by decide +kernel) (by decide +kernel), by decide +kernel, by decide +kernel, by decide +kernel⟩
theorem yi_M_run : Cond.instanceMethod y_M_run ∈ lw_gd ∧ Cond.selects "ProbeChoiceModel" y_M_run y_M_run ∈ lw_gd := ⟨gd_at 774 (by decide +kernel) (by decide +kernel), gd_at 775 (by decide +kernel) (by decide +kernel)⟩
abbrev c_M_choose : ByteArray := prog_8_method_14_code
abbrev y_M_choose : MethodName := ⟨"ProbeChoiceModel", "choose", "()V"⟩
theorem yw_M_choose : Yw y_M_choose c_M_choose 9 none 0 := ⟨gd_at 781 (by decide +kernel) (by decide +kernel), gd_at 7 (by decide +kernel) (by decide +kernel), by decide +kernel, by decide +kernel, by decide +kernel⟩
theorem yi_M_choose : Cond.instanceMethod y_M_choose ∈ lw_gd ∧ Cond.selects "ProbeChoiceModel" y_M_choose y_M_choose ∈ lw_gd := ⟨gd_at 780 (by decide +kernel) (by decide +kernel), gd_sel 20 (by decide +kernel) (by decide +kernel)⟩
abbrev c_M_isChoice : ByteArray := prog_8_method_12_code
abbrev y_M_isChoice : MethodName := ⟨"ProbeChoiceModel", "isChoice", "()Z"⟩
theorem yw_M_isChoice : Yw y_M_isChoice c_M_isChoice 3 (some .boolean) 0 := ⟨gd_at 785 (by decide +kernel) (by decide +kernel), gd_at 7 (by decide +kernel) (by decide +kernel), by decide +kernel, by decide +kernel, by decide +kernel⟩
theorem yi_M_isChoice : Cond.instanceMethod y_M_isChoice ∈ lw_gd ∧ Cond.selects "ProbeChoiceModel" y_M_isChoice y_M_isChoice ∈ lw_gd := ⟨gd_at 784 (by decide +kernel) (by decide +kernel), gd_sel 21 (by decide +kernel) (by decide +kernel)⟩
abbrev c_M_pointAt : ByteArray := prog_8_method_11_code
abbrev y_M_pointAt : MethodName := ⟨"ProbeChoiceModel", "pointAt", "(II)I"⟩
theorem yw_M_pointAt : Yw y_M_pointAt c_M_pointAt 3 (some .int) 2 := ⟨gd_at 789 (by decide +kernel) (by decide +kernel), gd_at 7 (by decide +kernel) (by decide +kernel), by decide +kernel, by decide +kernel, by decide +kernel⟩
theorem yi_M_pointAt : Cond.instanceMethod y_M_pointAt ∈ lw_gd ∧ Cond.selects "ProbeChoiceModel" y_M_pointAt y_M_pointAt ∈ lw_gd := ⟨gd_at 788 (by decide +kernel) (by decide +kernel), gd_sel 22 (by decide +kernel) (by decide +kernel)⟩
abbrev c_M_areApart : ByteArray := prog_8_method_10_code
abbrev y_M_areApart : MethodName := ⟨"ProbeChoiceModel", "areApart", "(II)Z"⟩
theorem yw_M_areApart : Yw y_M_areApart c_M_areApart 9 (some .boolean) 2 := ⟨gd_at 793 (by decide +kernel) (by decide +kernel), gd_at 7 (by decide +kernel) (by decide +kernel), by decide +kernel, by decide +kernel, by decide +kernel⟩
theorem yi_M_areApart : Cond.instanceMethod y_M_areApart ∈ lw_gd ∧ Cond.selects "ProbeChoiceModel" y_M_areApart y_M_areApart ∈ lw_gd := ⟨gd_at 792 (by decide +kernel) (by decide +kernel), gd_sel 23 (by decide +kernel) (by decide +kernel)⟩
abbrev c_M_goOn : ByteArray := prog_8_method_13_code
abbrev y_M_goOn : MethodName := ⟨"ProbeChoiceModel", "goOn", "()Z"⟩
theorem yw_M_goOn : Yw y_M_goOn c_M_goOn 2 (some .boolean) 0 := ⟨gd_at 797 (by decide +kernel) (by decide +kernel), gd_at 7 (by decide +kernel) (by decide +kernel), by decide +kernel, by decide +kernel, by decide +kernel⟩
theorem yi_M_goOn : Cond.instanceMethod y_M_goOn ∈ lw_gd ∧ Cond.selects "ProbeChoiceModel" y_M_goOn y_M_goOn ∈ lw_gd := ⟨gd_at 796 (by decide +kernel) (by decide +kernel), gd_sel 24 (by decide +kernel) (by decide +kernel)⟩
abbrev c_M_probe : ByteArray := prog_8_method_16_code
abbrev y_M_probe : MethodName := ⟨"ProbeChoiceModel", "probe", "(I)I"⟩
theorem yw_M_probe : Yw y_M_probe c_M_probe 2 (some .int) 1 := ⟨gd_at 801 (by decide +kernel) (by decide +kernel), gd_at 7 (by decide +kernel) (by decide +kernel), by decide +kernel, by decide +kernel, by decide +kernel⟩
theorem yi_M_probe : Cond.instanceMethod y_M_probe ∈ lw_gd ∧ Cond.selects "ProbeChoiceModel" y_M_probe y_M_probe ∈ lw_gd := ⟨gd_at 799 (by decide +kernel) (by decide +kernel), gd_at 800 (by decide +kernel) (by decide +kernel)⟩
abbrev c_M_proved : ByteArray := prog_8_method_17_code
abbrev y_M_proved : MethodName := ⟨"ProbeChoiceModel", "proved", "()Z"⟩
theorem yw_M_proved : Yw y_M_proved c_M_proved 1 (some .boolean) 0 := ⟨gd_at 805 (by decide +kernel) (by decide +kernel), gd_at 7 (by decide +kernel) (by decide +kernel), by decide +kernel, by decide +kernel, by decide +kernel⟩
theorem yi_M_proved : Cond.instanceMethod y_M_proved ∈ lw_gd ∧ Cond.selects "ProbeChoiceModel" y_M_proved y_M_proved ∈ lw_gd := ⟨gd_at 803 (by decide +kernel) (by decide +kernel), gd_at 804 (by decide +kernel) (by decide +kernel)⟩
abbrev c_M_out : ByteArray := prog_8_method_18_code
abbrev y_M_out : MethodName := ⟨"ProbeChoiceModel", "out", "(I)I"⟩
theorem yw_M_out : Yw y_M_out c_M_out 4 (some .int) 1 := ⟨gd_at 809 (by decide +kernel) (by decide +kernel), gd_at 7 (by decide +kernel) (by decide +kernel), by decide +kernel, by decide +kernel, by decide +kernel⟩
theorem yi_M_out : Cond.instanceMethod y_M_out ∈ lw_gd ∧ Cond.selects "ProbeChoiceModel" y_M_out y_M_out ∈ lw_gd := ⟨gd_at 807 (by decide +kernel) (by decide +kernel), gd_at 808 (by decide +kernel) (by decide +kernel)⟩
abbrev c_M_forces : ByteArray := prog_8_method_19_code
abbrev y_M_forces : MethodName := ⟨"ProbeChoiceModel", "forces", "()J"⟩
theorem yw_M_forces : Yw y_M_forces c_M_forces 4 (some .long) 0 := ⟨gd_at 813 (by decide +kernel) (by decide +kernel), gd_at 7 (by decide +kernel) (by decide +kernel), by decide +kernel, by decide +kernel, by decide +kernel⟩
theorem yi_M_forces : Cond.instanceMethod y_M_forces ∈ lw_gd ∧ Cond.selects "ProbeChoiceModel" y_M_forces y_M_forces ∈ lw_gd := ⟨gd_at 811 (by decide +kernel) (by decide +kernel), gd_at 812 (by decide +kernel) (by decide +kernel)⟩
abbrev c_M_part : ByteArray := prog_8_method_20_code
abbrev y_M_part : MethodName := ⟨"ProbeChoiceModel", "part", "(IIJJ)Z"⟩
theorem yw_M_part : Yw y_M_part c_M_part 9 (some .boolean) 4 := ⟨gd_at 817 (by decide +kernel) (by decide +kernel), gd_at 7 (by decide +kernel) (by decide +kernel), by decide +kernel, by decide +kernel, by decide +kernel⟩
theorem yi_M_part : Cond.instanceMethod y_M_part ∈ lw_gd ∧ Cond.selects "ProbeChoiceModel" y_M_part y_M_part ∈ lw_gd := ⟨gd_at 815 (by decide +kernel) (by decide +kernel), gd_at 816 (by decide +kernel) (by decide +kernel)⟩
abbrev c_M_pairOf : ByteArray := prog_8_method_21_code
abbrev y_M_pairOf : MethodName := ⟨"ProbeChoiceModel", "pairOf", "(II)I"⟩
theorem yw_M_pairOf : Yw y_M_pairOf c_M_pairOf 2 (some .int) 2 := ⟨gd_at 821 (by decide +kernel) (by decide +kernel), gd_at 7 (by decide +kernel) (by decide +kernel), by decide +kernel, by decide +kernel, by decide +kernel⟩
theorem yi_M_pairOf : Cond.static y_M_pairOf ∈ lw_gd := gd_at 820 (by decide +kernel) (by decide +kernel)
abbrev c_M_span : ByteArray := prog_8_method_22_code
abbrev y_M_span : MethodName := ⟨"ProbeChoiceModel", "span", "(IIII)J"⟩
theorem yw_M_span : Yw y_M_span c_M_span 17 (some .long) 4 := ⟨gd_at 825 (by decide +kernel) (by decide +kernel), gd_at 7 (by decide +kernel) (by decide +kernel), by decide +kernel, by decide +kernel, by decide +kernel⟩
theorem yi_M_span : Cond.instanceMethod y_M_span ∈ lw_gd ∧ Cond.selects "ProbeChoiceModel" y_M_span y_M_span ∈ lw_gd := ⟨gd_at 823 (by decide +kernel) (by decide +kernel), gd_at 824 (by decide +kernel) (by decide +kernel)⟩
abbrev c_M_guard : ByteArray := prog_8_method_24_code
abbrev y_M_guard : MethodName := ⟨"ProbeChoiceModel", "guard", "(III)I"⟩
theorem yw_M_guard : Yw y_M_guard c_M_guard 6 (some .int) 3 := ⟨gd_at 829 (by decide +kernel) (by decide +kernel), gd_at 7 (by decide +kernel) (by decide +kernel), by decide +kernel, by decide +kernel, by decide +kernel⟩
theorem yi_M_guard : Cond.instanceMethod y_M_guard ∈ lw_gd ∧ Cond.selects "ProbeChoiceModel" y_M_guard y_M_guard ∈ lw_gd := ⟨gd_at 827 (by decide +kernel) (by decide +kernel), gd_at 828 (by decide +kernel) (by decide +kernel)⟩
abbrev c_M_haveParts : ByteArray := prog_8_method_23_code
abbrev y_M_haveParts : MethodName := ⟨"ProbeChoiceModel", "haveParts", "(II)Z"⟩
theorem yw_M_haveParts : Yw y_M_haveParts c_M_haveParts 3 (some .boolean) 2 := ⟨gd_at 833 (by decide +kernel) (by decide +kernel), gd_at 7 (by decide +kernel) (by decide +kernel), by decide +kernel, by decide +kernel, by decide +kernel⟩
theorem yi_M_haveParts : Cond.instanceMethod y_M_haveParts ∈ lw_gd ∧ Cond.selects "ProbeChoiceModel" y_M_haveParts y_M_haveParts ∈ lw_gd := ⟨gd_at 832 (by decide +kernel) (by decide +kernel), gd_sel 25 (by decide +kernel) (by decide +kernel)⟩
abbrev c_M_fail : ByteArray := prog_8_method_25_code
abbrev y_M_fail : MethodName := ⟨"ProbeChoiceModel", "fail", "(I)Z"⟩
theorem yw_M_fail : Yw y_M_fail c_M_fail 4 (some .boolean) 1 := ⟨gd_at 837 (by decide +kernel) (by decide +kernel), gd_at 7 (by decide +kernel) (by decide +kernel), by decide +kernel, by decide +kernel, by decide +kernel⟩
theorem yi_M_fail : Cond.instanceMethod y_M_fail ∈ lw_gd ∧ Cond.selects "ProbeChoiceModel" y_M_fail y_M_fail ∈ lw_gd := ⟨gd_at 835 (by decide +kernel) (by decide +kernel), gd_at 836 (by decide +kernel) (by decide +kernel)⟩
abbrev c_M_suspects : ByteArray := prog_8_method_30_code
abbrev y_M_suspects : MethodName := ⟨"ProbeChoiceModel", "suspects", "()I"⟩
theorem yw_M_suspects : Yw y_M_suspects c_M_suspects 1 (some .int) 0 := ⟨gd_at 841 (by decide +kernel) (by decide +kernel), gd_at 7 (by decide +kernel) (by decide +kernel), by decide +kernel, by decide +kernel, by decide +kernel⟩
theorem yi_M_suspects : Cond.instanceMethod y_M_suspects ∈ lw_gd ∧ Cond.selects "ProbeChoiceModel" y_M_suspects y_M_suspects ∈ lw_gd := ⟨gd_at 839 (by decide +kernel) (by decide +kernel), gd_at 840 (by decide +kernel) (by decide +kernel)⟩
abbrev c_M_suspectSet : ByteArray := prog_8_method_29_code
abbrev y_M_suspectSet : MethodName := ⟨"ProbeChoiceModel", "suspectSet", "()I"⟩
theorem yw_M_suspectSet : Yw y_M_suspectSet c_M_suspectSet 5 (some .int) 0 := ⟨gd_at 845 (by decide +kernel) (by decide +kernel), gd_at 7 (by decide +kernel) (by decide +kernel), by decide +kernel, by decide +kernel, by decide +kernel⟩
theorem yi_M_suspectSet : Cond.instanceMethod y_M_suspectSet ∈ lw_gd ∧ Cond.selects "ProbeChoiceModel" y_M_suspectSet y_M_suspectSet ∈ lw_gd := ⟨gd_at 844 (by decide +kernel) (by decide +kernel), gd_sel 26 (by decide +kernel) (by decide +kernel)⟩
abbrev c_M_explains : ByteArray := prog_8_method_27_code
abbrev y_M_explains : MethodName := ⟨"ProbeChoiceModel", "explains", "(I)Z"⟩
theorem yw_M_explains : Yw y_M_explains c_M_explains 3 (some .boolean) 1 := ⟨gd_at 849 (by decide +kernel) (by decide +kernel), gd_at 7 (by decide +kernel) (by decide +kernel), by decide +kernel, by decide +kernel, by decide +kernel⟩
theorem yi_M_explains : Cond.instanceMethod y_M_explains ∈ lw_gd ∧ Cond.selects "ProbeChoiceModel" y_M_explains y_M_explains ∈ lw_gd := ⟨gd_at 848 (by decide +kernel) (by decide +kernel), gd_sel 27 (by decide +kernel) (by decide +kernel)⟩
abbrev c_M_bits : ByteArray := prog_8_method_26_code
abbrev y_M_bits : MethodName := ⟨"ProbeChoiceModel", "bits", "(I)I"⟩
theorem yw_M_bits : Yw y_M_bits c_M_bits 3 (some .int) 1 := ⟨gd_at 852 (by decide +kernel) (by decide +kernel), gd_at 7 (by decide +kernel) (by decide +kernel), by decide +kernel, by decide +kernel, by decide +kernel⟩
theorem yi_M_bits : Cond.static y_M_bits ∈ lw_gd := gd_at 851 (by decide +kernel) (by decide +kernel)
abbrev c_M_comesFirst : ByteArray := prog_8_method_28_code
abbrev y_M_comesFirst : MethodName := ⟨"ProbeChoiceModel", "comesFirst", "(II)Z"⟩
theorem yw_M_comesFirst : Yw y_M_comesFirst c_M_comesFirst 4 (some .boolean) 2 := ⟨gd_at 855 (by decide +kernel) (by decide +kernel), gd_at 7 (by decide +kernel) (by decide +kernel), by decide +kernel, by decide +kernel, by decide +kernel⟩
theorem yi_M_comesFirst : Cond.static y_M_comesFirst ∈ lw_gd := gd_at 854 (by decide +kernel) (by decide +kernel)
abbrev c_M_suspect : ByteArray := prog_8_method_31_code
abbrev y_M_suspect : MethodName := ⟨"ProbeChoiceModel", "suspect", "(II)I"⟩
theorem yw_M_suspect : Yw y_M_suspect c_M_suspect 6 (some .int) 2 := ⟨gd_at 859 (by decide +kernel) (by decide +kernel), gd_at 7 (by decide +kernel) (by decide +kernel), by decide +kernel, by decide +kernel, by decide +kernel⟩
theorem yi_M_suspect : Cond.instanceMethod y_M_suspect ∈ lw_gd ∧ Cond.selects "ProbeChoiceModel" y_M_suspect y_M_suspect ∈ lw_gd := ⟨gd_at 857 (by decide +kernel) (by decide +kernel), gd_at 858 (by decide +kernel) (by decide +kernel)⟩
abbrev c_M_faults : ByteArray := prog_8_method_32_code
abbrev y_M_faults : MethodName := ⟨"ProbeChoiceModel", "faults", "(I)I"⟩
theorem yw_M_faults : Yw y_M_faults c_M_faults 2 (some .int) 1 := ⟨gd_at 863 (by decide +kernel) (by decide +kernel), gd_at 7 (by decide +kernel) (by decide +kernel), by decide +kernel, by decide +kernel, by decide +kernel⟩
theorem yi_M_faults : Cond.instanceMethod y_M_faults ∈ lw_gd ∧ Cond.selects "ProbeChoiceModel" y_M_faults y_M_faults ∈ lw_gd := ⟨gd_at 861 (by decide +kernel) (by decide +kernel), gd_at 862 (by decide +kernel) (by decide +kernel)⟩
abbrev c_M_fly : ByteArray := prog_8_method_36_code
abbrev y_M_fly : MethodName := ⟨"ProbeChoiceModel", "fly", "(I)I"⟩
theorem yw_M_fly : Yw y_M_fly c_M_fly 2 (some .int) 1 := ⟨gd_at 867 (by decide +kernel) (by decide +kernel), gd_at 7 (by decide +kernel) (by decide +kernel), by decide +kernel, by decide +kernel, by decide +kernel⟩
theorem yi_M_fly : Cond.instanceMethod y_M_fly ∈ lw_gd ∧ Cond.selects "ProbeChoiceModel" y_M_fly y_M_fly ∈ lw_gd := ⟨gd_at 865 (by decide +kernel) (by decide +kernel), gd_at 866 (by decide +kernel) (by decide +kernel)⟩
abbrev c_M_flyTo : ByteArray := prog_8_method_35_code
abbrev y_M_flyTo : MethodName := ⟨"ProbeChoiceModel", "flyTo", "(I)I"⟩
theorem yw_M_flyTo : Yw y_M_flyTo c_M_flyTo 12 (some .int) 1 := ⟨gd_at 871 (by decide +kernel) (by decide +kernel), gd_at 7 (by decide +kernel) (by decide +kernel), by decide +kernel, by decide +kernel, by decide +kernel⟩
theorem yi_M_flyTo : Cond.instanceMethod y_M_flyTo ∈ lw_gd ∧ Cond.selects "ProbeChoiceModel" y_M_flyTo y_M_flyTo ∈ lw_gd := ⟨gd_at 870 (by decide +kernel) (by decide +kernel), gd_sel 28 (by decide +kernel) (by decide +kernel)⟩
abbrev c_M_nearest : ByteArray := prog_8_method_34_code
abbrev y_M_nearest : MethodName := ⟨"ProbeChoiceModel", "nearest", "(JJ)I"⟩
theorem yw_M_nearest : Yw y_M_nearest c_M_nearest 12 (some .int) 2 := ⟨gd_at 875 (by decide +kernel) (by decide +kernel), gd_at 7 (by decide +kernel) (by decide +kernel), by decide +kernel, by decide +kernel, by decide +kernel⟩
theorem yi_M_nearest : Cond.instanceMethod y_M_nearest ∈ lw_gd ∧ Cond.selects "ProbeChoiceModel" y_M_nearest y_M_nearest ∈ lw_gd := ⟨gd_at 874 (by decide +kernel) (by decide +kernel), gd_sel 29 (by decide +kernel) (by decide +kernel)⟩
abbrev c_M_size : ByteArray := prog_8_method_33_code
abbrev y_M_size : MethodName := ⟨"ProbeChoiceModel", "size", "(J)J"⟩
theorem yw_M_size : Yw y_M_size c_M_size 2 (some .long) 1 := ⟨gd_at 878 (by decide +kernel) (by decide +kernel), gd_at 7 (by decide +kernel) (by decide +kernel), by decide +kernel, by decide +kernel, by decide +kernel⟩
theorem yi_M_size : Cond.static y_M_size ∈ lw_gd := gd_at 877 (by decide +kernel) (by decide +kernel)
abbrev c_M_seconds : ByteArray := prog_8_method_37_code
abbrev y_M_seconds : MethodName := ⟨"ProbeChoiceModel", "seconds", "()J"⟩
theorem yw_M_seconds : Yw y_M_seconds c_M_seconds 1 (some .long) 0 := ⟨gd_at 882 (by decide +kernel) (by decide +kernel), gd_at 7 (by decide +kernel) (by decide +kernel), by decide +kernel, by decide +kernel, by decide +kernel⟩
theorem yi_M_seconds : Cond.instanceMethod y_M_seconds ∈ lw_gd ∧ Cond.selects "ProbeChoiceModel" y_M_seconds y_M_seconds ∈ lw_gd := ⟨gd_at 880 (by decide +kernel) (by decide +kernel), gd_at 881 (by decide +kernel) (by decide +kernel)⟩
abbrev c_M_order : ByteArray := prog_8_method_40_code
abbrev y_M_order : MethodName := ⟨"ProbeChoiceModel", "order", "(I)I"⟩
theorem yw_M_order : Yw y_M_order c_M_order 2 (some .int) 1 := ⟨gd_at 886 (by decide +kernel) (by decide +kernel), gd_at 7 (by decide +kernel) (by decide +kernel), by decide +kernel, by decide +kernel, by decide +kernel⟩
theorem yi_M_order : Cond.instanceMethod y_M_order ∈ lw_gd ∧ Cond.selects "ProbeChoiceModel" y_M_order y_M_order ∈ lw_gd := ⟨gd_at 884 (by decide +kernel) (by decide +kernel), gd_at 885 (by decide +kernel) (by decide +kernel)⟩
abbrev c_M_placed : ByteArray := prog_8_method_39_code
abbrev y_M_placed : MethodName := ⟨"ProbeChoiceModel", "placed", "(I)I"⟩
theorem yw_M_placed : Yw y_M_placed c_M_placed 5 (some .int) 1 := ⟨gd_at 890 (by decide +kernel) (by decide +kernel), gd_at 7 (by decide +kernel) (by decide +kernel), by decide +kernel, by decide +kernel, by decide +kernel⟩
theorem yi_M_placed : Cond.instanceMethod y_M_placed ∈ lw_gd ∧ Cond.selects "ProbeChoiceModel" y_M_placed y_M_placed ∈ lw_gd := ⟨gd_at 889 (by decide +kernel) (by decide +kernel), gd_sel 30 (by decide +kernel) (by decide +kernel)⟩
abbrev c_M_isAhead : ByteArray := prog_8_method_38_code
abbrev y_M_isAhead : MethodName := ⟨"ProbeChoiceModel", "isAhead", "(II)Z"⟩
theorem yw_M_isAhead : Yw y_M_isAhead c_M_isAhead 3 (some .boolean) 2 := ⟨gd_at 894 (by decide +kernel) (by decide +kernel), gd_at 7 (by decide +kernel) (by decide +kernel), by decide +kernel, by decide +kernel, by decide +kernel⟩
theorem yi_M_isAhead : Cond.instanceMethod y_M_isAhead ∈ lw_gd ∧ Cond.selects "ProbeChoiceModel" y_M_isAhead y_M_isAhead ∈ lw_gd := ⟨gd_at 893 (by decide +kernel) (by decide +kernel), gd_sel 31 (by decide +kernel) (by decide +kernel)⟩
abbrev c_M_text : ByteArray := prog_8_method_43_code
abbrev y_M_text : MethodName := ⟨"ProbeChoiceModel", "text", "(I)I"⟩
theorem yw_M_text : Yw y_M_text c_M_text 4 (some .int) 1 := ⟨gd_at 898 (by decide +kernel) (by decide +kernel), gd_at 7 (by decide +kernel) (by decide +kernel), by decide +kernel, by decide +kernel, by decide +kernel⟩
theorem yi_M_text : Cond.instanceMethod y_M_text ∈ lw_gd ∧ Cond.selects "ProbeChoiceModel" y_M_text y_M_text ∈ lw_gd := ⟨gd_at 896 (by decide +kernel) (by decide +kernel), gd_at 897 (by decide +kernel) (by decide +kernel)⟩
abbrev c_M_say : ByteArray := prog_8_method_41_code
abbrev y_M_say : MethodName := ⟨"ProbeChoiceModel", "say", "(I)V"⟩
theorem yw_M_say : Yw y_M_say c_M_say 2 none 1 := ⟨gd_at 902 (by decide +kernel) (by decide +kernel), gd_at 7 (by decide +kernel) (by decide +kernel), by decide +kernel, by decide +kernel, by decide +kernel⟩
theorem yi_M_say : Cond.instanceMethod y_M_say ∈ lw_gd ∧ Cond.selects "ProbeChoiceModel" y_M_say y_M_say ∈ lw_gd := ⟨gd_at 901 (by decide +kernel) (by decide +kernel), gd_sel 32 (by decide +kernel) (by decide +kernel)⟩
abbrev c_M_sayNumber : ByteArray := prog_8_method_42_code
abbrev y_M_sayNumber : MethodName := ⟨"ProbeChoiceModel", "sayNumber", "(J)V"⟩
theorem yw_M_sayNumber : Yw y_M_sayNumber c_M_sayNumber 7 none 1 := ⟨gd_at 906 (by decide +kernel) (by decide +kernel), gd_at 7 (by decide +kernel) (by decide +kernel), by decide +kernel, by decide +kernel, by decide +kernel⟩
theorem yi_M_sayNumber : Cond.instanceMethod y_M_sayNumber ∈ lw_gd ∧ Cond.selects "ProbeChoiceModel" y_M_sayNumber y_M_sayNumber ∈ lw_gd := ⟨gd_at 905 (by decide +kernel) (by decide +kernel), gd_sel 33 (by decide +kernel) (by decide +kernel)⟩
theorem lk_X_11 : Cond.methodLinkNest "ProbeChoice" 11 ⟨"ProbeChoice$Board", "<init>", "()V"⟩ "ProbeChoice" ∈ lw_gd := gd_at 28 (by decide +kernel) (by decide +kernel)
theorem lk_X_18 : Cond.methodLinkNest "ProbeChoice" 18 ⟨"ProbeChoice$Search", "<init>", "()V"⟩ "ProbeChoice" ∈ lw_gd := gd_at 76 (by decide +kernel) (by decide +kernel)
theorem lk_X_25 : Cond.methodLinkNest "ProbeChoice" 25 ⟨"ProbeChoice$Fixture", "<init>", "()V"⟩ "ProbeChoice" ∈ lw_gd := gd_at 113 (by decide +kernel) (by decide +kernel)
theorem lk_X_32 : Cond.methodLinkNest "ProbeChoice" 32 ⟨"ProbeChoice$Parts", "<init>", "()V"⟩ "ProbeChoice" ∈ lw_gd := gd_at 159 (by decide +kernel) (by decide +kernel)
theorem lk_X_39 : Cond.methodLinkNest "ProbeChoice" 39 ⟨"ProbeChoice$Rows", "<init>", "()V"⟩ "ProbeChoice" ∈ lw_gd := gd_at 180 (by decide +kernel) (by decide +kernel)
theorem lk_X_44 : Cond.methodLink "ProbeChoice" 44 ⟨"ProbeChoice$Board", "addNet", "(Z)I"⟩ ∈ lw_gd := gd_at 217 (by decide +kernel) (by decide +kernel)
theorem lk_X_48 : Cond.methodLink "ProbeChoice" 48 ⟨"ProbeChoice", "needNet", "(I)V"⟩ ∈ lw_gd := gd_at 286 (by decide +kernel) (by decide +kernel)
theorem lk_X_56 : Cond.methodLink "ProbeChoice" 56 ⟨"ProbeChoice", "isWithin", "(JJJ)Z"⟩ ∈ lw_gd := gd_at 364 (by decide +kernel) (by decide +kernel)
theorem lk_X_71 : Cond.methodLink "ProbeChoice" 71 ⟨"ProbeChoice$Board", "addPoint", "(IJJJ)I"⟩ ∈ lw_gd := gd_at 385 (by decide +kernel) (by decide +kernel)
theorem lk_X_77 : Cond.methodLink "ProbeChoice" 77 ⟨"ProbeChoice$Board", "setGap", "(J)Z"⟩ ∈ lw_gd := gd_at 397 (by decide +kernel) (by decide +kernel)
theorem lk_X_85 : Cond.methodLink "ProbeChoice" 85 ⟨"ProbeChoice$Search", "choose", "(LProbeChoice$Board;I)V"⟩ ∈ lw_gd := gd_at 410 (by decide +kernel) (by decide +kernel)
theorem lk_X_89 : Cond.methodLink "ProbeChoice" 89 ⟨"ProbeChoice$Fixture", "build", "(LProbeChoice$Board;LProbeChoice$Search;)V"⟩ ∈ lw_gd := gd_at 465 (by decide +kernel) (by decide +kernel)
theorem lk_X_101 : Cond.methodLink "ProbeChoice" 101 ⟨"ProbeChoice", "nth", "([III)I"⟩ ∈ lw_gd := gd_at 225 (by decide +kernel) (by decide +kernel)
theorem lk_X_119 : Cond.methodLink "ProbeChoice" 119 ⟨"ProbeChoice$Parts", "add", "(IIJJ)Z"⟩ ∈ lw_gd := gd_at 524 (by decide +kernel) (by decide +kernel)
theorem lk_X_128 : Cond.methodLink "ProbeChoice" 128 ⟨"ProbeChoice$Parts", "areBetween", "(II)Z"⟩ ∈ lw_gd := gd_at 550 (by decide +kernel) (by decide +kernel)
theorem lk_X_137 : Cond.methodLink "ProbeChoice" 137 ⟨"ProbeChoice$Parts", "termOfSpan", "(IIII)J"⟩ ∈ lw_gd := gd_at 571 (by decide +kernel) (by decide +kernel)
theorem lk_X_141 : Cond.methodLink "ProbeChoice" 141 ⟨"ProbeChoice$Parts", "joinedToBoth", "(II)I"⟩ ∈ lw_gd := gd_at 586 (by decide +kernel) (by decide +kernel)
theorem lk_X_145 : Cond.methodLink "ProbeChoice" 145 ⟨"ProbeChoice", "nthBit", "(II)I"⟩ ∈ lw_gd := gd_at 590 (by decide +kernel) (by decide +kernel)
theorem lk_X_150 : Cond.methodLink "ProbeChoice" 150 ⟨"ProbeChoice$Rows", "add", "(II)Z"⟩ ∈ lw_gd := gd_at 602 (by decide +kernel) (by decide +kernel)
theorem lk_X_152 : Cond.methodLink "ProbeChoice" 152 ⟨"ProbeChoice$Rows", "smallestCover", "()I"⟩ ∈ lw_gd := gd_at 240 (by decide +kernel) (by decide +kernel)
theorem lk_X_156 : Cond.methodLink "ProbeChoice" 156 ⟨"java/lang/Integer", "bitCount", "(I)I"⟩ ∈ lw_gd := gd_at 256 (by decide +kernel) (by decide +kernel)
theorem lk_X_164 : Cond.methodLink "ProbeChoice" 164 ⟨"ProbeChoice$Rows", "countOf", "(I)I"⟩ ∈ lw_gd := gd_at 614 (by decide +kernel) (by decide +kernel)
theorem lk_X_174 : Cond.methodLink "ProbeChoice" 174 ⟨"ProbeChoice$Board", "hasPoint", "(I)Z"⟩ ∈ lw_gd := gd_at 632 (by decide +kernel) (by decide +kernel)
theorem lk_X_182 : Cond.methodLink "ProbeChoice" 182 ⟨"ProbeChoice$Board", "setForce", "(IJ)Z"⟩ ∈ lw_gd := gd_at 638 (by decide +kernel) (by decide +kernel)
theorem lk_X_186 : Cond.methodLink "ProbeChoice" 186 ⟨"ProbeChoice$Fixture", "sumOfForces", "(LProbeChoice$Board;)J"⟩ ∈ lw_gd := gd_at 269 (by decide +kernel) (by decide +kernel)
theorem lk_X_192 : Cond.methodLink "ProbeChoice" 192 ⟨"ProbeChoice$Fixture", "letterAt", "(I)I"⟩ ∈ lw_gd := gd_at 650 (by decide +kernel) (by decide +kernel)
theorem lk_X_198 : Cond.methodLink "ProbeChoice" 198 ⟨"ProbeChoice$Board", "hasNet", "(I)Z"⟩ ∈ lw_gd := gd_at 290 (by decide +kernel) (by decide +kernel)
theorem lk_X_203 : Cond.methodLink "ProbeChoice" 203 ⟨"ProbeChoice", "hasBit", "(II)Z"⟩ ∈ lw_gd := gd_at 593 (by decide +kernel) (by decide +kernel)
theorem lk_B_46 : Cond.methodLink "ProbeChoice$Board" 46 ⟨"ProbeChoice$Board", "squareOfWay", "(IJJ)J"⟩ ∈ lw_gd := gd_at 438 (by decide +kernel) (by decide +kernel)
theorem lk_F_34 : Cond.methodLink "ProbeChoice$Fixture" 34 ⟨"ProbeChoice$Board", "countOfMust", "()I"⟩ ∈ lw_gd := gd_at 469 (by decide +kernel) (by decide +kernel)
theorem lk_F_44 : Cond.methodLink "ProbeChoice$Fixture" 44 ⟨"ProbeChoice$Fixture", "takeProbes", "(LProbeChoice$Search;)V"⟩ ∈ lw_gd := gd_at 473 (by decide +kernel) (by decide +kernel)
theorem lk_F_48 : Cond.methodLink "ProbeChoice$Fixture" 48 ⟨"ProbeChoice$Fixture", "planFlight", "(LProbeChoice$Board;)V"⟩ ∈ lw_gd := gd_at 477 (by decide +kernel) (by decide +kernel)
theorem lk_F_52 : Cond.methodLink "ProbeChoice$Fixture" 52 ⟨"ProbeChoice$Fixture", "sortByPlace", "(LProbeChoice$Board;)V"⟩ ∈ lw_gd := gd_at 493 (by decide +kernel) (by decide +kernel)
theorem lk_F_55 : Cond.methodLink "ProbeChoice$Fixture" 55 ⟨"ProbeChoice$Fixture", "writeText", "(LProbeChoice$Board;)V"⟩ ∈ lw_gd := gd_at 501 (by decide +kernel) (by decide +kernel)
theorem lk_F_87 : Cond.methodLink "ProbeChoice$Fixture" 87 ⟨"ProbeChoice$Fixture", "placeOfNearest", "(LProbeChoice$Board;IJJ)I"⟩ ∈ lw_gd := gd_at 482 (by decide +kernel) (by decide +kernel)
theorem lk_F_94 : Cond.methodLink "ProbeChoice$Fixture" 94 ⟨"java/lang/Math", "abs", "(J)J"⟩ ∈ lw_gd := gd_at 487 (by decide +kernel) (by decide +kernel)
theorem lk_F_103 : Cond.methodLink "ProbeChoice$Fixture" 103 ⟨"java/lang/Math", "max", "(JJ)J"⟩ ∈ lw_gd := gd_at 490 (by decide +kernel) (by decide +kernel)
theorem lk_F_107 : Cond.methodLink "ProbeChoice$Fixture" 107 ⟨"ProbeChoice$Board", "squareOfWay", "(IJJ)J"⟩ ∈ lw_gd := gd_at 486 (by decide +kernel) (by decide +kernel)
theorem lk_F_111 : Cond.methodLink "ProbeChoice$Fixture" 111 ⟨"ProbeChoice$Board", "isBeforeByPlace", "(II)Z"⟩ ∈ lw_gd := gd_at 497 (by decide +kernel) (by decide +kernel)
theorem lk_F_115 : Cond.methodLink "ProbeChoice$Fixture" 115 ⟨"ProbeChoice$Fixture", "writeLetter", "(C)V"⟩ ∈ lw_gd := gd_at 505 (by decide +kernel) (by decide +kernel)
theorem lk_F_119 : Cond.methodLink "ProbeChoice$Fixture" 119 ⟨"ProbeChoice$Fixture", "writeNumber", "(J)V"⟩ ∈ lw_gd := gd_at 509 (by decide +kernel) (by decide +kernel)
theorem lk_P_26 : Cond.methodLink "ProbeChoice$Parts" 26 ⟨"ProbeChoice$Parts", "pairOf", "(II)I"⟩ ∈ lw_gd := gd_at 528 (by decide +kernel) (by decide +kernel)
theorem lk_P_30 : Cond.methodLink "ProbeChoice$Parts" 30 ⟨"ProbeChoice$Parts", "addInverse", "(IIJ)V"⟩ ∈ lw_gd := gd_at 537 (by decide +kernel) (by decide +kernel)
theorem lk_P_34 : Cond.methodLinkNest "ProbeChoice$Parts" 34 ⟨"ProbeChoice", "hasBit", "(II)Z"⟩ "ProbeChoice" ∈ lw_gd := gd_at 554 (by decide +kernel) (by decide +kernel)
theorem lk_P_38 : Cond.methodLink "ProbeChoice$Parts" 38 ⟨"ProbeChoice$Parts", "commonDivisor", "(JJ)J"⟩ ∈ lw_gd := gd_at 575 (by decide +kernel) (by decide +kernel)
theorem lk_P_42 : Cond.methodLink "ProbeChoice$Parts" 42 ⟨"java/lang/Math", "max", "(JJ)J"⟩ ∈ lw_gd := gd_at 578 (by decide +kernel) (by decide +kernel)
theorem lk_P_47 : Cond.methodLink "ProbeChoice$Parts" 47 ⟨"java/lang/Math", "min", "(II)I"⟩ ∈ lw_gd := gd_at 531 (by decide +kernel) (by decide +kernel)
theorem lk_P_50 : Cond.methodLink "ProbeChoice$Parts" 50 ⟨"java/lang/Math", "max", "(II)I"⟩ ∈ lw_gd := gd_at 534 (by decide +kernel) (by decide +kernel)
theorem lk_R_15 : Cond.methodLinkNest "ProbeChoice$Rows" 15 ⟨"ProbeChoice", "hasBit", "(II)Z"⟩ "ProbeChoice" ∈ lw_gd := gd_at 253 (by decide +kernel) (by decide +kernel)
theorem lk_R_23 : Cond.methodLink "ProbeChoice$Rows" 23 ⟨"java/lang/Integer", "bitCount", "(I)I"⟩ ∈ lw_gd := gd_at 247 (by decide +kernel) (by decide +kernel)
theorem lk_R_33 : Cond.methodLink "ProbeChoice$Rows" 33 ⟨"ProbeChoice$Rows", "explain", "(LProbeChoice$Rows;II)V"⟩ ∈ lw_gd := gd_at 244 (by decide +kernel) (by decide +kernel)
theorem lk_S_34 : Cond.methodLink "ProbeChoice$Search" 34 ⟨"ProbeChoice$Search", "lookAtNets", "(LProbeChoice$Board;I)V"⟩ ∈ lw_gd := gd_at 414 (by decide +kernel) (by decide +kernel)
theorem lk_S_38 : Cond.methodLink "ProbeChoice$Search" 38 ⟨"ProbeChoice$Search", "markClashes", "(LProbeChoice$Board;)V"⟩ ∈ lw_gd := gd_at 419 (by decide +kernel) (by decide +kernel)
theorem lk_S_42 : Cond.methodLink "ProbeChoice$Search" 42 ⟨"ProbeChoice$Search", "worthOfPlainChoice", "()J"⟩ ∈ lw_gd := gd_at 442 (by decide +kernel) (by decide +kernel)
theorem lk_S_50 : Cond.methodLink "ProbeChoice$Search" 50 ⟨"ProbeChoice$Search", "descend", "(LProbeChoice$Search;IJI)V"⟩ ∈ lw_gd := gd_at 451 (by decide +kernel) (by decide +kernel)
theorem lk_S_76 : Cond.methodLink "ProbeChoice$Search" 76 ⟨"java/util/Arrays", "fill", "([II)V"⟩ ∈ lw_gd := gd_at 423 (by decide +kernel) (by decide +kernel)
theorem lk_S_82 : Cond.methodLink "ProbeChoice$Search" 82 ⟨"ProbeChoice$Search", "endOf", "(I)I"⟩ ∈ lw_gd := gd_at 426 (by decide +kernel) (by decide +kernel)
theorem lk_S_86 : Cond.methodLink "ProbeChoice$Search" 86 ⟨"ProbeChoice$Search", "markClashesWithNet", "(LProbeChoice$Board;II)V"⟩ ∈ lw_gd := gd_at 430 (by decide +kernel) (by decide +kernel)
theorem lk_S_90 : Cond.methodLink "ProbeChoice$Search" 90 ⟨"ProbeChoice$Board", "canBothBeProbes", "(II)Z"⟩ ∈ lw_gd := gd_at 434 (by decide +kernel) (by decide +kernel)
theorem lk_S_94 : Cond.methodLink "ProbeChoice$Search" 94 ⟨"ProbeChoice$Search", "bestSlot", "(II)I"⟩ ∈ lw_gd := gd_at 446 (by decide +kernel) (by decide +kernel)
theorem lk_S_98 : Cond.methodLinkNest "ProbeChoice$Search" 98 ⟨"ProbeChoice", "hasBit", "(II)Z"⟩ "ProbeChoice" ∈ lw_gd := gd_at 450 (by decide +kernel) (by decide +kernel)
theorem lk_S_101 : Cond.methodLink "ProbeChoice$Search" 101 ⟨"ProbeChoice$Search", "mostWorthFrom", "(II)J"⟩ ∈ lw_gd := gd_at 454 (by decide +kernel) (by decide +kernel)
theorem lk_S_105 : Cond.methodLink "ProbeChoice$Search" 105 ⟨"ProbeChoice$Search", "keep", "(J)V"⟩ ∈ lw_gd := gd_at 458 (by decide +kernel) (by decide +kernel)
theorem lk_L_7 : Cond.methodLink "ProbeChoiceLaw" 7 ⟨"ProbeChoice", "point", "(IJJJ)I"⟩ ∈ lw_gd := gd_at 282 (by decide +kernel) (by decide +kernel)
theorem lk_L_17 : Cond.methodLink "ProbeChoiceLaw" 17 ⟨"ProbeChoice", "gap", "(J)Z"⟩ ∈ lw_gd := gd_at 392 (by decide +kernel) (by decide +kernel)
theorem lk_L_21 : Cond.methodLink "ProbeChoiceLaw" 21 ⟨"ProbeChoice", "run", "(J)I"⟩ ∈ lw_gd := gd_at 404 (by decide +kernel) (by decide +kernel)
theorem lk_L_25 : Cond.methodLink "ProbeChoiceLaw" 25 ⟨"ProbeChoice", "part", "(IIJJ)Z"⟩ ∈ lw_gd := gd_at 518 (by decide +kernel) (by decide +kernel)
theorem lk_L_29 : Cond.methodLink "ProbeChoiceLaw" 29 ⟨"ProbeChoice", "span", "(IIII)J"⟩ ∈ lw_gd := gd_at 545 (by decide +kernel) (by decide +kernel)
theorem lk_L_35 : Cond.methodLink "ProbeChoiceLaw" 35 ⟨"ProbeChoice", "guard", "(III)I"⟩ ∈ lw_gd := gd_at 582 (by decide +kernel) (by decide +kernel)
theorem lk_L_39 : Cond.methodLink "ProbeChoiceLaw" 39 ⟨"ProbeChoice", "fail", "(I)Z"⟩ ∈ lw_gd := gd_at 597 (by decide +kernel) (by decide +kernel)
theorem lk_L_43 : Cond.methodLink "ProbeChoiceLaw" 43 ⟨"ProbeChoice", "suspect", "(II)I"⟩ ∈ lw_gd := gd_at 609 (by decide +kernel) (by decide +kernel)
theorem lk_L_47 : Cond.methodLink "ProbeChoiceLaw" 47 ⟨"ProbeChoice", "faults", "(I)I"⟩ ∈ lw_gd := gd_at 621 (by decide +kernel) (by decide +kernel)
theorem lk_L_51 : Cond.methodLink "ProbeChoiceLaw" 51 ⟨"ProbeChoice", "force", "(IJ)Z"⟩ ∈ lw_gd := gd_at 628 (by decide +kernel) (by decide +kernel)
theorem lk_L_55 : Cond.methodLink "ProbeChoiceLaw" 55 ⟨"ProbeChoice", "text", "(I)I"⟩ ∈ lw_gd := gd_at 645 (by decide +kernel) (by decide +kernel)
theorem lk_L_58 : Cond.methodLink "ProbeChoiceLaw" 58 ⟨"ProbeChoice", "<init>", "()V"⟩ ∈ lw_gd := gd_at 20 (by decide +kernel) (by decide +kernel)
theorem lk_L_61 : Cond.methodLink "ProbeChoiceLaw" 61 ⟨"ProbeChoiceModel", "<init>", "()V"⟩ ∈ lw_gd := gd_at 656 (by decide +kernel) (by decide +kernel)
theorem lk_L_62 : Cond.methodLink "ProbeChoiceLaw" 62 ⟨"ProbeChoice", "net", "(Z)I"⟩ ∈ lw_gd := gd_at 213 (by decide +kernel) (by decide +kernel)
theorem lk_L_66 : Cond.methodLink "ProbeChoiceLaw" 66 ⟨"ProbeChoiceModel", "net", "(Z)I"⟩ ∈ lw_gd := gd_at 743 (by decide +kernel) (by decide +kernel)
theorem lk_L_69 : Cond.methodLink "ProbeChoiceLaw" 69 ⟨"ProbeChoiceLaw", "point", "(LProbeChoice;IJJJ[J)I"⟩ ∈ lw_gd := gd_at 277 (by decide +kernel) (by decide +kernel)
theorem lk_L_74 : Cond.methodLink "ProbeChoiceLaw" 74 ⟨"ProbeChoiceModel", "point", "(IJJJ)I"⟩ ∈ lw_gd := gd_at 747 (by decide +kernel) (by decide +kernel)
theorem lk_L_75 : Cond.methodLink "ProbeChoiceLaw" 75 ⟨"ProbeChoiceModel", "thrown", "()I"⟩ ∈ lw_gd := gd_at 739 (by decide +kernel) (by decide +kernel)
theorem lk_L_79 : Cond.methodLink "ProbeChoiceLaw" 79 ⟨"ProbeChoiceLaw", "gap", "(LProbeChoice;J[J)I"⟩ ∈ lw_gd := gd_at 389 (by decide +kernel) (by decide +kernel)
theorem lk_L_82 : Cond.methodLink "ProbeChoiceLaw" 82 ⟨"ProbeChoiceModel", "gap", "(J)Z"⟩ ∈ lw_gd := gd_at 761 (by decide +kernel) (by decide +kernel)
theorem lk_L_83 : Cond.methodLink "ProbeChoiceLaw" 83 ⟨"ProbeChoiceLaw", "run", "(LProbeChoice;J[J)I"⟩ ∈ lw_gd := gd_at 401 (by decide +kernel) (by decide +kernel)
theorem lk_L_85 : Cond.methodLink "ProbeChoiceLaw" 85 ⟨"ProbeChoiceModel", "run", "(J)I"⟩ ∈ lw_gd := gd_at 773 (by decide +kernel) (by decide +kernel)
theorem lk_L_86 : Cond.methodLink "ProbeChoiceLaw" 86 ⟨"ProbeChoice", "probe", "(I)I"⟩ ∈ lw_gd := gd_at 221 (by decide +kernel) (by decide +kernel)
theorem lk_L_89 : Cond.methodLink "ProbeChoiceLaw" 89 ⟨"ProbeChoiceModel", "probe", "(I)I"⟩ ∈ lw_gd := gd_at 798 (by decide +kernel) (by decide +kernel)
theorem lk_L_90 : Cond.methodLink "ProbeChoiceLaw" 90 ⟨"ProbeChoice", "proved", "()Z"⟩ ∈ lw_gd := gd_at 228 (by decide +kernel) (by decide +kernel)
theorem lk_L_94 : Cond.methodLink "ProbeChoiceLaw" 94 ⟨"ProbeChoiceModel", "proved", "()Z"⟩ ∈ lw_gd := gd_at 802 (by decide +kernel) (by decide +kernel)
theorem lk_L_95 : Cond.methodLink "ProbeChoiceLaw" 95 ⟨"ProbeChoice", "out", "(I)I"⟩ ∈ lw_gd := gd_at 232 (by decide +kernel) (by decide +kernel)
theorem lk_L_98 : Cond.methodLink "ProbeChoiceLaw" 98 ⟨"ProbeChoiceModel", "out", "(I)I"⟩ ∈ lw_gd := gd_at 806 (by decide +kernel) (by decide +kernel)
theorem lk_L_99 : Cond.methodLink "ProbeChoiceLaw" 99 ⟨"ProbeChoiceLaw", "part", "(LProbeChoice;IIJJ[J)I"⟩ ∈ lw_gd := gd_at 515 (by decide +kernel) (by decide +kernel)
theorem lk_L_102 : Cond.methodLink "ProbeChoiceLaw" 102 ⟨"ProbeChoiceModel", "part", "(IIJJ)Z"⟩ ∈ lw_gd := gd_at 814 (by decide +kernel) (by decide +kernel)
theorem lk_L_103 : Cond.methodLink "ProbeChoiceLaw" 103 ⟨"ProbeChoiceLaw", "span", "(LProbeChoice;IIII[J)I"⟩ ∈ lw_gd := gd_at 541 (by decide +kernel) (by decide +kernel)
theorem lk_L_106 : Cond.methodLink "ProbeChoiceLaw" 106 ⟨"ProbeChoiceModel", "span", "(IIII)J"⟩ ∈ lw_gd := gd_at 822 (by decide +kernel) (by decide +kernel)
theorem lk_L_107 : Cond.methodLink "ProbeChoiceLaw" 107 ⟨"ProbeChoiceLaw", "guard", "(LProbeChoice;III[J)I"⟩ ∈ lw_gd := gd_at 579 (by decide +kernel) (by decide +kernel)
theorem lk_L_110 : Cond.methodLink "ProbeChoiceLaw" 110 ⟨"ProbeChoiceModel", "guard", "(III)I"⟩ ∈ lw_gd := gd_at 826 (by decide +kernel) (by decide +kernel)
theorem lk_L_111 : Cond.methodLink "ProbeChoiceLaw" 111 ⟨"ProbeChoiceLaw", "fail", "(LProbeChoice;I[J)I"⟩ ∈ lw_gd := gd_at 594 (by decide +kernel) (by decide +kernel)
theorem lk_L_114 : Cond.methodLink "ProbeChoiceLaw" 114 ⟨"ProbeChoiceModel", "fail", "(I)Z"⟩ ∈ lw_gd := gd_at 834 (by decide +kernel) (by decide +kernel)
theorem lk_L_115 : Cond.methodLink "ProbeChoiceLaw" 115 ⟨"ProbeChoice", "suspects", "()I"⟩ ∈ lw_gd := gd_at 236 (by decide +kernel) (by decide +kernel)
theorem lk_L_118 : Cond.methodLink "ProbeChoiceLaw" 118 ⟨"ProbeChoiceModel", "suspects", "()I"⟩ ∈ lw_gd := gd_at 838 (by decide +kernel) (by decide +kernel)
theorem lk_L_119 : Cond.methodLink "ProbeChoiceLaw" 119 ⟨"ProbeChoiceLaw", "suspect", "(LProbeChoice;II[J)I"⟩ ∈ lw_gd := gd_at 606 (by decide +kernel) (by decide +kernel)
theorem lk_L_122 : Cond.methodLink "ProbeChoiceLaw" 122 ⟨"ProbeChoiceModel", "suspect", "(II)I"⟩ ∈ lw_gd := gd_at 856 (by decide +kernel) (by decide +kernel)
theorem lk_L_123 : Cond.methodLink "ProbeChoiceLaw" 123 ⟨"ProbeChoiceLaw", "faults", "(LProbeChoice;I[J)I"⟩ ∈ lw_gd := gd_at 618 (by decide +kernel) (by decide +kernel)
theorem lk_L_125 : Cond.methodLink "ProbeChoiceLaw" 125 ⟨"ProbeChoiceModel", "faults", "(I)I"⟩ ∈ lw_gd := gd_at 860 (by decide +kernel) (by decide +kernel)
theorem lk_L_126 : Cond.methodLink "ProbeChoiceLaw" 126 ⟨"ProbeChoice", "fly", "(I)I"⟩ ∈ lw_gd := gd_at 257 (by decide +kernel) (by decide +kernel)
theorem lk_L_129 : Cond.methodLink "ProbeChoiceLaw" 129 ⟨"ProbeChoiceModel", "fly", "(I)I"⟩ ∈ lw_gd := gd_at 864 (by decide +kernel) (by decide +kernel)
theorem lk_L_130 : Cond.methodLink "ProbeChoiceLaw" 130 ⟨"ProbeChoice", "seconds", "()J"⟩ ∈ lw_gd := gd_at 261 (by decide +kernel) (by decide +kernel)
theorem lk_L_134 : Cond.methodLink "ProbeChoiceLaw" 134 ⟨"ProbeChoiceModel", "seconds", "()J"⟩ ∈ lw_gd := gd_at 879 (by decide +kernel) (by decide +kernel)
theorem lk_L_135 : Cond.methodLink "ProbeChoiceLaw" 135 ⟨"ProbeChoiceLaw", "force", "(LProbeChoice;IJ[J)I"⟩ ∈ lw_gd := gd_at 625 (by decide +kernel) (by decide +kernel)
theorem lk_L_138 : Cond.methodLink "ProbeChoiceLaw" 138 ⟨"ProbeChoiceModel", "force", "(IJ)Z"⟩ ∈ lw_gd := gd_at 765 (by decide +kernel) (by decide +kernel)
theorem lk_L_139 : Cond.methodLink "ProbeChoiceLaw" 139 ⟨"ProbeChoice", "forces", "()J"⟩ ∈ lw_gd := gd_at 265 (by decide +kernel) (by decide +kernel)
theorem lk_L_142 : Cond.methodLink "ProbeChoiceLaw" 142 ⟨"ProbeChoiceModel", "forces", "()J"⟩ ∈ lw_gd := gd_at 810 (by decide +kernel) (by decide +kernel)
theorem lk_L_143 : Cond.methodLink "ProbeChoiceLaw" 143 ⟨"ProbeChoiceLaw", "text", "(LProbeChoice;I[J)I"⟩ ∈ lw_gd := gd_at 642 (by decide +kernel) (by decide +kernel)
theorem lk_L_145 : Cond.methodLink "ProbeChoiceLaw" 145 ⟨"ProbeChoiceModel", "text", "(I)I"⟩ ∈ lw_gd := gd_at 895 (by decide +kernel) (by decide +kernel)
theorem lk_L_146 : Cond.methodLink "ProbeChoiceLaw" 146 ⟨"ProbeChoice", "order", "(I)I"⟩ ∈ lw_gd := gd_at 273 (by decide +kernel) (by decide +kernel)
theorem lk_L_149 : Cond.methodLink "ProbeChoiceLaw" 149 ⟨"ProbeChoiceModel", "order", "(I)I"⟩ ∈ lw_gd := gd_at 883 (by decide +kernel) (by decide +kernel)
theorem lk_M_74 : Cond.methodLink "ProbeChoiceModel" 74 ⟨"ProbeChoiceModel", "isPlace", "(J)Z"⟩ ∈ lw_gd := gd_at 751 (by decide +kernel) (by decide +kernel)
theorem lk_M_80 : Cond.methodLink "ProbeChoiceModel" 80 ⟨"ProbeChoiceModel", "isNet", "(I)Z"⟩ ∈ lw_gd := gd_at 757 (by decide +kernel) (by decide +kernel)
theorem lk_M_88 : Cond.methodLink "ProbeChoiceModel" 88 ⟨"ProbeChoiceModel", "isPoint", "(I)Z"⟩ ∈ lw_gd := gd_at 769 (by decide +kernel) (by decide +kernel)
theorem lk_M_94 : Cond.methodLink "ProbeChoiceModel" 94 ⟨"ProbeChoiceModel", "pointAt", "(II)I"⟩ ∈ lw_gd := gd_at 786 (by decide +kernel) (by decide +kernel)
theorem lk_M_98 : Cond.methodLink "ProbeChoiceModel" 98 ⟨"ProbeChoiceModel", "areApart", "(II)Z"⟩ ∈ lw_gd := gd_at 790 (by decide +kernel) (by decide +kernel)
theorem lk_M_102 : Cond.methodLink "ProbeChoiceModel" 102 ⟨"ProbeChoiceModel", "isChoice", "()Z"⟩ ∈ lw_gd := gd_at 782 (by decide +kernel) (by decide +kernel)
theorem lk_M_106 : Cond.methodLink "ProbeChoiceModel" 106 ⟨"ProbeChoiceModel", "goOn", "()Z"⟩ ∈ lw_gd := gd_at 794 (by decide +kernel) (by decide +kernel)
theorem lk_M_118 : Cond.methodLink "ProbeChoiceModel" 118 ⟨"ProbeChoiceModel", "choose", "()V"⟩ ∈ lw_gd := gd_at 778 (by decide +kernel) (by decide +kernel)
theorem lk_M_126 : Cond.methodLink "ProbeChoiceModel" 126 ⟨"ProbeChoiceModel", "pairOf", "(II)I"⟩ ∈ lw_gd := gd_at 819 (by decide +kernel) (by decide +kernel)
theorem lk_M_129 : Cond.methodLink "ProbeChoiceModel" 129 ⟨"ProbeChoiceModel", "haveParts", "(II)Z"⟩ ∈ lw_gd := gd_at 830 (by decide +kernel) (by decide +kernel)
theorem lk_M_132 : Cond.methodLink "ProbeChoiceModel" 132 ⟨"ProbeChoiceModel", "explains", "(I)Z"⟩ ∈ lw_gd := gd_at 846 (by decide +kernel) (by decide +kernel)
theorem lk_M_135 : Cond.methodLink "ProbeChoiceModel" 135 ⟨"ProbeChoiceModel", "bits", "(I)I"⟩ ∈ lw_gd := gd_at 850 (by decide +kernel) (by decide +kernel)
theorem lk_M_139 : Cond.methodLink "ProbeChoiceModel" 139 ⟨"ProbeChoiceModel", "comesFirst", "(II)Z"⟩ ∈ lw_gd := gd_at 853 (by decide +kernel) (by decide +kernel)
theorem lk_M_142 : Cond.methodLink "ProbeChoiceModel" 142 ⟨"ProbeChoiceModel", "suspectSet", "()I"⟩ ∈ lw_gd := gd_at 842 (by decide +kernel) (by decide +kernel)
theorem lk_M_149 : Cond.methodLink "ProbeChoiceModel" 149 ⟨"ProbeChoiceModel", "nearest", "(JJ)I"⟩ ∈ lw_gd := gd_at 872 (by decide +kernel) (by decide +kernel)
theorem lk_M_153 : Cond.methodLink "ProbeChoiceModel" 153 ⟨"ProbeChoiceModel", "size", "(J)J"⟩ ∈ lw_gd := gd_at 876 (by decide +kernel) (by decide +kernel)
theorem lk_M_157 : Cond.methodLink "ProbeChoiceModel" 157 ⟨"ProbeChoiceModel", "flyTo", "(I)I"⟩ ∈ lw_gd := gd_at 868 (by decide +kernel) (by decide +kernel)
theorem lk_M_160 : Cond.methodLink "ProbeChoiceModel" 160 ⟨"ProbeChoiceModel", "isAhead", "(II)Z"⟩ ∈ lw_gd := gd_at 891 (by decide +kernel) (by decide +kernel)
theorem lk_M_163 : Cond.methodLink "ProbeChoiceModel" 163 ⟨"ProbeChoiceModel", "placed", "(I)I"⟩ ∈ lw_gd := gd_at 887 (by decide +kernel) (by decide +kernel)
theorem lk_M_169 : Cond.methodLink "ProbeChoiceModel" 169 ⟨"ProbeChoiceModel", "say", "(I)V"⟩ ∈ lw_gd := gd_at 899 (by decide +kernel) (by decide +kernel)
theorem lk_M_175 : Cond.methodLink "ProbeChoiceModel" 175 ⟨"ProbeChoiceModel", "sayNumber", "(J)V"⟩ ∈ lw_gd := gd_at 903 (by decide +kernel) (by decide +kernel)
theorem lk_X_12 : Cond.fieldLink "ProbeChoice" 12 "ProbeChoice" "board" "LProbeChoice$Board;" ∈ lw_gd := gd_at 197 (by decide +kernel) (by decide +kernel)
theorem lk_X_19 : Cond.fieldLink "ProbeChoice" 19 "ProbeChoice" "search" "LProbeChoice$Search;" ∈ lw_gd := gd_at 198 (by decide +kernel) (by decide +kernel)
theorem lk_X_26 : Cond.fieldLink "ProbeChoice" 26 "ProbeChoice" "fixture" "LProbeChoice$Fixture;" ∈ lw_gd := gd_at 199 (by decide +kernel) (by decide +kernel)
theorem lk_X_33 : Cond.fieldLink "ProbeChoice" 33 "ProbeChoice" "parts" "LProbeChoice$Parts;" ∈ lw_gd := gd_at 200 (by decide +kernel) (by decide +kernel)
theorem lk_X_40 : Cond.fieldLink "ProbeChoice" 40 "ProbeChoice" "rows" "LProbeChoice$Rows;" ∈ lw_gd := gd_at 201 (by decide +kernel) (by decide +kernel)
theorem lk_X_93 : Cond.fieldLinkNest "ProbeChoice" 93 "ProbeChoice$Fixture" "probeCount" "I" "ProbeChoice" ∈ lw_gd := gd_at 127 (by decide +kernel) (by decide +kernel)
theorem lk_X_97 : Cond.fieldLinkNest "ProbeChoice" 97 "ProbeChoice$Fixture" "probes" "[I" "ProbeChoice" ∈ lw_gd := gd_at 118 (by decide +kernel) (by decide +kernel)
theorem lk_X_105 : Cond.fieldLinkNest "ProbeChoice" 105 "ProbeChoice$Fixture" "sawAll" "Z" "ProbeChoice" ∈ lw_gd := gd_at 134 (by decide +kernel) (by decide +kernel)
theorem lk_X_109 : Cond.fieldLinkNest "ProbeChoice" 109 "ProbeChoice$Fixture" "left" "[I" "ProbeChoice" ∈ lw_gd := gd_at 120 (by decide +kernel) (by decide +kernel)
theorem lk_X_112 : Cond.fieldLinkNest "ProbeChoice" 112 "ProbeChoice$Fixture" "leftCount" "I" "ProbeChoice" ∈ lw_gd := gd_at 129 (by decide +kernel) (by decide +kernel)
theorem lk_X_167 : Cond.fieldLinkNest "ProbeChoice" 167 "ProbeChoice$Fixture" "flown" "[I" "ProbeChoice" ∈ lw_gd := gd_at 122 (by decide +kernel) (by decide +kernel)
theorem lk_X_170 : Cond.fieldLinkNest "ProbeChoice" 170 "ProbeChoice$Fixture" "flightTime" "J" "ProbeChoice" ∈ lw_gd := gd_at 132 (by decide +kernel) (by decide +kernel)
theorem lk_X_195 : Cond.fieldLinkNest "ProbeChoice" 195 "ProbeChoice$Fixture" "sorted" "[I" "ProbeChoice" ∈ lw_gd := gd_at 124 (by decide +kernel) (by decide +kernel)
theorem lk_B_9 : Cond.fieldLink "ProbeChoice$Board" 9 "ProbeChoice$Board" "must" "[Z" ∈ lw_gd := gd_at 32 (by decide +kernel) (by decide +kernel)
theorem lk_B_15 : Cond.fieldLink "ProbeChoice$Board" 15 "ProbeChoice$Board" "sizes" "[I" ∈ lw_gd := gd_at 34 (by decide +kernel) (by decide +kernel)
theorem lk_B_19 : Cond.fieldLink "ProbeChoice$Board" 19 "ProbeChoice$Board" "pointsOfNets" "[I" ∈ lw_gd := gd_at 36 (by decide +kernel) (by decide +kernel)
theorem lk_B_22 : Cond.fieldLink "ProbeChoice$Board" 22 "ProbeChoice$Board" "xs" "[J" ∈ lw_gd := gd_at 38 (by decide +kernel) (by decide +kernel)
theorem lk_B_26 : Cond.fieldLink "ProbeChoice$Board" 26 "ProbeChoice$Board" "ys" "[J" ∈ lw_gd := gd_at 40 (by decide +kernel) (by decide +kernel)
theorem lk_B_29 : Cond.fieldLink "ProbeChoice$Board" 29 "ProbeChoice$Board" "radii" "[J" ∈ lw_gd := gd_at 42 (by decide +kernel) (by decide +kernel)
theorem lk_B_32 : Cond.fieldLink "ProbeChoice$Board" 32 "ProbeChoice$Board" "weights" "[J" ∈ lw_gd := gd_at 43 (by decide +kernel) (by decide +kernel)
theorem lk_B_35 : Cond.fieldLink "ProbeChoice$Board" 35 "ProbeChoice$Board" "netCount" "I" ∈ lw_gd := gd_at 46 (by decide +kernel) (by decide +kernel)
theorem lk_B_39 : Cond.fieldLink "ProbeChoice$Board" 39 "ProbeChoice$Board" "pointCount" "I" ∈ lw_gd := gd_at 48 (by decide +kernel) (by decide +kernel)
theorem lk_B_42 : Cond.fieldLink "ProbeChoice$Board" 42 "ProbeChoice$Board" "apart" "J" ∈ lw_gd := gd_at 49 (by decide +kernel) (by decide +kernel)
theorem lk_F_9 : Cond.fieldLink "ProbeChoice$Fixture" 9 "ProbeChoice$Fixture" "probes" "[I" ∈ lw_gd := gd_at 117 (by decide +kernel) (by decide +kernel)
theorem lk_F_15 : Cond.fieldLink "ProbeChoice$Fixture" 15 "ProbeChoice$Fixture" "left" "[I" ∈ lw_gd := gd_at 119 (by decide +kernel) (by decide +kernel)
theorem lk_F_18 : Cond.fieldLink "ProbeChoice$Fixture" 18 "ProbeChoice$Fixture" "flown" "[I" ∈ lw_gd := gd_at 121 (by decide +kernel) (by decide +kernel)
theorem lk_F_21 : Cond.fieldLink "ProbeChoice$Fixture" 21 "ProbeChoice$Fixture" "sorted" "[I" ∈ lw_gd := gd_at 123 (by decide +kernel) (by decide +kernel)
theorem lk_F_24 : Cond.fieldLink "ProbeChoice$Fixture" 24 "ProbeChoice$Fixture" "letters" "[C" ∈ lw_gd := gd_at 125 (by decide +kernel) (by decide +kernel)
theorem lk_F_28 : Cond.fieldLinkNest "ProbeChoice$Fixture" 28 "ProbeChoice$Search" "looked" "I" "ProbeChoice" ∈ lw_gd := gd_at 89 (by decide +kernel) (by decide +kernel)
theorem lk_F_40 : Cond.fieldLink "ProbeChoice$Fixture" 40 "ProbeChoice$Fixture" "sawAll" "Z" ∈ lw_gd := gd_at 133 (by decide +kernel) (by decide +kernel)
theorem lk_F_58 : Cond.fieldLink "ProbeChoice$Fixture" 58 "ProbeChoice$Fixture" "probeCount" "I" ∈ lw_gd := gd_at 126 (by decide +kernel) (by decide +kernel)
theorem lk_F_61 : Cond.fieldLinkNest "ProbeChoice$Fixture" 61 "ProbeChoice$Board" "weights" "[J" "ProbeChoice" ∈ lw_gd := gd_at 44 (by decide +kernel) (by decide +kernel)
theorem lk_F_65 : Cond.fieldLink "ProbeChoice$Fixture" 65 "ProbeChoice$Fixture" "length" "I" ∈ lw_gd := gd_at 130 (by decide +kernel) (by decide +kernel)
theorem lk_F_68 : Cond.fieldLink "ProbeChoice$Fixture" 68 "ProbeChoice$Fixture" "leftCount" "I" ∈ lw_gd := gd_at 128 (by decide +kernel) (by decide +kernel)
theorem lk_F_71 : Cond.fieldLinkNest "ProbeChoice$Fixture" 71 "ProbeChoice$Search" "best" "[I" "ProbeChoice" ∈ lw_gd := gd_at 88 (by decide +kernel) (by decide +kernel)
theorem lk_F_74 : Cond.fieldLinkNest "ProbeChoice$Fixture" 74 "ProbeChoice$Search" "nets" "[I" "ProbeChoice" ∈ lw_gd := gd_at 81 (by decide +kernel) (by decide +kernel)
theorem lk_F_83 : Cond.fieldLink "ProbeChoice$Fixture" 83 "ProbeChoice$Fixture" "flightTime" "J" ∈ lw_gd := gd_at 131 (by decide +kernel) (by decide +kernel)
theorem lk_F_91 : Cond.fieldLinkNest "ProbeChoice$Fixture" 91 "ProbeChoice$Board" "xs" "[J" "ProbeChoice" ∈ lw_gd := gd_at 39 (by decide +kernel) (by decide +kernel)
theorem lk_F_100 : Cond.fieldLinkNest "ProbeChoice$Fixture" 100 "ProbeChoice$Board" "ys" "[J" "ProbeChoice" ∈ lw_gd := gd_at 41 (by decide +kernel) (by decide +kernel)
theorem lk_P_11 : Cond.fieldLink "ProbeChoice$Parts" 11 "ProbeChoice$Parts" "counts" "[I" ∈ lw_gd := gd_at 165 (by decide +kernel) (by decide +kernel)
theorem lk_P_15 : Cond.fieldLink "ProbeChoice$Parts" 15 "ProbeChoice$Parts" "joined" "[I" ∈ lw_gd := gd_at 166 (by decide +kernel) (by decide +kernel)
theorem lk_P_20 : Cond.fieldLink "ProbeChoice$Parts" 20 "ProbeChoice$Parts" "above" "[[J" ∈ lw_gd := gd_at 167 (by decide +kernel) (by decide +kernel)
theorem lk_P_23 : Cond.fieldLink "ProbeChoice$Parts" 23 "ProbeChoice$Parts" "below" "[[J" ∈ lw_gd := gd_at 168 (by decide +kernel) (by decide +kernel)
theorem lk_R_9 : Cond.fieldLink "ProbeChoice$Rows" 9 "ProbeChoice$Rows" "others" "[I" ∈ lw_gd := gd_at 184 (by decide +kernel) (by decide +kernel)
theorem lk_R_19 : Cond.fieldLink "ProbeChoice$Rows" 19 "ProbeChoice$Rows" "isStale" "Z" ∈ lw_gd := gd_at 187 (by decide +kernel) (by decide +kernel)
theorem lk_R_29 : Cond.fieldLink "ProbeChoice$Rows" 29 "ProbeChoice$Rows" "coverSize" "I" ∈ lw_gd := gd_at 186 (by decide +kernel) (by decide +kernel)
theorem lk_R_37 : Cond.fieldLink "ProbeChoice$Rows" 37 "ProbeChoice$Rows" "cover" "I" ∈ lw_gd := gd_at 185 (by decide +kernel) (by decide +kernel)
theorem lk_S_9 : Cond.fieldLink "ProbeChoice$Search" 9 "ProbeChoice$Search" "nets" "[I" ∈ lw_gd := gd_at 80 (by decide +kernel) (by decide +kernel)
theorem lk_S_15 : Cond.fieldLink "ProbeChoice$Search" 15 "ProbeChoice$Search" "sizes" "[I" ∈ lw_gd := gd_at 82 (by decide +kernel) (by decide +kernel)
theorem lk_S_18 : Cond.fieldLink "ProbeChoice$Search" 18 "ProbeChoice$Search" "points" "[I" ∈ lw_gd := gd_at 83 (by decide +kernel) (by decide +kernel)
theorem lk_S_21 : Cond.fieldLink "ProbeChoice$Search" 21 "ProbeChoice$Search" "worths" "[J" ∈ lw_gd := gd_at 84 (by decide +kernel) (by decide +kernel)
theorem lk_S_25 : Cond.fieldLink "ProbeChoice$Search" 25 "ProbeChoice$Search" "clashes" "[I" ∈ lw_gd := gd_at 85 (by decide +kernel) (by decide +kernel)
theorem lk_S_28 : Cond.fieldLink "ProbeChoice$Search" 28 "ProbeChoice$Search" "tried" "[I" ∈ lw_gd := gd_at 86 (by decide +kernel) (by decide +kernel)
theorem lk_S_31 : Cond.fieldLink "ProbeChoice$Search" 31 "ProbeChoice$Search" "best" "[I" ∈ lw_gd := gd_at 87 (by decide +kernel) (by decide +kernel)
theorem lk_S_46 : Cond.fieldLink "ProbeChoice$Search" 46 "ProbeChoice$Search" "bestWorth" "J" ∈ lw_gd := gd_at 91 (by decide +kernel) (by decide +kernel)
theorem lk_S_54 : Cond.fieldLink "ProbeChoice$Search" 54 "ProbeChoice$Search" "looked" "I" ∈ lw_gd := gd_at 90 (by decide +kernel) (by decide +kernel)
theorem lk_S_58 : Cond.fieldLinkNest "ProbeChoice$Search" 58 "ProbeChoice$Board" "netCount" "I" "ProbeChoice" ∈ lw_gd := gd_at 47 (by decide +kernel) (by decide +kernel)
theorem lk_S_63 : Cond.fieldLinkNest "ProbeChoice$Search" 63 "ProbeChoice$Board" "must" "[Z" "ProbeChoice" ∈ lw_gd := gd_at 33 (by decide +kernel) (by decide +kernel)
theorem lk_S_67 : Cond.fieldLinkNest "ProbeChoice$Search" 67 "ProbeChoice$Board" "sizes" "[I" "ProbeChoice" ∈ lw_gd := gd_at 35 (by decide +kernel) (by decide +kernel)
theorem lk_S_68 : Cond.fieldLinkNest "ProbeChoice$Search" 68 "ProbeChoice$Board" "pointsOfNets" "[I" "ProbeChoice" ∈ lw_gd := gd_at 37 (by decide +kernel) (by decide +kernel)
theorem lk_S_73 : Cond.fieldLinkNest "ProbeChoice$Search" 73 "ProbeChoice$Board" "weights" "[J" "ProbeChoice" ∈ lw_gd := gd_at 45 (by decide +kernel) (by decide +kernel)
theorem lk_M_7 : Cond.fieldLink "ProbeChoiceModel" 7 "ProbeChoiceModel" "must" "[Z" ∈ lw_gd := gd_at 662 (by decide +kernel) (by decide +kernel)
theorem lk_M_13 : Cond.fieldLink "ProbeChoiceModel" 13 "ProbeChoiceModel" "pointCount" "[I" ∈ lw_gd := gd_at 663 (by decide +kernel) (by decide +kernel)
theorem lk_M_17 : Cond.fieldLink "ProbeChoiceModel" 17 "ProbeChoiceModel" "pointsOf" "[I" ∈ lw_gd := gd_at 664 (by decide +kernel) (by decide +kernel)
theorem lk_M_20 : Cond.fieldLink "ProbeChoiceModel" 20 "ProbeChoiceModel" "x" "[J" ∈ lw_gd := gd_at 666 (by decide +kernel) (by decide +kernel)
theorem lk_M_24 : Cond.fieldLink "ProbeChoiceModel" 24 "ProbeChoiceModel" "y" "[J" ∈ lw_gd := gd_at 667 (by decide +kernel) (by decide +kernel)
theorem lk_M_27 : Cond.fieldLink "ProbeChoiceModel" 27 "ProbeChoiceModel" "radius" "[J" ∈ lw_gd := gd_at 668 (by decide +kernel) (by decide +kernel)
theorem lk_M_30 : Cond.fieldLink "ProbeChoiceModel" 30 "ProbeChoiceModel" "forces" "[J" ∈ lw_gd := gd_at 669 (by decide +kernel) (by decide +kernel)
theorem lk_M_33 : Cond.fieldLink "ProbeChoiceModel" 33 "ProbeChoiceModel" "netAt" "[I" ∈ lw_gd := gd_at 673 (by decide +kernel) (by decide +kernel)
theorem lk_M_36 : Cond.fieldLink "ProbeChoiceModel" 36 "ProbeChoiceModel" "digit" "[I" ∈ lw_gd := gd_at 674 (by decide +kernel) (by decide +kernel)
theorem lk_M_39 : Cond.fieldLink "ProbeChoiceModel" 39 "ProbeChoiceModel" "best" "[I" ∈ lw_gd := gd_at 675 (by decide +kernel) (by decide +kernel)
theorem lk_M_42 : Cond.fieldLink "ProbeChoiceModel" 42 "ProbeChoiceModel" "probe" "[I" ∈ lw_gd := gd_at 678 (by decide +kernel) (by decide +kernel)
theorem lk_M_45 : Cond.fieldLink "ProbeChoiceModel" 45 "ProbeChoiceModel" "partCount" "[I" ∈ lw_gd := gd_at 679 (by decide +kernel) (by decide +kernel)
theorem lk_M_48 : Cond.fieldLink "ProbeChoiceModel" 48 "ProbeChoiceModel" "parts" "[J" ∈ lw_gd := gd_at 680 (by decide +kernel) (by decide +kernel)
theorem lk_M_51 : Cond.fieldLink "ProbeChoiceModel" 51 "ProbeChoiceModel" "failed" "[I" ∈ lw_gd := gd_at 681 (by decide +kernel) (by decide +kernel)
theorem lk_M_54 : Cond.fieldLink "ProbeChoiceModel" 54 "ProbeChoiceModel" "flown" "[Z" ∈ lw_gd := gd_at 682 (by decide +kernel) (by decide +kernel)
theorem lk_M_57 : Cond.fieldLink "ProbeChoiceModel" 57 "ProbeChoiceModel" "out" "[I" ∈ lw_gd := gd_at 683 (by decide +kernel) (by decide +kernel)
theorem lk_M_60 : Cond.fieldLink "ProbeChoiceModel" 60 "ProbeChoiceModel" "thrown" "I" ∈ lw_gd := gd_at 660 (by decide +kernel) (by decide +kernel)
theorem lk_M_64 : Cond.fieldLink "ProbeChoiceModel" 64 "ProbeChoiceModel" "nets" "I" ∈ lw_gd := gd_at 661 (by decide +kernel) (by decide +kernel)
theorem lk_M_67 : Cond.fieldLink "ProbeChoiceModel" 67 "ProbeChoiceModel" "points" "I" ∈ lw_gd := gd_at 665 (by decide +kernel) (by decide +kernel)
theorem lk_M_84 : Cond.fieldLink "ProbeChoiceModel" 84 "ProbeChoiceModel" "gap" "J" ∈ lw_gd := gd_at 670 (by decide +kernel) (by decide +kernel)
theorem lk_M_91 : Cond.fieldLink "ProbeChoiceModel" 91 "ProbeChoiceModel" "looked" "I" ∈ lw_gd := gd_at 672 (by decide +kernel) (by decide +kernel)
theorem lk_M_111 : Cond.fieldLink "ProbeChoiceModel" 111 "ProbeChoiceModel" "ran" "Z" ∈ lw_gd := gd_at 671 (by decide +kernel) (by decide +kernel)
theorem lk_M_115 : Cond.fieldLink "ProbeChoiceModel" 115 "ProbeChoiceModel" "isProved" "Z" ∈ lw_gd := gd_at 676 (by decide +kernel) (by decide +kernel)
theorem lk_M_121 : Cond.fieldLink "ProbeChoiceModel" 121 "ProbeChoiceModel" "probes" "I" ∈ lw_gd := gd_at 677 (by decide +kernel) (by decide +kernel)
theorem lk_M_146 : Cond.fieldLink "ProbeChoiceModel" 146 "ProbeChoiceModel" "flight" "J" ∈ lw_gd := gd_at 685 (by decide +kernel) (by decide +kernel)
theorem lk_M_166 : Cond.fieldLink "ProbeChoiceModel" 166 "ProbeChoiceModel" "written" "I" ∈ lw_gd := gd_at 684 (by decide +kernel) (by decide +kernel)
theorem lk_X_52 : Cond.constantLong "ProbeChoice" 52 (-1000000 : Int64) ∈ lw_gd := gd_at 362 (by decide +kernel) (by decide +kernel)
theorem lk_X_54 : Cond.constantLong "ProbeChoice" 54 (1000000 : Int64) ∈ lw_gd := gd_at 363 (by decide +kernel) (by decide +kernel)
theorem lk_X_67 : Cond.constantLong "ProbeChoice" 67 (100000 : Int64) ∈ lw_gd := gd_at 383 (by decide +kernel) (by decide +kernel)
theorem lk_X_81 : Cond.constantLong "ProbeChoice" 81 (8 : Int64) ∈ lw_gd := gd_at 408 (by decide +kernel) (by decide +kernel)
theorem lk_X_115 : Cond.constantLong "ProbeChoice" 115 (1000 : Int64) ∈ lw_gd := gd_at 522 (by decide +kernel) (by decide +kernel)
theorem lk_F_123 : Cond.constantLong "ProbeChoice$Fixture" 123 (10 : Int64) ∈ lw_gd := gd_at 513 (by decide +kernel) (by decide +kernel)
theorem lk_F_125 : Cond.constantLong "ProbeChoice$Fixture" 125 (48 : Int64) ∈ lw_gd := gd_at 514 (by decide +kernel) (by decide +kernel)
theorem lk_S_71 : Cond.constantLong "ProbeChoice$Search" 71 (8000001 : Int64) ∈ lw_gd := gd_at 418 (by decide +kernel) (by decide +kernel)
theorem lk_L_67 : Cond.constantLong "ProbeChoiceLaw" 67 (4294967295 : Int64) ∈ lw_gd := gd_at 908 (by decide +kernel) (by decide +kernel)
theorem lk_M_70 : Cond.constantLong "ProbeChoiceModel" 70 (-1000000 : Int64) ∈ lw_gd := gd_at 754 (by decide +kernel) (by decide +kernel)
theorem lk_M_72 : Cond.constantLong "ProbeChoiceModel" 72 (1000000 : Int64) ∈ lw_gd := gd_at 755 (by decide +kernel) (by decide +kernel)
theorem lk_M_78 : Cond.constantLong "ProbeChoiceModel" 78 (100000 : Int64) ∈ lw_gd := gd_at 756 (by decide +kernel) (by decide +kernel)
theorem lk_M_109 : Cond.constantLong "ProbeChoiceModel" 109 (8 : Int64) ∈ lw_gd := gd_at 777 (by decide +kernel) (by decide +kernel)
theorem lk_M_124 : Cond.constantLong "ProbeChoiceModel" 124 (1000 : Int64) ∈ lw_gd := gd_at 818 (by decide +kernel) (by decide +kernel)
theorem lk_M_173 : Cond.constantLong "ProbeChoiceModel" 173 (10 : Int64) ∈ lw_gd := gd_at 907 (by decide +kernel) (by decide +kernel)
theorem lk_JI_265 : Cond.constant "java/lang/Integer" 265 (1431655765 : Int32) ∈ lw_gd := gd_at 250 (by decide +kernel) (by decide +kernel)
theorem lk_JI_266 : Cond.constant "java/lang/Integer" 266 (858993459 : Int32) ∈ lw_gd := gd_at 251 (by decide +kernel) (by decide +kernel)
theorem lk_JI_267 : Cond.constant "java/lang/Integer" 267 (252645135 : Int32) ∈ lw_gd := gd_at 252 (by decide +kernel) (by decide +kernel)
end
section
/-! the worlds of the class and of the reference as functions of a state; a row a field. Written by wip/whole/gen/world2.py -/
abbrev St : Type := Nat → Int → Int
def up (σ : St) (f : Nat) (i v : Int) : St := fun g j => if g = f ∧ j = i then v else σ g j
theorem up_s (σ : St) (f : Nat) (i v : Int) : up σ f i v f i = v := by simp [up]
theorem up_o (σ : St) {f g : Nat} (i v j : Int) (h : g ≠ f) : up σ f i v g j = σ g j := by simp [up, h]
theorem up_n (σ : St) (f : Nat) {i j : Int} (v : Int) (h : j ≠ i) : up σ f i v f j = σ f j := by simp [up, h]
theorem up_f (σ : St) {f g : Nat} (i v : Int) (h : g ≠ f) : up σ f i v g = σ g := funext fun j => up_o σ i v j h
theorem zI_ix {i : Int} {n : Nat} (h0 : 0 ≤ i) (h1 : i < n) (hn : n < 2147483648) : (((zI i).toNatClampNeg : Nat) : Int) = i := by rw [zI_cl h0 (by omega), Int.toNat_of_nonneg h0]
theorem updI_z {σ : St} {f : Nat} {i v : Int} {n : Nat} (h0 : 0 ≤ i) (h1 : i < n) (hn : n < 2147483648) : upd (fun k : Nat => zI (σ f k)) (zI i).toNatClampNeg (zI v) = fun k : Nat => zI (up σ f i v f k) := by
  funext k
  have e := zI_ix h0 h1 hn
  by_cases h : (k : Int) = i
  · have h2 : k = (zI i).toNatClampNeg := by omega
    rw [h2, pk_us, ← h2, h, up_s]
  · have h2 : k ≠ (zI i).toNatClampNeg := by omega
    rw [pk_un h2, up_n σ f v h]
theorem updL_z {σ : St} {f : Nat} {i v : Int} {n : Nat} (h0 : 0 ≤ i) (h1 : i < n) (hn : n < 2147483648) : vp_updL (fun k : Nat => zL (σ f k)) (zI i).toNatClampNeg (zL v) = fun k : Nat => zL (up σ f i v f k) := by
  funext k
  have e := zI_ix h0 h1 hn
  by_cases h : (k : Int) = i
  · have h2 : k = (zI i).toNatClampNeg := by omega
    rw [h2, pk_uLs, ← h2, h, up_s]
  · have h2 : k ≠ (zI i).toNatClampNeg := by omega
    rw [pk_uLn h2, up_n σ f v h]
theorem nar_z {v : Int} (h : v = 0 ∨ v = 1) : vp_nar .boolean (zI v) = zI v := by rcases h with rfl | rfl <;> decide
theorem nar_c {v : Int} (h0 : 0 ≤ v) (h1 : v < 65536) : vp_nar .char (zI v) = zI v := by
  rw [zI_pos h0]
  have := (pk_charN (q := v.toNat) (by omega)).1
  unfold vp_nar
  rw [this]
section ALDA
variable {p : Program} {l : Launch} {e : Env} {R : Room} {s : State} {m : MethodId} {args : Array Value} {below : List Frame} {meth : Method} {c : Code} {H : Heap} {locs : List Loc} {cells slots : Nat} {Q : State → Prop}
theorem aldA {cc : ByteArray} {pc : Nat} {ls : Array Slot} {rest : List Value} {D : va_G} {cl : List vw_C} {a : Nat} {tys : List (ClassId × FieldType)} {ws : va_W} (hx : p.tables.exec = Jvm.exec) (hb : c.code = cc) (hK : va_K D cl tys s) (hP : va_P D cl ws H) (q0 t0 : Nat) {cA : ClassId} {ty : FieldType} {n : Nat} {f : Nat → Option Nat} (ha : ws[q0]? = some (a, .inl (cA, n, .inr (.inr (.inr (.inr f)))))) (ht : tys[t0]? = some (cA, .array ty)) {i : Int32} (hin : vp_in i n) (d : decode cc pc = .ok (.aaload, 1))
    (kk : W p l e R s m args below meth c H locs cells slots Q (F0 m (pc + 1) ls (va_rf (f i.toNatClampNeg) :: rest))) : W p l e R s m args below meth c H locs cells slots Q (F0 m pc ls (.int i :: .ref a :: rest)) := by
  have hlt : i.toNatClampNeg < n := Nat.not_le.mp fun q => hin (Or.inr q)
  exact W.aald (v := va_rf (f i.toNatClampNeg)) (ty := .array ty) hx hb (hP q0 _ ha) ((hK.2 t0 _ ht).1 n (fun j => va_rf (f j))) rfl (fun q => by cases q) (by show ¬ (i < 0 ∨ (arrV _ _ _).slots.size ≤ _); rw [arrV_size]; exact hin) (by show (arrV _ _ _).slots[_]? = _; rw [arrV_read _ _ hlt]) rfl rfl d kk
end ALDA
def wX (ad : Nat → Nat) (ca : Nat → ClassId) (σ : St) : va_W := [
  (ad 100, .inr (5, [.ref (ad 101), .ref (ad 105), .ref (ad 102), .ref (ad 103), .ref (ad 104)])),
  (ad 101, .inr (0, [.ref (ad 0), .ref (ad 1), .ref (ad 2), .ref (ad 3), .ref (ad 4), .ref (ad 5), .ref (ad 6), .int (zI (σ 7 0)), .int (zI (σ 8 0)), .long (zL (σ 9 0))])),
  (ad 102, .inr (1, [.ref (ad 20), .ref (ad 21), .ref (ad 22), .ref (ad 23), .ref (ad 24), .int (zI (σ 25 0)), .int (zI (σ 26 0)), .int (zI (σ 27 0)), .long (zL (σ 28 0)), .int (zI (σ 29 0))])),
  (ad 103, .inr (2, [.ref (ad 30), .ref (ad 31), .ref (ad 36), .ref (ad 37)])),
  (ad 104, .inr (3, [.ref (ad 40), .int (zI (σ 41 0)), .int (zI (σ 42 0)), .int (zI (σ 43 0))])),
  (ad 105, .inr (4, [.ref (ad 10), .ref (ad 11), .ref (ad 12), .ref (ad 13), .ref (ad 14), .ref (ad 15), .ref (ad 16), .int (zI (σ 17 0)), .long (zL (σ 18 0))])),
  (ad 0, .inl (ca 0, 12, .inl (fun k => zI (σ 0 k)))),
  (ad 1, .inl (ca 1, 12, .inl (fun k => zI (σ 1 k)))),
  (ad 2, .inl (ca 2, 36, .inl (fun k => zI (σ 2 k)))),
  (ad 3, .inl (ca 3, 36, .inr (.inl (fun k => zL (σ 3 k))))),
  (ad 4, .inl (ca 4, 36, .inr (.inl (fun k => zL (σ 4 k))))),
  (ad 5, .inl (ca 5, 36, .inr (.inl (fun k => zL (σ 5 k))))),
  (ad 6, .inl (ca 6, 36, .inr (.inl (fun k => zL (σ 6 k))))),
  (ad 20, .inl (ca 20, 8, .inl (fun k => zI (σ 20 k)))),
  (ad 21, .inl (ca 21, 8, .inl (fun k => zI (σ 21 k)))),
  (ad 22, .inl (ca 22, 8, .inl (fun k => zI (σ 22 k)))),
  (ad 23, .inl (ca 23, 8, .inl (fun k => zI (σ 23 k)))),
  (ad 24, .inl (ca 24, 176, .inl (fun k => zI (σ 24 k)))),
  (ad 30, .inl (ca 30, 144, .inl (fun k => zI (σ 30 k)))),
  (ad 31, .inl (ca 31, 12, .inl (fun k => zI (σ 31 k)))),
  (ad 36, .inl (ca 36, 2, .inr (.inr (.inr (.inr (fun i => if i = 0 then some (ad 32) else if i = 1 then some (ad 33) else none)))))),
  (ad 32, .inl (ca 32, 144, .inr (.inl (fun k => zL (σ 32 k))))),
  (ad 33, .inl (ca 33, 144, .inr (.inl (fun k => zL (σ 33 k))))),
  (ad 37, .inl (ca 37, 2, .inr (.inr (.inr (.inr (fun i => if i = 0 then some (ad 34) else if i = 1 then some (ad 35) else none)))))),
  (ad 34, .inl (ca 34, 144, .inr (.inl (fun k => zL (σ 34 k))))),
  (ad 35, .inl (ca 35, 144, .inr (.inl (fun k => zL (σ 35 k))))),
  (ad 40, .inl (ca 40, 12, .inl (fun k => zI (σ 40 k)))),
  (ad 10, .inl (ca 10, 8, .inl (fun k => zI (σ 10 k)))),
  (ad 11, .inl (ca 11, 8, .inl (fun k => zI (σ 11 k)))),
  (ad 12, .inl (ca 12, 24, .inl (fun k => zI (σ 12 k)))),
  (ad 13, .inl (ca 13, 24, .inr (.inl (fun k => zL (σ 13 k))))),
  (ad 14, .inl (ca 14, 24, .inl (fun k => zI (σ 14 k)))),
  (ad 15, .inl (ca 15, 8, .inl (fun k => zI (σ 15 k)))),
  (ad 16, .inl (ca 16, 8, .inl (fun k => zI (σ 16 k))))]
def tyX (ca : Nat → ClassId) : List (ClassId × FieldType) := [(ca 0, .boolean), (ca 1, .int), (ca 2, .int), (ca 3, .long), (ca 4, .long), (ca 5, .long), (ca 6, .long), (ca 20, .int), (ca 21, .int), (ca 22, .int), (ca 23, .int), (ca 24, .char), (ca 30, .int), (ca 31, .int), (ca 36, .array .long), (ca 32, .long), (ca 33, .long), (ca 37, .array .long), (ca 34, .long), (ca 35, .long), (ca 40, .int), (ca 10, .int), (ca 11, .int), (ca 12, .int), (ca 13, .long), (ca 14, .int), (ca 15, .int), (ca 16, .int)]
def wM (ad : Nat → Nat) (ca : Nat → ClassId) (σ : St) : va_W := [
  (ad 100, .inr (6, [.int (zI (σ 0 0)), .int (zI (σ 1 0)), .ref (ad 2), .ref (ad 3), .ref (ad 4), .int (zI (σ 5 0)), .ref (ad 6), .ref (ad 7), .ref (ad 8), .ref (ad 9), .long (zL (σ 10 0)), .int (zI (σ 11 0)), .int (zI (σ 12 0)), .ref (ad 13), .ref (ad 14), .ref (ad 15), .int (zI (σ 16 0)), .int (zI (σ 17 0)), .ref (ad 18), .ref (ad 19), .ref (ad 20), .ref (ad 21), .ref (ad 22), .ref (ad 23), .int (zI (σ 24 0)), .long (zL (σ 25 0))])),
  (ad 2, .inl (ca 2, 12, .inl (fun k => zI (σ 2 k)))),
  (ad 3, .inl (ca 3, 12, .inl (fun k => zI (σ 3 k)))),
  (ad 4, .inl (ca 4, 36, .inl (fun k => zI (σ 4 k)))),
  (ad 6, .inl (ca 6, 36, .inr (.inl (fun k => zL (σ 6 k))))),
  (ad 7, .inl (ca 7, 36, .inr (.inl (fun k => zL (σ 7 k))))),
  (ad 8, .inl (ca 8, 36, .inr (.inl (fun k => zL (σ 8 k))))),
  (ad 9, .inl (ca 9, 36, .inr (.inl (fun k => zL (σ 9 k))))),
  (ad 13, .inl (ca 13, 8, .inl (fun k => zI (σ 13 k)))),
  (ad 14, .inl (ca 14, 8, .inl (fun k => zI (σ 14 k)))),
  (ad 15, .inl (ca 15, 8, .inl (fun k => zI (σ 15 k)))),
  (ad 18, .inl (ca 18, 8, .inl (fun k => zI (σ 18 k)))),
  (ad 19, .inl (ca 19, 144, .inl (fun k => zI (σ 19 k)))),
  (ad 20, .inl (ca 20, 1152, .inr (.inl (fun k => zL (σ 20 k))))),
  (ad 21, .inl (ca 21, 12, .inl (fun k => zI (σ 21 k)))),
  (ad 22, .inl (ca 22, 36, .inl (fun k => zI (σ 22 k)))),
  (ad 23, .inl (ca 23, 400, .inl (fun k => zI (σ 23 k))))]
def tyM (ca : Nat → ClassId) : List (ClassId × FieldType) := [(ca 2, .boolean), (ca 3, .int), (ca 4, .int), (ca 6, .long), (ca 7, .long), (ca 8, .long), (ca 9, .long), (ca 13, .int), (ca 14, .int), (ca 15, .int), (ca 18, .int), (ca 19, .int), (ca 20, .long), (ca 21, .int), (ca 22, .boolean), (ca 23, .int)]
section WX
variable {p : Program} {l : Launch} {e : Env} {R : Room} {s : State} {m : MethodId} {args : Array Value} {below : List Frame} {meth : Method} {c : Code} {H : Heap} {locs : List Loc} {cells slots : Nat} {Q : State → Prop}
variable {cc : ByteArray} {pc nL : Nat} {own : String} {ret : Option FieldType} {ls : Array Slot} {rest : List Value} {D : va_G} {ad : Nat → Nat} {ca : Nat → ClassId} {A : Nat → Prop} {σ : St}
theorem gX_X_board (hc : Cx p s m args c cc nL own meth ret D cl7 (tyX ca)) (hw : Wd D cl7 (wX ad ca) A s.heap σ H locs) {index : Nat} (lk : Cond.fieldLink own index "ProbeChoice" "board" "LProbeChoice$Board;" ∈ lw_gd) (d : decode cc pc = .ok (.getfield index, 3)) (k : W p l e R s m args below meth c H locs cells slots Q (F0 m (pc + 3) ls (.ref (ad 101) :: rest))) : W p l e R s m args below meth c H locs cells slots Q (F0 m pc ls (.ref (ad 100) :: rest)) := va_get (D := D) (ci := 5) (C := R_X) (T := T_X) (N := 5) hc.1 hc.2.1 (hc.2.2.2.2.1.hts args) in_X hc.2.2.2.1 hc.2.2.2.2.2.1 hw.1 0 rfl rfl 0 (by decide) (hc.2.2.2.2.1.hts args _ lk) (fun _ h => h) rfl d k
theorem gX_X_search (hc : Cx p s m args c cc nL own meth ret D cl7 (tyX ca)) (hw : Wd D cl7 (wX ad ca) A s.heap σ H locs) {index : Nat} (lk : Cond.fieldLink own index "ProbeChoice" "search" "LProbeChoice$Search;" ∈ lw_gd) (d : decode cc pc = .ok (.getfield index, 3)) (k : W p l e R s m args below meth c H locs cells slots Q (F0 m (pc + 3) ls (.ref (ad 105) :: rest))) : W p l e R s m args below meth c H locs cells slots Q (F0 m pc ls (.ref (ad 100) :: rest)) := va_get (D := D) (ci := 5) (C := R_X) (T := T_X) (N := 5) hc.1 hc.2.1 (hc.2.2.2.2.1.hts args) in_X hc.2.2.2.1 hc.2.2.2.2.2.1 hw.1 0 rfl rfl 1 (by decide) (hc.2.2.2.2.1.hts args _ lk) (fun _ h => h) rfl d k
theorem gX_X_fixture (hc : Cx p s m args c cc nL own meth ret D cl7 (tyX ca)) (hw : Wd D cl7 (wX ad ca) A s.heap σ H locs) {index : Nat} (lk : Cond.fieldLink own index "ProbeChoice" "fixture" "LProbeChoice$Fixture;" ∈ lw_gd) (d : decode cc pc = .ok (.getfield index, 3)) (k : W p l e R s m args below meth c H locs cells slots Q (F0 m (pc + 3) ls (.ref (ad 102) :: rest))) : W p l e R s m args below meth c H locs cells slots Q (F0 m pc ls (.ref (ad 100) :: rest)) := va_get (D := D) (ci := 5) (C := R_X) (T := T_X) (N := 5) hc.1 hc.2.1 (hc.2.2.2.2.1.hts args) in_X hc.2.2.2.1 hc.2.2.2.2.2.1 hw.1 0 rfl rfl 2 (by decide) (hc.2.2.2.2.1.hts args _ lk) (fun _ h => h) rfl d k
theorem gX_X_parts (hc : Cx p s m args c cc nL own meth ret D cl7 (tyX ca)) (hw : Wd D cl7 (wX ad ca) A s.heap σ H locs) {index : Nat} (lk : Cond.fieldLink own index "ProbeChoice" "parts" "LProbeChoice$Parts;" ∈ lw_gd) (d : decode cc pc = .ok (.getfield index, 3)) (k : W p l e R s m args below meth c H locs cells slots Q (F0 m (pc + 3) ls (.ref (ad 103) :: rest))) : W p l e R s m args below meth c H locs cells slots Q (F0 m pc ls (.ref (ad 100) :: rest)) := va_get (D := D) (ci := 5) (C := R_X) (T := T_X) (N := 5) hc.1 hc.2.1 (hc.2.2.2.2.1.hts args) in_X hc.2.2.2.1 hc.2.2.2.2.2.1 hw.1 0 rfl rfl 3 (by decide) (hc.2.2.2.2.1.hts args _ lk) (fun _ h => h) rfl d k
theorem gX_X_rows (hc : Cx p s m args c cc nL own meth ret D cl7 (tyX ca)) (hw : Wd D cl7 (wX ad ca) A s.heap σ H locs) {index : Nat} (lk : Cond.fieldLink own index "ProbeChoice" "rows" "LProbeChoice$Rows;" ∈ lw_gd) (d : decode cc pc = .ok (.getfield index, 3)) (k : W p l e R s m args below meth c H locs cells slots Q (F0 m (pc + 3) ls (.ref (ad 104) :: rest))) : W p l e R s m args below meth c H locs cells slots Q (F0 m pc ls (.ref (ad 100) :: rest)) := va_get (D := D) (ci := 5) (C := R_X) (T := T_X) (N := 5) hc.1 hc.2.1 (hc.2.2.2.2.1.hts args) in_X hc.2.2.2.1 hc.2.2.2.2.2.1 hw.1 0 rfl rfl 4 (by decide) (hc.2.2.2.2.1.hts args _ lk) (fun _ h => h) rfl d k
theorem gX_B_must (hc : Cx p s m args c cc nL own meth ret D cl7 (tyX ca)) (hw : Wd D cl7 (wX ad ca) A s.heap σ H locs) {index : Nat} (lk : Cond.fieldLink own index "ProbeChoice$Board" "must" "[Z" ∈ lw_gd) (d : decode cc pc = .ok (.getfield index, 3)) (k : W p l e R s m args below meth c H locs cells slots Q (F0 m (pc + 3) ls (.ref (ad 0) :: rest))) : W p l e R s m args below meth c H locs cells slots Q (F0 m pc ls (.ref (ad 101) :: rest)) := va_get (D := D) (ci := 0) (C := R_B) (T := T_B) (N := 10) hc.1 hc.2.1 (hc.2.2.2.2.1.hts args) in_B hc.2.2.2.1 hc.2.2.2.2.2.1 hw.1 1 rfl rfl 0 (by decide) (hc.2.2.2.2.1.hts args _ lk) (fun _ h => h) rfl d k
theorem gnX_B_must (hc : Cx p s m args c cc nL own meth ret D cl7 (tyX ca)) (hw : Wd D cl7 (wX ad ca) A s.heap σ H locs) {index : Nat} (lk : Cond.fieldLinkNest own index "ProbeChoice$Board" "must" "[Z" "ProbeChoice" ∈ lw_gd) (d : decode cc pc = .ok (.getfield index, 3)) (k : W p l e R s m args below meth c H locs cells slots Q (F0 m (pc + 3) ls (.ref (ad 0) :: rest))) : W p l e R s m args below meth c H locs cells slots Q (F0 m pc ls (.ref (ad 101) :: rest)) := va_getN (D := D) (ci := 0) (C := R_B) (T := T_B) (N := 10) hc.1 hc.2.1 (hc.2.2.2.2.1.hts args) in_B hc.2.2.2.1 hc.2.2.2.2.2.1 hw.1 1 rfl rfl 0 (by decide) (hc.2.2.2.2.1.hts args _ lk) (fun _ h => h) rfl d k
theorem ldX_B_must (hc : Cx p s m args c cc nL own meth ret D cl7 (tyX ca)) (hw : Wd D cl7 (wX ad ca) A s.heap σ H locs) {i : Int} (d : decode cc pc = .ok (.baload, 1)) (hi : 0 ≤ i ∧ i < 12) (k : W p l e R s m args below meth c H locs cells slots Q (F0 m (pc + 1) ls (.int (zI (σ 0 i)) :: rest))) : W p l e R s m args below meth c H locs cells slots Q (F0 m pc ls (.int (zI i) :: .ref (ad 0) :: rest)) := by
  refine va_zald (D := D) hc.1 hc.2.1 hc.2.2.2.2.2.1 hw.1 6 0 rfl rfl (zI_in hi.1 hi.2 (by decide)) d ?_
  show W p l e R s m args below meth c H locs cells slots Q (F0 m (pc + 1) ls (.int (zI (σ 0 (((zI i).toNatClampNeg : Nat) : Int))) :: rest))
  rw [zI_ix (n := 12) hi.1 hi.2 (by decide)]
  exact k
theorem stX_B_must (hc : Cx p s m args c cc nL own meth ret D cl7 (tyX ca)) (hw : Wd D cl7 (wX ad ca) A s.heap σ H locs) {i v : Int} (d : decode cc pc = .ok (.bastore, 1)) (hi : 0 ≤ i ∧ i < 12) (h01 : v = 0 ∨ v = 1) (k : ∀ (H1 : Heap) (locs1 : List Loc), Wd D cl7 (wX ad ca) A s.heap (up σ 0 i v) H1 locs1 → W p l e R s m args below meth c H1 locs1 cells slots Q (F0 m (pc + 1) ls rest)) : W p l e R s m args below meth c H locs cells slots Q (F0 m pc ls (.int (zI v) :: .int (zI i) :: .ref (ad 0) :: rest)) := by
  refine va_zast (D := D) hc.1 hc.2.1 hc.2.2.2.2.2.1 hw.1 hw.2.1 hw.2.2 6 0 rfl rfl (zI_in hi.1 hi.2 (by decide)) d (fun H1 locs1 hP hD hS => ?_)
  rw [nar_z h01, updI_z (n := 12) hi.1 hi.2 (by decide)] at hP hD
  exact k H1 locs1 ⟨hP, hD, hS⟩
theorem gX_B_sizes (hc : Cx p s m args c cc nL own meth ret D cl7 (tyX ca)) (hw : Wd D cl7 (wX ad ca) A s.heap σ H locs) {index : Nat} (lk : Cond.fieldLink own index "ProbeChoice$Board" "sizes" "[I" ∈ lw_gd) (d : decode cc pc = .ok (.getfield index, 3)) (k : W p l e R s m args below meth c H locs cells slots Q (F0 m (pc + 3) ls (.ref (ad 1) :: rest))) : W p l e R s m args below meth c H locs cells slots Q (F0 m pc ls (.ref (ad 101) :: rest)) := va_get (D := D) (ci := 0) (C := R_B) (T := T_B) (N := 10) hc.1 hc.2.1 (hc.2.2.2.2.1.hts args) in_B hc.2.2.2.1 hc.2.2.2.2.2.1 hw.1 1 rfl rfl 1 (by decide) (hc.2.2.2.2.1.hts args _ lk) (fun _ h => h) rfl d k
theorem gnX_B_sizes (hc : Cx p s m args c cc nL own meth ret D cl7 (tyX ca)) (hw : Wd D cl7 (wX ad ca) A s.heap σ H locs) {index : Nat} (lk : Cond.fieldLinkNest own index "ProbeChoice$Board" "sizes" "[I" "ProbeChoice" ∈ lw_gd) (d : decode cc pc = .ok (.getfield index, 3)) (k : W p l e R s m args below meth c H locs cells slots Q (F0 m (pc + 3) ls (.ref (ad 1) :: rest))) : W p l e R s m args below meth c H locs cells slots Q (F0 m pc ls (.ref (ad 101) :: rest)) := va_getN (D := D) (ci := 0) (C := R_B) (T := T_B) (N := 10) hc.1 hc.2.1 (hc.2.2.2.2.1.hts args) in_B hc.2.2.2.1 hc.2.2.2.2.2.1 hw.1 1 rfl rfl 1 (by decide) (hc.2.2.2.2.1.hts args _ lk) (fun _ h => h) rfl d k
theorem ldX_B_sizes (hc : Cx p s m args c cc nL own meth ret D cl7 (tyX ca)) (hw : Wd D cl7 (wX ad ca) A s.heap σ H locs) {i : Int} (d : decode cc pc = .ok (.iaload, 1)) (hi : 0 ≤ i ∧ i < 12) (k : W p l e R s m args below meth c H locs cells slots Q (F0 m (pc + 1) ls (.int (zI (σ 1 i)) :: rest))) : W p l e R s m args below meth c H locs cells slots Q (F0 m pc ls (.int (zI i) :: .ref (ad 1) :: rest)) := by
  refine va_iald (D := D) hc.1 hc.2.1 hc.2.2.2.2.2.1 hw.1 7 1 rfl rfl (zI_in hi.1 hi.2 (by decide)) d ?_
  show W p l e R s m args below meth c H locs cells slots Q (F0 m (pc + 1) ls (.int (zI (σ 1 (((zI i).toNatClampNeg : Nat) : Int))) :: rest))
  rw [zI_ix (n := 12) hi.1 hi.2 (by decide)]
  exact k
theorem stX_B_sizes (hc : Cx p s m args c cc nL own meth ret D cl7 (tyX ca)) (hw : Wd D cl7 (wX ad ca) A s.heap σ H locs) {i v : Int} (d : decode cc pc = .ok (.iastore, 1)) (hi : 0 ≤ i ∧ i < 12) (k : ∀ (H1 : Heap) (locs1 : List Loc), Wd D cl7 (wX ad ca) A s.heap (up σ 1 i v) H1 locs1 → W p l e R s m args below meth c H1 locs1 cells slots Q (F0 m (pc + 1) ls rest)) : W p l e R s m args below meth c H locs cells slots Q (F0 m pc ls (.int (zI v) :: .int (zI i) :: .ref (ad 1) :: rest)) := by
  refine va_iast (D := D) hc.1 hc.2.1 hc.2.2.2.2.2.1 hw.1 hw.2.1 hw.2.2 7 1 rfl rfl (zI_in hi.1 hi.2 (by decide)) d (fun H1 locs1 hP hD hS => ?_)
  rw [updI_z (n := 12) hi.1 hi.2 (by decide)] at hP hD
  exact k H1 locs1 ⟨hP, hD, hS⟩
theorem gX_B_pointsOfNets (hc : Cx p s m args c cc nL own meth ret D cl7 (tyX ca)) (hw : Wd D cl7 (wX ad ca) A s.heap σ H locs) {index : Nat} (lk : Cond.fieldLink own index "ProbeChoice$Board" "pointsOfNets" "[I" ∈ lw_gd) (d : decode cc pc = .ok (.getfield index, 3)) (k : W p l e R s m args below meth c H locs cells slots Q (F0 m (pc + 3) ls (.ref (ad 2) :: rest))) : W p l e R s m args below meth c H locs cells slots Q (F0 m pc ls (.ref (ad 101) :: rest)) := va_get (D := D) (ci := 0) (C := R_B) (T := T_B) (N := 10) hc.1 hc.2.1 (hc.2.2.2.2.1.hts args) in_B hc.2.2.2.1 hc.2.2.2.2.2.1 hw.1 1 rfl rfl 2 (by decide) (hc.2.2.2.2.1.hts args _ lk) (fun _ h => h) rfl d k
theorem gnX_B_pointsOfNets (hc : Cx p s m args c cc nL own meth ret D cl7 (tyX ca)) (hw : Wd D cl7 (wX ad ca) A s.heap σ H locs) {index : Nat} (lk : Cond.fieldLinkNest own index "ProbeChoice$Board" "pointsOfNets" "[I" "ProbeChoice" ∈ lw_gd) (d : decode cc pc = .ok (.getfield index, 3)) (k : W p l e R s m args below meth c H locs cells slots Q (F0 m (pc + 3) ls (.ref (ad 2) :: rest))) : W p l e R s m args below meth c H locs cells slots Q (F0 m pc ls (.ref (ad 101) :: rest)) := va_getN (D := D) (ci := 0) (C := R_B) (T := T_B) (N := 10) hc.1 hc.2.1 (hc.2.2.2.2.1.hts args) in_B hc.2.2.2.1 hc.2.2.2.2.2.1 hw.1 1 rfl rfl 2 (by decide) (hc.2.2.2.2.1.hts args _ lk) (fun _ h => h) rfl d k
theorem ldX_B_pointsOfNets (hc : Cx p s m args c cc nL own meth ret D cl7 (tyX ca)) (hw : Wd D cl7 (wX ad ca) A s.heap σ H locs) {i : Int} (d : decode cc pc = .ok (.iaload, 1)) (hi : 0 ≤ i ∧ i < 36) (k : W p l e R s m args below meth c H locs cells slots Q (F0 m (pc + 1) ls (.int (zI (σ 2 i)) :: rest))) : W p l e R s m args below meth c H locs cells slots Q (F0 m pc ls (.int (zI i) :: .ref (ad 2) :: rest)) := by
  refine va_iald (D := D) hc.1 hc.2.1 hc.2.2.2.2.2.1 hw.1 8 2 rfl rfl (zI_in hi.1 hi.2 (by decide)) d ?_
  show W p l e R s m args below meth c H locs cells slots Q (F0 m (pc + 1) ls (.int (zI (σ 2 (((zI i).toNatClampNeg : Nat) : Int))) :: rest))
  rw [zI_ix (n := 36) hi.1 hi.2 (by decide)]
  exact k
theorem stX_B_pointsOfNets (hc : Cx p s m args c cc nL own meth ret D cl7 (tyX ca)) (hw : Wd D cl7 (wX ad ca) A s.heap σ H locs) {i v : Int} (d : decode cc pc = .ok (.iastore, 1)) (hi : 0 ≤ i ∧ i < 36) (k : ∀ (H1 : Heap) (locs1 : List Loc), Wd D cl7 (wX ad ca) A s.heap (up σ 2 i v) H1 locs1 → W p l e R s m args below meth c H1 locs1 cells slots Q (F0 m (pc + 1) ls rest)) : W p l e R s m args below meth c H locs cells slots Q (F0 m pc ls (.int (zI v) :: .int (zI i) :: .ref (ad 2) :: rest)) := by
  refine va_iast (D := D) hc.1 hc.2.1 hc.2.2.2.2.2.1 hw.1 hw.2.1 hw.2.2 8 2 rfl rfl (zI_in hi.1 hi.2 (by decide)) d (fun H1 locs1 hP hD hS => ?_)
  rw [updI_z (n := 36) hi.1 hi.2 (by decide)] at hP hD
  exact k H1 locs1 ⟨hP, hD, hS⟩
theorem gX_B_xs (hc : Cx p s m args c cc nL own meth ret D cl7 (tyX ca)) (hw : Wd D cl7 (wX ad ca) A s.heap σ H locs) {index : Nat} (lk : Cond.fieldLink own index "ProbeChoice$Board" "xs" "[J" ∈ lw_gd) (d : decode cc pc = .ok (.getfield index, 3)) (k : W p l e R s m args below meth c H locs cells slots Q (F0 m (pc + 3) ls (.ref (ad 3) :: rest))) : W p l e R s m args below meth c H locs cells slots Q (F0 m pc ls (.ref (ad 101) :: rest)) := va_get (D := D) (ci := 0) (C := R_B) (T := T_B) (N := 10) hc.1 hc.2.1 (hc.2.2.2.2.1.hts args) in_B hc.2.2.2.1 hc.2.2.2.2.2.1 hw.1 1 rfl rfl 3 (by decide) (hc.2.2.2.2.1.hts args _ lk) (fun _ h => h) rfl d k
theorem gnX_B_xs (hc : Cx p s m args c cc nL own meth ret D cl7 (tyX ca)) (hw : Wd D cl7 (wX ad ca) A s.heap σ H locs) {index : Nat} (lk : Cond.fieldLinkNest own index "ProbeChoice$Board" "xs" "[J" "ProbeChoice" ∈ lw_gd) (d : decode cc pc = .ok (.getfield index, 3)) (k : W p l e R s m args below meth c H locs cells slots Q (F0 m (pc + 3) ls (.ref (ad 3) :: rest))) : W p l e R s m args below meth c H locs cells slots Q (F0 m pc ls (.ref (ad 101) :: rest)) := va_getN (D := D) (ci := 0) (C := R_B) (T := T_B) (N := 10) hc.1 hc.2.1 (hc.2.2.2.2.1.hts args) in_B hc.2.2.2.1 hc.2.2.2.2.2.1 hw.1 1 rfl rfl 3 (by decide) (hc.2.2.2.2.1.hts args _ lk) (fun _ h => h) rfl d k
theorem ldX_B_xs (hc : Cx p s m args c cc nL own meth ret D cl7 (tyX ca)) (hw : Wd D cl7 (wX ad ca) A s.heap σ H locs) {i : Int} (d : decode cc pc = .ok (.laload, 1)) (hi : 0 ≤ i ∧ i < 36) (k : W p l e R s m args below meth c H locs cells slots Q (F0 m (pc + 1) ls (.long (zL (σ 3 i)) :: rest))) : W p l e R s m args below meth c H locs cells slots Q (F0 m pc ls (.int (zI i) :: .ref (ad 3) :: rest)) := by
  refine va_lald (D := D) hc.1 hc.2.1 hc.2.2.2.2.2.1 hw.1 9 3 rfl rfl (zI_in hi.1 hi.2 (by decide)) d ?_
  show W p l e R s m args below meth c H locs cells slots Q (F0 m (pc + 1) ls (.long (zL (σ 3 (((zI i).toNatClampNeg : Nat) : Int))) :: rest))
  rw [zI_ix (n := 36) hi.1 hi.2 (by decide)]
  exact k
theorem stX_B_xs (hc : Cx p s m args c cc nL own meth ret D cl7 (tyX ca)) (hw : Wd D cl7 (wX ad ca) A s.heap σ H locs) {i v : Int} (d : decode cc pc = .ok (.lastore, 1)) (hi : 0 ≤ i ∧ i < 36) (k : ∀ (H1 : Heap) (locs1 : List Loc), Wd D cl7 (wX ad ca) A s.heap (up σ 3 i v) H1 locs1 → W p l e R s m args below meth c H1 locs1 cells slots Q (F0 m (pc + 1) ls rest)) : W p l e R s m args below meth c H locs cells slots Q (F0 m pc ls (.long (zL v) :: .int (zI i) :: .ref (ad 3) :: rest)) := by
  refine va_last (D := D) hc.1 hc.2.1 hc.2.2.2.2.2.1 hw.1 hw.2.1 hw.2.2 9 3 rfl rfl (zI_in hi.1 hi.2 (by decide)) d (fun H1 locs1 hP hD hS => ?_)
  rw [updL_z (n := 36) hi.1 hi.2 (by decide)] at hP hD
  exact k H1 locs1 ⟨hP, hD, hS⟩
theorem gX_B_ys (hc : Cx p s m args c cc nL own meth ret D cl7 (tyX ca)) (hw : Wd D cl7 (wX ad ca) A s.heap σ H locs) {index : Nat} (lk : Cond.fieldLink own index "ProbeChoice$Board" "ys" "[J" ∈ lw_gd) (d : decode cc pc = .ok (.getfield index, 3)) (k : W p l e R s m args below meth c H locs cells slots Q (F0 m (pc + 3) ls (.ref (ad 4) :: rest))) : W p l e R s m args below meth c H locs cells slots Q (F0 m pc ls (.ref (ad 101) :: rest)) := va_get (D := D) (ci := 0) (C := R_B) (T := T_B) (N := 10) hc.1 hc.2.1 (hc.2.2.2.2.1.hts args) in_B hc.2.2.2.1 hc.2.2.2.2.2.1 hw.1 1 rfl rfl 4 (by decide) (hc.2.2.2.2.1.hts args _ lk) (fun _ h => h) rfl d k
theorem gnX_B_ys (hc : Cx p s m args c cc nL own meth ret D cl7 (tyX ca)) (hw : Wd D cl7 (wX ad ca) A s.heap σ H locs) {index : Nat} (lk : Cond.fieldLinkNest own index "ProbeChoice$Board" "ys" "[J" "ProbeChoice" ∈ lw_gd) (d : decode cc pc = .ok (.getfield index, 3)) (k : W p l e R s m args below meth c H locs cells slots Q (F0 m (pc + 3) ls (.ref (ad 4) :: rest))) : W p l e R s m args below meth c H locs cells slots Q (F0 m pc ls (.ref (ad 101) :: rest)) := va_getN (D := D) (ci := 0) (C := R_B) (T := T_B) (N := 10) hc.1 hc.2.1 (hc.2.2.2.2.1.hts args) in_B hc.2.2.2.1 hc.2.2.2.2.2.1 hw.1 1 rfl rfl 4 (by decide) (hc.2.2.2.2.1.hts args _ lk) (fun _ h => h) rfl d k
theorem ldX_B_ys (hc : Cx p s m args c cc nL own meth ret D cl7 (tyX ca)) (hw : Wd D cl7 (wX ad ca) A s.heap σ H locs) {i : Int} (d : decode cc pc = .ok (.laload, 1)) (hi : 0 ≤ i ∧ i < 36) (k : W p l e R s m args below meth c H locs cells slots Q (F0 m (pc + 1) ls (.long (zL (σ 4 i)) :: rest))) : W p l e R s m args below meth c H locs cells slots Q (F0 m pc ls (.int (zI i) :: .ref (ad 4) :: rest)) := by
  refine va_lald (D := D) hc.1 hc.2.1 hc.2.2.2.2.2.1 hw.1 10 4 rfl rfl (zI_in hi.1 hi.2 (by decide)) d ?_
  show W p l e R s m args below meth c H locs cells slots Q (F0 m (pc + 1) ls (.long (zL (σ 4 (((zI i).toNatClampNeg : Nat) : Int))) :: rest))
  rw [zI_ix (n := 36) hi.1 hi.2 (by decide)]
  exact k
theorem stX_B_ys (hc : Cx p s m args c cc nL own meth ret D cl7 (tyX ca)) (hw : Wd D cl7 (wX ad ca) A s.heap σ H locs) {i v : Int} (d : decode cc pc = .ok (.lastore, 1)) (hi : 0 ≤ i ∧ i < 36) (k : ∀ (H1 : Heap) (locs1 : List Loc), Wd D cl7 (wX ad ca) A s.heap (up σ 4 i v) H1 locs1 → W p l e R s m args below meth c H1 locs1 cells slots Q (F0 m (pc + 1) ls rest)) : W p l e R s m args below meth c H locs cells slots Q (F0 m pc ls (.long (zL v) :: .int (zI i) :: .ref (ad 4) :: rest)) := by
  refine va_last (D := D) hc.1 hc.2.1 hc.2.2.2.2.2.1 hw.1 hw.2.1 hw.2.2 10 4 rfl rfl (zI_in hi.1 hi.2 (by decide)) d (fun H1 locs1 hP hD hS => ?_)
  rw [updL_z (n := 36) hi.1 hi.2 (by decide)] at hP hD
  exact k H1 locs1 ⟨hP, hD, hS⟩
theorem gX_B_radii (hc : Cx p s m args c cc nL own meth ret D cl7 (tyX ca)) (hw : Wd D cl7 (wX ad ca) A s.heap σ H locs) {index : Nat} (lk : Cond.fieldLink own index "ProbeChoice$Board" "radii" "[J" ∈ lw_gd) (d : decode cc pc = .ok (.getfield index, 3)) (k : W p l e R s m args below meth c H locs cells slots Q (F0 m (pc + 3) ls (.ref (ad 5) :: rest))) : W p l e R s m args below meth c H locs cells slots Q (F0 m pc ls (.ref (ad 101) :: rest)) := va_get (D := D) (ci := 0) (C := R_B) (T := T_B) (N := 10) hc.1 hc.2.1 (hc.2.2.2.2.1.hts args) in_B hc.2.2.2.1 hc.2.2.2.2.2.1 hw.1 1 rfl rfl 5 (by decide) (hc.2.2.2.2.1.hts args _ lk) (fun _ h => h) rfl d k
theorem ldX_B_radii (hc : Cx p s m args c cc nL own meth ret D cl7 (tyX ca)) (hw : Wd D cl7 (wX ad ca) A s.heap σ H locs) {i : Int} (d : decode cc pc = .ok (.laload, 1)) (hi : 0 ≤ i ∧ i < 36) (k : W p l e R s m args below meth c H locs cells slots Q (F0 m (pc + 1) ls (.long (zL (σ 5 i)) :: rest))) : W p l e R s m args below meth c H locs cells slots Q (F0 m pc ls (.int (zI i) :: .ref (ad 5) :: rest)) := by
  refine va_lald (D := D) hc.1 hc.2.1 hc.2.2.2.2.2.1 hw.1 11 5 rfl rfl (zI_in hi.1 hi.2 (by decide)) d ?_
  show W p l e R s m args below meth c H locs cells slots Q (F0 m (pc + 1) ls (.long (zL (σ 5 (((zI i).toNatClampNeg : Nat) : Int))) :: rest))
  rw [zI_ix (n := 36) hi.1 hi.2 (by decide)]
  exact k
theorem stX_B_radii (hc : Cx p s m args c cc nL own meth ret D cl7 (tyX ca)) (hw : Wd D cl7 (wX ad ca) A s.heap σ H locs) {i v : Int} (d : decode cc pc = .ok (.lastore, 1)) (hi : 0 ≤ i ∧ i < 36) (k : ∀ (H1 : Heap) (locs1 : List Loc), Wd D cl7 (wX ad ca) A s.heap (up σ 5 i v) H1 locs1 → W p l e R s m args below meth c H1 locs1 cells slots Q (F0 m (pc + 1) ls rest)) : W p l e R s m args below meth c H locs cells slots Q (F0 m pc ls (.long (zL v) :: .int (zI i) :: .ref (ad 5) :: rest)) := by
  refine va_last (D := D) hc.1 hc.2.1 hc.2.2.2.2.2.1 hw.1 hw.2.1 hw.2.2 11 5 rfl rfl (zI_in hi.1 hi.2 (by decide)) d (fun H1 locs1 hP hD hS => ?_)
  rw [updL_z (n := 36) hi.1 hi.2 (by decide)] at hP hD
  exact k H1 locs1 ⟨hP, hD, hS⟩
theorem gX_B_weights (hc : Cx p s m args c cc nL own meth ret D cl7 (tyX ca)) (hw : Wd D cl7 (wX ad ca) A s.heap σ H locs) {index : Nat} (lk : Cond.fieldLink own index "ProbeChoice$Board" "weights" "[J" ∈ lw_gd) (d : decode cc pc = .ok (.getfield index, 3)) (k : W p l e R s m args below meth c H locs cells slots Q (F0 m (pc + 3) ls (.ref (ad 6) :: rest))) : W p l e R s m args below meth c H locs cells slots Q (F0 m pc ls (.ref (ad 101) :: rest)) := va_get (D := D) (ci := 0) (C := R_B) (T := T_B) (N := 10) hc.1 hc.2.1 (hc.2.2.2.2.1.hts args) in_B hc.2.2.2.1 hc.2.2.2.2.2.1 hw.1 1 rfl rfl 6 (by decide) (hc.2.2.2.2.1.hts args _ lk) (fun _ h => h) rfl d k
theorem gnX_B_weights (hc : Cx p s m args c cc nL own meth ret D cl7 (tyX ca)) (hw : Wd D cl7 (wX ad ca) A s.heap σ H locs) {index : Nat} (lk : Cond.fieldLinkNest own index "ProbeChoice$Board" "weights" "[J" "ProbeChoice" ∈ lw_gd) (d : decode cc pc = .ok (.getfield index, 3)) (k : W p l e R s m args below meth c H locs cells slots Q (F0 m (pc + 3) ls (.ref (ad 6) :: rest))) : W p l e R s m args below meth c H locs cells slots Q (F0 m pc ls (.ref (ad 101) :: rest)) := va_getN (D := D) (ci := 0) (C := R_B) (T := T_B) (N := 10) hc.1 hc.2.1 (hc.2.2.2.2.1.hts args) in_B hc.2.2.2.1 hc.2.2.2.2.2.1 hw.1 1 rfl rfl 6 (by decide) (hc.2.2.2.2.1.hts args _ lk) (fun _ h => h) rfl d k
theorem ldX_B_weights (hc : Cx p s m args c cc nL own meth ret D cl7 (tyX ca)) (hw : Wd D cl7 (wX ad ca) A s.heap σ H locs) {i : Int} (d : decode cc pc = .ok (.laload, 1)) (hi : 0 ≤ i ∧ i < 36) (k : W p l e R s m args below meth c H locs cells slots Q (F0 m (pc + 1) ls (.long (zL (σ 6 i)) :: rest))) : W p l e R s m args below meth c H locs cells slots Q (F0 m pc ls (.int (zI i) :: .ref (ad 6) :: rest)) := by
  refine va_lald (D := D) hc.1 hc.2.1 hc.2.2.2.2.2.1 hw.1 12 6 rfl rfl (zI_in hi.1 hi.2 (by decide)) d ?_
  show W p l e R s m args below meth c H locs cells slots Q (F0 m (pc + 1) ls (.long (zL (σ 6 (((zI i).toNatClampNeg : Nat) : Int))) :: rest))
  rw [zI_ix (n := 36) hi.1 hi.2 (by decide)]
  exact k
theorem stX_B_weights (hc : Cx p s m args c cc nL own meth ret D cl7 (tyX ca)) (hw : Wd D cl7 (wX ad ca) A s.heap σ H locs) {i v : Int} (d : decode cc pc = .ok (.lastore, 1)) (hi : 0 ≤ i ∧ i < 36) (k : ∀ (H1 : Heap) (locs1 : List Loc), Wd D cl7 (wX ad ca) A s.heap (up σ 6 i v) H1 locs1 → W p l e R s m args below meth c H1 locs1 cells slots Q (F0 m (pc + 1) ls rest)) : W p l e R s m args below meth c H locs cells slots Q (F0 m pc ls (.long (zL v) :: .int (zI i) :: .ref (ad 6) :: rest)) := by
  refine va_last (D := D) hc.1 hc.2.1 hc.2.2.2.2.2.1 hw.1 hw.2.1 hw.2.2 12 6 rfl rfl (zI_in hi.1 hi.2 (by decide)) d (fun H1 locs1 hP hD hS => ?_)
  rw [updL_z (n := 36) hi.1 hi.2 (by decide)] at hP hD
  exact k H1 locs1 ⟨hP, hD, hS⟩
theorem gX_B_netCount (hc : Cx p s m args c cc nL own meth ret D cl7 (tyX ca)) (hw : Wd D cl7 (wX ad ca) A s.heap σ H locs) {index : Nat} (lk : Cond.fieldLink own index "ProbeChoice$Board" "netCount" "I" ∈ lw_gd) (d : decode cc pc = .ok (.getfield index, 3)) (k : W p l e R s m args below meth c H locs cells slots Q (F0 m (pc + 3) ls (.int (zI (σ 7 0)) :: rest))) : W p l e R s m args below meth c H locs cells slots Q (F0 m pc ls (.ref (ad 101) :: rest)) := va_get (D := D) (ci := 0) (C := R_B) (T := T_B) (N := 10) hc.1 hc.2.1 (hc.2.2.2.2.1.hts args) in_B hc.2.2.2.1 hc.2.2.2.2.2.1 hw.1 1 rfl rfl 7 (by decide) (hc.2.2.2.2.1.hts args _ lk) (fun _ h => h) rfl d k
theorem gnX_B_netCount (hc : Cx p s m args c cc nL own meth ret D cl7 (tyX ca)) (hw : Wd D cl7 (wX ad ca) A s.heap σ H locs) {index : Nat} (lk : Cond.fieldLinkNest own index "ProbeChoice$Board" "netCount" "I" "ProbeChoice" ∈ lw_gd) (d : decode cc pc = .ok (.getfield index, 3)) (k : W p l e R s m args below meth c H locs cells slots Q (F0 m (pc + 3) ls (.int (zI (σ 7 0)) :: rest))) : W p l e R s m args below meth c H locs cells slots Q (F0 m pc ls (.ref (ad 101) :: rest)) := va_getN (D := D) (ci := 0) (C := R_B) (T := T_B) (N := 10) hc.1 hc.2.1 (hc.2.2.2.2.1.hts args) in_B hc.2.2.2.1 hc.2.2.2.2.2.1 hw.1 1 rfl rfl 7 (by decide) (hc.2.2.2.2.1.hts args _ lk) (fun _ h => h) rfl d k
theorem pX_B_netCount (hc : Cx p s m args c cc nL own meth ret D cl7 (tyX ca)) (hw : Wd D cl7 (wX ad ca) A s.heap σ H locs) {index : Nat} {v : Int} (lk : Cond.fieldLink own index "ProbeChoice$Board" "netCount" "I" ∈ lw_gd) (d : decode cc pc = .ok (.putfield index, 3)) (k : ∀ (H1 : Heap) (locs1 : List Loc), Wd D cl7 (wX ad ca) A s.heap (up σ 7 0 v) H1 locs1 → W p l e R s m args below meth c H1 locs1 cells slots Q (F0 m (pc + 3) ls rest)) : W p l e R s m args below meth c H locs cells slots Q (F0 m pc ls (.int (zI v) :: .ref (ad 101) :: rest)) :=
  va_put (D := D) (ci := 0) (C := R_B) (T := T_B) (N := 10) (ty := .int) hc.1 hc.2.1 (hc.2.2.2.2.1.hts args) in_B t_B t_B_ok n_B hc.2.2.2.1 hc.2.2.2.2.2.1 hw.1 hw.2.1 hw.2.2 1 rfl rfl 7 (by decide) (hc.2.2.2.2.1.hts args _ lk) (fun _ h => h) rfl (by decide +kernel) rfl rfl (Nat.le_of_ble_eq_true rfl) d (fun H1 locs1 hP hD hS => k H1 locs1 ⟨hP, hD, hS⟩)
theorem gX_B_pointCount (hc : Cx p s m args c cc nL own meth ret D cl7 (tyX ca)) (hw : Wd D cl7 (wX ad ca) A s.heap σ H locs) {index : Nat} (lk : Cond.fieldLink own index "ProbeChoice$Board" "pointCount" "I" ∈ lw_gd) (d : decode cc pc = .ok (.getfield index, 3)) (k : W p l e R s m args below meth c H locs cells slots Q (F0 m (pc + 3) ls (.int (zI (σ 8 0)) :: rest))) : W p l e R s m args below meth c H locs cells slots Q (F0 m pc ls (.ref (ad 101) :: rest)) := va_get (D := D) (ci := 0) (C := R_B) (T := T_B) (N := 10) hc.1 hc.2.1 (hc.2.2.2.2.1.hts args) in_B hc.2.2.2.1 hc.2.2.2.2.2.1 hw.1 1 rfl rfl 8 (by decide) (hc.2.2.2.2.1.hts args _ lk) (fun _ h => h) rfl d k
theorem pX_B_pointCount (hc : Cx p s m args c cc nL own meth ret D cl7 (tyX ca)) (hw : Wd D cl7 (wX ad ca) A s.heap σ H locs) {index : Nat} {v : Int} (lk : Cond.fieldLink own index "ProbeChoice$Board" "pointCount" "I" ∈ lw_gd) (d : decode cc pc = .ok (.putfield index, 3)) (k : ∀ (H1 : Heap) (locs1 : List Loc), Wd D cl7 (wX ad ca) A s.heap (up σ 8 0 v) H1 locs1 → W p l e R s m args below meth c H1 locs1 cells slots Q (F0 m (pc + 3) ls rest)) : W p l e R s m args below meth c H locs cells slots Q (F0 m pc ls (.int (zI v) :: .ref (ad 101) :: rest)) :=
  va_put (D := D) (ci := 0) (C := R_B) (T := T_B) (N := 10) (ty := .int) hc.1 hc.2.1 (hc.2.2.2.2.1.hts args) in_B t_B t_B_ok n_B hc.2.2.2.1 hc.2.2.2.2.2.1 hw.1 hw.2.1 hw.2.2 1 rfl rfl 8 (by decide) (hc.2.2.2.2.1.hts args _ lk) (fun _ h => h) rfl (by decide +kernel) rfl rfl (Nat.le_of_ble_eq_true rfl) d (fun H1 locs1 hP hD hS => k H1 locs1 ⟨hP, hD, hS⟩)
theorem gX_B_apart (hc : Cx p s m args c cc nL own meth ret D cl7 (tyX ca)) (hw : Wd D cl7 (wX ad ca) A s.heap σ H locs) {index : Nat} (lk : Cond.fieldLink own index "ProbeChoice$Board" "apart" "J" ∈ lw_gd) (d : decode cc pc = .ok (.getfield index, 3)) (k : W p l e R s m args below meth c H locs cells slots Q (F0 m (pc + 3) ls (.long (zL (σ 9 0)) :: rest))) : W p l e R s m args below meth c H locs cells slots Q (F0 m pc ls (.ref (ad 101) :: rest)) := va_get (D := D) (ci := 0) (C := R_B) (T := T_B) (N := 10) hc.1 hc.2.1 (hc.2.2.2.2.1.hts args) in_B hc.2.2.2.1 hc.2.2.2.2.2.1 hw.1 1 rfl rfl 9 (by decide) (hc.2.2.2.2.1.hts args _ lk) (fun _ h => h) rfl d k
theorem pX_B_apart (hc : Cx p s m args c cc nL own meth ret D cl7 (tyX ca)) (hw : Wd D cl7 (wX ad ca) A s.heap σ H locs) {index : Nat} {v : Int} (lk : Cond.fieldLink own index "ProbeChoice$Board" "apart" "J" ∈ lw_gd) (d : decode cc pc = .ok (.putfield index, 3)) (k : ∀ (H1 : Heap) (locs1 : List Loc), Wd D cl7 (wX ad ca) A s.heap (up σ 9 0 v) H1 locs1 → W p l e R s m args below meth c H1 locs1 cells slots Q (F0 m (pc + 3) ls rest)) : W p l e R s m args below meth c H locs cells slots Q (F0 m pc ls (.long (zL v) :: .ref (ad 101) :: rest)) :=
  va_put (D := D) (ci := 0) (C := R_B) (T := T_B) (N := 10) (ty := .long) hc.1 hc.2.1 (hc.2.2.2.2.1.hts args) in_B t_B t_B_ok n_B hc.2.2.2.1 hc.2.2.2.2.2.1 hw.1 hw.2.1 hw.2.2 1 rfl rfl 9 (by decide) (hc.2.2.2.2.1.hts args _ lk) (fun _ h => h) rfl (by decide +kernel) rfl rfl (Nat.le_of_ble_eq_true rfl) d (fun H1 locs1 hP hD hS => k H1 locs1 ⟨hP, hD, hS⟩)
theorem gX_F_probes (hc : Cx p s m args c cc nL own meth ret D cl7 (tyX ca)) (hw : Wd D cl7 (wX ad ca) A s.heap σ H locs) {index : Nat} (lk : Cond.fieldLink own index "ProbeChoice$Fixture" "probes" "[I" ∈ lw_gd) (d : decode cc pc = .ok (.getfield index, 3)) (k : W p l e R s m args below meth c H locs cells slots Q (F0 m (pc + 3) ls (.ref (ad 20) :: rest))) : W p l e R s m args below meth c H locs cells slots Q (F0 m pc ls (.ref (ad 102) :: rest)) := va_get (D := D) (ci := 1) (C := R_F) (T := T_F) (N := 10) hc.1 hc.2.1 (hc.2.2.2.2.1.hts args) in_F hc.2.2.2.1 hc.2.2.2.2.2.1 hw.1 2 rfl rfl 0 (by decide) (hc.2.2.2.2.1.hts args _ lk) (fun _ h => h) rfl d k
theorem gnX_F_probes (hc : Cx p s m args c cc nL own meth ret D cl7 (tyX ca)) (hw : Wd D cl7 (wX ad ca) A s.heap σ H locs) {index : Nat} (lk : Cond.fieldLinkNest own index "ProbeChoice$Fixture" "probes" "[I" "ProbeChoice" ∈ lw_gd) (d : decode cc pc = .ok (.getfield index, 3)) (k : W p l e R s m args below meth c H locs cells slots Q (F0 m (pc + 3) ls (.ref (ad 20) :: rest))) : W p l e R s m args below meth c H locs cells slots Q (F0 m pc ls (.ref (ad 102) :: rest)) := va_getN (D := D) (ci := 1) (C := R_F) (T := T_F) (N := 10) hc.1 hc.2.1 (hc.2.2.2.2.1.hts args) in_F hc.2.2.2.1 hc.2.2.2.2.2.1 hw.1 2 rfl rfl 0 (by decide) (hc.2.2.2.2.1.hts args _ lk) (fun _ h => h) rfl d k
theorem ldX_F_probes (hc : Cx p s m args c cc nL own meth ret D cl7 (tyX ca)) (hw : Wd D cl7 (wX ad ca) A s.heap σ H locs) {i : Int} (d : decode cc pc = .ok (.iaload, 1)) (hi : 0 ≤ i ∧ i < 8) (k : W p l e R s m args below meth c H locs cells slots Q (F0 m (pc + 1) ls (.int (zI (σ 20 i)) :: rest))) : W p l e R s m args below meth c H locs cells slots Q (F0 m pc ls (.int (zI i) :: .ref (ad 20) :: rest)) := by
  refine va_iald (D := D) hc.1 hc.2.1 hc.2.2.2.2.2.1 hw.1 13 7 rfl rfl (zI_in hi.1 hi.2 (by decide)) d ?_
  show W p l e R s m args below meth c H locs cells slots Q (F0 m (pc + 1) ls (.int (zI (σ 20 (((zI i).toNatClampNeg : Nat) : Int))) :: rest))
  rw [zI_ix (n := 8) hi.1 hi.2 (by decide)]
  exact k
theorem stX_F_probes (hc : Cx p s m args c cc nL own meth ret D cl7 (tyX ca)) (hw : Wd D cl7 (wX ad ca) A s.heap σ H locs) {i v : Int} (d : decode cc pc = .ok (.iastore, 1)) (hi : 0 ≤ i ∧ i < 8) (k : ∀ (H1 : Heap) (locs1 : List Loc), Wd D cl7 (wX ad ca) A s.heap (up σ 20 i v) H1 locs1 → W p l e R s m args below meth c H1 locs1 cells slots Q (F0 m (pc + 1) ls rest)) : W p l e R s m args below meth c H locs cells slots Q (F0 m pc ls (.int (zI v) :: .int (zI i) :: .ref (ad 20) :: rest)) := by
  refine va_iast (D := D) hc.1 hc.2.1 hc.2.2.2.2.2.1 hw.1 hw.2.1 hw.2.2 13 7 rfl rfl (zI_in hi.1 hi.2 (by decide)) d (fun H1 locs1 hP hD hS => ?_)
  rw [updI_z (n := 8) hi.1 hi.2 (by decide)] at hP hD
  exact k H1 locs1 ⟨hP, hD, hS⟩
theorem gX_F_left (hc : Cx p s m args c cc nL own meth ret D cl7 (tyX ca)) (hw : Wd D cl7 (wX ad ca) A s.heap σ H locs) {index : Nat} (lk : Cond.fieldLink own index "ProbeChoice$Fixture" "left" "[I" ∈ lw_gd) (d : decode cc pc = .ok (.getfield index, 3)) (k : W p l e R s m args below meth c H locs cells slots Q (F0 m (pc + 3) ls (.ref (ad 21) :: rest))) : W p l e R s m args below meth c H locs cells slots Q (F0 m pc ls (.ref (ad 102) :: rest)) := va_get (D := D) (ci := 1) (C := R_F) (T := T_F) (N := 10) hc.1 hc.2.1 (hc.2.2.2.2.1.hts args) in_F hc.2.2.2.1 hc.2.2.2.2.2.1 hw.1 2 rfl rfl 1 (by decide) (hc.2.2.2.2.1.hts args _ lk) (fun _ h => h) rfl d k
theorem gnX_F_left (hc : Cx p s m args c cc nL own meth ret D cl7 (tyX ca)) (hw : Wd D cl7 (wX ad ca) A s.heap σ H locs) {index : Nat} (lk : Cond.fieldLinkNest own index "ProbeChoice$Fixture" "left" "[I" "ProbeChoice" ∈ lw_gd) (d : decode cc pc = .ok (.getfield index, 3)) (k : W p l e R s m args below meth c H locs cells slots Q (F0 m (pc + 3) ls (.ref (ad 21) :: rest))) : W p l e R s m args below meth c H locs cells slots Q (F0 m pc ls (.ref (ad 102) :: rest)) := va_getN (D := D) (ci := 1) (C := R_F) (T := T_F) (N := 10) hc.1 hc.2.1 (hc.2.2.2.2.1.hts args) in_F hc.2.2.2.1 hc.2.2.2.2.2.1 hw.1 2 rfl rfl 1 (by decide) (hc.2.2.2.2.1.hts args _ lk) (fun _ h => h) rfl d k
theorem ldX_F_left (hc : Cx p s m args c cc nL own meth ret D cl7 (tyX ca)) (hw : Wd D cl7 (wX ad ca) A s.heap σ H locs) {i : Int} (d : decode cc pc = .ok (.iaload, 1)) (hi : 0 ≤ i ∧ i < 8) (k : W p l e R s m args below meth c H locs cells slots Q (F0 m (pc + 1) ls (.int (zI (σ 21 i)) :: rest))) : W p l e R s m args below meth c H locs cells slots Q (F0 m pc ls (.int (zI i) :: .ref (ad 21) :: rest)) := by
  refine va_iald (D := D) hc.1 hc.2.1 hc.2.2.2.2.2.1 hw.1 14 8 rfl rfl (zI_in hi.1 hi.2 (by decide)) d ?_
  show W p l e R s m args below meth c H locs cells slots Q (F0 m (pc + 1) ls (.int (zI (σ 21 (((zI i).toNatClampNeg : Nat) : Int))) :: rest))
  rw [zI_ix (n := 8) hi.1 hi.2 (by decide)]
  exact k
theorem stX_F_left (hc : Cx p s m args c cc nL own meth ret D cl7 (tyX ca)) (hw : Wd D cl7 (wX ad ca) A s.heap σ H locs) {i v : Int} (d : decode cc pc = .ok (.iastore, 1)) (hi : 0 ≤ i ∧ i < 8) (k : ∀ (H1 : Heap) (locs1 : List Loc), Wd D cl7 (wX ad ca) A s.heap (up σ 21 i v) H1 locs1 → W p l e R s m args below meth c H1 locs1 cells slots Q (F0 m (pc + 1) ls rest)) : W p l e R s m args below meth c H locs cells slots Q (F0 m pc ls (.int (zI v) :: .int (zI i) :: .ref (ad 21) :: rest)) := by
  refine va_iast (D := D) hc.1 hc.2.1 hc.2.2.2.2.2.1 hw.1 hw.2.1 hw.2.2 14 8 rfl rfl (zI_in hi.1 hi.2 (by decide)) d (fun H1 locs1 hP hD hS => ?_)
  rw [updI_z (n := 8) hi.1 hi.2 (by decide)] at hP hD
  exact k H1 locs1 ⟨hP, hD, hS⟩
theorem gX_F_flown (hc : Cx p s m args c cc nL own meth ret D cl7 (tyX ca)) (hw : Wd D cl7 (wX ad ca) A s.heap σ H locs) {index : Nat} (lk : Cond.fieldLink own index "ProbeChoice$Fixture" "flown" "[I" ∈ lw_gd) (d : decode cc pc = .ok (.getfield index, 3)) (k : W p l e R s m args below meth c H locs cells slots Q (F0 m (pc + 3) ls (.ref (ad 22) :: rest))) : W p l e R s m args below meth c H locs cells slots Q (F0 m pc ls (.ref (ad 102) :: rest)) := va_get (D := D) (ci := 1) (C := R_F) (T := T_F) (N := 10) hc.1 hc.2.1 (hc.2.2.2.2.1.hts args) in_F hc.2.2.2.1 hc.2.2.2.2.2.1 hw.1 2 rfl rfl 2 (by decide) (hc.2.2.2.2.1.hts args _ lk) (fun _ h => h) rfl d k
theorem gnX_F_flown (hc : Cx p s m args c cc nL own meth ret D cl7 (tyX ca)) (hw : Wd D cl7 (wX ad ca) A s.heap σ H locs) {index : Nat} (lk : Cond.fieldLinkNest own index "ProbeChoice$Fixture" "flown" "[I" "ProbeChoice" ∈ lw_gd) (d : decode cc pc = .ok (.getfield index, 3)) (k : W p l e R s m args below meth c H locs cells slots Q (F0 m (pc + 3) ls (.ref (ad 22) :: rest))) : W p l e R s m args below meth c H locs cells slots Q (F0 m pc ls (.ref (ad 102) :: rest)) := va_getN (D := D) (ci := 1) (C := R_F) (T := T_F) (N := 10) hc.1 hc.2.1 (hc.2.2.2.2.1.hts args) in_F hc.2.2.2.1 hc.2.2.2.2.2.1 hw.1 2 rfl rfl 2 (by decide) (hc.2.2.2.2.1.hts args _ lk) (fun _ h => h) rfl d k
theorem ldX_F_flown (hc : Cx p s m args c cc nL own meth ret D cl7 (tyX ca)) (hw : Wd D cl7 (wX ad ca) A s.heap σ H locs) {i : Int} (d : decode cc pc = .ok (.iaload, 1)) (hi : 0 ≤ i ∧ i < 8) (k : W p l e R s m args below meth c H locs cells slots Q (F0 m (pc + 1) ls (.int (zI (σ 22 i)) :: rest))) : W p l e R s m args below meth c H locs cells slots Q (F0 m pc ls (.int (zI i) :: .ref (ad 22) :: rest)) := by
  refine va_iald (D := D) hc.1 hc.2.1 hc.2.2.2.2.2.1 hw.1 15 9 rfl rfl (zI_in hi.1 hi.2 (by decide)) d ?_
  show W p l e R s m args below meth c H locs cells slots Q (F0 m (pc + 1) ls (.int (zI (σ 22 (((zI i).toNatClampNeg : Nat) : Int))) :: rest))
  rw [zI_ix (n := 8) hi.1 hi.2 (by decide)]
  exact k
theorem stX_F_flown (hc : Cx p s m args c cc nL own meth ret D cl7 (tyX ca)) (hw : Wd D cl7 (wX ad ca) A s.heap σ H locs) {i v : Int} (d : decode cc pc = .ok (.iastore, 1)) (hi : 0 ≤ i ∧ i < 8) (k : ∀ (H1 : Heap) (locs1 : List Loc), Wd D cl7 (wX ad ca) A s.heap (up σ 22 i v) H1 locs1 → W p l e R s m args below meth c H1 locs1 cells slots Q (F0 m (pc + 1) ls rest)) : W p l e R s m args below meth c H locs cells slots Q (F0 m pc ls (.int (zI v) :: .int (zI i) :: .ref (ad 22) :: rest)) := by
  refine va_iast (D := D) hc.1 hc.2.1 hc.2.2.2.2.2.1 hw.1 hw.2.1 hw.2.2 15 9 rfl rfl (zI_in hi.1 hi.2 (by decide)) d (fun H1 locs1 hP hD hS => ?_)
  rw [updI_z (n := 8) hi.1 hi.2 (by decide)] at hP hD
  exact k H1 locs1 ⟨hP, hD, hS⟩
theorem gX_F_sorted (hc : Cx p s m args c cc nL own meth ret D cl7 (tyX ca)) (hw : Wd D cl7 (wX ad ca) A s.heap σ H locs) {index : Nat} (lk : Cond.fieldLink own index "ProbeChoice$Fixture" "sorted" "[I" ∈ lw_gd) (d : decode cc pc = .ok (.getfield index, 3)) (k : W p l e R s m args below meth c H locs cells slots Q (F0 m (pc + 3) ls (.ref (ad 23) :: rest))) : W p l e R s m args below meth c H locs cells slots Q (F0 m pc ls (.ref (ad 102) :: rest)) := va_get (D := D) (ci := 1) (C := R_F) (T := T_F) (N := 10) hc.1 hc.2.1 (hc.2.2.2.2.1.hts args) in_F hc.2.2.2.1 hc.2.2.2.2.2.1 hw.1 2 rfl rfl 3 (by decide) (hc.2.2.2.2.1.hts args _ lk) (fun _ h => h) rfl d k
theorem gnX_F_sorted (hc : Cx p s m args c cc nL own meth ret D cl7 (tyX ca)) (hw : Wd D cl7 (wX ad ca) A s.heap σ H locs) {index : Nat} (lk : Cond.fieldLinkNest own index "ProbeChoice$Fixture" "sorted" "[I" "ProbeChoice" ∈ lw_gd) (d : decode cc pc = .ok (.getfield index, 3)) (k : W p l e R s m args below meth c H locs cells slots Q (F0 m (pc + 3) ls (.ref (ad 23) :: rest))) : W p l e R s m args below meth c H locs cells slots Q (F0 m pc ls (.ref (ad 102) :: rest)) := va_getN (D := D) (ci := 1) (C := R_F) (T := T_F) (N := 10) hc.1 hc.2.1 (hc.2.2.2.2.1.hts args) in_F hc.2.2.2.1 hc.2.2.2.2.2.1 hw.1 2 rfl rfl 3 (by decide) (hc.2.2.2.2.1.hts args _ lk) (fun _ h => h) rfl d k
theorem ldX_F_sorted (hc : Cx p s m args c cc nL own meth ret D cl7 (tyX ca)) (hw : Wd D cl7 (wX ad ca) A s.heap σ H locs) {i : Int} (d : decode cc pc = .ok (.iaload, 1)) (hi : 0 ≤ i ∧ i < 8) (k : W p l e R s m args below meth c H locs cells slots Q (F0 m (pc + 1) ls (.int (zI (σ 23 i)) :: rest))) : W p l e R s m args below meth c H locs cells slots Q (F0 m pc ls (.int (zI i) :: .ref (ad 23) :: rest)) := by
  refine va_iald (D := D) hc.1 hc.2.1 hc.2.2.2.2.2.1 hw.1 16 10 rfl rfl (zI_in hi.1 hi.2 (by decide)) d ?_
  show W p l e R s m args below meth c H locs cells slots Q (F0 m (pc + 1) ls (.int (zI (σ 23 (((zI i).toNatClampNeg : Nat) : Int))) :: rest))
  rw [zI_ix (n := 8) hi.1 hi.2 (by decide)]
  exact k
theorem stX_F_sorted (hc : Cx p s m args c cc nL own meth ret D cl7 (tyX ca)) (hw : Wd D cl7 (wX ad ca) A s.heap σ H locs) {i v : Int} (d : decode cc pc = .ok (.iastore, 1)) (hi : 0 ≤ i ∧ i < 8) (k : ∀ (H1 : Heap) (locs1 : List Loc), Wd D cl7 (wX ad ca) A s.heap (up σ 23 i v) H1 locs1 → W p l e R s m args below meth c H1 locs1 cells slots Q (F0 m (pc + 1) ls rest)) : W p l e R s m args below meth c H locs cells slots Q (F0 m pc ls (.int (zI v) :: .int (zI i) :: .ref (ad 23) :: rest)) := by
  refine va_iast (D := D) hc.1 hc.2.1 hc.2.2.2.2.2.1 hw.1 hw.2.1 hw.2.2 16 10 rfl rfl (zI_in hi.1 hi.2 (by decide)) d (fun H1 locs1 hP hD hS => ?_)
  rw [updI_z (n := 8) hi.1 hi.2 (by decide)] at hP hD
  exact k H1 locs1 ⟨hP, hD, hS⟩
theorem gX_F_letters (hc : Cx p s m args c cc nL own meth ret D cl7 (tyX ca)) (hw : Wd D cl7 (wX ad ca) A s.heap σ H locs) {index : Nat} (lk : Cond.fieldLink own index "ProbeChoice$Fixture" "letters" "[C" ∈ lw_gd) (d : decode cc pc = .ok (.getfield index, 3)) (k : W p l e R s m args below meth c H locs cells slots Q (F0 m (pc + 3) ls (.ref (ad 24) :: rest))) : W p l e R s m args below meth c H locs cells slots Q (F0 m pc ls (.ref (ad 102) :: rest)) := va_get (D := D) (ci := 1) (C := R_F) (T := T_F) (N := 10) hc.1 hc.2.1 (hc.2.2.2.2.1.hts args) in_F hc.2.2.2.1 hc.2.2.2.2.2.1 hw.1 2 rfl rfl 4 (by decide) (hc.2.2.2.2.1.hts args _ lk) (fun _ h => h) rfl d k
theorem ldX_F_letters (hc : Cx p s m args c cc nL own meth ret D cl7 (tyX ca)) (hw : Wd D cl7 (wX ad ca) A s.heap σ H locs) {i : Int} (d : decode cc pc = .ok (.caload, 1)) (hi : 0 ≤ i ∧ i < 176) (k : W p l e R s m args below meth c H locs cells slots Q (F0 m (pc + 1) ls (.int (zI (σ 24 i)) :: rest))) : W p l e R s m args below meth c H locs cells slots Q (F0 m pc ls (.int (zI i) :: .ref (ad 24) :: rest)) := by
  refine va_cald (D := D) hc.1 hc.2.1 hc.2.2.2.2.2.1 hw.1 17 11 rfl rfl (zI_in hi.1 hi.2 (by decide)) d ?_
  show W p l e R s m args below meth c H locs cells slots Q (F0 m (pc + 1) ls (.int (zI (σ 24 (((zI i).toNatClampNeg : Nat) : Int))) :: rest))
  rw [zI_ix (n := 176) hi.1 hi.2 (by decide)]
  exact k
theorem stX_F_letters (hc : Cx p s m args c cc nL own meth ret D cl7 (tyX ca)) (hw : Wd D cl7 (wX ad ca) A s.heap σ H locs) {i v : Int} (d : decode cc pc = .ok (.castore, 1)) (hi : 0 ≤ i ∧ i < 176) (hv : 0 ≤ v ∧ v < 65536) (k : ∀ (H1 : Heap) (locs1 : List Loc), Wd D cl7 (wX ad ca) A s.heap (up σ 24 i v) H1 locs1 → W p l e R s m args below meth c H1 locs1 cells slots Q (F0 m (pc + 1) ls rest)) : W p l e R s m args below meth c H locs cells slots Q (F0 m pc ls (.int (zI v) :: .int (zI i) :: .ref (ad 24) :: rest)) := by
  refine va_cast (D := D) hc.1 hc.2.1 hc.2.2.2.2.2.1 hw.1 hw.2.1 hw.2.2 17 11 rfl rfl (zI_in hi.1 hi.2 (by decide)) d (fun H1 locs1 hP hD hS => ?_)
  rw [nar_c hv.1 hv.2, updI_z (n := 176) hi.1 hi.2 (by decide)] at hP hD
  exact k H1 locs1 ⟨hP, hD, hS⟩
theorem gX_F_probeCount (hc : Cx p s m args c cc nL own meth ret D cl7 (tyX ca)) (hw : Wd D cl7 (wX ad ca) A s.heap σ H locs) {index : Nat} (lk : Cond.fieldLink own index "ProbeChoice$Fixture" "probeCount" "I" ∈ lw_gd) (d : decode cc pc = .ok (.getfield index, 3)) (k : W p l e R s m args below meth c H locs cells slots Q (F0 m (pc + 3) ls (.int (zI (σ 25 0)) :: rest))) : W p l e R s m args below meth c H locs cells slots Q (F0 m pc ls (.ref (ad 102) :: rest)) := va_get (D := D) (ci := 1) (C := R_F) (T := T_F) (N := 10) hc.1 hc.2.1 (hc.2.2.2.2.1.hts args) in_F hc.2.2.2.1 hc.2.2.2.2.2.1 hw.1 2 rfl rfl 5 (by decide) (hc.2.2.2.2.1.hts args _ lk) (fun _ h => h) rfl d k
theorem gnX_F_probeCount (hc : Cx p s m args c cc nL own meth ret D cl7 (tyX ca)) (hw : Wd D cl7 (wX ad ca) A s.heap σ H locs) {index : Nat} (lk : Cond.fieldLinkNest own index "ProbeChoice$Fixture" "probeCount" "I" "ProbeChoice" ∈ lw_gd) (d : decode cc pc = .ok (.getfield index, 3)) (k : W p l e R s m args below meth c H locs cells slots Q (F0 m (pc + 3) ls (.int (zI (σ 25 0)) :: rest))) : W p l e R s m args below meth c H locs cells slots Q (F0 m pc ls (.ref (ad 102) :: rest)) := va_getN (D := D) (ci := 1) (C := R_F) (T := T_F) (N := 10) hc.1 hc.2.1 (hc.2.2.2.2.1.hts args) in_F hc.2.2.2.1 hc.2.2.2.2.2.1 hw.1 2 rfl rfl 5 (by decide) (hc.2.2.2.2.1.hts args _ lk) (fun _ h => h) rfl d k
theorem pX_F_probeCount (hc : Cx p s m args c cc nL own meth ret D cl7 (tyX ca)) (hw : Wd D cl7 (wX ad ca) A s.heap σ H locs) {index : Nat} {v : Int} (lk : Cond.fieldLink own index "ProbeChoice$Fixture" "probeCount" "I" ∈ lw_gd) (d : decode cc pc = .ok (.putfield index, 3)) (k : ∀ (H1 : Heap) (locs1 : List Loc), Wd D cl7 (wX ad ca) A s.heap (up σ 25 0 v) H1 locs1 → W p l e R s m args below meth c H1 locs1 cells slots Q (F0 m (pc + 3) ls rest)) : W p l e R s m args below meth c H locs cells slots Q (F0 m pc ls (.int (zI v) :: .ref (ad 102) :: rest)) :=
  va_put (D := D) (ci := 1) (C := R_F) (T := T_F) (N := 10) (ty := .int) hc.1 hc.2.1 (hc.2.2.2.2.1.hts args) in_F t_F t_F_ok n_F hc.2.2.2.1 hc.2.2.2.2.2.1 hw.1 hw.2.1 hw.2.2 2 rfl rfl 5 (by decide) (hc.2.2.2.2.1.hts args _ lk) (fun _ h => h) rfl (by decide +kernel) rfl rfl (Nat.le_of_ble_eq_true rfl) d (fun H1 locs1 hP hD hS => k H1 locs1 ⟨hP, hD, hS⟩)
theorem gX_F_leftCount (hc : Cx p s m args c cc nL own meth ret D cl7 (tyX ca)) (hw : Wd D cl7 (wX ad ca) A s.heap σ H locs) {index : Nat} (lk : Cond.fieldLink own index "ProbeChoice$Fixture" "leftCount" "I" ∈ lw_gd) (d : decode cc pc = .ok (.getfield index, 3)) (k : W p l e R s m args below meth c H locs cells slots Q (F0 m (pc + 3) ls (.int (zI (σ 26 0)) :: rest))) : W p l e R s m args below meth c H locs cells slots Q (F0 m pc ls (.ref (ad 102) :: rest)) := va_get (D := D) (ci := 1) (C := R_F) (T := T_F) (N := 10) hc.1 hc.2.1 (hc.2.2.2.2.1.hts args) in_F hc.2.2.2.1 hc.2.2.2.2.2.1 hw.1 2 rfl rfl 6 (by decide) (hc.2.2.2.2.1.hts args _ lk) (fun _ h => h) rfl d k
theorem gnX_F_leftCount (hc : Cx p s m args c cc nL own meth ret D cl7 (tyX ca)) (hw : Wd D cl7 (wX ad ca) A s.heap σ H locs) {index : Nat} (lk : Cond.fieldLinkNest own index "ProbeChoice$Fixture" "leftCount" "I" "ProbeChoice" ∈ lw_gd) (d : decode cc pc = .ok (.getfield index, 3)) (k : W p l e R s m args below meth c H locs cells slots Q (F0 m (pc + 3) ls (.int (zI (σ 26 0)) :: rest))) : W p l e R s m args below meth c H locs cells slots Q (F0 m pc ls (.ref (ad 102) :: rest)) := va_getN (D := D) (ci := 1) (C := R_F) (T := T_F) (N := 10) hc.1 hc.2.1 (hc.2.2.2.2.1.hts args) in_F hc.2.2.2.1 hc.2.2.2.2.2.1 hw.1 2 rfl rfl 6 (by decide) (hc.2.2.2.2.1.hts args _ lk) (fun _ h => h) rfl d k
theorem pX_F_leftCount (hc : Cx p s m args c cc nL own meth ret D cl7 (tyX ca)) (hw : Wd D cl7 (wX ad ca) A s.heap σ H locs) {index : Nat} {v : Int} (lk : Cond.fieldLink own index "ProbeChoice$Fixture" "leftCount" "I" ∈ lw_gd) (d : decode cc pc = .ok (.putfield index, 3)) (k : ∀ (H1 : Heap) (locs1 : List Loc), Wd D cl7 (wX ad ca) A s.heap (up σ 26 0 v) H1 locs1 → W p l e R s m args below meth c H1 locs1 cells slots Q (F0 m (pc + 3) ls rest)) : W p l e R s m args below meth c H locs cells slots Q (F0 m pc ls (.int (zI v) :: .ref (ad 102) :: rest)) :=
  va_put (D := D) (ci := 1) (C := R_F) (T := T_F) (N := 10) (ty := .int) hc.1 hc.2.1 (hc.2.2.2.2.1.hts args) in_F t_F t_F_ok n_F hc.2.2.2.1 hc.2.2.2.2.2.1 hw.1 hw.2.1 hw.2.2 2 rfl rfl 6 (by decide) (hc.2.2.2.2.1.hts args _ lk) (fun _ h => h) rfl (by decide +kernel) rfl rfl (Nat.le_of_ble_eq_true rfl) d (fun H1 locs1 hP hD hS => k H1 locs1 ⟨hP, hD, hS⟩)
theorem gX_F_length (hc : Cx p s m args c cc nL own meth ret D cl7 (tyX ca)) (hw : Wd D cl7 (wX ad ca) A s.heap σ H locs) {index : Nat} (lk : Cond.fieldLink own index "ProbeChoice$Fixture" "length" "I" ∈ lw_gd) (d : decode cc pc = .ok (.getfield index, 3)) (k : W p l e R s m args below meth c H locs cells slots Q (F0 m (pc + 3) ls (.int (zI (σ 27 0)) :: rest))) : W p l e R s m args below meth c H locs cells slots Q (F0 m pc ls (.ref (ad 102) :: rest)) := va_get (D := D) (ci := 1) (C := R_F) (T := T_F) (N := 10) hc.1 hc.2.1 (hc.2.2.2.2.1.hts args) in_F hc.2.2.2.1 hc.2.2.2.2.2.1 hw.1 2 rfl rfl 7 (by decide) (hc.2.2.2.2.1.hts args _ lk) (fun _ h => h) rfl d k
theorem pX_F_length (hc : Cx p s m args c cc nL own meth ret D cl7 (tyX ca)) (hw : Wd D cl7 (wX ad ca) A s.heap σ H locs) {index : Nat} {v : Int} (lk : Cond.fieldLink own index "ProbeChoice$Fixture" "length" "I" ∈ lw_gd) (d : decode cc pc = .ok (.putfield index, 3)) (k : ∀ (H1 : Heap) (locs1 : List Loc), Wd D cl7 (wX ad ca) A s.heap (up σ 27 0 v) H1 locs1 → W p l e R s m args below meth c H1 locs1 cells slots Q (F0 m (pc + 3) ls rest)) : W p l e R s m args below meth c H locs cells slots Q (F0 m pc ls (.int (zI v) :: .ref (ad 102) :: rest)) :=
  va_put (D := D) (ci := 1) (C := R_F) (T := T_F) (N := 10) (ty := .int) hc.1 hc.2.1 (hc.2.2.2.2.1.hts args) in_F t_F t_F_ok n_F hc.2.2.2.1 hc.2.2.2.2.2.1 hw.1 hw.2.1 hw.2.2 2 rfl rfl 7 (by decide) (hc.2.2.2.2.1.hts args _ lk) (fun _ h => h) rfl (by decide +kernel) rfl rfl (Nat.le_of_ble_eq_true rfl) d (fun H1 locs1 hP hD hS => k H1 locs1 ⟨hP, hD, hS⟩)
theorem gX_F_flightTime (hc : Cx p s m args c cc nL own meth ret D cl7 (tyX ca)) (hw : Wd D cl7 (wX ad ca) A s.heap σ H locs) {index : Nat} (lk : Cond.fieldLink own index "ProbeChoice$Fixture" "flightTime" "J" ∈ lw_gd) (d : decode cc pc = .ok (.getfield index, 3)) (k : W p l e R s m args below meth c H locs cells slots Q (F0 m (pc + 3) ls (.long (zL (σ 28 0)) :: rest))) : W p l e R s m args below meth c H locs cells slots Q (F0 m pc ls (.ref (ad 102) :: rest)) := va_get (D := D) (ci := 1) (C := R_F) (T := T_F) (N := 10) hc.1 hc.2.1 (hc.2.2.2.2.1.hts args) in_F hc.2.2.2.1 hc.2.2.2.2.2.1 hw.1 2 rfl rfl 8 (by decide) (hc.2.2.2.2.1.hts args _ lk) (fun _ h => h) rfl d k
theorem gnX_F_flightTime (hc : Cx p s m args c cc nL own meth ret D cl7 (tyX ca)) (hw : Wd D cl7 (wX ad ca) A s.heap σ H locs) {index : Nat} (lk : Cond.fieldLinkNest own index "ProbeChoice$Fixture" "flightTime" "J" "ProbeChoice" ∈ lw_gd) (d : decode cc pc = .ok (.getfield index, 3)) (k : W p l e R s m args below meth c H locs cells slots Q (F0 m (pc + 3) ls (.long (zL (σ 28 0)) :: rest))) : W p l e R s m args below meth c H locs cells slots Q (F0 m pc ls (.ref (ad 102) :: rest)) := va_getN (D := D) (ci := 1) (C := R_F) (T := T_F) (N := 10) hc.1 hc.2.1 (hc.2.2.2.2.1.hts args) in_F hc.2.2.2.1 hc.2.2.2.2.2.1 hw.1 2 rfl rfl 8 (by decide) (hc.2.2.2.2.1.hts args _ lk) (fun _ h => h) rfl d k
theorem pX_F_flightTime (hc : Cx p s m args c cc nL own meth ret D cl7 (tyX ca)) (hw : Wd D cl7 (wX ad ca) A s.heap σ H locs) {index : Nat} {v : Int} (lk : Cond.fieldLink own index "ProbeChoice$Fixture" "flightTime" "J" ∈ lw_gd) (d : decode cc pc = .ok (.putfield index, 3)) (k : ∀ (H1 : Heap) (locs1 : List Loc), Wd D cl7 (wX ad ca) A s.heap (up σ 28 0 v) H1 locs1 → W p l e R s m args below meth c H1 locs1 cells slots Q (F0 m (pc + 3) ls rest)) : W p l e R s m args below meth c H locs cells slots Q (F0 m pc ls (.long (zL v) :: .ref (ad 102) :: rest)) :=
  va_put (D := D) (ci := 1) (C := R_F) (T := T_F) (N := 10) (ty := .long) hc.1 hc.2.1 (hc.2.2.2.2.1.hts args) in_F t_F t_F_ok n_F hc.2.2.2.1 hc.2.2.2.2.2.1 hw.1 hw.2.1 hw.2.2 2 rfl rfl 8 (by decide) (hc.2.2.2.2.1.hts args _ lk) (fun _ h => h) rfl (by decide +kernel) rfl rfl (Nat.le_of_ble_eq_true rfl) d (fun H1 locs1 hP hD hS => k H1 locs1 ⟨hP, hD, hS⟩)
theorem gX_F_sawAll (hc : Cx p s m args c cc nL own meth ret D cl7 (tyX ca)) (hw : Wd D cl7 (wX ad ca) A s.heap σ H locs) {index : Nat} (lk : Cond.fieldLink own index "ProbeChoice$Fixture" "sawAll" "Z" ∈ lw_gd) (d : decode cc pc = .ok (.getfield index, 3)) (k : W p l e R s m args below meth c H locs cells slots Q (F0 m (pc + 3) ls (.int (zI (σ 29 0)) :: rest))) : W p l e R s m args below meth c H locs cells slots Q (F0 m pc ls (.ref (ad 102) :: rest)) := va_get (D := D) (ci := 1) (C := R_F) (T := T_F) (N := 10) hc.1 hc.2.1 (hc.2.2.2.2.1.hts args) in_F hc.2.2.2.1 hc.2.2.2.2.2.1 hw.1 2 rfl rfl 9 (by decide) (hc.2.2.2.2.1.hts args _ lk) (fun _ h => h) rfl d k
theorem gnX_F_sawAll (hc : Cx p s m args c cc nL own meth ret D cl7 (tyX ca)) (hw : Wd D cl7 (wX ad ca) A s.heap σ H locs) {index : Nat} (lk : Cond.fieldLinkNest own index "ProbeChoice$Fixture" "sawAll" "Z" "ProbeChoice" ∈ lw_gd) (d : decode cc pc = .ok (.getfield index, 3)) (k : W p l e R s m args below meth c H locs cells slots Q (F0 m (pc + 3) ls (.int (zI (σ 29 0)) :: rest))) : W p l e R s m args below meth c H locs cells slots Q (F0 m pc ls (.ref (ad 102) :: rest)) := va_getN (D := D) (ci := 1) (C := R_F) (T := T_F) (N := 10) hc.1 hc.2.1 (hc.2.2.2.2.1.hts args) in_F hc.2.2.2.1 hc.2.2.2.2.2.1 hw.1 2 rfl rfl 9 (by decide) (hc.2.2.2.2.1.hts args _ lk) (fun _ h => h) rfl d k
theorem pX_F_sawAll (hc : Cx p s m args c cc nL own meth ret D cl7 (tyX ca)) (hw : Wd D cl7 (wX ad ca) A s.heap σ H locs) {index : Nat} {v : Int} (lk : Cond.fieldLink own index "ProbeChoice$Fixture" "sawAll" "Z" ∈ lw_gd) (d : decode cc pc = .ok (.putfield index, 3)) (h01 : v = 0 ∨ v = 1) (k : ∀ (H1 : Heap) (locs1 : List Loc), Wd D cl7 (wX ad ca) A s.heap (up σ 29 0 v) H1 locs1 → W p l e R s m args below meth c H1 locs1 cells slots Q (F0 m (pc + 3) ls rest)) : W p l e R s m args below meth c H locs cells slots Q (F0 m pc ls (.int (zI v) :: .ref (ad 102) :: rest)) :=
  va_put (D := D) (ci := 1) (C := R_F) (T := T_F) (N := 10) (ty := .boolean) hc.1 hc.2.1 (hc.2.2.2.2.1.hts args) in_F t_F t_F_ok n_F hc.2.2.2.1 hc.2.2.2.2.2.1 hw.1 hw.2.1 hw.2.2 2 rfl rfl 9 (by decide) (hc.2.2.2.2.1.hts args _ lk) (fun _ h => h) rfl (by decide +kernel) (by rcases h01 with rfl | rfl <;> decide) (by rcases h01 with rfl | rfl <;> decide) (Nat.le_of_ble_eq_true rfl) d (fun H1 locs1 hP hD hS => k H1 locs1 ⟨hP, hD, hS⟩)
theorem gX_P_counts (hc : Cx p s m args c cc nL own meth ret D cl7 (tyX ca)) (hw : Wd D cl7 (wX ad ca) A s.heap σ H locs) {index : Nat} (lk : Cond.fieldLink own index "ProbeChoice$Parts" "counts" "[I" ∈ lw_gd) (d : decode cc pc = .ok (.getfield index, 3)) (k : W p l e R s m args below meth c H locs cells slots Q (F0 m (pc + 3) ls (.ref (ad 30) :: rest))) : W p l e R s m args below meth c H locs cells slots Q (F0 m pc ls (.ref (ad 103) :: rest)) := va_get (D := D) (ci := 2) (C := R_P) (T := T_P) (N := 4) hc.1 hc.2.1 (hc.2.2.2.2.1.hts args) in_P hc.2.2.2.1 hc.2.2.2.2.2.1 hw.1 3 rfl rfl 0 (by decide) (hc.2.2.2.2.1.hts args _ lk) (fun _ h => h) rfl d k
theorem ldX_P_counts (hc : Cx p s m args c cc nL own meth ret D cl7 (tyX ca)) (hw : Wd D cl7 (wX ad ca) A s.heap σ H locs) {i : Int} (d : decode cc pc = .ok (.iaload, 1)) (hi : 0 ≤ i ∧ i < 144) (k : W p l e R s m args below meth c H locs cells slots Q (F0 m (pc + 1) ls (.int (zI (σ 30 i)) :: rest))) : W p l e R s m args below meth c H locs cells slots Q (F0 m pc ls (.int (zI i) :: .ref (ad 30) :: rest)) := by
  refine va_iald (D := D) hc.1 hc.2.1 hc.2.2.2.2.2.1 hw.1 18 12 rfl rfl (zI_in hi.1 hi.2 (by decide)) d ?_
  show W p l e R s m args below meth c H locs cells slots Q (F0 m (pc + 1) ls (.int (zI (σ 30 (((zI i).toNatClampNeg : Nat) : Int))) :: rest))
  rw [zI_ix (n := 144) hi.1 hi.2 (by decide)]
  exact k
theorem stX_P_counts (hc : Cx p s m args c cc nL own meth ret D cl7 (tyX ca)) (hw : Wd D cl7 (wX ad ca) A s.heap σ H locs) {i v : Int} (d : decode cc pc = .ok (.iastore, 1)) (hi : 0 ≤ i ∧ i < 144) (k : ∀ (H1 : Heap) (locs1 : List Loc), Wd D cl7 (wX ad ca) A s.heap (up σ 30 i v) H1 locs1 → W p l e R s m args below meth c H1 locs1 cells slots Q (F0 m (pc + 1) ls rest)) : W p l e R s m args below meth c H locs cells slots Q (F0 m pc ls (.int (zI v) :: .int (zI i) :: .ref (ad 30) :: rest)) := by
  refine va_iast (D := D) hc.1 hc.2.1 hc.2.2.2.2.2.1 hw.1 hw.2.1 hw.2.2 18 12 rfl rfl (zI_in hi.1 hi.2 (by decide)) d (fun H1 locs1 hP hD hS => ?_)
  rw [updI_z (n := 144) hi.1 hi.2 (by decide)] at hP hD
  exact k H1 locs1 ⟨hP, hD, hS⟩
theorem gX_P_joined (hc : Cx p s m args c cc nL own meth ret D cl7 (tyX ca)) (hw : Wd D cl7 (wX ad ca) A s.heap σ H locs) {index : Nat} (lk : Cond.fieldLink own index "ProbeChoice$Parts" "joined" "[I" ∈ lw_gd) (d : decode cc pc = .ok (.getfield index, 3)) (k : W p l e R s m args below meth c H locs cells slots Q (F0 m (pc + 3) ls (.ref (ad 31) :: rest))) : W p l e R s m args below meth c H locs cells slots Q (F0 m pc ls (.ref (ad 103) :: rest)) := va_get (D := D) (ci := 2) (C := R_P) (T := T_P) (N := 4) hc.1 hc.2.1 (hc.2.2.2.2.1.hts args) in_P hc.2.2.2.1 hc.2.2.2.2.2.1 hw.1 3 rfl rfl 1 (by decide) (hc.2.2.2.2.1.hts args _ lk) (fun _ h => h) rfl d k
theorem ldX_P_joined (hc : Cx p s m args c cc nL own meth ret D cl7 (tyX ca)) (hw : Wd D cl7 (wX ad ca) A s.heap σ H locs) {i : Int} (d : decode cc pc = .ok (.iaload, 1)) (hi : 0 ≤ i ∧ i < 12) (k : W p l e R s m args below meth c H locs cells slots Q (F0 m (pc + 1) ls (.int (zI (σ 31 i)) :: rest))) : W p l e R s m args below meth c H locs cells slots Q (F0 m pc ls (.int (zI i) :: .ref (ad 31) :: rest)) := by
  refine va_iald (D := D) hc.1 hc.2.1 hc.2.2.2.2.2.1 hw.1 19 13 rfl rfl (zI_in hi.1 hi.2 (by decide)) d ?_
  show W p l e R s m args below meth c H locs cells slots Q (F0 m (pc + 1) ls (.int (zI (σ 31 (((zI i).toNatClampNeg : Nat) : Int))) :: rest))
  rw [zI_ix (n := 12) hi.1 hi.2 (by decide)]
  exact k
theorem stX_P_joined (hc : Cx p s m args c cc nL own meth ret D cl7 (tyX ca)) (hw : Wd D cl7 (wX ad ca) A s.heap σ H locs) {i v : Int} (d : decode cc pc = .ok (.iastore, 1)) (hi : 0 ≤ i ∧ i < 12) (k : ∀ (H1 : Heap) (locs1 : List Loc), Wd D cl7 (wX ad ca) A s.heap (up σ 31 i v) H1 locs1 → W p l e R s m args below meth c H1 locs1 cells slots Q (F0 m (pc + 1) ls rest)) : W p l e R s m args below meth c H locs cells slots Q (F0 m pc ls (.int (zI v) :: .int (zI i) :: .ref (ad 31) :: rest)) := by
  refine va_iast (D := D) hc.1 hc.2.1 hc.2.2.2.2.2.1 hw.1 hw.2.1 hw.2.2 19 13 rfl rfl (zI_in hi.1 hi.2 (by decide)) d (fun H1 locs1 hP hD hS => ?_)
  rw [updI_z (n := 12) hi.1 hi.2 (by decide)] at hP hD
  exact k H1 locs1 ⟨hP, hD, hS⟩
theorem gX_P_above (hc : Cx p s m args c cc nL own meth ret D cl7 (tyX ca)) (hw : Wd D cl7 (wX ad ca) A s.heap σ H locs) {index : Nat} (lk : Cond.fieldLink own index "ProbeChoice$Parts" "above" "[[J" ∈ lw_gd) (d : decode cc pc = .ok (.getfield index, 3)) (k : W p l e R s m args below meth c H locs cells slots Q (F0 m (pc + 3) ls (.ref (ad 36) :: rest))) : W p l e R s m args below meth c H locs cells slots Q (F0 m pc ls (.ref (ad 103) :: rest)) := va_get (D := D) (ci := 2) (C := R_P) (T := T_P) (N := 4) hc.1 hc.2.1 (hc.2.2.2.2.1.hts args) in_P hc.2.2.2.1 hc.2.2.2.2.2.1 hw.1 3 rfl rfl 2 (by decide) (hc.2.2.2.2.1.hts args _ lk) (fun _ h => h) rfl d k
theorem ldX_P_above0 (hc : Cx p s m args c cc nL own meth ret D cl7 (tyX ca)) (hw : Wd D cl7 (wX ad ca) A s.heap σ H locs) {i : Int} (d : decode cc pc = .ok (.laload, 1)) (hi : 0 ≤ i ∧ i < 144) (k : W p l e R s m args below meth c H locs cells slots Q (F0 m (pc + 1) ls (.long (zL (σ 32 i)) :: rest))) : W p l e R s m args below meth c H locs cells slots Q (F0 m pc ls (.int (zI i) :: .ref (ad 32) :: rest)) := by
  refine va_lald (D := D) hc.1 hc.2.1 hc.2.2.2.2.2.1 hw.1 21 15 rfl rfl (zI_in hi.1 hi.2 (by decide)) d ?_
  show W p l e R s m args below meth c H locs cells slots Q (F0 m (pc + 1) ls (.long (zL (σ 32 (((zI i).toNatClampNeg : Nat) : Int))) :: rest))
  rw [zI_ix (n := 144) hi.1 hi.2 (by decide)]
  exact k
theorem stX_P_above0 (hc : Cx p s m args c cc nL own meth ret D cl7 (tyX ca)) (hw : Wd D cl7 (wX ad ca) A s.heap σ H locs) {i v : Int} (d : decode cc pc = .ok (.lastore, 1)) (hi : 0 ≤ i ∧ i < 144) (k : ∀ (H1 : Heap) (locs1 : List Loc), Wd D cl7 (wX ad ca) A s.heap (up σ 32 i v) H1 locs1 → W p l e R s m args below meth c H1 locs1 cells slots Q (F0 m (pc + 1) ls rest)) : W p l e R s m args below meth c H locs cells slots Q (F0 m pc ls (.long (zL v) :: .int (zI i) :: .ref (ad 32) :: rest)) := by
  refine va_last (D := D) hc.1 hc.2.1 hc.2.2.2.2.2.1 hw.1 hw.2.1 hw.2.2 21 15 rfl rfl (zI_in hi.1 hi.2 (by decide)) d (fun H1 locs1 hP hD hS => ?_)
  rw [updL_z (n := 144) hi.1 hi.2 (by decide)] at hP hD
  exact k H1 locs1 ⟨hP, hD, hS⟩
theorem ldX_P_above1 (hc : Cx p s m args c cc nL own meth ret D cl7 (tyX ca)) (hw : Wd D cl7 (wX ad ca) A s.heap σ H locs) {i : Int} (d : decode cc pc = .ok (.laload, 1)) (hi : 0 ≤ i ∧ i < 144) (k : W p l e R s m args below meth c H locs cells slots Q (F0 m (pc + 1) ls (.long (zL (σ 33 i)) :: rest))) : W p l e R s m args below meth c H locs cells slots Q (F0 m pc ls (.int (zI i) :: .ref (ad 33) :: rest)) := by
  refine va_lald (D := D) hc.1 hc.2.1 hc.2.2.2.2.2.1 hw.1 22 16 rfl rfl (zI_in hi.1 hi.2 (by decide)) d ?_
  show W p l e R s m args below meth c H locs cells slots Q (F0 m (pc + 1) ls (.long (zL (σ 33 (((zI i).toNatClampNeg : Nat) : Int))) :: rest))
  rw [zI_ix (n := 144) hi.1 hi.2 (by decide)]
  exact k
theorem stX_P_above1 (hc : Cx p s m args c cc nL own meth ret D cl7 (tyX ca)) (hw : Wd D cl7 (wX ad ca) A s.heap σ H locs) {i v : Int} (d : decode cc pc = .ok (.lastore, 1)) (hi : 0 ≤ i ∧ i < 144) (k : ∀ (H1 : Heap) (locs1 : List Loc), Wd D cl7 (wX ad ca) A s.heap (up σ 33 i v) H1 locs1 → W p l e R s m args below meth c H1 locs1 cells slots Q (F0 m (pc + 1) ls rest)) : W p l e R s m args below meth c H locs cells slots Q (F0 m pc ls (.long (zL v) :: .int (zI i) :: .ref (ad 33) :: rest)) := by
  refine va_last (D := D) hc.1 hc.2.1 hc.2.2.2.2.2.1 hw.1 hw.2.1 hw.2.2 22 16 rfl rfl (zI_in hi.1 hi.2 (by decide)) d (fun H1 locs1 hP hD hS => ?_)
  rw [updL_z (n := 144) hi.1 hi.2 (by decide)] at hP hD
  exact k H1 locs1 ⟨hP, hD, hS⟩
theorem laX_P_above0 (hc : Cx p s m args c cc nL own meth ret D cl7 (tyX ca)) (hw : Wd D cl7 (wX ad ca) A s.heap σ H locs) (d : decode cc pc = .ok (.aaload, 1)) (k : W p l e R s m args below meth c H locs cells slots Q (F0 m (pc + 1) ls (.ref (ad 32) :: rest))) : W p l e R s m args below meth c H locs cells slots Q (F0 m pc ls (.int (zI 0) :: .ref (ad 36) :: rest)) :=
  aldA (D := D) hc.1 hc.2.1 hc.2.2.2.2.2.1 hw.1 20 14 rfl rfl (zI_in (by decide) (by decide) (by decide)) d k
theorem laX_P_above1 (hc : Cx p s m args c cc nL own meth ret D cl7 (tyX ca)) (hw : Wd D cl7 (wX ad ca) A s.heap σ H locs) (d : decode cc pc = .ok (.aaload, 1)) (k : W p l e R s m args below meth c H locs cells slots Q (F0 m (pc + 1) ls (.ref (ad 33) :: rest))) : W p l e R s m args below meth c H locs cells slots Q (F0 m pc ls (.int (zI 1) :: .ref (ad 36) :: rest)) :=
  aldA (D := D) hc.1 hc.2.1 hc.2.2.2.2.2.1 hw.1 20 14 rfl rfl (zI_in (by decide) (by decide) (by decide)) d k
theorem gX_P_below (hc : Cx p s m args c cc nL own meth ret D cl7 (tyX ca)) (hw : Wd D cl7 (wX ad ca) A s.heap σ H locs) {index : Nat} (lk : Cond.fieldLink own index "ProbeChoice$Parts" "below" "[[J" ∈ lw_gd) (d : decode cc pc = .ok (.getfield index, 3)) (k : W p l e R s m args below meth c H locs cells slots Q (F0 m (pc + 3) ls (.ref (ad 37) :: rest))) : W p l e R s m args below meth c H locs cells slots Q (F0 m pc ls (.ref (ad 103) :: rest)) := va_get (D := D) (ci := 2) (C := R_P) (T := T_P) (N := 4) hc.1 hc.2.1 (hc.2.2.2.2.1.hts args) in_P hc.2.2.2.1 hc.2.2.2.2.2.1 hw.1 3 rfl rfl 3 (by decide) (hc.2.2.2.2.1.hts args _ lk) (fun _ h => h) rfl d k
theorem ldX_P_below0 (hc : Cx p s m args c cc nL own meth ret D cl7 (tyX ca)) (hw : Wd D cl7 (wX ad ca) A s.heap σ H locs) {i : Int} (d : decode cc pc = .ok (.laload, 1)) (hi : 0 ≤ i ∧ i < 144) (k : W p l e R s m args below meth c H locs cells slots Q (F0 m (pc + 1) ls (.long (zL (σ 34 i)) :: rest))) : W p l e R s m args below meth c H locs cells slots Q (F0 m pc ls (.int (zI i) :: .ref (ad 34) :: rest)) := by
  refine va_lald (D := D) hc.1 hc.2.1 hc.2.2.2.2.2.1 hw.1 24 18 rfl rfl (zI_in hi.1 hi.2 (by decide)) d ?_
  show W p l e R s m args below meth c H locs cells slots Q (F0 m (pc + 1) ls (.long (zL (σ 34 (((zI i).toNatClampNeg : Nat) : Int))) :: rest))
  rw [zI_ix (n := 144) hi.1 hi.2 (by decide)]
  exact k
theorem stX_P_below0 (hc : Cx p s m args c cc nL own meth ret D cl7 (tyX ca)) (hw : Wd D cl7 (wX ad ca) A s.heap σ H locs) {i v : Int} (d : decode cc pc = .ok (.lastore, 1)) (hi : 0 ≤ i ∧ i < 144) (k : ∀ (H1 : Heap) (locs1 : List Loc), Wd D cl7 (wX ad ca) A s.heap (up σ 34 i v) H1 locs1 → W p l e R s m args below meth c H1 locs1 cells slots Q (F0 m (pc + 1) ls rest)) : W p l e R s m args below meth c H locs cells slots Q (F0 m pc ls (.long (zL v) :: .int (zI i) :: .ref (ad 34) :: rest)) := by
  refine va_last (D := D) hc.1 hc.2.1 hc.2.2.2.2.2.1 hw.1 hw.2.1 hw.2.2 24 18 rfl rfl (zI_in hi.1 hi.2 (by decide)) d (fun H1 locs1 hP hD hS => ?_)
  rw [updL_z (n := 144) hi.1 hi.2 (by decide)] at hP hD
  exact k H1 locs1 ⟨hP, hD, hS⟩
theorem ldX_P_below1 (hc : Cx p s m args c cc nL own meth ret D cl7 (tyX ca)) (hw : Wd D cl7 (wX ad ca) A s.heap σ H locs) {i : Int} (d : decode cc pc = .ok (.laload, 1)) (hi : 0 ≤ i ∧ i < 144) (k : W p l e R s m args below meth c H locs cells slots Q (F0 m (pc + 1) ls (.long (zL (σ 35 i)) :: rest))) : W p l e R s m args below meth c H locs cells slots Q (F0 m pc ls (.int (zI i) :: .ref (ad 35) :: rest)) := by
  refine va_lald (D := D) hc.1 hc.2.1 hc.2.2.2.2.2.1 hw.1 25 19 rfl rfl (zI_in hi.1 hi.2 (by decide)) d ?_
  show W p l e R s m args below meth c H locs cells slots Q (F0 m (pc + 1) ls (.long (zL (σ 35 (((zI i).toNatClampNeg : Nat) : Int))) :: rest))
  rw [zI_ix (n := 144) hi.1 hi.2 (by decide)]
  exact k
theorem stX_P_below1 (hc : Cx p s m args c cc nL own meth ret D cl7 (tyX ca)) (hw : Wd D cl7 (wX ad ca) A s.heap σ H locs) {i v : Int} (d : decode cc pc = .ok (.lastore, 1)) (hi : 0 ≤ i ∧ i < 144) (k : ∀ (H1 : Heap) (locs1 : List Loc), Wd D cl7 (wX ad ca) A s.heap (up σ 35 i v) H1 locs1 → W p l e R s m args below meth c H1 locs1 cells slots Q (F0 m (pc + 1) ls rest)) : W p l e R s m args below meth c H locs cells slots Q (F0 m pc ls (.long (zL v) :: .int (zI i) :: .ref (ad 35) :: rest)) := by
  refine va_last (D := D) hc.1 hc.2.1 hc.2.2.2.2.2.1 hw.1 hw.2.1 hw.2.2 25 19 rfl rfl (zI_in hi.1 hi.2 (by decide)) d (fun H1 locs1 hP hD hS => ?_)
  rw [updL_z (n := 144) hi.1 hi.2 (by decide)] at hP hD
  exact k H1 locs1 ⟨hP, hD, hS⟩
theorem laX_P_below0 (hc : Cx p s m args c cc nL own meth ret D cl7 (tyX ca)) (hw : Wd D cl7 (wX ad ca) A s.heap σ H locs) (d : decode cc pc = .ok (.aaload, 1)) (k : W p l e R s m args below meth c H locs cells slots Q (F0 m (pc + 1) ls (.ref (ad 34) :: rest))) : W p l e R s m args below meth c H locs cells slots Q (F0 m pc ls (.int (zI 0) :: .ref (ad 37) :: rest)) :=
  aldA (D := D) hc.1 hc.2.1 hc.2.2.2.2.2.1 hw.1 23 17 rfl rfl (zI_in (by decide) (by decide) (by decide)) d k
theorem laX_P_below1 (hc : Cx p s m args c cc nL own meth ret D cl7 (tyX ca)) (hw : Wd D cl7 (wX ad ca) A s.heap σ H locs) (d : decode cc pc = .ok (.aaload, 1)) (k : W p l e R s m args below meth c H locs cells slots Q (F0 m (pc + 1) ls (.ref (ad 35) :: rest))) : W p l e R s m args below meth c H locs cells slots Q (F0 m pc ls (.int (zI 1) :: .ref (ad 37) :: rest)) :=
  aldA (D := D) hc.1 hc.2.1 hc.2.2.2.2.2.1 hw.1 23 17 rfl rfl (zI_in (by decide) (by decide) (by decide)) d k
theorem gX_R_others (hc : Cx p s m args c cc nL own meth ret D cl7 (tyX ca)) (hw : Wd D cl7 (wX ad ca) A s.heap σ H locs) {index : Nat} (lk : Cond.fieldLink own index "ProbeChoice$Rows" "others" "[I" ∈ lw_gd) (d : decode cc pc = .ok (.getfield index, 3)) (k : W p l e R s m args below meth c H locs cells slots Q (F0 m (pc + 3) ls (.ref (ad 40) :: rest))) : W p l e R s m args below meth c H locs cells slots Q (F0 m pc ls (.ref (ad 104) :: rest)) := va_get (D := D) (ci := 3) (C := R_R) (T := T_R) (N := 4) hc.1 hc.2.1 (hc.2.2.2.2.1.hts args) in_R hc.2.2.2.1 hc.2.2.2.2.2.1 hw.1 4 rfl rfl 0 (by decide) (hc.2.2.2.2.1.hts args _ lk) (fun _ h => h) rfl d k
theorem ldX_R_others (hc : Cx p s m args c cc nL own meth ret D cl7 (tyX ca)) (hw : Wd D cl7 (wX ad ca) A s.heap σ H locs) {i : Int} (d : decode cc pc = .ok (.iaload, 1)) (hi : 0 ≤ i ∧ i < 12) (k : W p l e R s m args below meth c H locs cells slots Q (F0 m (pc + 1) ls (.int (zI (σ 40 i)) :: rest))) : W p l e R s m args below meth c H locs cells slots Q (F0 m pc ls (.int (zI i) :: .ref (ad 40) :: rest)) := by
  refine va_iald (D := D) hc.1 hc.2.1 hc.2.2.2.2.2.1 hw.1 26 20 rfl rfl (zI_in hi.1 hi.2 (by decide)) d ?_
  show W p l e R s m args below meth c H locs cells slots Q (F0 m (pc + 1) ls (.int (zI (σ 40 (((zI i).toNatClampNeg : Nat) : Int))) :: rest))
  rw [zI_ix (n := 12) hi.1 hi.2 (by decide)]
  exact k
theorem stX_R_others (hc : Cx p s m args c cc nL own meth ret D cl7 (tyX ca)) (hw : Wd D cl7 (wX ad ca) A s.heap σ H locs) {i v : Int} (d : decode cc pc = .ok (.iastore, 1)) (hi : 0 ≤ i ∧ i < 12) (k : ∀ (H1 : Heap) (locs1 : List Loc), Wd D cl7 (wX ad ca) A s.heap (up σ 40 i v) H1 locs1 → W p l e R s m args below meth c H1 locs1 cells slots Q (F0 m (pc + 1) ls rest)) : W p l e R s m args below meth c H locs cells slots Q (F0 m pc ls (.int (zI v) :: .int (zI i) :: .ref (ad 40) :: rest)) := by
  refine va_iast (D := D) hc.1 hc.2.1 hc.2.2.2.2.2.1 hw.1 hw.2.1 hw.2.2 26 20 rfl rfl (zI_in hi.1 hi.2 (by decide)) d (fun H1 locs1 hP hD hS => ?_)
  rw [updI_z (n := 12) hi.1 hi.2 (by decide)] at hP hD
  exact k H1 locs1 ⟨hP, hD, hS⟩
theorem gX_R_cover (hc : Cx p s m args c cc nL own meth ret D cl7 (tyX ca)) (hw : Wd D cl7 (wX ad ca) A s.heap σ H locs) {index : Nat} (lk : Cond.fieldLink own index "ProbeChoice$Rows" "cover" "I" ∈ lw_gd) (d : decode cc pc = .ok (.getfield index, 3)) (k : W p l e R s m args below meth c H locs cells slots Q (F0 m (pc + 3) ls (.int (zI (σ 41 0)) :: rest))) : W p l e R s m args below meth c H locs cells slots Q (F0 m pc ls (.ref (ad 104) :: rest)) := va_get (D := D) (ci := 3) (C := R_R) (T := T_R) (N := 4) hc.1 hc.2.1 (hc.2.2.2.2.1.hts args) in_R hc.2.2.2.1 hc.2.2.2.2.2.1 hw.1 4 rfl rfl 1 (by decide) (hc.2.2.2.2.1.hts args _ lk) (fun _ h => h) rfl d k
theorem pX_R_cover (hc : Cx p s m args c cc nL own meth ret D cl7 (tyX ca)) (hw : Wd D cl7 (wX ad ca) A s.heap σ H locs) {index : Nat} {v : Int} (lk : Cond.fieldLink own index "ProbeChoice$Rows" "cover" "I" ∈ lw_gd) (d : decode cc pc = .ok (.putfield index, 3)) (k : ∀ (H1 : Heap) (locs1 : List Loc), Wd D cl7 (wX ad ca) A s.heap (up σ 41 0 v) H1 locs1 → W p l e R s m args below meth c H1 locs1 cells slots Q (F0 m (pc + 3) ls rest)) : W p l e R s m args below meth c H locs cells slots Q (F0 m pc ls (.int (zI v) :: .ref (ad 104) :: rest)) :=
  va_put (D := D) (ci := 3) (C := R_R) (T := T_R) (N := 4) (ty := .int) hc.1 hc.2.1 (hc.2.2.2.2.1.hts args) in_R t_R t_R_ok n_R hc.2.2.2.1 hc.2.2.2.2.2.1 hw.1 hw.2.1 hw.2.2 4 rfl rfl 1 (by decide) (hc.2.2.2.2.1.hts args _ lk) (fun _ h => h) rfl (by decide +kernel) rfl rfl (Nat.le_of_ble_eq_true rfl) d (fun H1 locs1 hP hD hS => k H1 locs1 ⟨hP, hD, hS⟩)
theorem gX_R_coverSize (hc : Cx p s m args c cc nL own meth ret D cl7 (tyX ca)) (hw : Wd D cl7 (wX ad ca) A s.heap σ H locs) {index : Nat} (lk : Cond.fieldLink own index "ProbeChoice$Rows" "coverSize" "I" ∈ lw_gd) (d : decode cc pc = .ok (.getfield index, 3)) (k : W p l e R s m args below meth c H locs cells slots Q (F0 m (pc + 3) ls (.int (zI (σ 42 0)) :: rest))) : W p l e R s m args below meth c H locs cells slots Q (F0 m pc ls (.ref (ad 104) :: rest)) := va_get (D := D) (ci := 3) (C := R_R) (T := T_R) (N := 4) hc.1 hc.2.1 (hc.2.2.2.2.1.hts args) in_R hc.2.2.2.1 hc.2.2.2.2.2.1 hw.1 4 rfl rfl 2 (by decide) (hc.2.2.2.2.1.hts args _ lk) (fun _ h => h) rfl d k
theorem pX_R_coverSize (hc : Cx p s m args c cc nL own meth ret D cl7 (tyX ca)) (hw : Wd D cl7 (wX ad ca) A s.heap σ H locs) {index : Nat} {v : Int} (lk : Cond.fieldLink own index "ProbeChoice$Rows" "coverSize" "I" ∈ lw_gd) (d : decode cc pc = .ok (.putfield index, 3)) (k : ∀ (H1 : Heap) (locs1 : List Loc), Wd D cl7 (wX ad ca) A s.heap (up σ 42 0 v) H1 locs1 → W p l e R s m args below meth c H1 locs1 cells slots Q (F0 m (pc + 3) ls rest)) : W p l e R s m args below meth c H locs cells slots Q (F0 m pc ls (.int (zI v) :: .ref (ad 104) :: rest)) :=
  va_put (D := D) (ci := 3) (C := R_R) (T := T_R) (N := 4) (ty := .int) hc.1 hc.2.1 (hc.2.2.2.2.1.hts args) in_R t_R t_R_ok n_R hc.2.2.2.1 hc.2.2.2.2.2.1 hw.1 hw.2.1 hw.2.2 4 rfl rfl 2 (by decide) (hc.2.2.2.2.1.hts args _ lk) (fun _ h => h) rfl (by decide +kernel) rfl rfl (Nat.le_of_ble_eq_true rfl) d (fun H1 locs1 hP hD hS => k H1 locs1 ⟨hP, hD, hS⟩)
theorem gX_R_isStale (hc : Cx p s m args c cc nL own meth ret D cl7 (tyX ca)) (hw : Wd D cl7 (wX ad ca) A s.heap σ H locs) {index : Nat} (lk : Cond.fieldLink own index "ProbeChoice$Rows" "isStale" "Z" ∈ lw_gd) (d : decode cc pc = .ok (.getfield index, 3)) (k : W p l e R s m args below meth c H locs cells slots Q (F0 m (pc + 3) ls (.int (zI (σ 43 0)) :: rest))) : W p l e R s m args below meth c H locs cells slots Q (F0 m pc ls (.ref (ad 104) :: rest)) := va_get (D := D) (ci := 3) (C := R_R) (T := T_R) (N := 4) hc.1 hc.2.1 (hc.2.2.2.2.1.hts args) in_R hc.2.2.2.1 hc.2.2.2.2.2.1 hw.1 4 rfl rfl 3 (by decide) (hc.2.2.2.2.1.hts args _ lk) (fun _ h => h) rfl d k
theorem pX_R_isStale (hc : Cx p s m args c cc nL own meth ret D cl7 (tyX ca)) (hw : Wd D cl7 (wX ad ca) A s.heap σ H locs) {index : Nat} {v : Int} (lk : Cond.fieldLink own index "ProbeChoice$Rows" "isStale" "Z" ∈ lw_gd) (d : decode cc pc = .ok (.putfield index, 3)) (h01 : v = 0 ∨ v = 1) (k : ∀ (H1 : Heap) (locs1 : List Loc), Wd D cl7 (wX ad ca) A s.heap (up σ 43 0 v) H1 locs1 → W p l e R s m args below meth c H1 locs1 cells slots Q (F0 m (pc + 3) ls rest)) : W p l e R s m args below meth c H locs cells slots Q (F0 m pc ls (.int (zI v) :: .ref (ad 104) :: rest)) :=
  va_put (D := D) (ci := 3) (C := R_R) (T := T_R) (N := 4) (ty := .boolean) hc.1 hc.2.1 (hc.2.2.2.2.1.hts args) in_R t_R t_R_ok n_R hc.2.2.2.1 hc.2.2.2.2.2.1 hw.1 hw.2.1 hw.2.2 4 rfl rfl 3 (by decide) (hc.2.2.2.2.1.hts args _ lk) (fun _ h => h) rfl (by decide +kernel) (by rcases h01 with rfl | rfl <;> decide) (by rcases h01 with rfl | rfl <;> decide) (Nat.le_of_ble_eq_true rfl) d (fun H1 locs1 hP hD hS => k H1 locs1 ⟨hP, hD, hS⟩)
theorem gX_S_nets (hc : Cx p s m args c cc nL own meth ret D cl7 (tyX ca)) (hw : Wd D cl7 (wX ad ca) A s.heap σ H locs) {index : Nat} (lk : Cond.fieldLink own index "ProbeChoice$Search" "nets" "[I" ∈ lw_gd) (d : decode cc pc = .ok (.getfield index, 3)) (k : W p l e R s m args below meth c H locs cells slots Q (F0 m (pc + 3) ls (.ref (ad 10) :: rest))) : W p l e R s m args below meth c H locs cells slots Q (F0 m pc ls (.ref (ad 105) :: rest)) := va_get (D := D) (ci := 4) (C := R_S) (T := T_S) (N := 9) hc.1 hc.2.1 (hc.2.2.2.2.1.hts args) in_S hc.2.2.2.1 hc.2.2.2.2.2.1 hw.1 5 rfl rfl 0 (by decide) (hc.2.2.2.2.1.hts args _ lk) (fun _ h => h) rfl d k
theorem gnX_S_nets (hc : Cx p s m args c cc nL own meth ret D cl7 (tyX ca)) (hw : Wd D cl7 (wX ad ca) A s.heap σ H locs) {index : Nat} (lk : Cond.fieldLinkNest own index "ProbeChoice$Search" "nets" "[I" "ProbeChoice" ∈ lw_gd) (d : decode cc pc = .ok (.getfield index, 3)) (k : W p l e R s m args below meth c H locs cells slots Q (F0 m (pc + 3) ls (.ref (ad 10) :: rest))) : W p l e R s m args below meth c H locs cells slots Q (F0 m pc ls (.ref (ad 105) :: rest)) := va_getN (D := D) (ci := 4) (C := R_S) (T := T_S) (N := 9) hc.1 hc.2.1 (hc.2.2.2.2.1.hts args) in_S hc.2.2.2.1 hc.2.2.2.2.2.1 hw.1 5 rfl rfl 0 (by decide) (hc.2.2.2.2.1.hts args _ lk) (fun _ h => h) rfl d k
theorem ldX_S_nets (hc : Cx p s m args c cc nL own meth ret D cl7 (tyX ca)) (hw : Wd D cl7 (wX ad ca) A s.heap σ H locs) {i : Int} (d : decode cc pc = .ok (.iaload, 1)) (hi : 0 ≤ i ∧ i < 8) (k : W p l e R s m args below meth c H locs cells slots Q (F0 m (pc + 1) ls (.int (zI (σ 10 i)) :: rest))) : W p l e R s m args below meth c H locs cells slots Q (F0 m pc ls (.int (zI i) :: .ref (ad 10) :: rest)) := by
  refine va_iald (D := D) hc.1 hc.2.1 hc.2.2.2.2.2.1 hw.1 27 21 rfl rfl (zI_in hi.1 hi.2 (by decide)) d ?_
  show W p l e R s m args below meth c H locs cells slots Q (F0 m (pc + 1) ls (.int (zI (σ 10 (((zI i).toNatClampNeg : Nat) : Int))) :: rest))
  rw [zI_ix (n := 8) hi.1 hi.2 (by decide)]
  exact k
theorem stX_S_nets (hc : Cx p s m args c cc nL own meth ret D cl7 (tyX ca)) (hw : Wd D cl7 (wX ad ca) A s.heap σ H locs) {i v : Int} (d : decode cc pc = .ok (.iastore, 1)) (hi : 0 ≤ i ∧ i < 8) (k : ∀ (H1 : Heap) (locs1 : List Loc), Wd D cl7 (wX ad ca) A s.heap (up σ 10 i v) H1 locs1 → W p l e R s m args below meth c H1 locs1 cells slots Q (F0 m (pc + 1) ls rest)) : W p l e R s m args below meth c H locs cells slots Q (F0 m pc ls (.int (zI v) :: .int (zI i) :: .ref (ad 10) :: rest)) := by
  refine va_iast (D := D) hc.1 hc.2.1 hc.2.2.2.2.2.1 hw.1 hw.2.1 hw.2.2 27 21 rfl rfl (zI_in hi.1 hi.2 (by decide)) d (fun H1 locs1 hP hD hS => ?_)
  rw [updI_z (n := 8) hi.1 hi.2 (by decide)] at hP hD
  exact k H1 locs1 ⟨hP, hD, hS⟩
theorem gX_S_sizes (hc : Cx p s m args c cc nL own meth ret D cl7 (tyX ca)) (hw : Wd D cl7 (wX ad ca) A s.heap σ H locs) {index : Nat} (lk : Cond.fieldLink own index "ProbeChoice$Search" "sizes" "[I" ∈ lw_gd) (d : decode cc pc = .ok (.getfield index, 3)) (k : W p l e R s m args below meth c H locs cells slots Q (F0 m (pc + 3) ls (.ref (ad 11) :: rest))) : W p l e R s m args below meth c H locs cells slots Q (F0 m pc ls (.ref (ad 105) :: rest)) := va_get (D := D) (ci := 4) (C := R_S) (T := T_S) (N := 9) hc.1 hc.2.1 (hc.2.2.2.2.1.hts args) in_S hc.2.2.2.1 hc.2.2.2.2.2.1 hw.1 5 rfl rfl 1 (by decide) (hc.2.2.2.2.1.hts args _ lk) (fun _ h => h) rfl d k
theorem ldX_S_sizes (hc : Cx p s m args c cc nL own meth ret D cl7 (tyX ca)) (hw : Wd D cl7 (wX ad ca) A s.heap σ H locs) {i : Int} (d : decode cc pc = .ok (.iaload, 1)) (hi : 0 ≤ i ∧ i < 8) (k : W p l e R s m args below meth c H locs cells slots Q (F0 m (pc + 1) ls (.int (zI (σ 11 i)) :: rest))) : W p l e R s m args below meth c H locs cells slots Q (F0 m pc ls (.int (zI i) :: .ref (ad 11) :: rest)) := by
  refine va_iald (D := D) hc.1 hc.2.1 hc.2.2.2.2.2.1 hw.1 28 22 rfl rfl (zI_in hi.1 hi.2 (by decide)) d ?_
  show W p l e R s m args below meth c H locs cells slots Q (F0 m (pc + 1) ls (.int (zI (σ 11 (((zI i).toNatClampNeg : Nat) : Int))) :: rest))
  rw [zI_ix (n := 8) hi.1 hi.2 (by decide)]
  exact k
theorem stX_S_sizes (hc : Cx p s m args c cc nL own meth ret D cl7 (tyX ca)) (hw : Wd D cl7 (wX ad ca) A s.heap σ H locs) {i v : Int} (d : decode cc pc = .ok (.iastore, 1)) (hi : 0 ≤ i ∧ i < 8) (k : ∀ (H1 : Heap) (locs1 : List Loc), Wd D cl7 (wX ad ca) A s.heap (up σ 11 i v) H1 locs1 → W p l e R s m args below meth c H1 locs1 cells slots Q (F0 m (pc + 1) ls rest)) : W p l e R s m args below meth c H locs cells slots Q (F0 m pc ls (.int (zI v) :: .int (zI i) :: .ref (ad 11) :: rest)) := by
  refine va_iast (D := D) hc.1 hc.2.1 hc.2.2.2.2.2.1 hw.1 hw.2.1 hw.2.2 28 22 rfl rfl (zI_in hi.1 hi.2 (by decide)) d (fun H1 locs1 hP hD hS => ?_)
  rw [updI_z (n := 8) hi.1 hi.2 (by decide)] at hP hD
  exact k H1 locs1 ⟨hP, hD, hS⟩
theorem gX_S_points (hc : Cx p s m args c cc nL own meth ret D cl7 (tyX ca)) (hw : Wd D cl7 (wX ad ca) A s.heap σ H locs) {index : Nat} (lk : Cond.fieldLink own index "ProbeChoice$Search" "points" "[I" ∈ lw_gd) (d : decode cc pc = .ok (.getfield index, 3)) (k : W p l e R s m args below meth c H locs cells slots Q (F0 m (pc + 3) ls (.ref (ad 12) :: rest))) : W p l e R s m args below meth c H locs cells slots Q (F0 m pc ls (.ref (ad 105) :: rest)) := va_get (D := D) (ci := 4) (C := R_S) (T := T_S) (N := 9) hc.1 hc.2.1 (hc.2.2.2.2.1.hts args) in_S hc.2.2.2.1 hc.2.2.2.2.2.1 hw.1 5 rfl rfl 2 (by decide) (hc.2.2.2.2.1.hts args _ lk) (fun _ h => h) rfl d k
theorem ldX_S_points (hc : Cx p s m args c cc nL own meth ret D cl7 (tyX ca)) (hw : Wd D cl7 (wX ad ca) A s.heap σ H locs) {i : Int} (d : decode cc pc = .ok (.iaload, 1)) (hi : 0 ≤ i ∧ i < 24) (k : W p l e R s m args below meth c H locs cells slots Q (F0 m (pc + 1) ls (.int (zI (σ 12 i)) :: rest))) : W p l e R s m args below meth c H locs cells slots Q (F0 m pc ls (.int (zI i) :: .ref (ad 12) :: rest)) := by
  refine va_iald (D := D) hc.1 hc.2.1 hc.2.2.2.2.2.1 hw.1 29 23 rfl rfl (zI_in hi.1 hi.2 (by decide)) d ?_
  show W p l e R s m args below meth c H locs cells slots Q (F0 m (pc + 1) ls (.int (zI (σ 12 (((zI i).toNatClampNeg : Nat) : Int))) :: rest))
  rw [zI_ix (n := 24) hi.1 hi.2 (by decide)]
  exact k
theorem stX_S_points (hc : Cx p s m args c cc nL own meth ret D cl7 (tyX ca)) (hw : Wd D cl7 (wX ad ca) A s.heap σ H locs) {i v : Int} (d : decode cc pc = .ok (.iastore, 1)) (hi : 0 ≤ i ∧ i < 24) (k : ∀ (H1 : Heap) (locs1 : List Loc), Wd D cl7 (wX ad ca) A s.heap (up σ 12 i v) H1 locs1 → W p l e R s m args below meth c H1 locs1 cells slots Q (F0 m (pc + 1) ls rest)) : W p l e R s m args below meth c H locs cells slots Q (F0 m pc ls (.int (zI v) :: .int (zI i) :: .ref (ad 12) :: rest)) := by
  refine va_iast (D := D) hc.1 hc.2.1 hc.2.2.2.2.2.1 hw.1 hw.2.1 hw.2.2 29 23 rfl rfl (zI_in hi.1 hi.2 (by decide)) d (fun H1 locs1 hP hD hS => ?_)
  rw [updI_z (n := 24) hi.1 hi.2 (by decide)] at hP hD
  exact k H1 locs1 ⟨hP, hD, hS⟩
theorem gX_S_worths (hc : Cx p s m args c cc nL own meth ret D cl7 (tyX ca)) (hw : Wd D cl7 (wX ad ca) A s.heap σ H locs) {index : Nat} (lk : Cond.fieldLink own index "ProbeChoice$Search" "worths" "[J" ∈ lw_gd) (d : decode cc pc = .ok (.getfield index, 3)) (k : W p l e R s m args below meth c H locs cells slots Q (F0 m (pc + 3) ls (.ref (ad 13) :: rest))) : W p l e R s m args below meth c H locs cells slots Q (F0 m pc ls (.ref (ad 105) :: rest)) := va_get (D := D) (ci := 4) (C := R_S) (T := T_S) (N := 9) hc.1 hc.2.1 (hc.2.2.2.2.1.hts args) in_S hc.2.2.2.1 hc.2.2.2.2.2.1 hw.1 5 rfl rfl 3 (by decide) (hc.2.2.2.2.1.hts args _ lk) (fun _ h => h) rfl d k
theorem ldX_S_worths (hc : Cx p s m args c cc nL own meth ret D cl7 (tyX ca)) (hw : Wd D cl7 (wX ad ca) A s.heap σ H locs) {i : Int} (d : decode cc pc = .ok (.laload, 1)) (hi : 0 ≤ i ∧ i < 24) (k : W p l e R s m args below meth c H locs cells slots Q (F0 m (pc + 1) ls (.long (zL (σ 13 i)) :: rest))) : W p l e R s m args below meth c H locs cells slots Q (F0 m pc ls (.int (zI i) :: .ref (ad 13) :: rest)) := by
  refine va_lald (D := D) hc.1 hc.2.1 hc.2.2.2.2.2.1 hw.1 30 24 rfl rfl (zI_in hi.1 hi.2 (by decide)) d ?_
  show W p l e R s m args below meth c H locs cells slots Q (F0 m (pc + 1) ls (.long (zL (σ 13 (((zI i).toNatClampNeg : Nat) : Int))) :: rest))
  rw [zI_ix (n := 24) hi.1 hi.2 (by decide)]
  exact k
theorem stX_S_worths (hc : Cx p s m args c cc nL own meth ret D cl7 (tyX ca)) (hw : Wd D cl7 (wX ad ca) A s.heap σ H locs) {i v : Int} (d : decode cc pc = .ok (.lastore, 1)) (hi : 0 ≤ i ∧ i < 24) (k : ∀ (H1 : Heap) (locs1 : List Loc), Wd D cl7 (wX ad ca) A s.heap (up σ 13 i v) H1 locs1 → W p l e R s m args below meth c H1 locs1 cells slots Q (F0 m (pc + 1) ls rest)) : W p l e R s m args below meth c H locs cells slots Q (F0 m pc ls (.long (zL v) :: .int (zI i) :: .ref (ad 13) :: rest)) := by
  refine va_last (D := D) hc.1 hc.2.1 hc.2.2.2.2.2.1 hw.1 hw.2.1 hw.2.2 30 24 rfl rfl (zI_in hi.1 hi.2 (by decide)) d (fun H1 locs1 hP hD hS => ?_)
  rw [updL_z (n := 24) hi.1 hi.2 (by decide)] at hP hD
  exact k H1 locs1 ⟨hP, hD, hS⟩
theorem gX_S_clashes (hc : Cx p s m args c cc nL own meth ret D cl7 (tyX ca)) (hw : Wd D cl7 (wX ad ca) A s.heap σ H locs) {index : Nat} (lk : Cond.fieldLink own index "ProbeChoice$Search" "clashes" "[I" ∈ lw_gd) (d : decode cc pc = .ok (.getfield index, 3)) (k : W p l e R s m args below meth c H locs cells slots Q (F0 m (pc + 3) ls (.ref (ad 14) :: rest))) : W p l e R s m args below meth c H locs cells slots Q (F0 m pc ls (.ref (ad 105) :: rest)) := va_get (D := D) (ci := 4) (C := R_S) (T := T_S) (N := 9) hc.1 hc.2.1 (hc.2.2.2.2.1.hts args) in_S hc.2.2.2.1 hc.2.2.2.2.2.1 hw.1 5 rfl rfl 4 (by decide) (hc.2.2.2.2.1.hts args _ lk) (fun _ h => h) rfl d k
theorem ldX_S_clashes (hc : Cx p s m args c cc nL own meth ret D cl7 (tyX ca)) (hw : Wd D cl7 (wX ad ca) A s.heap σ H locs) {i : Int} (d : decode cc pc = .ok (.iaload, 1)) (hi : 0 ≤ i ∧ i < 24) (k : W p l e R s m args below meth c H locs cells slots Q (F0 m (pc + 1) ls (.int (zI (σ 14 i)) :: rest))) : W p l e R s m args below meth c H locs cells slots Q (F0 m pc ls (.int (zI i) :: .ref (ad 14) :: rest)) := by
  refine va_iald (D := D) hc.1 hc.2.1 hc.2.2.2.2.2.1 hw.1 31 25 rfl rfl (zI_in hi.1 hi.2 (by decide)) d ?_
  show W p l e R s m args below meth c H locs cells slots Q (F0 m (pc + 1) ls (.int (zI (σ 14 (((zI i).toNatClampNeg : Nat) : Int))) :: rest))
  rw [zI_ix (n := 24) hi.1 hi.2 (by decide)]
  exact k
theorem stX_S_clashes (hc : Cx p s m args c cc nL own meth ret D cl7 (tyX ca)) (hw : Wd D cl7 (wX ad ca) A s.heap σ H locs) {i v : Int} (d : decode cc pc = .ok (.iastore, 1)) (hi : 0 ≤ i ∧ i < 24) (k : ∀ (H1 : Heap) (locs1 : List Loc), Wd D cl7 (wX ad ca) A s.heap (up σ 14 i v) H1 locs1 → W p l e R s m args below meth c H1 locs1 cells slots Q (F0 m (pc + 1) ls rest)) : W p l e R s m args below meth c H locs cells slots Q (F0 m pc ls (.int (zI v) :: .int (zI i) :: .ref (ad 14) :: rest)) := by
  refine va_iast (D := D) hc.1 hc.2.1 hc.2.2.2.2.2.1 hw.1 hw.2.1 hw.2.2 31 25 rfl rfl (zI_in hi.1 hi.2 (by decide)) d (fun H1 locs1 hP hD hS => ?_)
  rw [updI_z (n := 24) hi.1 hi.2 (by decide)] at hP hD
  exact k H1 locs1 ⟨hP, hD, hS⟩
theorem gX_S_tried (hc : Cx p s m args c cc nL own meth ret D cl7 (tyX ca)) (hw : Wd D cl7 (wX ad ca) A s.heap σ H locs) {index : Nat} (lk : Cond.fieldLink own index "ProbeChoice$Search" "tried" "[I" ∈ lw_gd) (d : decode cc pc = .ok (.getfield index, 3)) (k : W p l e R s m args below meth c H locs cells slots Q (F0 m (pc + 3) ls (.ref (ad 15) :: rest))) : W p l e R s m args below meth c H locs cells slots Q (F0 m pc ls (.ref (ad 105) :: rest)) := va_get (D := D) (ci := 4) (C := R_S) (T := T_S) (N := 9) hc.1 hc.2.1 (hc.2.2.2.2.1.hts args) in_S hc.2.2.2.1 hc.2.2.2.2.2.1 hw.1 5 rfl rfl 5 (by decide) (hc.2.2.2.2.1.hts args _ lk) (fun _ h => h) rfl d k
theorem ldX_S_tried (hc : Cx p s m args c cc nL own meth ret D cl7 (tyX ca)) (hw : Wd D cl7 (wX ad ca) A s.heap σ H locs) {i : Int} (d : decode cc pc = .ok (.iaload, 1)) (hi : 0 ≤ i ∧ i < 8) (k : W p l e R s m args below meth c H locs cells slots Q (F0 m (pc + 1) ls (.int (zI (σ 15 i)) :: rest))) : W p l e R s m args below meth c H locs cells slots Q (F0 m pc ls (.int (zI i) :: .ref (ad 15) :: rest)) := by
  refine va_iald (D := D) hc.1 hc.2.1 hc.2.2.2.2.2.1 hw.1 32 26 rfl rfl (zI_in hi.1 hi.2 (by decide)) d ?_
  show W p l e R s m args below meth c H locs cells slots Q (F0 m (pc + 1) ls (.int (zI (σ 15 (((zI i).toNatClampNeg : Nat) : Int))) :: rest))
  rw [zI_ix (n := 8) hi.1 hi.2 (by decide)]
  exact k
theorem stX_S_tried (hc : Cx p s m args c cc nL own meth ret D cl7 (tyX ca)) (hw : Wd D cl7 (wX ad ca) A s.heap σ H locs) {i v : Int} (d : decode cc pc = .ok (.iastore, 1)) (hi : 0 ≤ i ∧ i < 8) (k : ∀ (H1 : Heap) (locs1 : List Loc), Wd D cl7 (wX ad ca) A s.heap (up σ 15 i v) H1 locs1 → W p l e R s m args below meth c H1 locs1 cells slots Q (F0 m (pc + 1) ls rest)) : W p l e R s m args below meth c H locs cells slots Q (F0 m pc ls (.int (zI v) :: .int (zI i) :: .ref (ad 15) :: rest)) := by
  refine va_iast (D := D) hc.1 hc.2.1 hc.2.2.2.2.2.1 hw.1 hw.2.1 hw.2.2 32 26 rfl rfl (zI_in hi.1 hi.2 (by decide)) d (fun H1 locs1 hP hD hS => ?_)
  rw [updI_z (n := 8) hi.1 hi.2 (by decide)] at hP hD
  exact k H1 locs1 ⟨hP, hD, hS⟩
theorem gX_S_best (hc : Cx p s m args c cc nL own meth ret D cl7 (tyX ca)) (hw : Wd D cl7 (wX ad ca) A s.heap σ H locs) {index : Nat} (lk : Cond.fieldLink own index "ProbeChoice$Search" "best" "[I" ∈ lw_gd) (d : decode cc pc = .ok (.getfield index, 3)) (k : W p l e R s m args below meth c H locs cells slots Q (F0 m (pc + 3) ls (.ref (ad 16) :: rest))) : W p l e R s m args below meth c H locs cells slots Q (F0 m pc ls (.ref (ad 105) :: rest)) := va_get (D := D) (ci := 4) (C := R_S) (T := T_S) (N := 9) hc.1 hc.2.1 (hc.2.2.2.2.1.hts args) in_S hc.2.2.2.1 hc.2.2.2.2.2.1 hw.1 5 rfl rfl 6 (by decide) (hc.2.2.2.2.1.hts args _ lk) (fun _ h => h) rfl d k
theorem gnX_S_best (hc : Cx p s m args c cc nL own meth ret D cl7 (tyX ca)) (hw : Wd D cl7 (wX ad ca) A s.heap σ H locs) {index : Nat} (lk : Cond.fieldLinkNest own index "ProbeChoice$Search" "best" "[I" "ProbeChoice" ∈ lw_gd) (d : decode cc pc = .ok (.getfield index, 3)) (k : W p l e R s m args below meth c H locs cells slots Q (F0 m (pc + 3) ls (.ref (ad 16) :: rest))) : W p l e R s m args below meth c H locs cells slots Q (F0 m pc ls (.ref (ad 105) :: rest)) := va_getN (D := D) (ci := 4) (C := R_S) (T := T_S) (N := 9) hc.1 hc.2.1 (hc.2.2.2.2.1.hts args) in_S hc.2.2.2.1 hc.2.2.2.2.2.1 hw.1 5 rfl rfl 6 (by decide) (hc.2.2.2.2.1.hts args _ lk) (fun _ h => h) rfl d k
theorem ldX_S_best (hc : Cx p s m args c cc nL own meth ret D cl7 (tyX ca)) (hw : Wd D cl7 (wX ad ca) A s.heap σ H locs) {i : Int} (d : decode cc pc = .ok (.iaload, 1)) (hi : 0 ≤ i ∧ i < 8) (k : W p l e R s m args below meth c H locs cells slots Q (F0 m (pc + 1) ls (.int (zI (σ 16 i)) :: rest))) : W p l e R s m args below meth c H locs cells slots Q (F0 m pc ls (.int (zI i) :: .ref (ad 16) :: rest)) := by
  refine va_iald (D := D) hc.1 hc.2.1 hc.2.2.2.2.2.1 hw.1 33 27 rfl rfl (zI_in hi.1 hi.2 (by decide)) d ?_
  show W p l e R s m args below meth c H locs cells slots Q (F0 m (pc + 1) ls (.int (zI (σ 16 (((zI i).toNatClampNeg : Nat) : Int))) :: rest))
  rw [zI_ix (n := 8) hi.1 hi.2 (by decide)]
  exact k
theorem stX_S_best (hc : Cx p s m args c cc nL own meth ret D cl7 (tyX ca)) (hw : Wd D cl7 (wX ad ca) A s.heap σ H locs) {i v : Int} (d : decode cc pc = .ok (.iastore, 1)) (hi : 0 ≤ i ∧ i < 8) (k : ∀ (H1 : Heap) (locs1 : List Loc), Wd D cl7 (wX ad ca) A s.heap (up σ 16 i v) H1 locs1 → W p l e R s m args below meth c H1 locs1 cells slots Q (F0 m (pc + 1) ls rest)) : W p l e R s m args below meth c H locs cells slots Q (F0 m pc ls (.int (zI v) :: .int (zI i) :: .ref (ad 16) :: rest)) := by
  refine va_iast (D := D) hc.1 hc.2.1 hc.2.2.2.2.2.1 hw.1 hw.2.1 hw.2.2 33 27 rfl rfl (zI_in hi.1 hi.2 (by decide)) d (fun H1 locs1 hP hD hS => ?_)
  rw [updI_z (n := 8) hi.1 hi.2 (by decide)] at hP hD
  exact k H1 locs1 ⟨hP, hD, hS⟩
theorem gX_S_looked (hc : Cx p s m args c cc nL own meth ret D cl7 (tyX ca)) (hw : Wd D cl7 (wX ad ca) A s.heap σ H locs) {index : Nat} (lk : Cond.fieldLink own index "ProbeChoice$Search" "looked" "I" ∈ lw_gd) (d : decode cc pc = .ok (.getfield index, 3)) (k : W p l e R s m args below meth c H locs cells slots Q (F0 m (pc + 3) ls (.int (zI (σ 17 0)) :: rest))) : W p l e R s m args below meth c H locs cells slots Q (F0 m pc ls (.ref (ad 105) :: rest)) := va_get (D := D) (ci := 4) (C := R_S) (T := T_S) (N := 9) hc.1 hc.2.1 (hc.2.2.2.2.1.hts args) in_S hc.2.2.2.1 hc.2.2.2.2.2.1 hw.1 5 rfl rfl 7 (by decide) (hc.2.2.2.2.1.hts args _ lk) (fun _ h => h) rfl d k
theorem gnX_S_looked (hc : Cx p s m args c cc nL own meth ret D cl7 (tyX ca)) (hw : Wd D cl7 (wX ad ca) A s.heap σ H locs) {index : Nat} (lk : Cond.fieldLinkNest own index "ProbeChoice$Search" "looked" "I" "ProbeChoice" ∈ lw_gd) (d : decode cc pc = .ok (.getfield index, 3)) (k : W p l e R s m args below meth c H locs cells slots Q (F0 m (pc + 3) ls (.int (zI (σ 17 0)) :: rest))) : W p l e R s m args below meth c H locs cells slots Q (F0 m pc ls (.ref (ad 105) :: rest)) := va_getN (D := D) (ci := 4) (C := R_S) (T := T_S) (N := 9) hc.1 hc.2.1 (hc.2.2.2.2.1.hts args) in_S hc.2.2.2.1 hc.2.2.2.2.2.1 hw.1 5 rfl rfl 7 (by decide) (hc.2.2.2.2.1.hts args _ lk) (fun _ h => h) rfl d k
theorem pX_S_looked (hc : Cx p s m args c cc nL own meth ret D cl7 (tyX ca)) (hw : Wd D cl7 (wX ad ca) A s.heap σ H locs) {index : Nat} {v : Int} (lk : Cond.fieldLink own index "ProbeChoice$Search" "looked" "I" ∈ lw_gd) (d : decode cc pc = .ok (.putfield index, 3)) (k : ∀ (H1 : Heap) (locs1 : List Loc), Wd D cl7 (wX ad ca) A s.heap (up σ 17 0 v) H1 locs1 → W p l e R s m args below meth c H1 locs1 cells slots Q (F0 m (pc + 3) ls rest)) : W p l e R s m args below meth c H locs cells slots Q (F0 m pc ls (.int (zI v) :: .ref (ad 105) :: rest)) :=
  va_put (D := D) (ci := 4) (C := R_S) (T := T_S) (N := 9) (ty := .int) hc.1 hc.2.1 (hc.2.2.2.2.1.hts args) in_S t_S t_S_ok n_S hc.2.2.2.1 hc.2.2.2.2.2.1 hw.1 hw.2.1 hw.2.2 5 rfl rfl 7 (by decide) (hc.2.2.2.2.1.hts args _ lk) (fun _ h => h) rfl (by decide +kernel) rfl rfl (Nat.le_of_ble_eq_true rfl) d (fun H1 locs1 hP hD hS => k H1 locs1 ⟨hP, hD, hS⟩)
theorem gX_S_bestWorth (hc : Cx p s m args c cc nL own meth ret D cl7 (tyX ca)) (hw : Wd D cl7 (wX ad ca) A s.heap σ H locs) {index : Nat} (lk : Cond.fieldLink own index "ProbeChoice$Search" "bestWorth" "J" ∈ lw_gd) (d : decode cc pc = .ok (.getfield index, 3)) (k : W p l e R s m args below meth c H locs cells slots Q (F0 m (pc + 3) ls (.long (zL (σ 18 0)) :: rest))) : W p l e R s m args below meth c H locs cells slots Q (F0 m pc ls (.ref (ad 105) :: rest)) := va_get (D := D) (ci := 4) (C := R_S) (T := T_S) (N := 9) hc.1 hc.2.1 (hc.2.2.2.2.1.hts args) in_S hc.2.2.2.1 hc.2.2.2.2.2.1 hw.1 5 rfl rfl 8 (by decide) (hc.2.2.2.2.1.hts args _ lk) (fun _ h => h) rfl d k
theorem pX_S_bestWorth (hc : Cx p s m args c cc nL own meth ret D cl7 (tyX ca)) (hw : Wd D cl7 (wX ad ca) A s.heap σ H locs) {index : Nat} {v : Int} (lk : Cond.fieldLink own index "ProbeChoice$Search" "bestWorth" "J" ∈ lw_gd) (d : decode cc pc = .ok (.putfield index, 3)) (k : ∀ (H1 : Heap) (locs1 : List Loc), Wd D cl7 (wX ad ca) A s.heap (up σ 18 0 v) H1 locs1 → W p l e R s m args below meth c H1 locs1 cells slots Q (F0 m (pc + 3) ls rest)) : W p l e R s m args below meth c H locs cells slots Q (F0 m pc ls (.long (zL v) :: .ref (ad 105) :: rest)) :=
  va_put (D := D) (ci := 4) (C := R_S) (T := T_S) (N := 9) (ty := .long) hc.1 hc.2.1 (hc.2.2.2.2.1.hts args) in_S t_S t_S_ok n_S hc.2.2.2.1 hc.2.2.2.2.2.1 hw.1 hw.2.1 hw.2.2 5 rfl rfl 8 (by decide) (hc.2.2.2.2.1.hts args _ lk) (fun _ h => h) rfl (by decide +kernel) rfl rfl (Nat.le_of_ble_eq_true rfl) d (fun H1 locs1 hP hD hS => k H1 locs1 ⟨hP, hD, hS⟩)
end WX
section WM
variable {p : Program} {l : Launch} {e : Env} {R : Room} {s : State} {m : MethodId} {args : Array Value} {below : List Frame} {meth : Method} {c : Code} {H : Heap} {locs : List Loc} {cells slots : Nat} {Q : State → Prop}
variable {cc : ByteArray} {pc nL : Nat} {own : String} {ret : Option FieldType} {ls : Array Slot} {rest : List Value} {D : va_G} {ad : Nat → Nat} {ca : Nat → ClassId} {A : Nat → Prop} {σ : St}
theorem gM_M_thrown (hc : Cx p s m args c cc nL own meth ret D cl7 (tyM ca)) (hw : Wd D cl7 (wM ad ca) A s.heap σ H locs) {index : Nat} (lk : Cond.fieldLink own index "ProbeChoiceModel" "thrown" "I" ∈ lw_gd) (d : decode cc pc = .ok (.getfield index, 3)) (k : W p l e R s m args below meth c H locs cells slots Q (F0 m (pc + 3) ls (.int (zI (σ 0 0)) :: rest))) : W p l e R s m args below meth c H locs cells slots Q (F0 m pc ls (.ref (ad 100) :: rest)) := va_get (D := D) (ci := 6) (C := R_M) (T := T_M) (N := 26) hc.1 hc.2.1 (hc.2.2.2.2.1.hts args) in_M hc.2.2.2.1 hc.2.2.2.2.2.1 hw.1 0 rfl rfl 0 (by decide) (hc.2.2.2.2.1.hts args _ lk) (fun _ h => h) rfl d k
theorem pM_M_thrown (hc : Cx p s m args c cc nL own meth ret D cl7 (tyM ca)) (hw : Wd D cl7 (wM ad ca) A s.heap σ H locs) {index : Nat} {v : Int} (lk : Cond.fieldLink own index "ProbeChoiceModel" "thrown" "I" ∈ lw_gd) (d : decode cc pc = .ok (.putfield index, 3)) (k : ∀ (H1 : Heap) (locs1 : List Loc), Wd D cl7 (wM ad ca) A s.heap (up σ 0 0 v) H1 locs1 → W p l e R s m args below meth c H1 locs1 cells slots Q (F0 m (pc + 3) ls rest)) : W p l e R s m args below meth c H locs cells slots Q (F0 m pc ls (.int (zI v) :: .ref (ad 100) :: rest)) :=
  va_put (D := D) (ci := 6) (C := R_M) (T := T_M) (N := 26) (ty := .int) hc.1 hc.2.1 (hc.2.2.2.2.1.hts args) in_M t_M t_M_ok n_M hc.2.2.2.1 hc.2.2.2.2.2.1 hw.1 hw.2.1 hw.2.2 0 rfl rfl 0 (by decide) (hc.2.2.2.2.1.hts args _ lk) (fun _ h => h) rfl (by decide +kernel) rfl rfl (Nat.le_of_ble_eq_true rfl) d (fun H1 locs1 hP hD hS => k H1 locs1 ⟨hP, hD, hS⟩)
theorem gM_M_nets (hc : Cx p s m args c cc nL own meth ret D cl7 (tyM ca)) (hw : Wd D cl7 (wM ad ca) A s.heap σ H locs) {index : Nat} (lk : Cond.fieldLink own index "ProbeChoiceModel" "nets" "I" ∈ lw_gd) (d : decode cc pc = .ok (.getfield index, 3)) (k : W p l e R s m args below meth c H locs cells slots Q (F0 m (pc + 3) ls (.int (zI (σ 1 0)) :: rest))) : W p l e R s m args below meth c H locs cells slots Q (F0 m pc ls (.ref (ad 100) :: rest)) := va_get (D := D) (ci := 6) (C := R_M) (T := T_M) (N := 26) hc.1 hc.2.1 (hc.2.2.2.2.1.hts args) in_M hc.2.2.2.1 hc.2.2.2.2.2.1 hw.1 0 rfl rfl 1 (by decide) (hc.2.2.2.2.1.hts args _ lk) (fun _ h => h) rfl d k
theorem pM_M_nets (hc : Cx p s m args c cc nL own meth ret D cl7 (tyM ca)) (hw : Wd D cl7 (wM ad ca) A s.heap σ H locs) {index : Nat} {v : Int} (lk : Cond.fieldLink own index "ProbeChoiceModel" "nets" "I" ∈ lw_gd) (d : decode cc pc = .ok (.putfield index, 3)) (k : ∀ (H1 : Heap) (locs1 : List Loc), Wd D cl7 (wM ad ca) A s.heap (up σ 1 0 v) H1 locs1 → W p l e R s m args below meth c H1 locs1 cells slots Q (F0 m (pc + 3) ls rest)) : W p l e R s m args below meth c H locs cells slots Q (F0 m pc ls (.int (zI v) :: .ref (ad 100) :: rest)) :=
  va_put (D := D) (ci := 6) (C := R_M) (T := T_M) (N := 26) (ty := .int) hc.1 hc.2.1 (hc.2.2.2.2.1.hts args) in_M t_M t_M_ok n_M hc.2.2.2.1 hc.2.2.2.2.2.1 hw.1 hw.2.1 hw.2.2 0 rfl rfl 1 (by decide) (hc.2.2.2.2.1.hts args _ lk) (fun _ h => h) rfl (by decide +kernel) rfl rfl (Nat.le_of_ble_eq_true rfl) d (fun H1 locs1 hP hD hS => k H1 locs1 ⟨hP, hD, hS⟩)
theorem gM_M_must (hc : Cx p s m args c cc nL own meth ret D cl7 (tyM ca)) (hw : Wd D cl7 (wM ad ca) A s.heap σ H locs) {index : Nat} (lk : Cond.fieldLink own index "ProbeChoiceModel" "must" "[Z" ∈ lw_gd) (d : decode cc pc = .ok (.getfield index, 3)) (k : W p l e R s m args below meth c H locs cells slots Q (F0 m (pc + 3) ls (.ref (ad 2) :: rest))) : W p l e R s m args below meth c H locs cells slots Q (F0 m pc ls (.ref (ad 100) :: rest)) := va_get (D := D) (ci := 6) (C := R_M) (T := T_M) (N := 26) hc.1 hc.2.1 (hc.2.2.2.2.1.hts args) in_M hc.2.2.2.1 hc.2.2.2.2.2.1 hw.1 0 rfl rfl 2 (by decide) (hc.2.2.2.2.1.hts args _ lk) (fun _ h => h) rfl d k
theorem ldM_M_must (hc : Cx p s m args c cc nL own meth ret D cl7 (tyM ca)) (hw : Wd D cl7 (wM ad ca) A s.heap σ H locs) {i : Int} (d : decode cc pc = .ok (.baload, 1)) (hi : 0 ≤ i ∧ i < 12) (k : W p l e R s m args below meth c H locs cells slots Q (F0 m (pc + 1) ls (.int (zI (σ 2 i)) :: rest))) : W p l e R s m args below meth c H locs cells slots Q (F0 m pc ls (.int (zI i) :: .ref (ad 2) :: rest)) := by
  refine va_zald (D := D) hc.1 hc.2.1 hc.2.2.2.2.2.1 hw.1 1 0 rfl rfl (zI_in hi.1 hi.2 (by decide)) d ?_
  show W p l e R s m args below meth c H locs cells slots Q (F0 m (pc + 1) ls (.int (zI (σ 2 (((zI i).toNatClampNeg : Nat) : Int))) :: rest))
  rw [zI_ix (n := 12) hi.1 hi.2 (by decide)]
  exact k
theorem stM_M_must (hc : Cx p s m args c cc nL own meth ret D cl7 (tyM ca)) (hw : Wd D cl7 (wM ad ca) A s.heap σ H locs) {i v : Int} (d : decode cc pc = .ok (.bastore, 1)) (hi : 0 ≤ i ∧ i < 12) (h01 : v = 0 ∨ v = 1) (k : ∀ (H1 : Heap) (locs1 : List Loc), Wd D cl7 (wM ad ca) A s.heap (up σ 2 i v) H1 locs1 → W p l e R s m args below meth c H1 locs1 cells slots Q (F0 m (pc + 1) ls rest)) : W p l e R s m args below meth c H locs cells slots Q (F0 m pc ls (.int (zI v) :: .int (zI i) :: .ref (ad 2) :: rest)) := by
  refine va_zast (D := D) hc.1 hc.2.1 hc.2.2.2.2.2.1 hw.1 hw.2.1 hw.2.2 1 0 rfl rfl (zI_in hi.1 hi.2 (by decide)) d (fun H1 locs1 hP hD hS => ?_)
  rw [nar_z h01, updI_z (n := 12) hi.1 hi.2 (by decide)] at hP hD
  exact k H1 locs1 ⟨hP, hD, hS⟩
theorem gM_M_pointCount (hc : Cx p s m args c cc nL own meth ret D cl7 (tyM ca)) (hw : Wd D cl7 (wM ad ca) A s.heap σ H locs) {index : Nat} (lk : Cond.fieldLink own index "ProbeChoiceModel" "pointCount" "[I" ∈ lw_gd) (d : decode cc pc = .ok (.getfield index, 3)) (k : W p l e R s m args below meth c H locs cells slots Q (F0 m (pc + 3) ls (.ref (ad 3) :: rest))) : W p l e R s m args below meth c H locs cells slots Q (F0 m pc ls (.ref (ad 100) :: rest)) := va_get (D := D) (ci := 6) (C := R_M) (T := T_M) (N := 26) hc.1 hc.2.1 (hc.2.2.2.2.1.hts args) in_M hc.2.2.2.1 hc.2.2.2.2.2.1 hw.1 0 rfl rfl 3 (by decide) (hc.2.2.2.2.1.hts args _ lk) (fun _ h => h) rfl d k
theorem ldM_M_pointCount (hc : Cx p s m args c cc nL own meth ret D cl7 (tyM ca)) (hw : Wd D cl7 (wM ad ca) A s.heap σ H locs) {i : Int} (d : decode cc pc = .ok (.iaload, 1)) (hi : 0 ≤ i ∧ i < 12) (k : W p l e R s m args below meth c H locs cells slots Q (F0 m (pc + 1) ls (.int (zI (σ 3 i)) :: rest))) : W p l e R s m args below meth c H locs cells slots Q (F0 m pc ls (.int (zI i) :: .ref (ad 3) :: rest)) := by
  refine va_iald (D := D) hc.1 hc.2.1 hc.2.2.2.2.2.1 hw.1 2 1 rfl rfl (zI_in hi.1 hi.2 (by decide)) d ?_
  show W p l e R s m args below meth c H locs cells slots Q (F0 m (pc + 1) ls (.int (zI (σ 3 (((zI i).toNatClampNeg : Nat) : Int))) :: rest))
  rw [zI_ix (n := 12) hi.1 hi.2 (by decide)]
  exact k
theorem stM_M_pointCount (hc : Cx p s m args c cc nL own meth ret D cl7 (tyM ca)) (hw : Wd D cl7 (wM ad ca) A s.heap σ H locs) {i v : Int} (d : decode cc pc = .ok (.iastore, 1)) (hi : 0 ≤ i ∧ i < 12) (k : ∀ (H1 : Heap) (locs1 : List Loc), Wd D cl7 (wM ad ca) A s.heap (up σ 3 i v) H1 locs1 → W p l e R s m args below meth c H1 locs1 cells slots Q (F0 m (pc + 1) ls rest)) : W p l e R s m args below meth c H locs cells slots Q (F0 m pc ls (.int (zI v) :: .int (zI i) :: .ref (ad 3) :: rest)) := by
  refine va_iast (D := D) hc.1 hc.2.1 hc.2.2.2.2.2.1 hw.1 hw.2.1 hw.2.2 2 1 rfl rfl (zI_in hi.1 hi.2 (by decide)) d (fun H1 locs1 hP hD hS => ?_)
  rw [updI_z (n := 12) hi.1 hi.2 (by decide)] at hP hD
  exact k H1 locs1 ⟨hP, hD, hS⟩
theorem gM_M_pointsOf (hc : Cx p s m args c cc nL own meth ret D cl7 (tyM ca)) (hw : Wd D cl7 (wM ad ca) A s.heap σ H locs) {index : Nat} (lk : Cond.fieldLink own index "ProbeChoiceModel" "pointsOf" "[I" ∈ lw_gd) (d : decode cc pc = .ok (.getfield index, 3)) (k : W p l e R s m args below meth c H locs cells slots Q (F0 m (pc + 3) ls (.ref (ad 4) :: rest))) : W p l e R s m args below meth c H locs cells slots Q (F0 m pc ls (.ref (ad 100) :: rest)) := va_get (D := D) (ci := 6) (C := R_M) (T := T_M) (N := 26) hc.1 hc.2.1 (hc.2.2.2.2.1.hts args) in_M hc.2.2.2.1 hc.2.2.2.2.2.1 hw.1 0 rfl rfl 4 (by decide) (hc.2.2.2.2.1.hts args _ lk) (fun _ h => h) rfl d k
theorem ldM_M_pointsOf (hc : Cx p s m args c cc nL own meth ret D cl7 (tyM ca)) (hw : Wd D cl7 (wM ad ca) A s.heap σ H locs) {i : Int} (d : decode cc pc = .ok (.iaload, 1)) (hi : 0 ≤ i ∧ i < 36) (k : W p l e R s m args below meth c H locs cells slots Q (F0 m (pc + 1) ls (.int (zI (σ 4 i)) :: rest))) : W p l e R s m args below meth c H locs cells slots Q (F0 m pc ls (.int (zI i) :: .ref (ad 4) :: rest)) := by
  refine va_iald (D := D) hc.1 hc.2.1 hc.2.2.2.2.2.1 hw.1 3 2 rfl rfl (zI_in hi.1 hi.2 (by decide)) d ?_
  show W p l e R s m args below meth c H locs cells slots Q (F0 m (pc + 1) ls (.int (zI (σ 4 (((zI i).toNatClampNeg : Nat) : Int))) :: rest))
  rw [zI_ix (n := 36) hi.1 hi.2 (by decide)]
  exact k
theorem stM_M_pointsOf (hc : Cx p s m args c cc nL own meth ret D cl7 (tyM ca)) (hw : Wd D cl7 (wM ad ca) A s.heap σ H locs) {i v : Int} (d : decode cc pc = .ok (.iastore, 1)) (hi : 0 ≤ i ∧ i < 36) (k : ∀ (H1 : Heap) (locs1 : List Loc), Wd D cl7 (wM ad ca) A s.heap (up σ 4 i v) H1 locs1 → W p l e R s m args below meth c H1 locs1 cells slots Q (F0 m (pc + 1) ls rest)) : W p l e R s m args below meth c H locs cells slots Q (F0 m pc ls (.int (zI v) :: .int (zI i) :: .ref (ad 4) :: rest)) := by
  refine va_iast (D := D) hc.1 hc.2.1 hc.2.2.2.2.2.1 hw.1 hw.2.1 hw.2.2 3 2 rfl rfl (zI_in hi.1 hi.2 (by decide)) d (fun H1 locs1 hP hD hS => ?_)
  rw [updI_z (n := 36) hi.1 hi.2 (by decide)] at hP hD
  exact k H1 locs1 ⟨hP, hD, hS⟩
theorem gM_M_points (hc : Cx p s m args c cc nL own meth ret D cl7 (tyM ca)) (hw : Wd D cl7 (wM ad ca) A s.heap σ H locs) {index : Nat} (lk : Cond.fieldLink own index "ProbeChoiceModel" "points" "I" ∈ lw_gd) (d : decode cc pc = .ok (.getfield index, 3)) (k : W p l e R s m args below meth c H locs cells slots Q (F0 m (pc + 3) ls (.int (zI (σ 5 0)) :: rest))) : W p l e R s m args below meth c H locs cells slots Q (F0 m pc ls (.ref (ad 100) :: rest)) := va_get (D := D) (ci := 6) (C := R_M) (T := T_M) (N := 26) hc.1 hc.2.1 (hc.2.2.2.2.1.hts args) in_M hc.2.2.2.1 hc.2.2.2.2.2.1 hw.1 0 rfl rfl 5 (by decide) (hc.2.2.2.2.1.hts args _ lk) (fun _ h => h) rfl d k
theorem pM_M_points (hc : Cx p s m args c cc nL own meth ret D cl7 (tyM ca)) (hw : Wd D cl7 (wM ad ca) A s.heap σ H locs) {index : Nat} {v : Int} (lk : Cond.fieldLink own index "ProbeChoiceModel" "points" "I" ∈ lw_gd) (d : decode cc pc = .ok (.putfield index, 3)) (k : ∀ (H1 : Heap) (locs1 : List Loc), Wd D cl7 (wM ad ca) A s.heap (up σ 5 0 v) H1 locs1 → W p l e R s m args below meth c H1 locs1 cells slots Q (F0 m (pc + 3) ls rest)) : W p l e R s m args below meth c H locs cells slots Q (F0 m pc ls (.int (zI v) :: .ref (ad 100) :: rest)) :=
  va_put (D := D) (ci := 6) (C := R_M) (T := T_M) (N := 26) (ty := .int) hc.1 hc.2.1 (hc.2.2.2.2.1.hts args) in_M t_M t_M_ok n_M hc.2.2.2.1 hc.2.2.2.2.2.1 hw.1 hw.2.1 hw.2.2 0 rfl rfl 5 (by decide) (hc.2.2.2.2.1.hts args _ lk) (fun _ h => h) rfl (by decide +kernel) rfl rfl (Nat.le_of_ble_eq_true rfl) d (fun H1 locs1 hP hD hS => k H1 locs1 ⟨hP, hD, hS⟩)
theorem gM_M_x (hc : Cx p s m args c cc nL own meth ret D cl7 (tyM ca)) (hw : Wd D cl7 (wM ad ca) A s.heap σ H locs) {index : Nat} (lk : Cond.fieldLink own index "ProbeChoiceModel" "x" "[J" ∈ lw_gd) (d : decode cc pc = .ok (.getfield index, 3)) (k : W p l e R s m args below meth c H locs cells slots Q (F0 m (pc + 3) ls (.ref (ad 6) :: rest))) : W p l e R s m args below meth c H locs cells slots Q (F0 m pc ls (.ref (ad 100) :: rest)) := va_get (D := D) (ci := 6) (C := R_M) (T := T_M) (N := 26) hc.1 hc.2.1 (hc.2.2.2.2.1.hts args) in_M hc.2.2.2.1 hc.2.2.2.2.2.1 hw.1 0 rfl rfl 6 (by decide) (hc.2.2.2.2.1.hts args _ lk) (fun _ h => h) rfl d k
theorem ldM_M_x (hc : Cx p s m args c cc nL own meth ret D cl7 (tyM ca)) (hw : Wd D cl7 (wM ad ca) A s.heap σ H locs) {i : Int} (d : decode cc pc = .ok (.laload, 1)) (hi : 0 ≤ i ∧ i < 36) (k : W p l e R s m args below meth c H locs cells slots Q (F0 m (pc + 1) ls (.long (zL (σ 6 i)) :: rest))) : W p l e R s m args below meth c H locs cells slots Q (F0 m pc ls (.int (zI i) :: .ref (ad 6) :: rest)) := by
  refine va_lald (D := D) hc.1 hc.2.1 hc.2.2.2.2.2.1 hw.1 4 3 rfl rfl (zI_in hi.1 hi.2 (by decide)) d ?_
  show W p l e R s m args below meth c H locs cells slots Q (F0 m (pc + 1) ls (.long (zL (σ 6 (((zI i).toNatClampNeg : Nat) : Int))) :: rest))
  rw [zI_ix (n := 36) hi.1 hi.2 (by decide)]
  exact k
theorem stM_M_x (hc : Cx p s m args c cc nL own meth ret D cl7 (tyM ca)) (hw : Wd D cl7 (wM ad ca) A s.heap σ H locs) {i v : Int} (d : decode cc pc = .ok (.lastore, 1)) (hi : 0 ≤ i ∧ i < 36) (k : ∀ (H1 : Heap) (locs1 : List Loc), Wd D cl7 (wM ad ca) A s.heap (up σ 6 i v) H1 locs1 → W p l e R s m args below meth c H1 locs1 cells slots Q (F0 m (pc + 1) ls rest)) : W p l e R s m args below meth c H locs cells slots Q (F0 m pc ls (.long (zL v) :: .int (zI i) :: .ref (ad 6) :: rest)) := by
  refine va_last (D := D) hc.1 hc.2.1 hc.2.2.2.2.2.1 hw.1 hw.2.1 hw.2.2 4 3 rfl rfl (zI_in hi.1 hi.2 (by decide)) d (fun H1 locs1 hP hD hS => ?_)
  rw [updL_z (n := 36) hi.1 hi.2 (by decide)] at hP hD
  exact k H1 locs1 ⟨hP, hD, hS⟩
theorem gM_M_y (hc : Cx p s m args c cc nL own meth ret D cl7 (tyM ca)) (hw : Wd D cl7 (wM ad ca) A s.heap σ H locs) {index : Nat} (lk : Cond.fieldLink own index "ProbeChoiceModel" "y" "[J" ∈ lw_gd) (d : decode cc pc = .ok (.getfield index, 3)) (k : W p l e R s m args below meth c H locs cells slots Q (F0 m (pc + 3) ls (.ref (ad 7) :: rest))) : W p l e R s m args below meth c H locs cells slots Q (F0 m pc ls (.ref (ad 100) :: rest)) := va_get (D := D) (ci := 6) (C := R_M) (T := T_M) (N := 26) hc.1 hc.2.1 (hc.2.2.2.2.1.hts args) in_M hc.2.2.2.1 hc.2.2.2.2.2.1 hw.1 0 rfl rfl 7 (by decide) (hc.2.2.2.2.1.hts args _ lk) (fun _ h => h) rfl d k
theorem ldM_M_y (hc : Cx p s m args c cc nL own meth ret D cl7 (tyM ca)) (hw : Wd D cl7 (wM ad ca) A s.heap σ H locs) {i : Int} (d : decode cc pc = .ok (.laload, 1)) (hi : 0 ≤ i ∧ i < 36) (k : W p l e R s m args below meth c H locs cells slots Q (F0 m (pc + 1) ls (.long (zL (σ 7 i)) :: rest))) : W p l e R s m args below meth c H locs cells slots Q (F0 m pc ls (.int (zI i) :: .ref (ad 7) :: rest)) := by
  refine va_lald (D := D) hc.1 hc.2.1 hc.2.2.2.2.2.1 hw.1 5 4 rfl rfl (zI_in hi.1 hi.2 (by decide)) d ?_
  show W p l e R s m args below meth c H locs cells slots Q (F0 m (pc + 1) ls (.long (zL (σ 7 (((zI i).toNatClampNeg : Nat) : Int))) :: rest))
  rw [zI_ix (n := 36) hi.1 hi.2 (by decide)]
  exact k
theorem stM_M_y (hc : Cx p s m args c cc nL own meth ret D cl7 (tyM ca)) (hw : Wd D cl7 (wM ad ca) A s.heap σ H locs) {i v : Int} (d : decode cc pc = .ok (.lastore, 1)) (hi : 0 ≤ i ∧ i < 36) (k : ∀ (H1 : Heap) (locs1 : List Loc), Wd D cl7 (wM ad ca) A s.heap (up σ 7 i v) H1 locs1 → W p l e R s m args below meth c H1 locs1 cells slots Q (F0 m (pc + 1) ls rest)) : W p l e R s m args below meth c H locs cells slots Q (F0 m pc ls (.long (zL v) :: .int (zI i) :: .ref (ad 7) :: rest)) := by
  refine va_last (D := D) hc.1 hc.2.1 hc.2.2.2.2.2.1 hw.1 hw.2.1 hw.2.2 5 4 rfl rfl (zI_in hi.1 hi.2 (by decide)) d (fun H1 locs1 hP hD hS => ?_)
  rw [updL_z (n := 36) hi.1 hi.2 (by decide)] at hP hD
  exact k H1 locs1 ⟨hP, hD, hS⟩
theorem gM_M_radius (hc : Cx p s m args c cc nL own meth ret D cl7 (tyM ca)) (hw : Wd D cl7 (wM ad ca) A s.heap σ H locs) {index : Nat} (lk : Cond.fieldLink own index "ProbeChoiceModel" "radius" "[J" ∈ lw_gd) (d : decode cc pc = .ok (.getfield index, 3)) (k : W p l e R s m args below meth c H locs cells slots Q (F0 m (pc + 3) ls (.ref (ad 8) :: rest))) : W p l e R s m args below meth c H locs cells slots Q (F0 m pc ls (.ref (ad 100) :: rest)) := va_get (D := D) (ci := 6) (C := R_M) (T := T_M) (N := 26) hc.1 hc.2.1 (hc.2.2.2.2.1.hts args) in_M hc.2.2.2.1 hc.2.2.2.2.2.1 hw.1 0 rfl rfl 8 (by decide) (hc.2.2.2.2.1.hts args _ lk) (fun _ h => h) rfl d k
theorem ldM_M_radius (hc : Cx p s m args c cc nL own meth ret D cl7 (tyM ca)) (hw : Wd D cl7 (wM ad ca) A s.heap σ H locs) {i : Int} (d : decode cc pc = .ok (.laload, 1)) (hi : 0 ≤ i ∧ i < 36) (k : W p l e R s m args below meth c H locs cells slots Q (F0 m (pc + 1) ls (.long (zL (σ 8 i)) :: rest))) : W p l e R s m args below meth c H locs cells slots Q (F0 m pc ls (.int (zI i) :: .ref (ad 8) :: rest)) := by
  refine va_lald (D := D) hc.1 hc.2.1 hc.2.2.2.2.2.1 hw.1 6 5 rfl rfl (zI_in hi.1 hi.2 (by decide)) d ?_
  show W p l e R s m args below meth c H locs cells slots Q (F0 m (pc + 1) ls (.long (zL (σ 8 (((zI i).toNatClampNeg : Nat) : Int))) :: rest))
  rw [zI_ix (n := 36) hi.1 hi.2 (by decide)]
  exact k
theorem stM_M_radius (hc : Cx p s m args c cc nL own meth ret D cl7 (tyM ca)) (hw : Wd D cl7 (wM ad ca) A s.heap σ H locs) {i v : Int} (d : decode cc pc = .ok (.lastore, 1)) (hi : 0 ≤ i ∧ i < 36) (k : ∀ (H1 : Heap) (locs1 : List Loc), Wd D cl7 (wM ad ca) A s.heap (up σ 8 i v) H1 locs1 → W p l e R s m args below meth c H1 locs1 cells slots Q (F0 m (pc + 1) ls rest)) : W p l e R s m args below meth c H locs cells slots Q (F0 m pc ls (.long (zL v) :: .int (zI i) :: .ref (ad 8) :: rest)) := by
  refine va_last (D := D) hc.1 hc.2.1 hc.2.2.2.2.2.1 hw.1 hw.2.1 hw.2.2 6 5 rfl rfl (zI_in hi.1 hi.2 (by decide)) d (fun H1 locs1 hP hD hS => ?_)
  rw [updL_z (n := 36) hi.1 hi.2 (by decide)] at hP hD
  exact k H1 locs1 ⟨hP, hD, hS⟩
theorem gM_M_forces (hc : Cx p s m args c cc nL own meth ret D cl7 (tyM ca)) (hw : Wd D cl7 (wM ad ca) A s.heap σ H locs) {index : Nat} (lk : Cond.fieldLink own index "ProbeChoiceModel" "forces" "[J" ∈ lw_gd) (d : decode cc pc = .ok (.getfield index, 3)) (k : W p l e R s m args below meth c H locs cells slots Q (F0 m (pc + 3) ls (.ref (ad 9) :: rest))) : W p l e R s m args below meth c H locs cells slots Q (F0 m pc ls (.ref (ad 100) :: rest)) := va_get (D := D) (ci := 6) (C := R_M) (T := T_M) (N := 26) hc.1 hc.2.1 (hc.2.2.2.2.1.hts args) in_M hc.2.2.2.1 hc.2.2.2.2.2.1 hw.1 0 rfl rfl 9 (by decide) (hc.2.2.2.2.1.hts args _ lk) (fun _ h => h) rfl d k
theorem ldM_M_forces (hc : Cx p s m args c cc nL own meth ret D cl7 (tyM ca)) (hw : Wd D cl7 (wM ad ca) A s.heap σ H locs) {i : Int} (d : decode cc pc = .ok (.laload, 1)) (hi : 0 ≤ i ∧ i < 36) (k : W p l e R s m args below meth c H locs cells slots Q (F0 m (pc + 1) ls (.long (zL (σ 9 i)) :: rest))) : W p l e R s m args below meth c H locs cells slots Q (F0 m pc ls (.int (zI i) :: .ref (ad 9) :: rest)) := by
  refine va_lald (D := D) hc.1 hc.2.1 hc.2.2.2.2.2.1 hw.1 7 6 rfl rfl (zI_in hi.1 hi.2 (by decide)) d ?_
  show W p l e R s m args below meth c H locs cells slots Q (F0 m (pc + 1) ls (.long (zL (σ 9 (((zI i).toNatClampNeg : Nat) : Int))) :: rest))
  rw [zI_ix (n := 36) hi.1 hi.2 (by decide)]
  exact k
theorem stM_M_forces (hc : Cx p s m args c cc nL own meth ret D cl7 (tyM ca)) (hw : Wd D cl7 (wM ad ca) A s.heap σ H locs) {i v : Int} (d : decode cc pc = .ok (.lastore, 1)) (hi : 0 ≤ i ∧ i < 36) (k : ∀ (H1 : Heap) (locs1 : List Loc), Wd D cl7 (wM ad ca) A s.heap (up σ 9 i v) H1 locs1 → W p l e R s m args below meth c H1 locs1 cells slots Q (F0 m (pc + 1) ls rest)) : W p l e R s m args below meth c H locs cells slots Q (F0 m pc ls (.long (zL v) :: .int (zI i) :: .ref (ad 9) :: rest)) := by
  refine va_last (D := D) hc.1 hc.2.1 hc.2.2.2.2.2.1 hw.1 hw.2.1 hw.2.2 7 6 rfl rfl (zI_in hi.1 hi.2 (by decide)) d (fun H1 locs1 hP hD hS => ?_)
  rw [updL_z (n := 36) hi.1 hi.2 (by decide)] at hP hD
  exact k H1 locs1 ⟨hP, hD, hS⟩
theorem gM_M_gap (hc : Cx p s m args c cc nL own meth ret D cl7 (tyM ca)) (hw : Wd D cl7 (wM ad ca) A s.heap σ H locs) {index : Nat} (lk : Cond.fieldLink own index "ProbeChoiceModel" "gap" "J" ∈ lw_gd) (d : decode cc pc = .ok (.getfield index, 3)) (k : W p l e R s m args below meth c H locs cells slots Q (F0 m (pc + 3) ls (.long (zL (σ 10 0)) :: rest))) : W p l e R s m args below meth c H locs cells slots Q (F0 m pc ls (.ref (ad 100) :: rest)) := va_get (D := D) (ci := 6) (C := R_M) (T := T_M) (N := 26) hc.1 hc.2.1 (hc.2.2.2.2.1.hts args) in_M hc.2.2.2.1 hc.2.2.2.2.2.1 hw.1 0 rfl rfl 10 (by decide) (hc.2.2.2.2.1.hts args _ lk) (fun _ h => h) rfl d k
theorem pM_M_gap (hc : Cx p s m args c cc nL own meth ret D cl7 (tyM ca)) (hw : Wd D cl7 (wM ad ca) A s.heap σ H locs) {index : Nat} {v : Int} (lk : Cond.fieldLink own index "ProbeChoiceModel" "gap" "J" ∈ lw_gd) (d : decode cc pc = .ok (.putfield index, 3)) (k : ∀ (H1 : Heap) (locs1 : List Loc), Wd D cl7 (wM ad ca) A s.heap (up σ 10 0 v) H1 locs1 → W p l e R s m args below meth c H1 locs1 cells slots Q (F0 m (pc + 3) ls rest)) : W p l e R s m args below meth c H locs cells slots Q (F0 m pc ls (.long (zL v) :: .ref (ad 100) :: rest)) :=
  va_put (D := D) (ci := 6) (C := R_M) (T := T_M) (N := 26) (ty := .long) hc.1 hc.2.1 (hc.2.2.2.2.1.hts args) in_M t_M t_M_ok n_M hc.2.2.2.1 hc.2.2.2.2.2.1 hw.1 hw.2.1 hw.2.2 0 rfl rfl 10 (by decide) (hc.2.2.2.2.1.hts args _ lk) (fun _ h => h) rfl (by decide +kernel) rfl rfl (Nat.le_of_ble_eq_true rfl) d (fun H1 locs1 hP hD hS => k H1 locs1 ⟨hP, hD, hS⟩)
theorem gM_M_ran (hc : Cx p s m args c cc nL own meth ret D cl7 (tyM ca)) (hw : Wd D cl7 (wM ad ca) A s.heap σ H locs) {index : Nat} (lk : Cond.fieldLink own index "ProbeChoiceModel" "ran" "Z" ∈ lw_gd) (d : decode cc pc = .ok (.getfield index, 3)) (k : W p l e R s m args below meth c H locs cells slots Q (F0 m (pc + 3) ls (.int (zI (σ 11 0)) :: rest))) : W p l e R s m args below meth c H locs cells slots Q (F0 m pc ls (.ref (ad 100) :: rest)) := va_get (D := D) (ci := 6) (C := R_M) (T := T_M) (N := 26) hc.1 hc.2.1 (hc.2.2.2.2.1.hts args) in_M hc.2.2.2.1 hc.2.2.2.2.2.1 hw.1 0 rfl rfl 11 (by decide) (hc.2.2.2.2.1.hts args _ lk) (fun _ h => h) rfl d k
theorem pM_M_ran (hc : Cx p s m args c cc nL own meth ret D cl7 (tyM ca)) (hw : Wd D cl7 (wM ad ca) A s.heap σ H locs) {index : Nat} {v : Int} (lk : Cond.fieldLink own index "ProbeChoiceModel" "ran" "Z" ∈ lw_gd) (d : decode cc pc = .ok (.putfield index, 3)) (h01 : v = 0 ∨ v = 1) (k : ∀ (H1 : Heap) (locs1 : List Loc), Wd D cl7 (wM ad ca) A s.heap (up σ 11 0 v) H1 locs1 → W p l e R s m args below meth c H1 locs1 cells slots Q (F0 m (pc + 3) ls rest)) : W p l e R s m args below meth c H locs cells slots Q (F0 m pc ls (.int (zI v) :: .ref (ad 100) :: rest)) :=
  va_put (D := D) (ci := 6) (C := R_M) (T := T_M) (N := 26) (ty := .boolean) hc.1 hc.2.1 (hc.2.2.2.2.1.hts args) in_M t_M t_M_ok n_M hc.2.2.2.1 hc.2.2.2.2.2.1 hw.1 hw.2.1 hw.2.2 0 rfl rfl 11 (by decide) (hc.2.2.2.2.1.hts args _ lk) (fun _ h => h) rfl (by decide +kernel) (by rcases h01 with rfl | rfl <;> decide) (by rcases h01 with rfl | rfl <;> decide) (Nat.le_of_ble_eq_true rfl) d (fun H1 locs1 hP hD hS => k H1 locs1 ⟨hP, hD, hS⟩)
theorem gM_M_looked (hc : Cx p s m args c cc nL own meth ret D cl7 (tyM ca)) (hw : Wd D cl7 (wM ad ca) A s.heap σ H locs) {index : Nat} (lk : Cond.fieldLink own index "ProbeChoiceModel" "looked" "I" ∈ lw_gd) (d : decode cc pc = .ok (.getfield index, 3)) (k : W p l e R s m args below meth c H locs cells slots Q (F0 m (pc + 3) ls (.int (zI (σ 12 0)) :: rest))) : W p l e R s m args below meth c H locs cells slots Q (F0 m pc ls (.ref (ad 100) :: rest)) := va_get (D := D) (ci := 6) (C := R_M) (T := T_M) (N := 26) hc.1 hc.2.1 (hc.2.2.2.2.1.hts args) in_M hc.2.2.2.1 hc.2.2.2.2.2.1 hw.1 0 rfl rfl 12 (by decide) (hc.2.2.2.2.1.hts args _ lk) (fun _ h => h) rfl d k
theorem pM_M_looked (hc : Cx p s m args c cc nL own meth ret D cl7 (tyM ca)) (hw : Wd D cl7 (wM ad ca) A s.heap σ H locs) {index : Nat} {v : Int} (lk : Cond.fieldLink own index "ProbeChoiceModel" "looked" "I" ∈ lw_gd) (d : decode cc pc = .ok (.putfield index, 3)) (k : ∀ (H1 : Heap) (locs1 : List Loc), Wd D cl7 (wM ad ca) A s.heap (up σ 12 0 v) H1 locs1 → W p l e R s m args below meth c H1 locs1 cells slots Q (F0 m (pc + 3) ls rest)) : W p l e R s m args below meth c H locs cells slots Q (F0 m pc ls (.int (zI v) :: .ref (ad 100) :: rest)) :=
  va_put (D := D) (ci := 6) (C := R_M) (T := T_M) (N := 26) (ty := .int) hc.1 hc.2.1 (hc.2.2.2.2.1.hts args) in_M t_M t_M_ok n_M hc.2.2.2.1 hc.2.2.2.2.2.1 hw.1 hw.2.1 hw.2.2 0 rfl rfl 12 (by decide) (hc.2.2.2.2.1.hts args _ lk) (fun _ h => h) rfl (by decide +kernel) rfl rfl (Nat.le_of_ble_eq_true rfl) d (fun H1 locs1 hP hD hS => k H1 locs1 ⟨hP, hD, hS⟩)
theorem gM_M_netAt (hc : Cx p s m args c cc nL own meth ret D cl7 (tyM ca)) (hw : Wd D cl7 (wM ad ca) A s.heap σ H locs) {index : Nat} (lk : Cond.fieldLink own index "ProbeChoiceModel" "netAt" "[I" ∈ lw_gd) (d : decode cc pc = .ok (.getfield index, 3)) (k : W p l e R s m args below meth c H locs cells slots Q (F0 m (pc + 3) ls (.ref (ad 13) :: rest))) : W p l e R s m args below meth c H locs cells slots Q (F0 m pc ls (.ref (ad 100) :: rest)) := va_get (D := D) (ci := 6) (C := R_M) (T := T_M) (N := 26) hc.1 hc.2.1 (hc.2.2.2.2.1.hts args) in_M hc.2.2.2.1 hc.2.2.2.2.2.1 hw.1 0 rfl rfl 13 (by decide) (hc.2.2.2.2.1.hts args _ lk) (fun _ h => h) rfl d k
theorem ldM_M_netAt (hc : Cx p s m args c cc nL own meth ret D cl7 (tyM ca)) (hw : Wd D cl7 (wM ad ca) A s.heap σ H locs) {i : Int} (d : decode cc pc = .ok (.iaload, 1)) (hi : 0 ≤ i ∧ i < 8) (k : W p l e R s m args below meth c H locs cells slots Q (F0 m (pc + 1) ls (.int (zI (σ 13 i)) :: rest))) : W p l e R s m args below meth c H locs cells slots Q (F0 m pc ls (.int (zI i) :: .ref (ad 13) :: rest)) := by
  refine va_iald (D := D) hc.1 hc.2.1 hc.2.2.2.2.2.1 hw.1 8 7 rfl rfl (zI_in hi.1 hi.2 (by decide)) d ?_
  show W p l e R s m args below meth c H locs cells slots Q (F0 m (pc + 1) ls (.int (zI (σ 13 (((zI i).toNatClampNeg : Nat) : Int))) :: rest))
  rw [zI_ix (n := 8) hi.1 hi.2 (by decide)]
  exact k
theorem stM_M_netAt (hc : Cx p s m args c cc nL own meth ret D cl7 (tyM ca)) (hw : Wd D cl7 (wM ad ca) A s.heap σ H locs) {i v : Int} (d : decode cc pc = .ok (.iastore, 1)) (hi : 0 ≤ i ∧ i < 8) (k : ∀ (H1 : Heap) (locs1 : List Loc), Wd D cl7 (wM ad ca) A s.heap (up σ 13 i v) H1 locs1 → W p l e R s m args below meth c H1 locs1 cells slots Q (F0 m (pc + 1) ls rest)) : W p l e R s m args below meth c H locs cells slots Q (F0 m pc ls (.int (zI v) :: .int (zI i) :: .ref (ad 13) :: rest)) := by
  refine va_iast (D := D) hc.1 hc.2.1 hc.2.2.2.2.2.1 hw.1 hw.2.1 hw.2.2 8 7 rfl rfl (zI_in hi.1 hi.2 (by decide)) d (fun H1 locs1 hP hD hS => ?_)
  rw [updI_z (n := 8) hi.1 hi.2 (by decide)] at hP hD
  exact k H1 locs1 ⟨hP, hD, hS⟩
theorem gM_M_digit (hc : Cx p s m args c cc nL own meth ret D cl7 (tyM ca)) (hw : Wd D cl7 (wM ad ca) A s.heap σ H locs) {index : Nat} (lk : Cond.fieldLink own index "ProbeChoiceModel" "digit" "[I" ∈ lw_gd) (d : decode cc pc = .ok (.getfield index, 3)) (k : W p l e R s m args below meth c H locs cells slots Q (F0 m (pc + 3) ls (.ref (ad 14) :: rest))) : W p l e R s m args below meth c H locs cells slots Q (F0 m pc ls (.ref (ad 100) :: rest)) := va_get (D := D) (ci := 6) (C := R_M) (T := T_M) (N := 26) hc.1 hc.2.1 (hc.2.2.2.2.1.hts args) in_M hc.2.2.2.1 hc.2.2.2.2.2.1 hw.1 0 rfl rfl 14 (by decide) (hc.2.2.2.2.1.hts args _ lk) (fun _ h => h) rfl d k
theorem ldM_M_digit (hc : Cx p s m args c cc nL own meth ret D cl7 (tyM ca)) (hw : Wd D cl7 (wM ad ca) A s.heap σ H locs) {i : Int} (d : decode cc pc = .ok (.iaload, 1)) (hi : 0 ≤ i ∧ i < 8) (k : W p l e R s m args below meth c H locs cells slots Q (F0 m (pc + 1) ls (.int (zI (σ 14 i)) :: rest))) : W p l e R s m args below meth c H locs cells slots Q (F0 m pc ls (.int (zI i) :: .ref (ad 14) :: rest)) := by
  refine va_iald (D := D) hc.1 hc.2.1 hc.2.2.2.2.2.1 hw.1 9 8 rfl rfl (zI_in hi.1 hi.2 (by decide)) d ?_
  show W p l e R s m args below meth c H locs cells slots Q (F0 m (pc + 1) ls (.int (zI (σ 14 (((zI i).toNatClampNeg : Nat) : Int))) :: rest))
  rw [zI_ix (n := 8) hi.1 hi.2 (by decide)]
  exact k
theorem stM_M_digit (hc : Cx p s m args c cc nL own meth ret D cl7 (tyM ca)) (hw : Wd D cl7 (wM ad ca) A s.heap σ H locs) {i v : Int} (d : decode cc pc = .ok (.iastore, 1)) (hi : 0 ≤ i ∧ i < 8) (k : ∀ (H1 : Heap) (locs1 : List Loc), Wd D cl7 (wM ad ca) A s.heap (up σ 14 i v) H1 locs1 → W p l e R s m args below meth c H1 locs1 cells slots Q (F0 m (pc + 1) ls rest)) : W p l e R s m args below meth c H locs cells slots Q (F0 m pc ls (.int (zI v) :: .int (zI i) :: .ref (ad 14) :: rest)) := by
  refine va_iast (D := D) hc.1 hc.2.1 hc.2.2.2.2.2.1 hw.1 hw.2.1 hw.2.2 9 8 rfl rfl (zI_in hi.1 hi.2 (by decide)) d (fun H1 locs1 hP hD hS => ?_)
  rw [updI_z (n := 8) hi.1 hi.2 (by decide)] at hP hD
  exact k H1 locs1 ⟨hP, hD, hS⟩
theorem gM_M_best (hc : Cx p s m args c cc nL own meth ret D cl7 (tyM ca)) (hw : Wd D cl7 (wM ad ca) A s.heap σ H locs) {index : Nat} (lk : Cond.fieldLink own index "ProbeChoiceModel" "best" "[I" ∈ lw_gd) (d : decode cc pc = .ok (.getfield index, 3)) (k : W p l e R s m args below meth c H locs cells slots Q (F0 m (pc + 3) ls (.ref (ad 15) :: rest))) : W p l e R s m args below meth c H locs cells slots Q (F0 m pc ls (.ref (ad 100) :: rest)) := va_get (D := D) (ci := 6) (C := R_M) (T := T_M) (N := 26) hc.1 hc.2.1 (hc.2.2.2.2.1.hts args) in_M hc.2.2.2.1 hc.2.2.2.2.2.1 hw.1 0 rfl rfl 15 (by decide) (hc.2.2.2.2.1.hts args _ lk) (fun _ h => h) rfl d k
theorem ldM_M_best (hc : Cx p s m args c cc nL own meth ret D cl7 (tyM ca)) (hw : Wd D cl7 (wM ad ca) A s.heap σ H locs) {i : Int} (d : decode cc pc = .ok (.iaload, 1)) (hi : 0 ≤ i ∧ i < 8) (k : W p l e R s m args below meth c H locs cells slots Q (F0 m (pc + 1) ls (.int (zI (σ 15 i)) :: rest))) : W p l e R s m args below meth c H locs cells slots Q (F0 m pc ls (.int (zI i) :: .ref (ad 15) :: rest)) := by
  refine va_iald (D := D) hc.1 hc.2.1 hc.2.2.2.2.2.1 hw.1 10 9 rfl rfl (zI_in hi.1 hi.2 (by decide)) d ?_
  show W p l e R s m args below meth c H locs cells slots Q (F0 m (pc + 1) ls (.int (zI (σ 15 (((zI i).toNatClampNeg : Nat) : Int))) :: rest))
  rw [zI_ix (n := 8) hi.1 hi.2 (by decide)]
  exact k
theorem stM_M_best (hc : Cx p s m args c cc nL own meth ret D cl7 (tyM ca)) (hw : Wd D cl7 (wM ad ca) A s.heap σ H locs) {i v : Int} (d : decode cc pc = .ok (.iastore, 1)) (hi : 0 ≤ i ∧ i < 8) (k : ∀ (H1 : Heap) (locs1 : List Loc), Wd D cl7 (wM ad ca) A s.heap (up σ 15 i v) H1 locs1 → W p l e R s m args below meth c H1 locs1 cells slots Q (F0 m (pc + 1) ls rest)) : W p l e R s m args below meth c H locs cells slots Q (F0 m pc ls (.int (zI v) :: .int (zI i) :: .ref (ad 15) :: rest)) := by
  refine va_iast (D := D) hc.1 hc.2.1 hc.2.2.2.2.2.1 hw.1 hw.2.1 hw.2.2 10 9 rfl rfl (zI_in hi.1 hi.2 (by decide)) d (fun H1 locs1 hP hD hS => ?_)
  rw [updI_z (n := 8) hi.1 hi.2 (by decide)] at hP hD
  exact k H1 locs1 ⟨hP, hD, hS⟩
theorem gM_M_isProved (hc : Cx p s m args c cc nL own meth ret D cl7 (tyM ca)) (hw : Wd D cl7 (wM ad ca) A s.heap σ H locs) {index : Nat} (lk : Cond.fieldLink own index "ProbeChoiceModel" "isProved" "Z" ∈ lw_gd) (d : decode cc pc = .ok (.getfield index, 3)) (k : W p l e R s m args below meth c H locs cells slots Q (F0 m (pc + 3) ls (.int (zI (σ 16 0)) :: rest))) : W p l e R s m args below meth c H locs cells slots Q (F0 m pc ls (.ref (ad 100) :: rest)) := va_get (D := D) (ci := 6) (C := R_M) (T := T_M) (N := 26) hc.1 hc.2.1 (hc.2.2.2.2.1.hts args) in_M hc.2.2.2.1 hc.2.2.2.2.2.1 hw.1 0 rfl rfl 16 (by decide) (hc.2.2.2.2.1.hts args _ lk) (fun _ h => h) rfl d k
theorem pM_M_isProved (hc : Cx p s m args c cc nL own meth ret D cl7 (tyM ca)) (hw : Wd D cl7 (wM ad ca) A s.heap σ H locs) {index : Nat} {v : Int} (lk : Cond.fieldLink own index "ProbeChoiceModel" "isProved" "Z" ∈ lw_gd) (d : decode cc pc = .ok (.putfield index, 3)) (h01 : v = 0 ∨ v = 1) (k : ∀ (H1 : Heap) (locs1 : List Loc), Wd D cl7 (wM ad ca) A s.heap (up σ 16 0 v) H1 locs1 → W p l e R s m args below meth c H1 locs1 cells slots Q (F0 m (pc + 3) ls rest)) : W p l e R s m args below meth c H locs cells slots Q (F0 m pc ls (.int (zI v) :: .ref (ad 100) :: rest)) :=
  va_put (D := D) (ci := 6) (C := R_M) (T := T_M) (N := 26) (ty := .boolean) hc.1 hc.2.1 (hc.2.2.2.2.1.hts args) in_M t_M t_M_ok n_M hc.2.2.2.1 hc.2.2.2.2.2.1 hw.1 hw.2.1 hw.2.2 0 rfl rfl 16 (by decide) (hc.2.2.2.2.1.hts args _ lk) (fun _ h => h) rfl (by decide +kernel) (by rcases h01 with rfl | rfl <;> decide) (by rcases h01 with rfl | rfl <;> decide) (Nat.le_of_ble_eq_true rfl) d (fun H1 locs1 hP hD hS => k H1 locs1 ⟨hP, hD, hS⟩)
theorem gM_M_probes (hc : Cx p s m args c cc nL own meth ret D cl7 (tyM ca)) (hw : Wd D cl7 (wM ad ca) A s.heap σ H locs) {index : Nat} (lk : Cond.fieldLink own index "ProbeChoiceModel" "probes" "I" ∈ lw_gd) (d : decode cc pc = .ok (.getfield index, 3)) (k : W p l e R s m args below meth c H locs cells slots Q (F0 m (pc + 3) ls (.int (zI (σ 17 0)) :: rest))) : W p l e R s m args below meth c H locs cells slots Q (F0 m pc ls (.ref (ad 100) :: rest)) := va_get (D := D) (ci := 6) (C := R_M) (T := T_M) (N := 26) hc.1 hc.2.1 (hc.2.2.2.2.1.hts args) in_M hc.2.2.2.1 hc.2.2.2.2.2.1 hw.1 0 rfl rfl 17 (by decide) (hc.2.2.2.2.1.hts args _ lk) (fun _ h => h) rfl d k
theorem pM_M_probes (hc : Cx p s m args c cc nL own meth ret D cl7 (tyM ca)) (hw : Wd D cl7 (wM ad ca) A s.heap σ H locs) {index : Nat} {v : Int} (lk : Cond.fieldLink own index "ProbeChoiceModel" "probes" "I" ∈ lw_gd) (d : decode cc pc = .ok (.putfield index, 3)) (k : ∀ (H1 : Heap) (locs1 : List Loc), Wd D cl7 (wM ad ca) A s.heap (up σ 17 0 v) H1 locs1 → W p l e R s m args below meth c H1 locs1 cells slots Q (F0 m (pc + 3) ls rest)) : W p l e R s m args below meth c H locs cells slots Q (F0 m pc ls (.int (zI v) :: .ref (ad 100) :: rest)) :=
  va_put (D := D) (ci := 6) (C := R_M) (T := T_M) (N := 26) (ty := .int) hc.1 hc.2.1 (hc.2.2.2.2.1.hts args) in_M t_M t_M_ok n_M hc.2.2.2.1 hc.2.2.2.2.2.1 hw.1 hw.2.1 hw.2.2 0 rfl rfl 17 (by decide) (hc.2.2.2.2.1.hts args _ lk) (fun _ h => h) rfl (by decide +kernel) rfl rfl (Nat.le_of_ble_eq_true rfl) d (fun H1 locs1 hP hD hS => k H1 locs1 ⟨hP, hD, hS⟩)
theorem gM_M_probe (hc : Cx p s m args c cc nL own meth ret D cl7 (tyM ca)) (hw : Wd D cl7 (wM ad ca) A s.heap σ H locs) {index : Nat} (lk : Cond.fieldLink own index "ProbeChoiceModel" "probe" "[I" ∈ lw_gd) (d : decode cc pc = .ok (.getfield index, 3)) (k : W p l e R s m args below meth c H locs cells slots Q (F0 m (pc + 3) ls (.ref (ad 18) :: rest))) : W p l e R s m args below meth c H locs cells slots Q (F0 m pc ls (.ref (ad 100) :: rest)) := va_get (D := D) (ci := 6) (C := R_M) (T := T_M) (N := 26) hc.1 hc.2.1 (hc.2.2.2.2.1.hts args) in_M hc.2.2.2.1 hc.2.2.2.2.2.1 hw.1 0 rfl rfl 18 (by decide) (hc.2.2.2.2.1.hts args _ lk) (fun _ h => h) rfl d k
theorem ldM_M_probe (hc : Cx p s m args c cc nL own meth ret D cl7 (tyM ca)) (hw : Wd D cl7 (wM ad ca) A s.heap σ H locs) {i : Int} (d : decode cc pc = .ok (.iaload, 1)) (hi : 0 ≤ i ∧ i < 8) (k : W p l e R s m args below meth c H locs cells slots Q (F0 m (pc + 1) ls (.int (zI (σ 18 i)) :: rest))) : W p l e R s m args below meth c H locs cells slots Q (F0 m pc ls (.int (zI i) :: .ref (ad 18) :: rest)) := by
  refine va_iald (D := D) hc.1 hc.2.1 hc.2.2.2.2.2.1 hw.1 11 10 rfl rfl (zI_in hi.1 hi.2 (by decide)) d ?_
  show W p l e R s m args below meth c H locs cells slots Q (F0 m (pc + 1) ls (.int (zI (σ 18 (((zI i).toNatClampNeg : Nat) : Int))) :: rest))
  rw [zI_ix (n := 8) hi.1 hi.2 (by decide)]
  exact k
theorem stM_M_probe (hc : Cx p s m args c cc nL own meth ret D cl7 (tyM ca)) (hw : Wd D cl7 (wM ad ca) A s.heap σ H locs) {i v : Int} (d : decode cc pc = .ok (.iastore, 1)) (hi : 0 ≤ i ∧ i < 8) (k : ∀ (H1 : Heap) (locs1 : List Loc), Wd D cl7 (wM ad ca) A s.heap (up σ 18 i v) H1 locs1 → W p l e R s m args below meth c H1 locs1 cells slots Q (F0 m (pc + 1) ls rest)) : W p l e R s m args below meth c H locs cells slots Q (F0 m pc ls (.int (zI v) :: .int (zI i) :: .ref (ad 18) :: rest)) := by
  refine va_iast (D := D) hc.1 hc.2.1 hc.2.2.2.2.2.1 hw.1 hw.2.1 hw.2.2 11 10 rfl rfl (zI_in hi.1 hi.2 (by decide)) d (fun H1 locs1 hP hD hS => ?_)
  rw [updI_z (n := 8) hi.1 hi.2 (by decide)] at hP hD
  exact k H1 locs1 ⟨hP, hD, hS⟩
theorem gM_M_partCount (hc : Cx p s m args c cc nL own meth ret D cl7 (tyM ca)) (hw : Wd D cl7 (wM ad ca) A s.heap σ H locs) {index : Nat} (lk : Cond.fieldLink own index "ProbeChoiceModel" "partCount" "[I" ∈ lw_gd) (d : decode cc pc = .ok (.getfield index, 3)) (k : W p l e R s m args below meth c H locs cells slots Q (F0 m (pc + 3) ls (.ref (ad 19) :: rest))) : W p l e R s m args below meth c H locs cells slots Q (F0 m pc ls (.ref (ad 100) :: rest)) := va_get (D := D) (ci := 6) (C := R_M) (T := T_M) (N := 26) hc.1 hc.2.1 (hc.2.2.2.2.1.hts args) in_M hc.2.2.2.1 hc.2.2.2.2.2.1 hw.1 0 rfl rfl 19 (by decide) (hc.2.2.2.2.1.hts args _ lk) (fun _ h => h) rfl d k
theorem ldM_M_partCount (hc : Cx p s m args c cc nL own meth ret D cl7 (tyM ca)) (hw : Wd D cl7 (wM ad ca) A s.heap σ H locs) {i : Int} (d : decode cc pc = .ok (.iaload, 1)) (hi : 0 ≤ i ∧ i < 144) (k : W p l e R s m args below meth c H locs cells slots Q (F0 m (pc + 1) ls (.int (zI (σ 19 i)) :: rest))) : W p l e R s m args below meth c H locs cells slots Q (F0 m pc ls (.int (zI i) :: .ref (ad 19) :: rest)) := by
  refine va_iald (D := D) hc.1 hc.2.1 hc.2.2.2.2.2.1 hw.1 12 11 rfl rfl (zI_in hi.1 hi.2 (by decide)) d ?_
  show W p l e R s m args below meth c H locs cells slots Q (F0 m (pc + 1) ls (.int (zI (σ 19 (((zI i).toNatClampNeg : Nat) : Int))) :: rest))
  rw [zI_ix (n := 144) hi.1 hi.2 (by decide)]
  exact k
theorem stM_M_partCount (hc : Cx p s m args c cc nL own meth ret D cl7 (tyM ca)) (hw : Wd D cl7 (wM ad ca) A s.heap σ H locs) {i v : Int} (d : decode cc pc = .ok (.iastore, 1)) (hi : 0 ≤ i ∧ i < 144) (k : ∀ (H1 : Heap) (locs1 : List Loc), Wd D cl7 (wM ad ca) A s.heap (up σ 19 i v) H1 locs1 → W p l e R s m args below meth c H1 locs1 cells slots Q (F0 m (pc + 1) ls rest)) : W p l e R s m args below meth c H locs cells slots Q (F0 m pc ls (.int (zI v) :: .int (zI i) :: .ref (ad 19) :: rest)) := by
  refine va_iast (D := D) hc.1 hc.2.1 hc.2.2.2.2.2.1 hw.1 hw.2.1 hw.2.2 12 11 rfl rfl (zI_in hi.1 hi.2 (by decide)) d (fun H1 locs1 hP hD hS => ?_)
  rw [updI_z (n := 144) hi.1 hi.2 (by decide)] at hP hD
  exact k H1 locs1 ⟨hP, hD, hS⟩
theorem gM_M_parts (hc : Cx p s m args c cc nL own meth ret D cl7 (tyM ca)) (hw : Wd D cl7 (wM ad ca) A s.heap σ H locs) {index : Nat} (lk : Cond.fieldLink own index "ProbeChoiceModel" "parts" "[J" ∈ lw_gd) (d : decode cc pc = .ok (.getfield index, 3)) (k : W p l e R s m args below meth c H locs cells slots Q (F0 m (pc + 3) ls (.ref (ad 20) :: rest))) : W p l e R s m args below meth c H locs cells slots Q (F0 m pc ls (.ref (ad 100) :: rest)) := va_get (D := D) (ci := 6) (C := R_M) (T := T_M) (N := 26) hc.1 hc.2.1 (hc.2.2.2.2.1.hts args) in_M hc.2.2.2.1 hc.2.2.2.2.2.1 hw.1 0 rfl rfl 20 (by decide) (hc.2.2.2.2.1.hts args _ lk) (fun _ h => h) rfl d k
theorem ldM_M_parts (hc : Cx p s m args c cc nL own meth ret D cl7 (tyM ca)) (hw : Wd D cl7 (wM ad ca) A s.heap σ H locs) {i : Int} (d : decode cc pc = .ok (.laload, 1)) (hi : 0 ≤ i ∧ i < 1152) (k : W p l e R s m args below meth c H locs cells slots Q (F0 m (pc + 1) ls (.long (zL (σ 20 i)) :: rest))) : W p l e R s m args below meth c H locs cells slots Q (F0 m pc ls (.int (zI i) :: .ref (ad 20) :: rest)) := by
  refine va_lald (D := D) hc.1 hc.2.1 hc.2.2.2.2.2.1 hw.1 13 12 rfl rfl (zI_in hi.1 hi.2 (by decide)) d ?_
  show W p l e R s m args below meth c H locs cells slots Q (F0 m (pc + 1) ls (.long (zL (σ 20 (((zI i).toNatClampNeg : Nat) : Int))) :: rest))
  rw [zI_ix (n := 1152) hi.1 hi.2 (by decide)]
  exact k
theorem stM_M_parts (hc : Cx p s m args c cc nL own meth ret D cl7 (tyM ca)) (hw : Wd D cl7 (wM ad ca) A s.heap σ H locs) {i v : Int} (d : decode cc pc = .ok (.lastore, 1)) (hi : 0 ≤ i ∧ i < 1152) (k : ∀ (H1 : Heap) (locs1 : List Loc), Wd D cl7 (wM ad ca) A s.heap (up σ 20 i v) H1 locs1 → W p l e R s m args below meth c H1 locs1 cells slots Q (F0 m (pc + 1) ls rest)) : W p l e R s m args below meth c H locs cells slots Q (F0 m pc ls (.long (zL v) :: .int (zI i) :: .ref (ad 20) :: rest)) := by
  refine va_last (D := D) hc.1 hc.2.1 hc.2.2.2.2.2.1 hw.1 hw.2.1 hw.2.2 13 12 rfl rfl (zI_in hi.1 hi.2 (by decide)) d (fun H1 locs1 hP hD hS => ?_)
  rw [updL_z (n := 1152) hi.1 hi.2 (by decide)] at hP hD
  exact k H1 locs1 ⟨hP, hD, hS⟩
theorem gM_M_failed (hc : Cx p s m args c cc nL own meth ret D cl7 (tyM ca)) (hw : Wd D cl7 (wM ad ca) A s.heap σ H locs) {index : Nat} (lk : Cond.fieldLink own index "ProbeChoiceModel" "failed" "[I" ∈ lw_gd) (d : decode cc pc = .ok (.getfield index, 3)) (k : W p l e R s m args below meth c H locs cells slots Q (F0 m (pc + 3) ls (.ref (ad 21) :: rest))) : W p l e R s m args below meth c H locs cells slots Q (F0 m pc ls (.ref (ad 100) :: rest)) := va_get (D := D) (ci := 6) (C := R_M) (T := T_M) (N := 26) hc.1 hc.2.1 (hc.2.2.2.2.1.hts args) in_M hc.2.2.2.1 hc.2.2.2.2.2.1 hw.1 0 rfl rfl 21 (by decide) (hc.2.2.2.2.1.hts args _ lk) (fun _ h => h) rfl d k
theorem ldM_M_failed (hc : Cx p s m args c cc nL own meth ret D cl7 (tyM ca)) (hw : Wd D cl7 (wM ad ca) A s.heap σ H locs) {i : Int} (d : decode cc pc = .ok (.iaload, 1)) (hi : 0 ≤ i ∧ i < 12) (k : W p l e R s m args below meth c H locs cells slots Q (F0 m (pc + 1) ls (.int (zI (σ 21 i)) :: rest))) : W p l e R s m args below meth c H locs cells slots Q (F0 m pc ls (.int (zI i) :: .ref (ad 21) :: rest)) := by
  refine va_iald (D := D) hc.1 hc.2.1 hc.2.2.2.2.2.1 hw.1 14 13 rfl rfl (zI_in hi.1 hi.2 (by decide)) d ?_
  show W p l e R s m args below meth c H locs cells slots Q (F0 m (pc + 1) ls (.int (zI (σ 21 (((zI i).toNatClampNeg : Nat) : Int))) :: rest))
  rw [zI_ix (n := 12) hi.1 hi.2 (by decide)]
  exact k
theorem stM_M_failed (hc : Cx p s m args c cc nL own meth ret D cl7 (tyM ca)) (hw : Wd D cl7 (wM ad ca) A s.heap σ H locs) {i v : Int} (d : decode cc pc = .ok (.iastore, 1)) (hi : 0 ≤ i ∧ i < 12) (k : ∀ (H1 : Heap) (locs1 : List Loc), Wd D cl7 (wM ad ca) A s.heap (up σ 21 i v) H1 locs1 → W p l e R s m args below meth c H1 locs1 cells slots Q (F0 m (pc + 1) ls rest)) : W p l e R s m args below meth c H locs cells slots Q (F0 m pc ls (.int (zI v) :: .int (zI i) :: .ref (ad 21) :: rest)) := by
  refine va_iast (D := D) hc.1 hc.2.1 hc.2.2.2.2.2.1 hw.1 hw.2.1 hw.2.2 14 13 rfl rfl (zI_in hi.1 hi.2 (by decide)) d (fun H1 locs1 hP hD hS => ?_)
  rw [updI_z (n := 12) hi.1 hi.2 (by decide)] at hP hD
  exact k H1 locs1 ⟨hP, hD, hS⟩
theorem gM_M_flown (hc : Cx p s m args c cc nL own meth ret D cl7 (tyM ca)) (hw : Wd D cl7 (wM ad ca) A s.heap σ H locs) {index : Nat} (lk : Cond.fieldLink own index "ProbeChoiceModel" "flown" "[Z" ∈ lw_gd) (d : decode cc pc = .ok (.getfield index, 3)) (k : W p l e R s m args below meth c H locs cells slots Q (F0 m (pc + 3) ls (.ref (ad 22) :: rest))) : W p l e R s m args below meth c H locs cells slots Q (F0 m pc ls (.ref (ad 100) :: rest)) := va_get (D := D) (ci := 6) (C := R_M) (T := T_M) (N := 26) hc.1 hc.2.1 (hc.2.2.2.2.1.hts args) in_M hc.2.2.2.1 hc.2.2.2.2.2.1 hw.1 0 rfl rfl 22 (by decide) (hc.2.2.2.2.1.hts args _ lk) (fun _ h => h) rfl d k
theorem ldM_M_flown (hc : Cx p s m args c cc nL own meth ret D cl7 (tyM ca)) (hw : Wd D cl7 (wM ad ca) A s.heap σ H locs) {i : Int} (d : decode cc pc = .ok (.baload, 1)) (hi : 0 ≤ i ∧ i < 36) (k : W p l e R s m args below meth c H locs cells slots Q (F0 m (pc + 1) ls (.int (zI (σ 22 i)) :: rest))) : W p l e R s m args below meth c H locs cells slots Q (F0 m pc ls (.int (zI i) :: .ref (ad 22) :: rest)) := by
  refine va_zald (D := D) hc.1 hc.2.1 hc.2.2.2.2.2.1 hw.1 15 14 rfl rfl (zI_in hi.1 hi.2 (by decide)) d ?_
  show W p l e R s m args below meth c H locs cells slots Q (F0 m (pc + 1) ls (.int (zI (σ 22 (((zI i).toNatClampNeg : Nat) : Int))) :: rest))
  rw [zI_ix (n := 36) hi.1 hi.2 (by decide)]
  exact k
theorem stM_M_flown (hc : Cx p s m args c cc nL own meth ret D cl7 (tyM ca)) (hw : Wd D cl7 (wM ad ca) A s.heap σ H locs) {i v : Int} (d : decode cc pc = .ok (.bastore, 1)) (hi : 0 ≤ i ∧ i < 36) (h01 : v = 0 ∨ v = 1) (k : ∀ (H1 : Heap) (locs1 : List Loc), Wd D cl7 (wM ad ca) A s.heap (up σ 22 i v) H1 locs1 → W p l e R s m args below meth c H1 locs1 cells slots Q (F0 m (pc + 1) ls rest)) : W p l e R s m args below meth c H locs cells slots Q (F0 m pc ls (.int (zI v) :: .int (zI i) :: .ref (ad 22) :: rest)) := by
  refine va_zast (D := D) hc.1 hc.2.1 hc.2.2.2.2.2.1 hw.1 hw.2.1 hw.2.2 15 14 rfl rfl (zI_in hi.1 hi.2 (by decide)) d (fun H1 locs1 hP hD hS => ?_)
  rw [nar_z h01, updI_z (n := 36) hi.1 hi.2 (by decide)] at hP hD
  exact k H1 locs1 ⟨hP, hD, hS⟩
theorem gM_M_out (hc : Cx p s m args c cc nL own meth ret D cl7 (tyM ca)) (hw : Wd D cl7 (wM ad ca) A s.heap σ H locs) {index : Nat} (lk : Cond.fieldLink own index "ProbeChoiceModel" "out" "[I" ∈ lw_gd) (d : decode cc pc = .ok (.getfield index, 3)) (k : W p l e R s m args below meth c H locs cells slots Q (F0 m (pc + 3) ls (.ref (ad 23) :: rest))) : W p l e R s m args below meth c H locs cells slots Q (F0 m pc ls (.ref (ad 100) :: rest)) := va_get (D := D) (ci := 6) (C := R_M) (T := T_M) (N := 26) hc.1 hc.2.1 (hc.2.2.2.2.1.hts args) in_M hc.2.2.2.1 hc.2.2.2.2.2.1 hw.1 0 rfl rfl 23 (by decide) (hc.2.2.2.2.1.hts args _ lk) (fun _ h => h) rfl d k
theorem ldM_M_out (hc : Cx p s m args c cc nL own meth ret D cl7 (tyM ca)) (hw : Wd D cl7 (wM ad ca) A s.heap σ H locs) {i : Int} (d : decode cc pc = .ok (.iaload, 1)) (hi : 0 ≤ i ∧ i < 400) (k : W p l e R s m args below meth c H locs cells slots Q (F0 m (pc + 1) ls (.int (zI (σ 23 i)) :: rest))) : W p l e R s m args below meth c H locs cells slots Q (F0 m pc ls (.int (zI i) :: .ref (ad 23) :: rest)) := by
  refine va_iald (D := D) hc.1 hc.2.1 hc.2.2.2.2.2.1 hw.1 16 15 rfl rfl (zI_in hi.1 hi.2 (by decide)) d ?_
  show W p l e R s m args below meth c H locs cells slots Q (F0 m (pc + 1) ls (.int (zI (σ 23 (((zI i).toNatClampNeg : Nat) : Int))) :: rest))
  rw [zI_ix (n := 400) hi.1 hi.2 (by decide)]
  exact k
theorem stM_M_out (hc : Cx p s m args c cc nL own meth ret D cl7 (tyM ca)) (hw : Wd D cl7 (wM ad ca) A s.heap σ H locs) {i v : Int} (d : decode cc pc = .ok (.iastore, 1)) (hi : 0 ≤ i ∧ i < 400) (k : ∀ (H1 : Heap) (locs1 : List Loc), Wd D cl7 (wM ad ca) A s.heap (up σ 23 i v) H1 locs1 → W p l e R s m args below meth c H1 locs1 cells slots Q (F0 m (pc + 1) ls rest)) : W p l e R s m args below meth c H locs cells slots Q (F0 m pc ls (.int (zI v) :: .int (zI i) :: .ref (ad 23) :: rest)) := by
  refine va_iast (D := D) hc.1 hc.2.1 hc.2.2.2.2.2.1 hw.1 hw.2.1 hw.2.2 16 15 rfl rfl (zI_in hi.1 hi.2 (by decide)) d (fun H1 locs1 hP hD hS => ?_)
  rw [updI_z (n := 400) hi.1 hi.2 (by decide)] at hP hD
  exact k H1 locs1 ⟨hP, hD, hS⟩
theorem gM_M_written (hc : Cx p s m args c cc nL own meth ret D cl7 (tyM ca)) (hw : Wd D cl7 (wM ad ca) A s.heap σ H locs) {index : Nat} (lk : Cond.fieldLink own index "ProbeChoiceModel" "written" "I" ∈ lw_gd) (d : decode cc pc = .ok (.getfield index, 3)) (k : W p l e R s m args below meth c H locs cells slots Q (F0 m (pc + 3) ls (.int (zI (σ 24 0)) :: rest))) : W p l e R s m args below meth c H locs cells slots Q (F0 m pc ls (.ref (ad 100) :: rest)) := va_get (D := D) (ci := 6) (C := R_M) (T := T_M) (N := 26) hc.1 hc.2.1 (hc.2.2.2.2.1.hts args) in_M hc.2.2.2.1 hc.2.2.2.2.2.1 hw.1 0 rfl rfl 24 (by decide) (hc.2.2.2.2.1.hts args _ lk) (fun _ h => h) rfl d k
theorem pM_M_written (hc : Cx p s m args c cc nL own meth ret D cl7 (tyM ca)) (hw : Wd D cl7 (wM ad ca) A s.heap σ H locs) {index : Nat} {v : Int} (lk : Cond.fieldLink own index "ProbeChoiceModel" "written" "I" ∈ lw_gd) (d : decode cc pc = .ok (.putfield index, 3)) (k : ∀ (H1 : Heap) (locs1 : List Loc), Wd D cl7 (wM ad ca) A s.heap (up σ 24 0 v) H1 locs1 → W p l e R s m args below meth c H1 locs1 cells slots Q (F0 m (pc + 3) ls rest)) : W p l e R s m args below meth c H locs cells slots Q (F0 m pc ls (.int (zI v) :: .ref (ad 100) :: rest)) :=
  va_put (D := D) (ci := 6) (C := R_M) (T := T_M) (N := 26) (ty := .int) hc.1 hc.2.1 (hc.2.2.2.2.1.hts args) in_M t_M t_M_ok n_M hc.2.2.2.1 hc.2.2.2.2.2.1 hw.1 hw.2.1 hw.2.2 0 rfl rfl 24 (by decide) (hc.2.2.2.2.1.hts args _ lk) (fun _ h => h) rfl (by decide +kernel) rfl rfl (Nat.le_of_ble_eq_true rfl) d (fun H1 locs1 hP hD hS => k H1 locs1 ⟨hP, hD, hS⟩)
theorem gM_M_flight (hc : Cx p s m args c cc nL own meth ret D cl7 (tyM ca)) (hw : Wd D cl7 (wM ad ca) A s.heap σ H locs) {index : Nat} (lk : Cond.fieldLink own index "ProbeChoiceModel" "flight" "J" ∈ lw_gd) (d : decode cc pc = .ok (.getfield index, 3)) (k : W p l e R s m args below meth c H locs cells slots Q (F0 m (pc + 3) ls (.long (zL (σ 25 0)) :: rest))) : W p l e R s m args below meth c H locs cells slots Q (F0 m pc ls (.ref (ad 100) :: rest)) := va_get (D := D) (ci := 6) (C := R_M) (T := T_M) (N := 26) hc.1 hc.2.1 (hc.2.2.2.2.1.hts args) in_M hc.2.2.2.1 hc.2.2.2.2.2.1 hw.1 0 rfl rfl 25 (by decide) (hc.2.2.2.2.1.hts args _ lk) (fun _ h => h) rfl d k
theorem pM_M_flight (hc : Cx p s m args c cc nL own meth ret D cl7 (tyM ca)) (hw : Wd D cl7 (wM ad ca) A s.heap σ H locs) {index : Nat} {v : Int} (lk : Cond.fieldLink own index "ProbeChoiceModel" "flight" "J" ∈ lw_gd) (d : decode cc pc = .ok (.putfield index, 3)) (k : ∀ (H1 : Heap) (locs1 : List Loc), Wd D cl7 (wM ad ca) A s.heap (up σ 25 0 v) H1 locs1 → W p l e R s m args below meth c H1 locs1 cells slots Q (F0 m (pc + 3) ls rest)) : W p l e R s m args below meth c H locs cells slots Q (F0 m pc ls (.long (zL v) :: .ref (ad 100) :: rest)) :=
  va_put (D := D) (ci := 6) (C := R_M) (T := T_M) (N := 26) (ty := .long) hc.1 hc.2.1 (hc.2.2.2.2.1.hts args) in_M t_M t_M_ok n_M hc.2.2.2.1 hc.2.2.2.2.2.1 hw.1 hw.2.1 hw.2.2 0 rfl rfl 25 (by decide) (hc.2.2.2.2.1.hts args _ lk) (fun _ h => h) rfl (by decide +kernel) rfl rfl (Nat.le_of_ble_eq_true rfl) d (fun H1 locs1 hP hD hS => k H1 locs1 ⟨hP, hD, hS⟩)
end WM
end
section
theorem d_X_init_0 : decode prog_1_method_1_code 0 = .ok (.aload_n 0, 1) := by decide +kernel
theorem d_X_init_1 : decode prog_1_method_1_code 1 = .ok (.invokespecial 3, 3) := by decide +kernel
theorem d_X_init_4 : decode prog_1_method_1_code 4 = .ok (.aload_n 0, 1) := by decide +kernel
theorem d_X_init_5 : decode prog_1_method_1_code 5 = .ok (.new 9, 3) := by decide +kernel
theorem d_X_init_8 : decode prog_1_method_1_code 8 = .ok (.dup, 1) := by decide +kernel
theorem d_X_init_9 : decode prog_1_method_1_code 9 = .ok (.invokespecial 11, 3) := by decide +kernel
theorem d_X_init_12 : decode prog_1_method_1_code 12 = .ok (.putfield 12, 3) := by decide +kernel
theorem d_X_init_15 : decode prog_1_method_1_code 15 = .ok (.aload_n 0, 1) := by decide +kernel
theorem d_X_init_16 : decode prog_1_method_1_code 16 = .ok (.new 16, 3) := by decide +kernel
theorem d_X_init_19 : decode prog_1_method_1_code 19 = .ok (.dup, 1) := by decide +kernel
theorem d_X_init_20 : decode prog_1_method_1_code 20 = .ok (.invokespecial 18, 3) := by decide +kernel
theorem d_X_init_23 : decode prog_1_method_1_code 23 = .ok (.putfield 19, 3) := by decide +kernel
theorem d_X_init_26 : decode prog_1_method_1_code 26 = .ok (.aload_n 0, 1) := by decide +kernel
theorem d_X_init_27 : decode prog_1_method_1_code 27 = .ok (.new 23, 3) := by decide +kernel
theorem d_X_init_30 : decode prog_1_method_1_code 30 = .ok (.dup, 1) := by decide +kernel
theorem d_X_init_31 : decode prog_1_method_1_code 31 = .ok (.invokespecial 25, 3) := by decide +kernel
theorem d_X_init_34 : decode prog_1_method_1_code 34 = .ok (.putfield 26, 3) := by decide +kernel
theorem d_X_init_37 : decode prog_1_method_1_code 37 = .ok (.aload_n 0, 1) := by decide +kernel
theorem d_X_init_38 : decode prog_1_method_1_code 38 = .ok (.new 30, 3) := by decide +kernel
theorem d_X_init_41 : decode prog_1_method_1_code 41 = .ok (.dup, 1) := by decide +kernel
theorem d_X_init_42 : decode prog_1_method_1_code 42 = .ok (.invokespecial 32, 3) := by decide +kernel
theorem d_X_init_45 : decode prog_1_method_1_code 45 = .ok (.putfield 33, 3) := by decide +kernel
theorem d_X_init_48 : decode prog_1_method_1_code 48 = .ok (.aload_n 0, 1) := by decide +kernel
theorem d_X_init_49 : decode prog_1_method_1_code 49 = .ok (.new 37, 3) := by decide +kernel
theorem d_X_init_52 : decode prog_1_method_1_code 52 = .ok (.dup, 1) := by decide +kernel
theorem d_X_init_53 : decode prog_1_method_1_code 53 = .ok (.invokespecial 39, 3) := by decide +kernel
theorem d_X_init_56 : decode prog_1_method_1_code 56 = .ok (.putfield 40, 3) := by decide +kernel
theorem d_X_init_59 : decode prog_1_method_1_code 59 = .ok (.return_, 1) := by decide +kernel
theorem d_B_init_0 : decode prog_2_method_1_code 0 = .ok (.aload_n 0, 1) := by decide +kernel
theorem d_B_init_1 : decode prog_2_method_1_code 1 = .ok (.invokespecial 3, 3) := by decide +kernel
theorem d_B_init_4 : decode prog_2_method_1_code 4 = .ok (.aload_n 0, 1) := by decide +kernel
theorem d_B_init_5 : decode prog_2_method_1_code 5 = .ok (.bipush 12, 2) := by decide +kernel
theorem d_B_init_7 : decode prog_2_method_1_code 7 = .ok (.newarray .boolean, 2) := by decide +kernel
theorem d_B_init_9 : decode prog_2_method_1_code 9 = .ok (.putfield 9, 3) := by decide +kernel
theorem d_B_init_12 : decode prog_2_method_1_code 12 = .ok (.aload_n 0, 1) := by decide +kernel
theorem d_B_init_13 : decode prog_2_method_1_code 13 = .ok (.bipush 12, 2) := by decide +kernel
theorem d_B_init_15 : decode prog_2_method_1_code 15 = .ok (.newarray .int, 2) := by decide +kernel
theorem d_B_init_17 : decode prog_2_method_1_code 17 = .ok (.putfield 15, 3) := by decide +kernel
theorem d_B_init_20 : decode prog_2_method_1_code 20 = .ok (.aload_n 0, 1) := by decide +kernel
theorem d_B_init_21 : decode prog_2_method_1_code 21 = .ok (.bipush 36, 2) := by decide +kernel
theorem d_B_init_23 : decode prog_2_method_1_code 23 = .ok (.newarray .int, 2) := by decide +kernel
theorem d_B_init_25 : decode prog_2_method_1_code 25 = .ok (.putfield 19, 3) := by decide +kernel
theorem d_B_init_28 : decode prog_2_method_1_code 28 = .ok (.aload_n 0, 1) := by decide +kernel
theorem d_B_init_29 : decode prog_2_method_1_code 29 = .ok (.bipush 36, 2) := by decide +kernel
theorem d_B_init_31 : decode prog_2_method_1_code 31 = .ok (.newarray .long, 2) := by decide +kernel
theorem d_B_init_33 : decode prog_2_method_1_code 33 = .ok (.putfield 22, 3) := by decide +kernel
theorem d_B_init_36 : decode prog_2_method_1_code 36 = .ok (.aload_n 0, 1) := by decide +kernel
theorem d_B_init_37 : decode prog_2_method_1_code 37 = .ok (.bipush 36, 2) := by decide +kernel
theorem d_B_init_39 : decode prog_2_method_1_code 39 = .ok (.newarray .long, 2) := by decide +kernel
theorem d_B_init_41 : decode prog_2_method_1_code 41 = .ok (.putfield 26, 3) := by decide +kernel
theorem d_B_init_44 : decode prog_2_method_1_code 44 = .ok (.aload_n 0, 1) := by decide +kernel
theorem d_B_init_45 : decode prog_2_method_1_code 45 = .ok (.bipush 36, 2) := by decide +kernel
theorem d_B_init_47 : decode prog_2_method_1_code 47 = .ok (.newarray .long, 2) := by decide +kernel
theorem d_B_init_49 : decode prog_2_method_1_code 49 = .ok (.putfield 29, 3) := by decide +kernel
theorem d_B_init_52 : decode prog_2_method_1_code 52 = .ok (.aload_n 0, 1) := by decide +kernel
theorem d_B_init_53 : decode prog_2_method_1_code 53 = .ok (.bipush 36, 2) := by decide +kernel
theorem d_B_init_55 : decode prog_2_method_1_code 55 = .ok (.newarray .long, 2) := by decide +kernel
theorem d_B_init_57 : decode prog_2_method_1_code 57 = .ok (.putfield 32, 3) := by decide +kernel
theorem d_B_init_60 : decode prog_2_method_1_code 60 = .ok (.return_, 1) := by decide +kernel
theorem d_P_init_0 : decode prog_4_method_1_code 0 = .ok (.aload_n 0, 1) := by decide +kernel
theorem d_P_init_1 : decode prog_4_method_1_code 1 = .ok (.invokespecial 3, 3) := by decide +kernel
theorem d_P_init_4 : decode prog_4_method_1_code 4 = .ok (.aload_n 0, 1) := by decide +kernel
theorem d_P_init_5 : decode prog_4_method_1_code 5 = .ok (.sipush 144, 3) := by decide +kernel
theorem d_P_init_8 : decode prog_4_method_1_code 8 = .ok (.newarray .int, 2) := by decide +kernel
theorem d_P_init_10 : decode prog_4_method_1_code 10 = .ok (.putfield 11, 3) := by decide +kernel
theorem d_P_init_13 : decode prog_4_method_1_code 13 = .ok (.aload_n 0, 1) := by decide +kernel
theorem d_P_init_14 : decode prog_4_method_1_code 14 = .ok (.bipush 12, 2) := by decide +kernel
theorem d_P_init_16 : decode prog_4_method_1_code 16 = .ok (.newarray .int, 2) := by decide +kernel
theorem d_P_init_18 : decode prog_4_method_1_code 18 = .ok (.putfield 15, 3) := by decide +kernel
theorem d_P_init_21 : decode prog_4_method_1_code 21 = .ok (.aload_n 0, 1) := by decide +kernel
theorem d_P_init_22 : decode prog_4_method_1_code 22 = .ok (.iconst 2, 1) := by decide +kernel
theorem d_P_init_23 : decode prog_4_method_1_code 23 = .ok (.sipush 144, 3) := by decide +kernel
theorem d_P_init_26 : decode prog_4_method_1_code 26 = .ok (.multianewarray 18 2, 4) := by decide +kernel
theorem d_P_init_30 : decode prog_4_method_1_code 30 = .ok (.putfield 20, 3) := by decide +kernel
theorem d_P_init_33 : decode prog_4_method_1_code 33 = .ok (.aload_n 0, 1) := by decide +kernel
theorem d_P_init_34 : decode prog_4_method_1_code 34 = .ok (.iconst 2, 1) := by decide +kernel
theorem d_P_init_35 : decode prog_4_method_1_code 35 = .ok (.sipush 144, 3) := by decide +kernel
theorem d_P_init_38 : decode prog_4_method_1_code 38 = .ok (.multianewarray 18 2, 4) := by decide +kernel
theorem d_P_init_42 : decode prog_4_method_1_code 42 = .ok (.putfield 23, 3) := by decide +kernel
theorem d_P_init_45 : decode prog_4_method_1_code 45 = .ok (.return_, 1) := by decide +kernel
theorem d_R_init_0 : decode prog_5_method_1_code 0 = .ok (.aload_n 0, 1) := by decide +kernel
theorem d_R_init_1 : decode prog_5_method_1_code 1 = .ok (.invokespecial 3, 3) := by decide +kernel
theorem d_R_init_4 : decode prog_5_method_1_code 4 = .ok (.aload_n 0, 1) := by decide +kernel
theorem d_R_init_5 : decode prog_5_method_1_code 5 = .ok (.bipush 12, 2) := by decide +kernel
theorem d_R_init_7 : decode prog_5_method_1_code 7 = .ok (.newarray .int, 2) := by decide +kernel
theorem d_R_init_9 : decode prog_5_method_1_code 9 = .ok (.putfield 9, 3) := by decide +kernel
theorem d_R_init_12 : decode prog_5_method_1_code 12 = .ok (.return_, 1) := by decide +kernel
theorem d_X_net_0 : decode prog_1_method_2_code 0 = .ok (.aload_n 0, 1) := by decide +kernel
theorem d_X_net_1 : decode prog_1_method_2_code 1 = .ok (.getfield 12, 3) := by decide +kernel
theorem d_X_net_4 : decode prog_1_method_2_code 4 = .ok (.iload_n 1, 1) := by decide +kernel
theorem d_X_net_5 : decode prog_1_method_2_code 5 = .ok (.invokevirtual 44, 3) := by decide +kernel
theorem d_X_net_8 : decode prog_1_method_2_code 8 = .ok (.ireturn, 1) := by decide +kernel
theorem d_B_addNet_0 : decode prog_2_method_4_code 0 = .ok (.aload_n 0, 1) := by decide +kernel
theorem d_B_addNet_1 : decode prog_2_method_4_code 1 = .ok (.getfield 35, 3) := by decide +kernel
theorem d_B_addNet_4 : decode prog_2_method_4_code 4 = .ok (.bipush 12, 2) := by decide +kernel
theorem d_B_addNet_6 : decode prog_2_method_4_code 6 = .ok (.if_icmp .lt 5, 3) := by decide +kernel
theorem d_B_addNet_9 : decode prog_2_method_4_code 9 = .ok (.iconst (-1), 1) := by decide +kernel
theorem d_B_addNet_10 : decode prog_2_method_4_code 10 = .ok (.ireturn, 1) := by decide +kernel
theorem d_B_addNet_11 : decode prog_2_method_4_code 11 = .ok (.aload_n 0, 1) := by decide +kernel
theorem d_B_addNet_12 : decode prog_2_method_4_code 12 = .ok (.getfield 9, 3) := by decide +kernel
theorem d_B_addNet_15 : decode prog_2_method_4_code 15 = .ok (.aload_n 0, 1) := by decide +kernel
theorem d_B_addNet_16 : decode prog_2_method_4_code 16 = .ok (.getfield 35, 3) := by decide +kernel
theorem d_B_addNet_19 : decode prog_2_method_4_code 19 = .ok (.iload_n 1, 1) := by decide +kernel
theorem d_B_addNet_20 : decode prog_2_method_4_code 20 = .ok (.bastore, 1) := by decide +kernel
theorem d_B_addNet_21 : decode prog_2_method_4_code 21 = .ok (.aload_n 0, 1) := by decide +kernel
theorem d_B_addNet_22 : decode prog_2_method_4_code 22 = .ok (.dup, 1) := by decide +kernel
theorem d_B_addNet_23 : decode prog_2_method_4_code 23 = .ok (.getfield 35, 3) := by decide +kernel
theorem d_B_addNet_26 : decode prog_2_method_4_code 26 = .ok (.iconst 1, 1) := by decide +kernel
theorem d_B_addNet_27 : decode prog_2_method_4_code 27 = .ok (.iadd, 1) := by decide +kernel
theorem d_B_addNet_28 : decode prog_2_method_4_code 28 = .ok (.putfield 35, 3) := by decide +kernel
theorem d_B_addNet_31 : decode prog_2_method_4_code 31 = .ok (.aload_n 0, 1) := by decide +kernel
theorem d_B_addNet_32 : decode prog_2_method_4_code 32 = .ok (.getfield 35, 3) := by decide +kernel
theorem d_B_addNet_35 : decode prog_2_method_4_code 35 = .ok (.iconst 1, 1) := by decide +kernel
theorem d_B_addNet_36 : decode prog_2_method_4_code 36 = .ok (.isub, 1) := by decide +kernel
theorem d_B_addNet_37 : decode prog_2_method_4_code 37 = .ok (.ireturn, 1) := by decide +kernel
theorem d_X_probe_0 : decode prog_1_method_6_code 0 = .ok (.aload_n 0, 1) := by decide +kernel
theorem d_X_probe_1 : decode prog_1_method_6_code 1 = .ok (.getfield 26, 3) := by decide +kernel
theorem d_X_probe_4 : decode prog_1_method_6_code 4 = .ok (.getfield 97, 3) := by decide +kernel
theorem d_X_probe_7 : decode prog_1_method_6_code 7 = .ok (.aload_n 0, 1) := by decide +kernel
theorem d_X_probe_8 : decode prog_1_method_6_code 8 = .ok (.getfield 26, 3) := by decide +kernel
theorem d_X_probe_11 : decode prog_1_method_6_code 11 = .ok (.getfield 93, 3) := by decide +kernel
theorem d_X_probe_14 : decode prog_1_method_6_code 14 = .ok (.iload_n 1, 1) := by decide +kernel
theorem d_X_probe_15 : decode prog_1_method_6_code 15 = .ok (.invokestatic 101, 3) := by decide +kernel
theorem d_X_probe_18 : decode prog_1_method_6_code 18 = .ok (.ireturn, 1) := by decide +kernel
theorem d_X_nth_0 : decode prog_1_method_24_code 0 = .ok (.iload_n 2, 1) := by decide +kernel
theorem d_X_nth_1 : decode prog_1_method_24_code 1 = .ok (.ifCond .lt 20, 3) := by decide +kernel
theorem d_X_nth_4 : decode prog_1_method_24_code 4 = .ok (.iload_n 2, 1) := by decide +kernel
theorem d_X_nth_5 : decode prog_1_method_24_code 5 = .ok (.iload_n 1, 1) := by decide +kernel
theorem d_X_nth_6 : decode prog_1_method_24_code 6 = .ok (.if_icmp .ge 15, 3) := by decide +kernel
theorem d_X_nth_9 : decode prog_1_method_24_code 9 = .ok (.iload_n 2, 1) := by decide +kernel
theorem d_X_nth_10 : decode prog_1_method_24_code 10 = .ok (.aload_n 0, 1) := by decide +kernel
theorem d_X_nth_11 : decode prog_1_method_24_code 11 = .ok (.arraylength, 1) := by decide +kernel
theorem d_X_nth_12 : decode prog_1_method_24_code 12 = .ok (.if_icmp .ge 9, 3) := by decide +kernel
theorem d_X_nth_15 : decode prog_1_method_24_code 15 = .ok (.aload_n 0, 1) := by decide +kernel
theorem d_X_nth_16 : decode prog_1_method_24_code 16 = .ok (.iload_n 2, 1) := by decide +kernel
theorem d_X_nth_17 : decode prog_1_method_24_code 17 = .ok (.iaload, 1) := by decide +kernel
theorem d_X_nth_18 : decode prog_1_method_24_code 18 = .ok (.goto 4, 3) := by decide +kernel
theorem d_X_nth_21 : decode prog_1_method_24_code 21 = .ok (.iconst (-1), 1) := by decide +kernel
theorem d_X_nth_22 : decode prog_1_method_24_code 22 = .ok (.ireturn, 1) := by decide +kernel
theorem d_X_proved_0 : decode prog_1_method_7_code 0 = .ok (.aload_n 0, 1) := by decide +kernel
theorem d_X_proved_1 : decode prog_1_method_7_code 1 = .ok (.getfield 26, 3) := by decide +kernel
theorem d_X_proved_4 : decode prog_1_method_7_code 4 = .ok (.getfield 105, 3) := by decide +kernel
theorem d_X_proved_7 : decode prog_1_method_7_code 7 = .ok (.ireturn, 1) := by decide +kernel
theorem d_X_out_0 : decode prog_1_method_8_code 0 = .ok (.aload_n 0, 1) := by decide +kernel
theorem d_X_out_1 : decode prog_1_method_8_code 1 = .ok (.getfield 26, 3) := by decide +kernel
theorem d_X_out_4 : decode prog_1_method_8_code 4 = .ok (.getfield 109, 3) := by decide +kernel
theorem d_X_out_7 : decode prog_1_method_8_code 7 = .ok (.aload_n 0, 1) := by decide +kernel
theorem d_X_out_8 : decode prog_1_method_8_code 8 = .ok (.getfield 26, 3) := by decide +kernel
theorem d_X_out_11 : decode prog_1_method_8_code 11 = .ok (.getfield 112, 3) := by decide +kernel
theorem d_X_out_14 : decode prog_1_method_8_code 14 = .ok (.iload_n 1, 1) := by decide +kernel
theorem d_X_out_15 : decode prog_1_method_8_code 15 = .ok (.invokestatic 101, 3) := by decide +kernel
theorem d_X_out_18 : decode prog_1_method_8_code 18 = .ok (.ireturn, 1) := by decide +kernel
theorem d_X_suspects_0 : decode prog_1_method_13_code 0 = .ok (.aload_n 0, 1) := by decide +kernel
theorem d_X_suspects_1 : decode prog_1_method_13_code 1 = .ok (.getfield 40, 3) := by decide +kernel
theorem d_X_suspects_4 : decode prog_1_method_13_code 4 = .ok (.invokevirtual 152, 3) := by decide +kernel
theorem d_X_suspects_7 : decode prog_1_method_13_code 7 = .ok (.invokestatic 156, 3) := by decide +kernel
theorem d_X_suspects_10 : decode prog_1_method_13_code 10 = .ok (.ireturn, 1) := by decide +kernel
theorem d_R_smallestCover_0 : decode prog_5_method_4_code 0 = .ok (.aload_n 0, 1) := by decide +kernel
theorem d_R_smallestCover_1 : decode prog_5_method_4_code 1 = .ok (.getfield 19, 3) := by decide +kernel
theorem d_R_smallestCover_4 : decode prog_5_method_4_code 4 = .ok (.ifCond .eq 20, 3) := by decide +kernel
theorem d_R_smallestCover_7 : decode prog_5_method_4_code 7 = .ok (.aload_n 0, 1) := by decide +kernel
theorem d_R_smallestCover_8 : decode prog_5_method_4_code 8 = .ok (.bipush 13, 2) := by decide +kernel
theorem d_R_smallestCover_10 : decode prog_5_method_4_code 10 = .ok (.putfield 29, 3) := by decide +kernel
theorem d_R_smallestCover_13 : decode prog_5_method_4_code 13 = .ok (.aload_n 0, 1) := by decide +kernel
theorem d_R_smallestCover_14 : decode prog_5_method_4_code 14 = .ok (.iconst 0, 1) := by decide +kernel
theorem d_R_smallestCover_15 : decode prog_5_method_4_code 15 = .ok (.iconst 0, 1) := by decide +kernel
theorem d_R_smallestCover_16 : decode prog_5_method_4_code 16 = .ok (.invokestatic 33, 3) := by decide +kernel
theorem d_R_smallestCover_19 : decode prog_5_method_4_code 19 = .ok (.aload_n 0, 1) := by decide +kernel
theorem d_R_smallestCover_20 : decode prog_5_method_4_code 20 = .ok (.iconst 0, 1) := by decide +kernel
theorem d_R_smallestCover_21 : decode prog_5_method_4_code 21 = .ok (.putfield 19, 3) := by decide +kernel
theorem d_R_smallestCover_24 : decode prog_5_method_4_code 24 = .ok (.aload_n 0, 1) := by decide +kernel
theorem d_R_smallestCover_25 : decode prog_5_method_4_code 25 = .ok (.getfield 37, 3) := by decide +kernel
theorem d_R_smallestCover_28 : decode prog_5_method_4_code 28 = .ok (.ireturn, 1) := by decide +kernel
theorem d_R_explain_0 : decode prog_5_method_5_code 0 = .ok (.iload_n 2, 1) := by decide +kernel
theorem d_R_explain_1 : decode prog_5_method_5_code 1 = .ok (.invokestatic 23, 3) := by decide +kernel
theorem d_R_explain_4 : decode prog_5_method_5_code 4 = .ok (.aload_n 0, 1) := by decide +kernel
theorem d_R_explain_5 : decode prog_5_method_5_code 5 = .ok (.getfield 29, 3) := by decide +kernel
theorem d_R_explain_8 : decode prog_5_method_5_code 8 = .ok (.if_icmp .lt 4, 3) := by decide +kernel
theorem d_R_explain_11 : decode prog_5_method_5_code 11 = .ok (.return_, 1) := by decide +kernel
theorem d_R_explain_12 : decode prog_5_method_5_code 12 = .ok (.iload_n 1, 1) := by decide +kernel
theorem d_R_explain_13 : decode prog_5_method_5_code 13 = .ok (.bipush 12, 2) := by decide +kernel
theorem d_R_explain_15 : decode prog_5_method_5_code 15 = .ok (.if_icmp .lt 17, 3) := by decide +kernel
theorem d_R_explain_18 : decode prog_5_method_5_code 18 = .ok (.aload_n 0, 1) := by decide +kernel
theorem d_R_explain_19 : decode prog_5_method_5_code 19 = .ok (.iload_n 2, 1) := by decide +kernel
theorem d_R_explain_20 : decode prog_5_method_5_code 20 = .ok (.putfield 37, 3) := by decide +kernel
theorem d_R_explain_23 : decode prog_5_method_5_code 23 = .ok (.aload_n 0, 1) := by decide +kernel
theorem d_R_explain_24 : decode prog_5_method_5_code 24 = .ok (.iload_n 2, 1) := by decide +kernel
theorem d_R_explain_25 : decode prog_5_method_5_code 25 = .ok (.invokestatic 23, 3) := by decide +kernel
theorem d_R_explain_28 : decode prog_5_method_5_code 28 = .ok (.putfield 29, 3) := by decide +kernel
theorem d_R_explain_31 : decode prog_5_method_5_code 31 = .ok (.return_, 1) := by decide +kernel
theorem d_R_explain_32 : decode prog_5_method_5_code 32 = .ok (.iload_n 2, 1) := by decide +kernel
theorem d_R_explain_33 : decode prog_5_method_5_code 33 = .ok (.iload_n 1, 1) := by decide +kernel
theorem d_R_explain_34 : decode prog_5_method_5_code 34 = .ok (.invokestatic 15, 3) := by decide +kernel
theorem d_R_explain_37 : decode prog_5_method_5_code 37 = .ok (.ifCond .ne 16, 3) := by decide +kernel
theorem d_R_explain_40 : decode prog_5_method_5_code 40 = .ok (.aload_n 0, 1) := by decide +kernel
theorem d_R_explain_41 : decode prog_5_method_5_code 41 = .ok (.getfield 9, 3) := by decide +kernel
theorem d_R_explain_44 : decode prog_5_method_5_code 44 = .ok (.iload_n 1, 1) := by decide +kernel
theorem d_R_explain_45 : decode prog_5_method_5_code 45 = .ok (.iaload, 1) := by decide +kernel
theorem d_R_explain_46 : decode prog_5_method_5_code 46 = .ok (.iload_n 2, 1) := by decide +kernel
theorem d_R_explain_47 : decode prog_5_method_5_code 47 = .ok (.iconst (-1), 1) := by decide +kernel
theorem d_R_explain_48 : decode prog_5_method_5_code 48 = .ok (.ixor, 1) := by decide +kernel
theorem d_R_explain_49 : decode prog_5_method_5_code 49 = .ok (.iand, 1) := by decide +kernel
theorem d_R_explain_50 : decode prog_5_method_5_code 50 = .ok (.ifCond .ne 7, 3) := by decide +kernel
theorem d_R_explain_53 : decode prog_5_method_5_code 53 = .ok (.iconst 1, 1) := by decide +kernel
theorem d_R_explain_54 : decode prog_5_method_5_code 54 = .ok (.goto 4, 3) := by decide +kernel
theorem d_R_explain_57 : decode prog_5_method_5_code 57 = .ok (.iconst 0, 1) := by decide +kernel
theorem d_R_explain_58 : decode prog_5_method_5_code 58 = .ok (.istore_n 3, 1) := by decide +kernel
theorem d_R_explain_59 : decode prog_5_method_5_code 59 = .ok (.iload_n 3, 1) := by decide +kernel
theorem d_R_explain_60 : decode prog_5_method_5_code 60 = .ok (.ifCond .ne 15, 3) := by decide +kernel
theorem d_R_explain_63 : decode prog_5_method_5_code 63 = .ok (.aload_n 0, 1) := by decide +kernel
theorem d_R_explain_64 : decode prog_5_method_5_code 64 = .ok (.iload_n 1, 1) := by decide +kernel
theorem d_R_explain_65 : decode prog_5_method_5_code 65 = .ok (.iconst 1, 1) := by decide +kernel
theorem d_R_explain_66 : decode prog_5_method_5_code 66 = .ok (.iadd, 1) := by decide +kernel
theorem d_R_explain_67 : decode prog_5_method_5_code 67 = .ok (.iload_n 2, 1) := by decide +kernel
theorem d_R_explain_68 : decode prog_5_method_5_code 68 = .ok (.iconst 1, 1) := by decide +kernel
theorem d_R_explain_69 : decode prog_5_method_5_code 69 = .ok (.iload_n 1, 1) := by decide +kernel
theorem d_R_explain_70 : decode prog_5_method_5_code 70 = .ok (.ishl, 1) := by decide +kernel
theorem d_R_explain_71 : decode prog_5_method_5_code 71 = .ok (.ior, 1) := by decide +kernel
theorem d_R_explain_72 : decode prog_5_method_5_code 72 = .ok (.invokestatic 33, 3) := by decide +kernel
theorem d_R_explain_75 : decode prog_5_method_5_code 75 = .ok (.aload_n 0, 1) := by decide +kernel
theorem d_R_explain_76 : decode prog_5_method_5_code 76 = .ok (.iload_n 1, 1) := by decide +kernel
theorem d_R_explain_77 : decode prog_5_method_5_code 77 = .ok (.iconst 1, 1) := by decide +kernel
theorem d_R_explain_78 : decode prog_5_method_5_code 78 = .ok (.iadd, 1) := by decide +kernel
theorem d_R_explain_79 : decode prog_5_method_5_code 79 = .ok (.iload_n 3, 1) := by decide +kernel
theorem d_R_explain_80 : decode prog_5_method_5_code 80 = .ok (.ifCond .eq 7, 3) := by decide +kernel
theorem d_R_explain_83 : decode prog_5_method_5_code 83 = .ok (.iload_n 2, 1) := by decide +kernel
theorem d_R_explain_84 : decode prog_5_method_5_code 84 = .ok (.goto 11, 3) := by decide +kernel
theorem d_R_explain_87 : decode prog_5_method_5_code 87 = .ok (.iload_n 2, 1) := by decide +kernel
theorem d_R_explain_88 : decode prog_5_method_5_code 88 = .ok (.aload_n 0, 1) := by decide +kernel
theorem d_R_explain_89 : decode prog_5_method_5_code 89 = .ok (.getfield 9, 3) := by decide +kernel
theorem d_R_explain_92 : decode prog_5_method_5_code 92 = .ok (.iload_n 1, 1) := by decide +kernel
theorem d_R_explain_93 : decode prog_5_method_5_code 93 = .ok (.iaload, 1) := by decide +kernel
theorem d_R_explain_94 : decode prog_5_method_5_code 94 = .ok (.ior, 1) := by decide +kernel
theorem d_R_explain_95 : decode prog_5_method_5_code 95 = .ok (.invokestatic 33, 3) := by decide +kernel
theorem d_R_explain_98 : decode prog_5_method_5_code 98 = .ok (.return_, 1) := by decide +kernel
theorem d_JI_bitCount_0 : decode prog_13_method_49_code 0 = .ok (.iload_n 0, 1) := by decide +kernel
theorem d_JI_bitCount_1 : decode prog_13_method_49_code 1 = .ok (.iload_n 0, 1) := by decide +kernel
theorem d_JI_bitCount_2 : decode prog_13_method_49_code 2 = .ok (.iconst 1, 1) := by decide +kernel
theorem d_JI_bitCount_3 : decode prog_13_method_49_code 3 = .ok (.iushr, 1) := by decide +kernel
theorem d_JI_bitCount_4 : decode prog_13_method_49_code 4 = .ok (.ldc_w 265, 3) := by decide +kernel
theorem d_JI_bitCount_7 : decode prog_13_method_49_code 7 = .ok (.iand, 1) := by decide +kernel
theorem d_JI_bitCount_8 : decode prog_13_method_49_code 8 = .ok (.isub, 1) := by decide +kernel
theorem d_JI_bitCount_9 : decode prog_13_method_49_code 9 = .ok (.istore_n 0, 1) := by decide +kernel
theorem d_JI_bitCount_10 : decode prog_13_method_49_code 10 = .ok (.iload_n 0, 1) := by decide +kernel
theorem d_JI_bitCount_11 : decode prog_13_method_49_code 11 = .ok (.ldc_w 266, 3) := by decide +kernel
theorem d_JI_bitCount_14 : decode prog_13_method_49_code 14 = .ok (.iand, 1) := by decide +kernel
theorem d_JI_bitCount_15 : decode prog_13_method_49_code 15 = .ok (.iload_n 0, 1) := by decide +kernel
theorem d_JI_bitCount_16 : decode prog_13_method_49_code 16 = .ok (.iconst 2, 1) := by decide +kernel
theorem d_JI_bitCount_17 : decode prog_13_method_49_code 17 = .ok (.iushr, 1) := by decide +kernel
theorem d_JI_bitCount_18 : decode prog_13_method_49_code 18 = .ok (.ldc_w 266, 3) := by decide +kernel
theorem d_JI_bitCount_21 : decode prog_13_method_49_code 21 = .ok (.iand, 1) := by decide +kernel
theorem d_JI_bitCount_22 : decode prog_13_method_49_code 22 = .ok (.iadd, 1) := by decide +kernel
theorem d_JI_bitCount_23 : decode prog_13_method_49_code 23 = .ok (.istore_n 0, 1) := by decide +kernel
theorem d_JI_bitCount_24 : decode prog_13_method_49_code 24 = .ok (.iload_n 0, 1) := by decide +kernel
theorem d_JI_bitCount_25 : decode prog_13_method_49_code 25 = .ok (.iload_n 0, 1) := by decide +kernel
theorem d_JI_bitCount_26 : decode prog_13_method_49_code 26 = .ok (.iconst 4, 1) := by decide +kernel
theorem d_JI_bitCount_27 : decode prog_13_method_49_code 27 = .ok (.iushr, 1) := by decide +kernel
theorem d_JI_bitCount_28 : decode prog_13_method_49_code 28 = .ok (.iadd, 1) := by decide +kernel
theorem d_JI_bitCount_29 : decode prog_13_method_49_code 29 = .ok (.ldc_w 267, 3) := by decide +kernel
theorem d_JI_bitCount_32 : decode prog_13_method_49_code 32 = .ok (.iand, 1) := by decide +kernel
theorem d_JI_bitCount_33 : decode prog_13_method_49_code 33 = .ok (.istore_n 0, 1) := by decide +kernel
theorem d_JI_bitCount_34 : decode prog_13_method_49_code 34 = .ok (.iload_n 0, 1) := by decide +kernel
theorem d_JI_bitCount_35 : decode prog_13_method_49_code 35 = .ok (.iload_n 0, 1) := by decide +kernel
theorem d_JI_bitCount_36 : decode prog_13_method_49_code 36 = .ok (.bipush 8, 2) := by decide +kernel
theorem d_JI_bitCount_38 : decode prog_13_method_49_code 38 = .ok (.iushr, 1) := by decide +kernel
theorem d_JI_bitCount_39 : decode prog_13_method_49_code 39 = .ok (.iadd, 1) := by decide +kernel
theorem d_JI_bitCount_40 : decode prog_13_method_49_code 40 = .ok (.istore_n 0, 1) := by decide +kernel
theorem d_JI_bitCount_41 : decode prog_13_method_49_code 41 = .ok (.iload_n 0, 1) := by decide +kernel
theorem d_JI_bitCount_42 : decode prog_13_method_49_code 42 = .ok (.iload_n 0, 1) := by decide +kernel
theorem d_JI_bitCount_43 : decode prog_13_method_49_code 43 = .ok (.bipush 16, 2) := by decide +kernel
theorem d_JI_bitCount_45 : decode prog_13_method_49_code 45 = .ok (.iushr, 1) := by decide +kernel
theorem d_JI_bitCount_46 : decode prog_13_method_49_code 46 = .ok (.iadd, 1) := by decide +kernel
theorem d_JI_bitCount_47 : decode prog_13_method_49_code 47 = .ok (.istore_n 0, 1) := by decide +kernel
theorem d_JI_bitCount_48 : decode prog_13_method_49_code 48 = .ok (.iload_n 0, 1) := by decide +kernel
theorem d_JI_bitCount_49 : decode prog_13_method_49_code 49 = .ok (.bipush 63, 2) := by decide +kernel
theorem d_JI_bitCount_51 : decode prog_13_method_49_code 51 = .ok (.iand, 1) := by decide +kernel
theorem d_JI_bitCount_52 : decode prog_13_method_49_code 52 = .ok (.ireturn, 1) := by decide +kernel
theorem d_X_hasBit_0 : decode prog_1_method_26_code 0 = .ok (.iload_n 0, 1) := by decide +kernel
theorem d_X_hasBit_1 : decode prog_1_method_26_code 1 = .ok (.iload_n 1, 1) := by decide +kernel
theorem d_X_hasBit_2 : decode prog_1_method_26_code 2 = .ok (.ishr, 1) := by decide +kernel
theorem d_X_hasBit_3 : decode prog_1_method_26_code 3 = .ok (.iconst 1, 1) := by decide +kernel
theorem d_X_hasBit_4 : decode prog_1_method_26_code 4 = .ok (.iand, 1) := by decide +kernel
theorem d_X_hasBit_5 : decode prog_1_method_26_code 5 = .ok (.ifCond .eq 7, 3) := by decide +kernel
theorem d_X_hasBit_8 : decode prog_1_method_26_code 8 = .ok (.iconst 1, 1) := by decide +kernel
theorem d_X_hasBit_9 : decode prog_1_method_26_code 9 = .ok (.goto 4, 3) := by decide +kernel
theorem d_X_hasBit_12 : decode prog_1_method_26_code 12 = .ok (.iconst 0, 1) := by decide +kernel
theorem d_X_hasBit_13 : decode prog_1_method_26_code 13 = .ok (.ireturn, 1) := by decide +kernel
theorem d_X_fly_0 : decode prog_1_method_16_code 0 = .ok (.aload_n 0, 1) := by decide +kernel
theorem d_X_fly_1 : decode prog_1_method_16_code 1 = .ok (.getfield 26, 3) := by decide +kernel
theorem d_X_fly_4 : decode prog_1_method_16_code 4 = .ok (.getfield 167, 3) := by decide +kernel
theorem d_X_fly_7 : decode prog_1_method_16_code 7 = .ok (.aload_n 0, 1) := by decide +kernel
theorem d_X_fly_8 : decode prog_1_method_16_code 8 = .ok (.getfield 26, 3) := by decide +kernel
theorem d_X_fly_11 : decode prog_1_method_16_code 11 = .ok (.getfield 93, 3) := by decide +kernel
theorem d_X_fly_14 : decode prog_1_method_16_code 14 = .ok (.iload_n 1, 1) := by decide +kernel
theorem d_X_fly_15 : decode prog_1_method_16_code 15 = .ok (.invokestatic 101, 3) := by decide +kernel
theorem d_X_fly_18 : decode prog_1_method_16_code 18 = .ok (.ireturn, 1) := by decide +kernel
theorem d_X_seconds_0 : decode prog_1_method_17_code 0 = .ok (.aload_n 0, 1) := by decide +kernel
theorem d_X_seconds_1 : decode prog_1_method_17_code 1 = .ok (.getfield 26, 3) := by decide +kernel
theorem d_X_seconds_4 : decode prog_1_method_17_code 4 = .ok (.getfield 170, 3) := by decide +kernel
theorem d_X_seconds_7 : decode prog_1_method_17_code 7 = .ok (.lreturn, 1) := by decide +kernel
theorem d_X_forces_0 : decode prog_1_method_19_code 0 = .ok (.aload_n 0, 1) := by decide +kernel
theorem d_X_forces_1 : decode prog_1_method_19_code 1 = .ok (.getfield 26, 3) := by decide +kernel
theorem d_X_forces_4 : decode prog_1_method_19_code 4 = .ok (.aload_n 0, 1) := by decide +kernel
theorem d_X_forces_5 : decode prog_1_method_19_code 5 = .ok (.getfield 12, 3) := by decide +kernel
theorem d_X_forces_8 : decode prog_1_method_19_code 8 = .ok (.invokevirtual 186, 3) := by decide +kernel
theorem d_X_forces_11 : decode prog_1_method_19_code 11 = .ok (.lreturn, 1) := by decide +kernel
theorem d_X_order_0 : decode prog_1_method_21_code 0 = .ok (.aload_n 0, 1) := by decide +kernel
theorem d_X_order_1 : decode prog_1_method_21_code 1 = .ok (.getfield 26, 3) := by decide +kernel
theorem d_X_order_4 : decode prog_1_method_21_code 4 = .ok (.getfield 195, 3) := by decide +kernel
theorem d_X_order_7 : decode prog_1_method_21_code 7 = .ok (.aload_n 0, 1) := by decide +kernel
theorem d_X_order_8 : decode prog_1_method_21_code 8 = .ok (.getfield 26, 3) := by decide +kernel
theorem d_X_order_11 : decode prog_1_method_21_code 11 = .ok (.getfield 93, 3) := by decide +kernel
theorem d_X_order_14 : decode prog_1_method_21_code 14 = .ok (.iload_n 1, 1) := by decide +kernel
theorem d_X_order_15 : decode prog_1_method_21_code 15 = .ok (.invokestatic 101, 3) := by decide +kernel
theorem d_X_order_18 : decode prog_1_method_21_code 18 = .ok (.ireturn, 1) := by decide +kernel
theorem d_X_point_0 : decode prog_1_method_3_code 0 = .ok (.aload_n 0, 1) := by decide +kernel
theorem d_X_point_1 : decode prog_1_method_3_code 1 = .ok (.iload_n 1, 1) := by decide +kernel
theorem d_X_point_2 : decode prog_1_method_3_code 2 = .ok (.invokevirtual 48, 3) := by decide +kernel
theorem d_X_point_5 : decode prog_1_method_3_code 5 = .ok (.lload_n 2, 1) := by decide +kernel
theorem d_X_point_6 : decode prog_1_method_3_code 6 = .ok (.ldc2_w 52, 3) := by decide +kernel
theorem d_X_point_9 : decode prog_1_method_3_code 9 = .ok (.ldc2_w 54, 3) := by decide +kernel
theorem d_X_point_12 : decode prog_1_method_3_code 12 = .ok (.invokestatic 56, 3) := by decide +kernel
theorem d_X_point_15 : decode prog_1_method_3_code 15 = .ok (.ifCond .eq 17, 3) := by decide +kernel
theorem d_X_point_18 : decode prog_1_method_3_code 18 = .ok (.lload 4, 2) := by decide +kernel
theorem d_X_point_20 : decode prog_1_method_3_code 20 = .ok (.ldc2_w 52, 3) := by decide +kernel
theorem d_X_point_23 : decode prog_1_method_3_code 23 = .ok (.ldc2_w 54, 3) := by decide +kernel
theorem d_X_point_26 : decode prog_1_method_3_code 26 = .ok (.invokestatic 56, 3) := by decide +kernel
theorem d_X_point_29 : decode prog_1_method_3_code 29 = .ok (.ifCond .ne 13, 3) := by decide +kernel
theorem d_X_point_32 : decode prog_1_method_3_code 32 = .ok (.new 60, 3) := by decide +kernel
theorem d_X_point_35 : decode prog_1_method_3_code 35 = .ok (.dup, 1) := by decide +kernel
theorem d_X_point_36 : decode prog_1_method_3_code 36 = .ok (.ldc 62, 2) := by decide +kernel
theorem d_X_point_38 : decode prog_1_method_3_code 38 = .ok (.invokespecial 64, 3) := by decide +kernel
theorem d_X_point_41 : decode prog_1_method_3_code 41 = .ok (.athrow, 1) := by decide +kernel
theorem d_X_point_42 : decode prog_1_method_3_code 42 = .ok (.lload 6, 2) := by decide +kernel
theorem d_X_point_44 : decode prog_1_method_3_code 44 = .ok (.lconst 1, 1) := by decide +kernel
theorem d_X_point_45 : decode prog_1_method_3_code 45 = .ok (.ldc2_w 67, 3) := by decide +kernel
theorem d_X_point_48 : decode prog_1_method_3_code 48 = .ok (.invokestatic 56, 3) := by decide +kernel
theorem d_X_point_51 : decode prog_1_method_3_code 51 = .ok (.ifCond .ne 13, 3) := by decide +kernel
theorem d_X_point_54 : decode prog_1_method_3_code 54 = .ok (.new 60, 3) := by decide +kernel
theorem d_X_point_57 : decode prog_1_method_3_code 57 = .ok (.dup, 1) := by decide +kernel
theorem d_X_point_58 : decode prog_1_method_3_code 58 = .ok (.ldc 69, 2) := by decide +kernel
theorem d_X_point_60 : decode prog_1_method_3_code 60 = .ok (.invokespecial 64, 3) := by decide +kernel
theorem d_X_point_63 : decode prog_1_method_3_code 63 = .ok (.athrow, 1) := by decide +kernel
theorem d_X_point_64 : decode prog_1_method_3_code 64 = .ok (.aload_n 0, 1) := by decide +kernel
theorem d_X_point_65 : decode prog_1_method_3_code 65 = .ok (.getfield 12, 3) := by decide +kernel
theorem d_X_point_68 : decode prog_1_method_3_code 68 = .ok (.iload_n 1, 1) := by decide +kernel
theorem d_X_point_69 : decode prog_1_method_3_code 69 = .ok (.lload_n 2, 1) := by decide +kernel
theorem d_X_point_70 : decode prog_1_method_3_code 70 = .ok (.lload 4, 2) := by decide +kernel
theorem d_X_point_72 : decode prog_1_method_3_code 72 = .ok (.lload 6, 2) := by decide +kernel
theorem d_X_point_74 : decode prog_1_method_3_code 74 = .ok (.invokevirtual 71, 3) := by decide +kernel
theorem d_X_point_77 : decode prog_1_method_3_code 77 = .ok (.ireturn, 1) := by decide +kernel
theorem d_X_needNet_0 : decode prog_1_method_22_code 0 = .ok (.aload_n 0, 1) := by decide +kernel
theorem d_X_needNet_1 : decode prog_1_method_22_code 1 = .ok (.getfield 12, 3) := by decide +kernel
theorem d_X_needNet_4 : decode prog_1_method_22_code 4 = .ok (.iload_n 1, 1) := by decide +kernel
theorem d_X_needNet_5 : decode prog_1_method_22_code 5 = .ok (.invokevirtual 198, 3) := by decide +kernel
theorem d_X_needNet_8 : decode prog_1_method_22_code 8 = .ok (.ifCond .ne 13, 3) := by decide +kernel
theorem d_X_needNet_11 : decode prog_1_method_22_code 11 = .ok (.new 123, 3) := by decide +kernel
theorem d_X_needNet_14 : decode prog_1_method_22_code 14 = .ok (.dup, 1) := by decide +kernel
theorem d_X_needNet_15 : decode prog_1_method_22_code 15 = .ok (.ldc 201, 2) := by decide +kernel
theorem d_X_needNet_17 : decode prog_1_method_22_code 17 = .ok (.invokespecial 127, 3) := by decide +kernel
theorem d_X_needNet_20 : decode prog_1_method_22_code 20 = .ok (.athrow, 1) := by decide +kernel
theorem d_X_needNet_21 : decode prog_1_method_22_code 21 = .ok (.return_, 1) := by decide +kernel
theorem d_B_hasNet_0 : decode prog_2_method_2_code 0 = .ok (.iload_n 1, 1) := by decide +kernel
theorem d_B_hasNet_1 : decode prog_2_method_2_code 1 = .ok (.ifCond .lt 15, 3) := by decide +kernel
theorem d_B_hasNet_4 : decode prog_2_method_2_code 4 = .ok (.iload_n 1, 1) := by decide +kernel
theorem d_B_hasNet_5 : decode prog_2_method_2_code 5 = .ok (.aload_n 0, 1) := by decide +kernel
theorem d_B_hasNet_6 : decode prog_2_method_2_code 6 = .ok (.getfield 35, 3) := by decide +kernel
theorem d_B_hasNet_9 : decode prog_2_method_2_code 9 = .ok (.if_icmp .ge 7, 3) := by decide +kernel
theorem d_B_hasNet_12 : decode prog_2_method_2_code 12 = .ok (.iconst 1, 1) := by decide +kernel
theorem d_B_hasNet_13 : decode prog_2_method_2_code 13 = .ok (.goto 4, 3) := by decide +kernel
theorem d_B_hasNet_16 : decode prog_2_method_2_code 16 = .ok (.iconst 0, 1) := by decide +kernel
theorem d_B_hasNet_17 : decode prog_2_method_2_code 17 = .ok (.ireturn, 1) := by decide +kernel
theorem d_X_isWithin_0 : decode prog_1_method_23_code 0 = .ok (.lload_n 0, 1) := by decide +kernel
theorem d_X_isWithin_1 : decode prog_1_method_23_code 1 = .ok (.lload_n 2, 1) := by decide +kernel
theorem d_X_isWithin_2 : decode prog_1_method_23_code 2 = .ok (.lcmp, 1) := by decide +kernel
theorem d_X_isWithin_3 : decode prog_1_method_23_code 3 = .ok (.ifCond .lt 14, 3) := by decide +kernel
theorem d_X_isWithin_6 : decode prog_1_method_23_code 6 = .ok (.lload_n 0, 1) := by decide +kernel
theorem d_X_isWithin_7 : decode prog_1_method_23_code 7 = .ok (.lload 4, 2) := by decide +kernel
theorem d_X_isWithin_9 : decode prog_1_method_23_code 9 = .ok (.lcmp, 1) := by decide +kernel
theorem d_X_isWithin_10 : decode prog_1_method_23_code 10 = .ok (.ifCond .gt 7, 3) := by decide +kernel
theorem d_X_isWithin_13 : decode prog_1_method_23_code 13 = .ok (.iconst 1, 1) := by decide +kernel
theorem d_X_isWithin_14 : decode prog_1_method_23_code 14 = .ok (.goto 4, 3) := by decide +kernel
theorem d_X_isWithin_17 : decode prog_1_method_23_code 17 = .ok (.iconst 0, 1) := by decide +kernel
theorem d_X_isWithin_18 : decode prog_1_method_23_code 18 = .ok (.ireturn, 1) := by decide +kernel
theorem d_B_addPoint_0 : decode prog_2_method_5_code 0 = .ok (.aload_n 0, 1) := by decide +kernel
theorem d_B_addPoint_1 : decode prog_2_method_5_code 1 = .ok (.getfield 15, 3) := by decide +kernel
theorem d_B_addPoint_4 : decode prog_2_method_5_code 4 = .ok (.iload_n 1, 1) := by decide +kernel
theorem d_B_addPoint_5 : decode prog_2_method_5_code 5 = .ok (.iaload, 1) := by decide +kernel
theorem d_B_addPoint_6 : decode prog_2_method_5_code 6 = .ok (.iconst 3, 1) := by decide +kernel
theorem d_B_addPoint_7 : decode prog_2_method_5_code 7 = .ok (.if_icmp .ge 12, 3) := by decide +kernel
theorem d_B_addPoint_10 : decode prog_2_method_5_code 10 = .ok (.aload_n 0, 1) := by decide +kernel
theorem d_B_addPoint_11 : decode prog_2_method_5_code 11 = .ok (.getfield 39, 3) := by decide +kernel
theorem d_B_addPoint_14 : decode prog_2_method_5_code 14 = .ok (.bipush 36, 2) := by decide +kernel
theorem d_B_addPoint_16 : decode prog_2_method_5_code 16 = .ok (.if_icmp .lt 5, 3) := by decide +kernel
theorem d_B_addPoint_19 : decode prog_2_method_5_code 19 = .ok (.iconst (-1), 1) := by decide +kernel
theorem d_B_addPoint_20 : decode prog_2_method_5_code 20 = .ok (.ireturn, 1) := by decide +kernel
theorem d_B_addPoint_21 : decode prog_2_method_5_code 21 = .ok (.aload_n 0, 1) := by decide +kernel
theorem d_B_addPoint_22 : decode prog_2_method_5_code 22 = .ok (.getfield 39, 3) := by decide +kernel
theorem d_B_addPoint_25 : decode prog_2_method_5_code 25 = .ok (.istore 8, 2) := by decide +kernel
theorem d_B_addPoint_27 : decode prog_2_method_5_code 27 = .ok (.aload_n 0, 1) := by decide +kernel
theorem d_B_addPoint_28 : decode prog_2_method_5_code 28 = .ok (.getfield 22, 3) := by decide +kernel
theorem d_B_addPoint_31 : decode prog_2_method_5_code 31 = .ok (.iload 8, 2) := by decide +kernel
theorem d_B_addPoint_33 : decode prog_2_method_5_code 33 = .ok (.lload_n 2, 1) := by decide +kernel
theorem d_B_addPoint_34 : decode prog_2_method_5_code 34 = .ok (.lastore, 1) := by decide +kernel
theorem d_B_addPoint_35 : decode prog_2_method_5_code 35 = .ok (.aload_n 0, 1) := by decide +kernel
theorem d_B_addPoint_36 : decode prog_2_method_5_code 36 = .ok (.getfield 26, 3) := by decide +kernel
theorem d_B_addPoint_39 : decode prog_2_method_5_code 39 = .ok (.iload 8, 2) := by decide +kernel
theorem d_B_addPoint_41 : decode prog_2_method_5_code 41 = .ok (.lload 4, 2) := by decide +kernel
theorem d_B_addPoint_43 : decode prog_2_method_5_code 43 = .ok (.lastore, 1) := by decide +kernel
theorem d_B_addPoint_44 : decode prog_2_method_5_code 44 = .ok (.aload_n 0, 1) := by decide +kernel
theorem d_B_addPoint_45 : decode prog_2_method_5_code 45 = .ok (.getfield 29, 3) := by decide +kernel
theorem d_B_addPoint_48 : decode prog_2_method_5_code 48 = .ok (.iload 8, 2) := by decide +kernel
theorem d_B_addPoint_50 : decode prog_2_method_5_code 50 = .ok (.lload 6, 2) := by decide +kernel
theorem d_B_addPoint_52 : decode prog_2_method_5_code 52 = .ok (.lastore, 1) := by decide +kernel
theorem d_B_addPoint_53 : decode prog_2_method_5_code 53 = .ok (.aload_n 0, 1) := by decide +kernel
theorem d_B_addPoint_54 : decode prog_2_method_5_code 54 = .ok (.getfield 19, 3) := by decide +kernel
theorem d_B_addPoint_57 : decode prog_2_method_5_code 57 = .ok (.iload_n 1, 1) := by decide +kernel
theorem d_B_addPoint_58 : decode prog_2_method_5_code 58 = .ok (.iconst 3, 1) := by decide +kernel
theorem d_B_addPoint_59 : decode prog_2_method_5_code 59 = .ok (.imul, 1) := by decide +kernel
theorem d_B_addPoint_60 : decode prog_2_method_5_code 60 = .ok (.aload_n 0, 1) := by decide +kernel
theorem d_B_addPoint_61 : decode prog_2_method_5_code 61 = .ok (.getfield 15, 3) := by decide +kernel
theorem d_B_addPoint_64 : decode prog_2_method_5_code 64 = .ok (.iload_n 1, 1) := by decide +kernel
theorem d_B_addPoint_65 : decode prog_2_method_5_code 65 = .ok (.iaload, 1) := by decide +kernel
theorem d_B_addPoint_66 : decode prog_2_method_5_code 66 = .ok (.iadd, 1) := by decide +kernel
theorem d_B_addPoint_67 : decode prog_2_method_5_code 67 = .ok (.iload 8, 2) := by decide +kernel
theorem d_B_addPoint_69 : decode prog_2_method_5_code 69 = .ok (.iastore, 1) := by decide +kernel
theorem d_B_addPoint_70 : decode prog_2_method_5_code 70 = .ok (.aload_n 0, 1) := by decide +kernel
theorem d_B_addPoint_71 : decode prog_2_method_5_code 71 = .ok (.getfield 15, 3) := by decide +kernel
theorem d_B_addPoint_74 : decode prog_2_method_5_code 74 = .ok (.iload_n 1, 1) := by decide +kernel
theorem d_B_addPoint_75 : decode prog_2_method_5_code 75 = .ok (.dup2, 1) := by decide +kernel
theorem d_B_addPoint_76 : decode prog_2_method_5_code 76 = .ok (.iaload, 1) := by decide +kernel
theorem d_B_addPoint_77 : decode prog_2_method_5_code 77 = .ok (.iconst 1, 1) := by decide +kernel
theorem d_B_addPoint_78 : decode prog_2_method_5_code 78 = .ok (.iadd, 1) := by decide +kernel
theorem d_B_addPoint_79 : decode prog_2_method_5_code 79 = .ok (.iastore, 1) := by decide +kernel
theorem d_B_addPoint_80 : decode prog_2_method_5_code 80 = .ok (.aload_n 0, 1) := by decide +kernel
theorem d_B_addPoint_81 : decode prog_2_method_5_code 81 = .ok (.dup, 1) := by decide +kernel
theorem d_B_addPoint_82 : decode prog_2_method_5_code 82 = .ok (.getfield 39, 3) := by decide +kernel
theorem d_B_addPoint_85 : decode prog_2_method_5_code 85 = .ok (.iconst 1, 1) := by decide +kernel
theorem d_B_addPoint_86 : decode prog_2_method_5_code 86 = .ok (.iadd, 1) := by decide +kernel
theorem d_B_addPoint_87 : decode prog_2_method_5_code 87 = .ok (.putfield 39, 3) := by decide +kernel
theorem d_B_addPoint_90 : decode prog_2_method_5_code 90 = .ok (.iload 8, 2) := by decide +kernel
theorem d_B_addPoint_92 : decode prog_2_method_5_code 92 = .ok (.ireturn, 1) := by decide +kernel
theorem d_X_gap_0 : decode prog_1_method_4_code 0 = .ok (.lload_n 1, 1) := by decide +kernel
theorem d_X_gap_1 : decode prog_1_method_4_code 1 = .ok (.lconst 0, 1) := by decide +kernel
theorem d_X_gap_2 : decode prog_1_method_4_code 2 = .ok (.ldc2_w 54, 3) := by decide +kernel
theorem d_X_gap_5 : decode prog_1_method_4_code 5 = .ok (.invokestatic 56, 3) := by decide +kernel
theorem d_X_gap_8 : decode prog_1_method_4_code 8 = .ok (.ifCond .ne 13, 3) := by decide +kernel
theorem d_X_gap_11 : decode prog_1_method_4_code 11 = .ok (.new 60, 3) := by decide +kernel
theorem d_X_gap_14 : decode prog_1_method_4_code 14 = .ok (.dup, 1) := by decide +kernel
theorem d_X_gap_15 : decode prog_1_method_4_code 15 = .ok (.ldc 75, 2) := by decide +kernel
theorem d_X_gap_17 : decode prog_1_method_4_code 17 = .ok (.invokespecial 64, 3) := by decide +kernel
theorem d_X_gap_20 : decode prog_1_method_4_code 20 = .ok (.athrow, 1) := by decide +kernel
theorem d_X_gap_21 : decode prog_1_method_4_code 21 = .ok (.aload_n 0, 1) := by decide +kernel
theorem d_X_gap_22 : decode prog_1_method_4_code 22 = .ok (.getfield 12, 3) := by decide +kernel
theorem d_X_gap_25 : decode prog_1_method_4_code 25 = .ok (.lload_n 1, 1) := by decide +kernel
theorem d_X_gap_26 : decode prog_1_method_4_code 26 = .ok (.invokevirtual 77, 3) := by decide +kernel
theorem d_X_gap_29 : decode prog_1_method_4_code 29 = .ok (.ireturn, 1) := by decide +kernel
theorem d_B_setGap_0 : decode prog_2_method_6_code 0 = .ok (.lload_n 1, 1) := by decide +kernel
theorem d_B_setGap_1 : decode prog_2_method_6_code 1 = .ok (.aload_n 0, 1) := by decide +kernel
theorem d_B_setGap_2 : decode prog_2_method_6_code 2 = .ok (.getfield 42, 3) := by decide +kernel
theorem d_B_setGap_5 : decode prog_2_method_6_code 5 = .ok (.lcmp, 1) := by decide +kernel
theorem d_B_setGap_6 : decode prog_2_method_6_code 6 = .ok (.ifCond .eq 7, 3) := by decide +kernel
theorem d_B_setGap_9 : decode prog_2_method_6_code 9 = .ok (.iconst 1, 1) := by decide +kernel
theorem d_B_setGap_10 : decode prog_2_method_6_code 10 = .ok (.goto 4, 3) := by decide +kernel
theorem d_B_setGap_13 : decode prog_2_method_6_code 13 = .ok (.iconst 0, 1) := by decide +kernel
theorem d_B_setGap_14 : decode prog_2_method_6_code 14 = .ok (.istore_n 3, 1) := by decide +kernel
theorem d_B_setGap_15 : decode prog_2_method_6_code 15 = .ok (.aload_n 0, 1) := by decide +kernel
theorem d_B_setGap_16 : decode prog_2_method_6_code 16 = .ok (.lload_n 1, 1) := by decide +kernel
theorem d_B_setGap_17 : decode prog_2_method_6_code 17 = .ok (.putfield 42, 3) := by decide +kernel
theorem d_B_setGap_20 : decode prog_2_method_6_code 20 = .ok (.iload_n 3, 1) := by decide +kernel
theorem d_B_setGap_21 : decode prog_2_method_6_code 21 = .ok (.ireturn, 1) := by decide +kernel
theorem d_X_run_0 : decode prog_1_method_5_code 0 = .ok (.lload_n 1, 1) := by decide +kernel
theorem d_X_run_1 : decode prog_1_method_5_code 1 = .ok (.lconst 0, 1) := by decide +kernel
theorem d_X_run_2 : decode prog_1_method_5_code 2 = .ok (.ldc2_w 81, 3) := by decide +kernel
theorem d_X_run_5 : decode prog_1_method_5_code 5 = .ok (.invokestatic 56, 3) := by decide +kernel
theorem d_X_run_8 : decode prog_1_method_5_code 8 = .ok (.ifCond .ne 13, 3) := by decide +kernel
theorem d_X_run_11 : decode prog_1_method_5_code 11 = .ok (.new 60, 3) := by decide +kernel
theorem d_X_run_14 : decode prog_1_method_5_code 14 = .ok (.dup, 1) := by decide +kernel
theorem d_X_run_15 : decode prog_1_method_5_code 15 = .ok (.ldc 83, 2) := by decide +kernel
theorem d_X_run_17 : decode prog_1_method_5_code 17 = .ok (.invokespecial 64, 3) := by decide +kernel
theorem d_X_run_20 : decode prog_1_method_5_code 20 = .ok (.athrow, 1) := by decide +kernel
theorem d_X_run_21 : decode prog_1_method_5_code 21 = .ok (.aload_n 0, 1) := by decide +kernel
theorem d_X_run_22 : decode prog_1_method_5_code 22 = .ok (.getfield 19, 3) := by decide +kernel
theorem d_X_run_25 : decode prog_1_method_5_code 25 = .ok (.aload_n 0, 1) := by decide +kernel
theorem d_X_run_26 : decode prog_1_method_5_code 26 = .ok (.getfield 12, 3) := by decide +kernel
theorem d_X_run_29 : decode prog_1_method_5_code 29 = .ok (.lload_n 1, 1) := by decide +kernel
theorem d_X_run_30 : decode prog_1_method_5_code 30 = .ok (.l2i, 1) := by decide +kernel
theorem d_X_run_31 : decode prog_1_method_5_code 31 = .ok (.invokevirtual 85, 3) := by decide +kernel
theorem d_X_run_34 : decode prog_1_method_5_code 34 = .ok (.aload_n 0, 1) := by decide +kernel
theorem d_X_run_35 : decode prog_1_method_5_code 35 = .ok (.getfield 26, 3) := by decide +kernel
theorem d_X_run_38 : decode prog_1_method_5_code 38 = .ok (.aload_n 0, 1) := by decide +kernel
theorem d_X_run_39 : decode prog_1_method_5_code 39 = .ok (.getfield 12, 3) := by decide +kernel
theorem d_X_run_42 : decode prog_1_method_5_code 42 = .ok (.aload_n 0, 1) := by decide +kernel
theorem d_X_run_43 : decode prog_1_method_5_code 43 = .ok (.getfield 19, 3) := by decide +kernel
theorem d_X_run_46 : decode prog_1_method_5_code 46 = .ok (.invokevirtual 89, 3) := by decide +kernel
theorem d_X_run_49 : decode prog_1_method_5_code 49 = .ok (.aload_n 0, 1) := by decide +kernel
theorem d_X_run_50 : decode prog_1_method_5_code 50 = .ok (.getfield 26, 3) := by decide +kernel
theorem d_X_run_53 : decode prog_1_method_5_code 53 = .ok (.getfield 93, 3) := by decide +kernel
theorem d_X_run_56 : decode prog_1_method_5_code 56 = .ok (.ireturn, 1) := by decide +kernel
theorem d_JA_fill_0 : decode prog_19_method_103_code 0 = .ok (.iconst 0, 1) := by decide +kernel
theorem d_JA_fill_1 : decode prog_19_method_103_code 1 = .ok (.istore_n 2, 1) := by decide +kernel
theorem d_JA_fill_2 : decode prog_19_method_103_code 2 = .ok (.aload_n 0, 1) := by decide +kernel
theorem d_JA_fill_3 : decode prog_19_method_103_code 3 = .ok (.arraylength, 1) := by decide +kernel
theorem d_JA_fill_4 : decode prog_19_method_103_code 4 = .ok (.istore_n 3, 1) := by decide +kernel
theorem d_JA_fill_5 : decode prog_19_method_103_code 5 = .ok (.iload_n 2, 1) := by decide +kernel
theorem d_JA_fill_6 : decode prog_19_method_103_code 6 = .ok (.iload_n 3, 1) := by decide +kernel
theorem d_JA_fill_7 : decode prog_19_method_103_code 7 = .ok (.if_icmp .ge 13, 3) := by decide +kernel
theorem d_JA_fill_10 : decode prog_19_method_103_code 10 = .ok (.aload_n 0, 1) := by decide +kernel
theorem d_JA_fill_11 : decode prog_19_method_103_code 11 = .ok (.iload_n 2, 1) := by decide +kernel
theorem d_JA_fill_12 : decode prog_19_method_103_code 12 = .ok (.iload_n 1, 1) := by decide +kernel
theorem d_JA_fill_13 : decode prog_19_method_103_code 13 = .ok (.iastore, 1) := by decide +kernel
theorem d_JA_fill_14 : decode prog_19_method_103_code 14 = .ok (.iinc 2 1, 3) := by decide +kernel
theorem d_JA_fill_17 : decode prog_19_method_103_code 17 = .ok (.goto (-12), 3) := by decide +kernel
theorem d_JA_fill_20 : decode prog_19_method_103_code 20 = .ok (.return_, 1) := by decide +kernel
theorem d_B_canBothBeProbes_0 : decode prog_2_method_9_code 0 = .ok (.aload_n 0, 1) := by decide +kernel
theorem d_B_canBothBeProbes_1 : decode prog_2_method_9_code 1 = .ok (.getfield 42, 3) := by decide +kernel
theorem d_B_canBothBeProbes_4 : decode prog_2_method_9_code 4 = .ok (.aload_n 0, 1) := by decide +kernel
theorem d_B_canBothBeProbes_5 : decode prog_2_method_9_code 5 = .ok (.getfield 29, 3) := by decide +kernel
theorem d_B_canBothBeProbes_8 : decode prog_2_method_9_code 8 = .ok (.iload_n 1, 1) := by decide +kernel
theorem d_B_canBothBeProbes_9 : decode prog_2_method_9_code 9 = .ok (.laload, 1) := by decide +kernel
theorem d_B_canBothBeProbes_10 : decode prog_2_method_9_code 10 = .ok (.ladd, 1) := by decide +kernel
theorem d_B_canBothBeProbes_11 : decode prog_2_method_9_code 11 = .ok (.aload_n 0, 1) := by decide +kernel
theorem d_B_canBothBeProbes_12 : decode prog_2_method_9_code 12 = .ok (.getfield 29, 3) := by decide +kernel
theorem d_B_canBothBeProbes_15 : decode prog_2_method_9_code 15 = .ok (.iload_n 2, 1) := by decide +kernel
theorem d_B_canBothBeProbes_16 : decode prog_2_method_9_code 16 = .ok (.laload, 1) := by decide +kernel
theorem d_B_canBothBeProbes_17 : decode prog_2_method_9_code 17 = .ok (.ladd, 1) := by decide +kernel
theorem d_B_canBothBeProbes_18 : decode prog_2_method_9_code 18 = .ok (.lstore_n 3, 1) := by decide +kernel
theorem d_B_canBothBeProbes_19 : decode prog_2_method_9_code 19 = .ok (.aload_n 0, 1) := by decide +kernel
theorem d_B_canBothBeProbes_20 : decode prog_2_method_9_code 20 = .ok (.iload_n 1, 1) := by decide +kernel
theorem d_B_canBothBeProbes_21 : decode prog_2_method_9_code 21 = .ok (.aload_n 0, 1) := by decide +kernel
theorem d_B_canBothBeProbes_22 : decode prog_2_method_9_code 22 = .ok (.getfield 22, 3) := by decide +kernel
theorem d_B_canBothBeProbes_25 : decode prog_2_method_9_code 25 = .ok (.iload_n 2, 1) := by decide +kernel
theorem d_B_canBothBeProbes_26 : decode prog_2_method_9_code 26 = .ok (.laload, 1) := by decide +kernel
theorem d_B_canBothBeProbes_27 : decode prog_2_method_9_code 27 = .ok (.aload_n 0, 1) := by decide +kernel
theorem d_B_canBothBeProbes_28 : decode prog_2_method_9_code 28 = .ok (.getfield 26, 3) := by decide +kernel
theorem d_B_canBothBeProbes_31 : decode prog_2_method_9_code 31 = .ok (.iload_n 2, 1) := by decide +kernel
theorem d_B_canBothBeProbes_32 : decode prog_2_method_9_code 32 = .ok (.laload, 1) := by decide +kernel
theorem d_B_canBothBeProbes_33 : decode prog_2_method_9_code 33 = .ok (.invokevirtual 46, 3) := by decide +kernel
theorem d_B_canBothBeProbes_36 : decode prog_2_method_9_code 36 = .ok (.lload_n 3, 1) := by decide +kernel
theorem d_B_canBothBeProbes_37 : decode prog_2_method_9_code 37 = .ok (.lload_n 3, 1) := by decide +kernel
theorem d_B_canBothBeProbes_38 : decode prog_2_method_9_code 38 = .ok (.lmul, 1) := by decide +kernel
theorem d_B_canBothBeProbes_39 : decode prog_2_method_9_code 39 = .ok (.lcmp, 1) := by decide +kernel
theorem d_B_canBothBeProbes_40 : decode prog_2_method_9_code 40 = .ok (.ifCond .lt 7, 3) := by decide +kernel
theorem d_B_canBothBeProbes_43 : decode prog_2_method_9_code 43 = .ok (.iconst 1, 1) := by decide +kernel
theorem d_B_canBothBeProbes_44 : decode prog_2_method_9_code 44 = .ok (.goto 4, 3) := by decide +kernel
theorem d_B_canBothBeProbes_47 : decode prog_2_method_9_code 47 = .ok (.iconst 0, 1) := by decide +kernel
theorem d_B_canBothBeProbes_48 : decode prog_2_method_9_code 48 = .ok (.ireturn, 1) := by decide +kernel
theorem d_B_squareOfWay_0 : decode prog_2_method_10_code 0 = .ok (.aload_n 0, 1) := by decide +kernel
theorem d_B_squareOfWay_1 : decode prog_2_method_10_code 1 = .ok (.getfield 22, 3) := by decide +kernel
theorem d_B_squareOfWay_4 : decode prog_2_method_10_code 4 = .ok (.iload_n 1, 1) := by decide +kernel
theorem d_B_squareOfWay_5 : decode prog_2_method_10_code 5 = .ok (.laload, 1) := by decide +kernel
theorem d_B_squareOfWay_6 : decode prog_2_method_10_code 6 = .ok (.lload_n 2, 1) := by decide +kernel
theorem d_B_squareOfWay_7 : decode prog_2_method_10_code 7 = .ok (.lsub, 1) := by decide +kernel
theorem d_B_squareOfWay_8 : decode prog_2_method_10_code 8 = .ok (.lstore 6, 2) := by decide +kernel
theorem d_B_squareOfWay_10 : decode prog_2_method_10_code 10 = .ok (.aload_n 0, 1) := by decide +kernel
theorem d_B_squareOfWay_11 : decode prog_2_method_10_code 11 = .ok (.getfield 26, 3) := by decide +kernel
theorem d_B_squareOfWay_14 : decode prog_2_method_10_code 14 = .ok (.iload_n 1, 1) := by decide +kernel
theorem d_B_squareOfWay_15 : decode prog_2_method_10_code 15 = .ok (.laload, 1) := by decide +kernel
theorem d_B_squareOfWay_16 : decode prog_2_method_10_code 16 = .ok (.lload 4, 2) := by decide +kernel
theorem d_B_squareOfWay_18 : decode prog_2_method_10_code 18 = .ok (.lsub, 1) := by decide +kernel
theorem d_B_squareOfWay_19 : decode prog_2_method_10_code 19 = .ok (.lstore 8, 2) := by decide +kernel
theorem d_B_squareOfWay_21 : decode prog_2_method_10_code 21 = .ok (.lload 6, 2) := by decide +kernel
theorem d_B_squareOfWay_23 : decode prog_2_method_10_code 23 = .ok (.lload 6, 2) := by decide +kernel
theorem d_B_squareOfWay_25 : decode prog_2_method_10_code 25 = .ok (.lmul, 1) := by decide +kernel
theorem d_B_squareOfWay_26 : decode prog_2_method_10_code 26 = .ok (.lload 8, 2) := by decide +kernel
theorem d_B_squareOfWay_28 : decode prog_2_method_10_code 28 = .ok (.lload 8, 2) := by decide +kernel
theorem d_B_squareOfWay_30 : decode prog_2_method_10_code 30 = .ok (.lmul, 1) := by decide +kernel
theorem d_B_squareOfWay_31 : decode prog_2_method_10_code 31 = .ok (.ladd, 1) := by decide +kernel
theorem d_B_squareOfWay_32 : decode prog_2_method_10_code 32 = .ok (.lreturn, 1) := by decide +kernel
theorem d_B_countOfMust_0 : decode prog_2_method_8_code 0 = .ok (.iconst 0, 1) := by decide +kernel
theorem d_B_countOfMust_1 : decode prog_2_method_8_code 1 = .ok (.istore_n 1, 1) := by decide +kernel
theorem d_B_countOfMust_2 : decode prog_2_method_8_code 2 = .ok (.iconst 0, 1) := by decide +kernel
theorem d_B_countOfMust_3 : decode prog_2_method_8_code 3 = .ok (.istore_n 2, 1) := by decide +kernel
theorem d_B_countOfMust_4 : decode prog_2_method_8_code 4 = .ok (.iload_n 2, 1) := by decide +kernel
theorem d_B_countOfMust_5 : decode prog_2_method_8_code 5 = .ok (.aload_n 0, 1) := by decide +kernel
theorem d_B_countOfMust_6 : decode prog_2_method_8_code 6 = .ok (.getfield 35, 3) := by decide +kernel
theorem d_B_countOfMust_9 : decode prog_2_method_8_code 9 = .ok (.if_icmp .ge 21, 3) := by decide +kernel
theorem d_B_countOfMust_12 : decode prog_2_method_8_code 12 = .ok (.aload_n 0, 1) := by decide +kernel
theorem d_B_countOfMust_13 : decode prog_2_method_8_code 13 = .ok (.getfield 9, 3) := by decide +kernel
theorem d_B_countOfMust_16 : decode prog_2_method_8_code 16 = .ok (.iload_n 2, 1) := by decide +kernel
theorem d_B_countOfMust_17 : decode prog_2_method_8_code 17 = .ok (.baload, 1) := by decide +kernel
theorem d_B_countOfMust_18 : decode prog_2_method_8_code 18 = .ok (.ifCond .eq 6, 3) := by decide +kernel
theorem d_B_countOfMust_21 : decode prog_2_method_8_code 21 = .ok (.iinc 1 1, 3) := by decide +kernel
theorem d_B_countOfMust_24 : decode prog_2_method_8_code 24 = .ok (.iinc 2 1, 3) := by decide +kernel
theorem d_B_countOfMust_27 : decode prog_2_method_8_code 27 = .ok (.goto (-23), 3) := by decide +kernel
theorem d_B_countOfMust_30 : decode prog_2_method_8_code 30 = .ok (.iload_n 1, 1) := by decide +kernel
theorem d_B_countOfMust_31 : decode prog_2_method_8_code 31 = .ok (.ireturn, 1) := by decide +kernel
theorem d_JM_absL_0 : decode prog_14_method_61_code 0 = .ok (.lload_n 0, 1) := by decide +kernel
theorem d_JM_absL_1 : decode prog_14_method_61_code 1 = .ok (.lconst 0, 1) := by decide +kernel
theorem d_JM_absL_2 : decode prog_14_method_61_code 2 = .ok (.lcmp, 1) := by decide +kernel
theorem d_JM_absL_3 : decode prog_14_method_61_code 3 = .ok (.ifCond .ge 8, 3) := by decide +kernel
theorem d_JM_absL_6 : decode prog_14_method_61_code 6 = .ok (.lload_n 0, 1) := by decide +kernel
theorem d_JM_absL_7 : decode prog_14_method_61_code 7 = .ok (.lneg, 1) := by decide +kernel
theorem d_JM_absL_8 : decode prog_14_method_61_code 8 = .ok (.goto 4, 3) := by decide +kernel
theorem d_JM_absL_11 : decode prog_14_method_61_code 11 = .ok (.lload_n 0, 1) := by decide +kernel
theorem d_JM_absL_12 : decode prog_14_method_61_code 12 = .ok (.lreturn, 1) := by decide +kernel
theorem d_JM_maxL_0 : decode prog_14_method_66_code 0 = .ok (.lload_n 0, 1) := by decide +kernel
theorem d_JM_maxL_1 : decode prog_14_method_66_code 1 = .ok (.lload_n 2, 1) := by decide +kernel
theorem d_JM_maxL_2 : decode prog_14_method_66_code 2 = .ok (.lcmp, 1) := by decide +kernel
theorem d_JM_maxL_3 : decode prog_14_method_66_code 3 = .ok (.ifCond .lt 7, 3) := by decide +kernel
theorem d_JM_maxL_6 : decode prog_14_method_66_code 6 = .ok (.lload_n 0, 1) := by decide +kernel
theorem d_JM_maxL_7 : decode prog_14_method_66_code 7 = .ok (.goto 4, 3) := by decide +kernel
theorem d_JM_maxL_10 : decode prog_14_method_66_code 10 = .ok (.lload_n 2, 1) := by decide +kernel
theorem d_JM_maxL_11 : decode prog_14_method_66_code 11 = .ok (.lreturn, 1) := by decide +kernel
theorem d_B_isBeforeByPlace_0 : decode prog_2_method_11_code 0 = .ok (.aload_n 0, 1) := by decide +kernel
theorem d_B_isBeforeByPlace_1 : decode prog_2_method_11_code 1 = .ok (.getfield 22, 3) := by decide +kernel
theorem d_B_isBeforeByPlace_4 : decode prog_2_method_11_code 4 = .ok (.iload_n 1, 1) := by decide +kernel
theorem d_B_isBeforeByPlace_5 : decode prog_2_method_11_code 5 = .ok (.laload, 1) := by decide +kernel
theorem d_B_isBeforeByPlace_6 : decode prog_2_method_11_code 6 = .ok (.aload_n 0, 1) := by decide +kernel
theorem d_B_isBeforeByPlace_7 : decode prog_2_method_11_code 7 = .ok (.getfield 22, 3) := by decide +kernel
theorem d_B_isBeforeByPlace_10 : decode prog_2_method_11_code 10 = .ok (.iload_n 2, 1) := by decide +kernel
theorem d_B_isBeforeByPlace_11 : decode prog_2_method_11_code 11 = .ok (.laload, 1) := by decide +kernel
theorem d_B_isBeforeByPlace_12 : decode prog_2_method_11_code 12 = .ok (.lcmp, 1) := by decide +kernel
theorem d_B_isBeforeByPlace_13 : decode prog_2_method_11_code 13 = .ok (.ifCond .eq 25, 3) := by decide +kernel
theorem d_B_isBeforeByPlace_16 : decode prog_2_method_11_code 16 = .ok (.aload_n 0, 1) := by decide +kernel
theorem d_B_isBeforeByPlace_17 : decode prog_2_method_11_code 17 = .ok (.getfield 22, 3) := by decide +kernel
theorem d_B_isBeforeByPlace_20 : decode prog_2_method_11_code 20 = .ok (.iload_n 1, 1) := by decide +kernel
theorem d_B_isBeforeByPlace_21 : decode prog_2_method_11_code 21 = .ok (.laload, 1) := by decide +kernel
theorem d_B_isBeforeByPlace_22 : decode prog_2_method_11_code 22 = .ok (.aload_n 0, 1) := by decide +kernel
theorem d_B_isBeforeByPlace_23 : decode prog_2_method_11_code 23 = .ok (.getfield 22, 3) := by decide +kernel
theorem d_B_isBeforeByPlace_26 : decode prog_2_method_11_code 26 = .ok (.iload_n 2, 1) := by decide +kernel
theorem d_B_isBeforeByPlace_27 : decode prog_2_method_11_code 27 = .ok (.laload, 1) := by decide +kernel
theorem d_B_isBeforeByPlace_28 : decode prog_2_method_11_code 28 = .ok (.lcmp, 1) := by decide +kernel
theorem d_B_isBeforeByPlace_29 : decode prog_2_method_11_code 29 = .ok (.ifCond .ge 7, 3) := by decide +kernel
theorem d_B_isBeforeByPlace_32 : decode prog_2_method_11_code 32 = .ok (.iconst 1, 1) := by decide +kernel
theorem d_B_isBeforeByPlace_33 : decode prog_2_method_11_code 33 = .ok (.goto 4, 3) := by decide +kernel
theorem d_B_isBeforeByPlace_36 : decode prog_2_method_11_code 36 = .ok (.iconst 0, 1) := by decide +kernel
theorem d_B_isBeforeByPlace_37 : decode prog_2_method_11_code 37 = .ok (.ireturn, 1) := by decide +kernel
theorem d_B_isBeforeByPlace_38 : decode prog_2_method_11_code 38 = .ok (.aload_n 0, 1) := by decide +kernel
theorem d_B_isBeforeByPlace_39 : decode prog_2_method_11_code 39 = .ok (.getfield 26, 3) := by decide +kernel
theorem d_B_isBeforeByPlace_42 : decode prog_2_method_11_code 42 = .ok (.iload_n 1, 1) := by decide +kernel
theorem d_B_isBeforeByPlace_43 : decode prog_2_method_11_code 43 = .ok (.laload, 1) := by decide +kernel
theorem d_B_isBeforeByPlace_44 : decode prog_2_method_11_code 44 = .ok (.aload_n 0, 1) := by decide +kernel
theorem d_B_isBeforeByPlace_45 : decode prog_2_method_11_code 45 = .ok (.getfield 26, 3) := by decide +kernel
theorem d_B_isBeforeByPlace_48 : decode prog_2_method_11_code 48 = .ok (.iload_n 2, 1) := by decide +kernel
theorem d_B_isBeforeByPlace_49 : decode prog_2_method_11_code 49 = .ok (.laload, 1) := by decide +kernel
theorem d_B_isBeforeByPlace_50 : decode prog_2_method_11_code 50 = .ok (.lcmp, 1) := by decide +kernel
theorem d_B_isBeforeByPlace_51 : decode prog_2_method_11_code 51 = .ok (.ifCond .eq 27, 3) := by decide +kernel
theorem d_B_isBeforeByPlace_54 : decode prog_2_method_11_code 54 = .ok (.aload_n 0, 1) := by decide +kernel
theorem d_B_isBeforeByPlace_55 : decode prog_2_method_11_code 55 = .ok (.getfield 26, 3) := by decide +kernel
theorem d_B_isBeforeByPlace_58 : decode prog_2_method_11_code 58 = .ok (.iload_n 1, 1) := by decide +kernel
theorem d_B_isBeforeByPlace_59 : decode prog_2_method_11_code 59 = .ok (.laload, 1) := by decide +kernel
theorem d_B_isBeforeByPlace_60 : decode prog_2_method_11_code 60 = .ok (.aload_n 0, 1) := by decide +kernel
theorem d_B_isBeforeByPlace_61 : decode prog_2_method_11_code 61 = .ok (.getfield 26, 3) := by decide +kernel
theorem d_B_isBeforeByPlace_64 : decode prog_2_method_11_code 64 = .ok (.iload_n 2, 1) := by decide +kernel
theorem d_B_isBeforeByPlace_65 : decode prog_2_method_11_code 65 = .ok (.laload, 1) := by decide +kernel
theorem d_B_isBeforeByPlace_66 : decode prog_2_method_11_code 66 = .ok (.lcmp, 1) := by decide +kernel
theorem d_B_isBeforeByPlace_67 : decode prog_2_method_11_code 67 = .ok (.ifCond .ge 7, 3) := by decide +kernel
theorem d_B_isBeforeByPlace_70 : decode prog_2_method_11_code 70 = .ok (.iconst 1, 1) := by decide +kernel
theorem d_B_isBeforeByPlace_71 : decode prog_2_method_11_code 71 = .ok (.goto 17, 3) := by decide +kernel
theorem d_B_isBeforeByPlace_74 : decode prog_2_method_11_code 74 = .ok (.iconst 0, 1) := by decide +kernel
theorem d_B_isBeforeByPlace_75 : decode prog_2_method_11_code 75 = .ok (.goto 13, 3) := by decide +kernel
theorem d_B_isBeforeByPlace_78 : decode prog_2_method_11_code 78 = .ok (.iload_n 1, 1) := by decide +kernel
theorem d_B_isBeforeByPlace_79 : decode prog_2_method_11_code 79 = .ok (.iload_n 2, 1) := by decide +kernel
theorem d_B_isBeforeByPlace_80 : decode prog_2_method_11_code 80 = .ok (.if_icmp .ge 7, 3) := by decide +kernel
theorem d_B_isBeforeByPlace_83 : decode prog_2_method_11_code 83 = .ok (.iconst 1, 1) := by decide +kernel
theorem d_B_isBeforeByPlace_84 : decode prog_2_method_11_code 84 = .ok (.goto 4, 3) := by decide +kernel
theorem d_B_isBeforeByPlace_87 : decode prog_2_method_11_code 87 = .ok (.iconst 0, 1) := by decide +kernel
theorem d_B_isBeforeByPlace_88 : decode prog_2_method_11_code 88 = .ok (.ireturn, 1) := by decide +kernel
theorem d_X_part_0 : decode prog_1_method_9_code 0 = .ok (.aload_n 0, 1) := by decide +kernel
theorem d_X_part_1 : decode prog_1_method_9_code 1 = .ok (.iload_n 1, 1) := by decide +kernel
theorem d_X_part_2 : decode prog_1_method_9_code 2 = .ok (.invokevirtual 48, 3) := by decide +kernel
theorem d_X_part_5 : decode prog_1_method_9_code 5 = .ok (.aload_n 0, 1) := by decide +kernel
theorem d_X_part_6 : decode prog_1_method_9_code 6 = .ok (.iload_n 2, 1) := by decide +kernel
theorem d_X_part_7 : decode prog_1_method_9_code 7 = .ok (.invokevirtual 48, 3) := by decide +kernel
theorem d_X_part_10 : decode prog_1_method_9_code 10 = .ok (.lload_n 3, 1) := by decide +kernel
theorem d_X_part_11 : decode prog_1_method_9_code 11 = .ok (.lconst 1, 1) := by decide +kernel
theorem d_X_part_12 : decode prog_1_method_9_code 12 = .ok (.ldc2_w 115, 3) := by decide +kernel
theorem d_X_part_15 : decode prog_1_method_9_code 15 = .ok (.invokestatic 56, 3) := by decide +kernel
theorem d_X_part_18 : decode prog_1_method_9_code 18 = .ok (.ifCond .eq 15, 3) := by decide +kernel
theorem d_X_part_21 : decode prog_1_method_9_code 21 = .ok (.lload 5, 2) := by decide +kernel
theorem d_X_part_23 : decode prog_1_method_9_code 23 = .ok (.lload_n 3, 1) := by decide +kernel
theorem d_X_part_24 : decode prog_1_method_9_code 24 = .ok (.ldc2_w 115, 3) := by decide +kernel
theorem d_X_part_27 : decode prog_1_method_9_code 27 = .ok (.invokestatic 56, 3) := by decide +kernel
theorem d_X_part_30 : decode prog_1_method_9_code 30 = .ok (.ifCond .ne 13, 3) := by decide +kernel
theorem d_X_part_33 : decode prog_1_method_9_code 33 = .ok (.new 60, 3) := by decide +kernel
theorem d_X_part_36 : decode prog_1_method_9_code 36 = .ok (.dup, 1) := by decide +kernel
theorem d_X_part_37 : decode prog_1_method_9_code 37 = .ok (.ldc 117, 2) := by decide +kernel
theorem d_X_part_39 : decode prog_1_method_9_code 39 = .ok (.invokespecial 64, 3) := by decide +kernel
theorem d_X_part_42 : decode prog_1_method_9_code 42 = .ok (.athrow, 1) := by decide +kernel
theorem d_X_part_43 : decode prog_1_method_9_code 43 = .ok (.iload_n 1, 1) := by decide +kernel
theorem d_X_part_44 : decode prog_1_method_9_code 44 = .ok (.iload_n 2, 1) := by decide +kernel
theorem d_X_part_45 : decode prog_1_method_9_code 45 = .ok (.if_icmp .eq 22, 3) := by decide +kernel
theorem d_X_part_48 : decode prog_1_method_9_code 48 = .ok (.aload_n 0, 1) := by decide +kernel
theorem d_X_part_49 : decode prog_1_method_9_code 49 = .ok (.getfield 33, 3) := by decide +kernel
theorem d_X_part_52 : decode prog_1_method_9_code 52 = .ok (.iload_n 1, 1) := by decide +kernel
theorem d_X_part_53 : decode prog_1_method_9_code 53 = .ok (.iload_n 2, 1) := by decide +kernel
theorem d_X_part_54 : decode prog_1_method_9_code 54 = .ok (.lload_n 3, 1) := by decide +kernel
theorem d_X_part_55 : decode prog_1_method_9_code 55 = .ok (.lload 5, 2) := by decide +kernel
theorem d_X_part_57 : decode prog_1_method_9_code 57 = .ok (.invokevirtual 119, 3) := by decide +kernel
theorem d_X_part_60 : decode prog_1_method_9_code 60 = .ok (.ifCond .eq 7, 3) := by decide +kernel
theorem d_X_part_63 : decode prog_1_method_9_code 63 = .ok (.iconst 1, 1) := by decide +kernel
theorem d_X_part_64 : decode prog_1_method_9_code 64 = .ok (.goto 4, 3) := by decide +kernel
theorem d_X_part_67 : decode prog_1_method_9_code 67 = .ok (.iconst 0, 1) := by decide +kernel
theorem d_X_part_68 : decode prog_1_method_9_code 68 = .ok (.ireturn, 1) := by decide +kernel
theorem d_P_add_0 : decode prog_4_method_2_code 0 = .ok (.iload_n 1, 1) := by decide +kernel
theorem d_P_add_1 : decode prog_4_method_2_code 1 = .ok (.iload_n 2, 1) := by decide +kernel
theorem d_P_add_2 : decode prog_4_method_2_code 2 = .ok (.invokestatic 26, 3) := by decide +kernel
theorem d_P_add_5 : decode prog_4_method_2_code 5 = .ok (.istore 7, 2) := by decide +kernel
theorem d_P_add_7 : decode prog_4_method_2_code 7 = .ok (.aload_n 0, 1) := by decide +kernel
theorem d_P_add_8 : decode prog_4_method_2_code 8 = .ok (.getfield 11, 3) := by decide +kernel
theorem d_P_add_11 : decode prog_4_method_2_code 11 = .ok (.iload 7, 2) := by decide +kernel
theorem d_P_add_13 : decode prog_4_method_2_code 13 = .ok (.iaload, 1) := by decide +kernel
theorem d_P_add_14 : decode prog_4_method_2_code 14 = .ok (.iconst 4, 1) := by decide +kernel
theorem d_P_add_15 : decode prog_4_method_2_code 15 = .ok (.if_icmp .lt 5, 3) := by decide +kernel
theorem d_P_add_18 : decode prog_4_method_2_code 18 = .ok (.iconst 0, 1) := by decide +kernel
theorem d_P_add_19 : decode prog_4_method_2_code 19 = .ok (.ireturn, 1) := by decide +kernel
theorem d_P_add_20 : decode prog_4_method_2_code 20 = .ok (.aload_n 0, 1) := by decide +kernel
theorem d_P_add_21 : decode prog_4_method_2_code 21 = .ok (.iconst 0, 1) := by decide +kernel
theorem d_P_add_22 : decode prog_4_method_2_code 22 = .ok (.iload 7, 2) := by decide +kernel
theorem d_P_add_24 : decode prog_4_method_2_code 24 = .ok (.lload_n 3, 1) := by decide +kernel
theorem d_P_add_25 : decode prog_4_method_2_code 25 = .ok (.invokevirtual 30, 3) := by decide +kernel
theorem d_P_add_28 : decode prog_4_method_2_code 28 = .ok (.aload_n 0, 1) := by decide +kernel
theorem d_P_add_29 : decode prog_4_method_2_code 29 = .ok (.iconst 1, 1) := by decide +kernel
theorem d_P_add_30 : decode prog_4_method_2_code 30 = .ok (.iload 7, 2) := by decide +kernel
theorem d_P_add_32 : decode prog_4_method_2_code 32 = .ok (.lload 5, 2) := by decide +kernel
theorem d_P_add_34 : decode prog_4_method_2_code 34 = .ok (.invokevirtual 30, 3) := by decide +kernel
theorem d_P_add_37 : decode prog_4_method_2_code 37 = .ok (.aload_n 0, 1) := by decide +kernel
theorem d_P_add_38 : decode prog_4_method_2_code 38 = .ok (.getfield 11, 3) := by decide +kernel
theorem d_P_add_41 : decode prog_4_method_2_code 41 = .ok (.iload 7, 2) := by decide +kernel
theorem d_P_add_43 : decode prog_4_method_2_code 43 = .ok (.dup2, 1) := by decide +kernel
theorem d_P_add_44 : decode prog_4_method_2_code 44 = .ok (.iaload, 1) := by decide +kernel
theorem d_P_add_45 : decode prog_4_method_2_code 45 = .ok (.iconst 1, 1) := by decide +kernel
theorem d_P_add_46 : decode prog_4_method_2_code 46 = .ok (.iadd, 1) := by decide +kernel
theorem d_P_add_47 : decode prog_4_method_2_code 47 = .ok (.iastore, 1) := by decide +kernel
theorem d_P_add_48 : decode prog_4_method_2_code 48 = .ok (.aload_n 0, 1) := by decide +kernel
theorem d_P_add_49 : decode prog_4_method_2_code 49 = .ok (.getfield 15, 3) := by decide +kernel
theorem d_P_add_52 : decode prog_4_method_2_code 52 = .ok (.iload_n 1, 1) := by decide +kernel
theorem d_P_add_53 : decode prog_4_method_2_code 53 = .ok (.dup2, 1) := by decide +kernel
theorem d_P_add_54 : decode prog_4_method_2_code 54 = .ok (.iaload, 1) := by decide +kernel
theorem d_P_add_55 : decode prog_4_method_2_code 55 = .ok (.iconst 1, 1) := by decide +kernel
theorem d_P_add_56 : decode prog_4_method_2_code 56 = .ok (.iload_n 2, 1) := by decide +kernel
theorem d_P_add_57 : decode prog_4_method_2_code 57 = .ok (.ishl, 1) := by decide +kernel
theorem d_P_add_58 : decode prog_4_method_2_code 58 = .ok (.ior, 1) := by decide +kernel
theorem d_P_add_59 : decode prog_4_method_2_code 59 = .ok (.iastore, 1) := by decide +kernel
theorem d_P_add_60 : decode prog_4_method_2_code 60 = .ok (.aload_n 0, 1) := by decide +kernel
theorem d_P_add_61 : decode prog_4_method_2_code 61 = .ok (.getfield 15, 3) := by decide +kernel
theorem d_P_add_64 : decode prog_4_method_2_code 64 = .ok (.iload_n 2, 1) := by decide +kernel
theorem d_P_add_65 : decode prog_4_method_2_code 65 = .ok (.dup2, 1) := by decide +kernel
theorem d_P_add_66 : decode prog_4_method_2_code 66 = .ok (.iaload, 1) := by decide +kernel
theorem d_P_add_67 : decode prog_4_method_2_code 67 = .ok (.iconst 1, 1) := by decide +kernel
theorem d_P_add_68 : decode prog_4_method_2_code 68 = .ok (.iload_n 1, 1) := by decide +kernel
theorem d_P_add_69 : decode prog_4_method_2_code 69 = .ok (.ishl, 1) := by decide +kernel
theorem d_P_add_70 : decode prog_4_method_2_code 70 = .ok (.ior, 1) := by decide +kernel
theorem d_P_add_71 : decode prog_4_method_2_code 71 = .ok (.iastore, 1) := by decide +kernel
theorem d_P_add_72 : decode prog_4_method_2_code 72 = .ok (.iconst 1, 1) := by decide +kernel
theorem d_P_add_73 : decode prog_4_method_2_code 73 = .ok (.ireturn, 1) := by decide +kernel
theorem d_P_pairOf_0 : decode prog_4_method_7_code 0 = .ok (.iload_n 0, 1) := by decide +kernel
theorem d_P_pairOf_1 : decode prog_4_method_7_code 1 = .ok (.iload_n 1, 1) := by decide +kernel
theorem d_P_pairOf_2 : decode prog_4_method_7_code 2 = .ok (.invokestatic 47, 3) := by decide +kernel
theorem d_P_pairOf_5 : decode prog_4_method_7_code 5 = .ok (.bipush 12, 2) := by decide +kernel
theorem d_P_pairOf_7 : decode prog_4_method_7_code 7 = .ok (.imul, 1) := by decide +kernel
theorem d_P_pairOf_8 : decode prog_4_method_7_code 8 = .ok (.iload_n 0, 1) := by decide +kernel
theorem d_P_pairOf_9 : decode prog_4_method_7_code 9 = .ok (.iload_n 1, 1) := by decide +kernel
theorem d_P_pairOf_10 : decode prog_4_method_7_code 10 = .ok (.invokestatic 50, 3) := by decide +kernel
theorem d_P_pairOf_13 : decode prog_4_method_7_code 13 = .ok (.iadd, 1) := by decide +kernel
theorem d_P_pairOf_14 : decode prog_4_method_7_code 14 = .ok (.ireturn, 1) := by decide +kernel
theorem d_JM_min_0 : decode prog_14_method_69_code 0 = .ok (.iload_n 0, 1) := by decide +kernel
theorem d_JM_min_1 : decode prog_14_method_69_code 1 = .ok (.iload_n 1, 1) := by decide +kernel
theorem d_JM_min_2 : decode prog_14_method_69_code 2 = .ok (.if_icmp .gt 7, 3) := by decide +kernel
theorem d_JM_min_5 : decode prog_14_method_69_code 5 = .ok (.iload_n 0, 1) := by decide +kernel
theorem d_JM_min_6 : decode prog_14_method_69_code 6 = .ok (.goto 4, 3) := by decide +kernel
theorem d_JM_min_9 : decode prog_14_method_69_code 9 = .ok (.iload_n 1, 1) := by decide +kernel
theorem d_JM_min_10 : decode prog_14_method_69_code 10 = .ok (.ireturn, 1) := by decide +kernel
theorem d_JM_max_0 : decode prog_14_method_65_code 0 = .ok (.iload_n 0, 1) := by decide +kernel
theorem d_JM_max_1 : decode prog_14_method_65_code 1 = .ok (.iload_n 1, 1) := by decide +kernel
theorem d_JM_max_2 : decode prog_14_method_65_code 2 = .ok (.if_icmp .lt 7, 3) := by decide +kernel
theorem d_JM_max_5 : decode prog_14_method_65_code 5 = .ok (.iload_n 0, 1) := by decide +kernel
theorem d_JM_max_6 : decode prog_14_method_65_code 6 = .ok (.goto 4, 3) := by decide +kernel
theorem d_JM_max_9 : decode prog_14_method_65_code 9 = .ok (.iload_n 1, 1) := by decide +kernel
theorem d_JM_max_10 : decode prog_14_method_65_code 10 = .ok (.ireturn, 1) := by decide +kernel
theorem d_P_addInverse_0 : decode prog_4_method_6_code 0 = .ok (.aload_n 0, 1) := by decide +kernel
theorem d_P_addInverse_1 : decode prog_4_method_6_code 1 = .ok (.getfield 11, 3) := by decide +kernel
theorem d_P_addInverse_4 : decode prog_4_method_6_code 4 = .ok (.iload_n 2, 1) := by decide +kernel
theorem d_P_addInverse_5 : decode prog_4_method_6_code 5 = .ok (.iaload, 1) := by decide +kernel
theorem d_P_addInverse_6 : decode prog_4_method_6_code 6 = .ok (.ifCond .ne 7, 3) := by decide +kernel
theorem d_P_addInverse_9 : decode prog_4_method_6_code 9 = .ok (.lconst 1, 1) := by decide +kernel
theorem d_P_addInverse_10 : decode prog_4_method_6_code 10 = .ok (.goto 11, 3) := by decide +kernel
theorem d_P_addInverse_13 : decode prog_4_method_6_code 13 = .ok (.aload_n 0, 1) := by decide +kernel
theorem d_P_addInverse_14 : decode prog_4_method_6_code 14 = .ok (.getfield 23, 3) := by decide +kernel
theorem d_P_addInverse_17 : decode prog_4_method_6_code 17 = .ok (.iload_n 1, 1) := by decide +kernel
theorem d_P_addInverse_18 : decode prog_4_method_6_code 18 = .ok (.aaload, 1) := by decide +kernel
theorem d_P_addInverse_19 : decode prog_4_method_6_code 19 = .ok (.iload_n 2, 1) := by decide +kernel
theorem d_P_addInverse_20 : decode prog_4_method_6_code 20 = .ok (.laload, 1) := by decide +kernel
theorem d_P_addInverse_21 : decode prog_4_method_6_code 21 = .ok (.lstore 5, 2) := by decide +kernel
theorem d_P_addInverse_23 : decode prog_4_method_6_code 23 = .ok (.aload_n 0, 1) := by decide +kernel
theorem d_P_addInverse_24 : decode prog_4_method_6_code 24 = .ok (.getfield 20, 3) := by decide +kernel
theorem d_P_addInverse_27 : decode prog_4_method_6_code 27 = .ok (.iload_n 1, 1) := by decide +kernel
theorem d_P_addInverse_28 : decode prog_4_method_6_code 28 = .ok (.aaload, 1) := by decide +kernel
theorem d_P_addInverse_29 : decode prog_4_method_6_code 29 = .ok (.iload_n 2, 1) := by decide +kernel
theorem d_P_addInverse_30 : decode prog_4_method_6_code 30 = .ok (.aload_n 0, 1) := by decide +kernel
theorem d_P_addInverse_31 : decode prog_4_method_6_code 31 = .ok (.getfield 20, 3) := by decide +kernel
theorem d_P_addInverse_34 : decode prog_4_method_6_code 34 = .ok (.iload_n 1, 1) := by decide +kernel
theorem d_P_addInverse_35 : decode prog_4_method_6_code 35 = .ok (.aaload, 1) := by decide +kernel
theorem d_P_addInverse_36 : decode prog_4_method_6_code 36 = .ok (.iload_n 2, 1) := by decide +kernel
theorem d_P_addInverse_37 : decode prog_4_method_6_code 37 = .ok (.laload, 1) := by decide +kernel
theorem d_P_addInverse_38 : decode prog_4_method_6_code 38 = .ok (.lload_n 3, 1) := by decide +kernel
theorem d_P_addInverse_39 : decode prog_4_method_6_code 39 = .ok (.lmul, 1) := by decide +kernel
theorem d_P_addInverse_40 : decode prog_4_method_6_code 40 = .ok (.lload 5, 2) := by decide +kernel
theorem d_P_addInverse_42 : decode prog_4_method_6_code 42 = .ok (.ladd, 1) := by decide +kernel
theorem d_P_addInverse_43 : decode prog_4_method_6_code 43 = .ok (.lastore, 1) := by decide +kernel
theorem d_P_addInverse_44 : decode prog_4_method_6_code 44 = .ok (.aload_n 0, 1) := by decide +kernel
theorem d_P_addInverse_45 : decode prog_4_method_6_code 45 = .ok (.getfield 23, 3) := by decide +kernel
theorem d_P_addInverse_48 : decode prog_4_method_6_code 48 = .ok (.iload_n 1, 1) := by decide +kernel
theorem d_P_addInverse_49 : decode prog_4_method_6_code 49 = .ok (.aaload, 1) := by decide +kernel
theorem d_P_addInverse_50 : decode prog_4_method_6_code 50 = .ok (.iload_n 2, 1) := by decide +kernel
theorem d_P_addInverse_51 : decode prog_4_method_6_code 51 = .ok (.lload 5, 2) := by decide +kernel
theorem d_P_addInverse_53 : decode prog_4_method_6_code 53 = .ok (.lload_n 3, 1) := by decide +kernel
theorem d_P_addInverse_54 : decode prog_4_method_6_code 54 = .ok (.lmul, 1) := by decide +kernel
theorem d_P_addInverse_55 : decode prog_4_method_6_code 55 = .ok (.lastore, 1) := by decide +kernel
theorem d_P_addInverse_56 : decode prog_4_method_6_code 56 = .ok (.return_, 1) := by decide +kernel
theorem d_X_span_0 : decode prog_1_method_10_code 0 = .ok (.aload_n 0, 1) := by decide +kernel
theorem d_X_span_1 : decode prog_1_method_10_code 1 = .ok (.iload_n 1, 1) := by decide +kernel
theorem d_X_span_2 : decode prog_1_method_10_code 2 = .ok (.invokevirtual 48, 3) := by decide +kernel
theorem d_X_span_5 : decode prog_1_method_10_code 5 = .ok (.aload_n 0, 1) := by decide +kernel
theorem d_X_span_6 : decode prog_1_method_10_code 6 = .ok (.iload_n 2, 1) := by decide +kernel
theorem d_X_span_7 : decode prog_1_method_10_code 7 = .ok (.invokevirtual 48, 3) := by decide +kernel
theorem d_X_span_10 : decode prog_1_method_10_code 10 = .ok (.iload_n 3, 1) := by decide +kernel
theorem d_X_span_11 : decode prog_1_method_10_code 11 = .ok (.i2l, 1) := by decide +kernel
theorem d_X_span_12 : decode prog_1_method_10_code 12 = .ok (.lconst 0, 1) := by decide +kernel
theorem d_X_span_13 : decode prog_1_method_10_code 13 = .ok (.lconst 1, 1) := by decide +kernel
theorem d_X_span_14 : decode prog_1_method_10_code 14 = .ok (.invokestatic 56, 3) := by decide +kernel
theorem d_X_span_17 : decode prog_1_method_10_code 17 = .ok (.ifCond .eq 14, 3) := by decide +kernel
theorem d_X_span_20 : decode prog_1_method_10_code 20 = .ok (.iload 4, 2) := by decide +kernel
theorem d_X_span_22 : decode prog_1_method_10_code 22 = .ok (.i2l, 1) := by decide +kernel
theorem d_X_span_23 : decode prog_1_method_10_code 23 = .ok (.lconst 0, 1) := by decide +kernel
theorem d_X_span_24 : decode prog_1_method_10_code 24 = .ok (.lconst 1, 1) := by decide +kernel
theorem d_X_span_25 : decode prog_1_method_10_code 25 = .ok (.invokestatic 56, 3) := by decide +kernel
theorem d_X_span_28 : decode prog_1_method_10_code 28 = .ok (.ifCond .ne 13, 3) := by decide +kernel
theorem d_X_span_31 : decode prog_1_method_10_code 31 = .ok (.new 123, 3) := by decide +kernel
theorem d_X_span_34 : decode prog_1_method_10_code 34 = .ok (.dup, 1) := by decide +kernel
theorem d_X_span_35 : decode prog_1_method_10_code 35 = .ok (.ldc 125, 2) := by decide +kernel
theorem d_X_span_37 : decode prog_1_method_10_code 37 = .ok (.invokespecial 127, 3) := by decide +kernel
theorem d_X_span_40 : decode prog_1_method_10_code 40 = .ok (.athrow, 1) := by decide +kernel
theorem d_X_span_41 : decode prog_1_method_10_code 41 = .ok (.aload_n 0, 1) := by decide +kernel
theorem d_X_span_42 : decode prog_1_method_10_code 42 = .ok (.getfield 33, 3) := by decide +kernel
theorem d_X_span_45 : decode prog_1_method_10_code 45 = .ok (.iload_n 1, 1) := by decide +kernel
theorem d_X_span_46 : decode prog_1_method_10_code 46 = .ok (.iload_n 2, 1) := by decide +kernel
theorem d_X_span_47 : decode prog_1_method_10_code 47 = .ok (.invokevirtual 128, 3) := by decide +kernel
theorem d_X_span_50 : decode prog_1_method_10_code 50 = .ok (.ifCond .ne 13, 3) := by decide +kernel
theorem d_X_span_53 : decode prog_1_method_10_code 53 = .ok (.new 132, 3) := by decide +kernel
theorem d_X_span_56 : decode prog_1_method_10_code 56 = .ok (.dup, 1) := by decide +kernel
theorem d_X_span_57 : decode prog_1_method_10_code 57 = .ok (.ldc 134, 2) := by decide +kernel
theorem d_X_span_59 : decode prog_1_method_10_code 59 = .ok (.invokespecial 136, 3) := by decide +kernel
theorem d_X_span_62 : decode prog_1_method_10_code 62 = .ok (.athrow, 1) := by decide +kernel
theorem d_X_span_63 : decode prog_1_method_10_code 63 = .ok (.aload_n 0, 1) := by decide +kernel
theorem d_X_span_64 : decode prog_1_method_10_code 64 = .ok (.getfield 33, 3) := by decide +kernel
theorem d_X_span_67 : decode prog_1_method_10_code 67 = .ok (.iload_n 1, 1) := by decide +kernel
theorem d_X_span_68 : decode prog_1_method_10_code 68 = .ok (.iload_n 2, 1) := by decide +kernel
theorem d_X_span_69 : decode prog_1_method_10_code 69 = .ok (.iload_n 3, 1) := by decide +kernel
theorem d_X_span_70 : decode prog_1_method_10_code 70 = .ok (.iload 4, 2) := by decide +kernel
theorem d_X_span_72 : decode prog_1_method_10_code 72 = .ok (.invokevirtual 137, 3) := by decide +kernel
theorem d_X_span_75 : decode prog_1_method_10_code 75 = .ok (.lreturn, 1) := by decide +kernel
theorem d_P_areBetween_0 : decode prog_4_method_3_code 0 = .ok (.aload_n 0, 1) := by decide +kernel
theorem d_P_areBetween_1 : decode prog_4_method_3_code 1 = .ok (.getfield 15, 3) := by decide +kernel
theorem d_P_areBetween_4 : decode prog_4_method_3_code 4 = .ok (.iload_n 1, 1) := by decide +kernel
theorem d_P_areBetween_5 : decode prog_4_method_3_code 5 = .ok (.iaload, 1) := by decide +kernel
theorem d_P_areBetween_6 : decode prog_4_method_3_code 6 = .ok (.iload_n 2, 1) := by decide +kernel
theorem d_P_areBetween_7 : decode prog_4_method_3_code 7 = .ok (.invokestatic 34, 3) := by decide +kernel
theorem d_P_areBetween_10 : decode prog_4_method_3_code 10 = .ok (.ireturn, 1) := by decide +kernel
theorem d_P_termOfSpan_0 : decode prog_4_method_5_code 0 = .ok (.iload_n 1, 1) := by decide +kernel
theorem d_P_termOfSpan_1 : decode prog_4_method_5_code 1 = .ok (.iload_n 2, 1) := by decide +kernel
theorem d_P_termOfSpan_2 : decode prog_4_method_5_code 2 = .ok (.invokestatic 26, 3) := by decide +kernel
theorem d_P_termOfSpan_5 : decode prog_4_method_5_code 5 = .ok (.istore 5, 2) := by decide +kernel
theorem d_P_termOfSpan_7 : decode prog_4_method_5_code 7 = .ok (.aload_n 0, 1) := by decide +kernel
theorem d_P_termOfSpan_8 : decode prog_4_method_5_code 8 = .ok (.getfield 23, 3) := by decide +kernel
theorem d_P_termOfSpan_11 : decode prog_4_method_5_code 11 = .ok (.iload_n 3, 1) := by decide +kernel
theorem d_P_termOfSpan_12 : decode prog_4_method_5_code 12 = .ok (.aaload, 1) := by decide +kernel
theorem d_P_termOfSpan_13 : decode prog_4_method_5_code 13 = .ok (.iload 5, 2) := by decide +kernel
theorem d_P_termOfSpan_15 : decode prog_4_method_5_code 15 = .ok (.laload, 1) := by decide +kernel
theorem d_P_termOfSpan_16 : decode prog_4_method_5_code 16 = .ok (.lstore 6, 2) := by decide +kernel
theorem d_P_termOfSpan_18 : decode prog_4_method_5_code 18 = .ok (.aload_n 0, 1) := by decide +kernel
theorem d_P_termOfSpan_19 : decode prog_4_method_5_code 19 = .ok (.getfield 20, 3) := by decide +kernel
theorem d_P_termOfSpan_22 : decode prog_4_method_5_code 22 = .ok (.iload_n 3, 1) := by decide +kernel
theorem d_P_termOfSpan_23 : decode prog_4_method_5_code 23 = .ok (.aaload, 1) := by decide +kernel
theorem d_P_termOfSpan_24 : decode prog_4_method_5_code 24 = .ok (.iload 5, 2) := by decide +kernel
theorem d_P_termOfSpan_26 : decode prog_4_method_5_code 26 = .ok (.laload, 1) := by decide +kernel
theorem d_P_termOfSpan_27 : decode prog_4_method_5_code 27 = .ok (.lstore 8, 2) := by decide +kernel
theorem d_P_termOfSpan_29 : decode prog_4_method_5_code 29 = .ok (.lconst 1, 1) := by decide +kernel
theorem d_P_termOfSpan_30 : decode prog_4_method_5_code 30 = .ok (.lload 6, 2) := by decide +kernel
theorem d_P_termOfSpan_32 : decode prog_4_method_5_code 32 = .ok (.lload 8, 2) := by decide +kernel
theorem d_P_termOfSpan_34 : decode prog_4_method_5_code 34 = .ok (.invokestatic 38, 3) := by decide +kernel
theorem d_P_termOfSpan_37 : decode prog_4_method_5_code 37 = .ok (.invokestatic 42, 3) := by decide +kernel
theorem d_P_termOfSpan_40 : decode prog_4_method_5_code 40 = .ok (.lstore 10, 2) := by decide +kernel
theorem d_P_termOfSpan_42 : decode prog_4_method_5_code 42 = .ok (.iload 4, 2) := by decide +kernel
theorem d_P_termOfSpan_44 : decode prog_4_method_5_code 44 = .ok (.ifCond .ne 8, 3) := by decide +kernel
theorem d_P_termOfSpan_47 : decode prog_4_method_5_code 47 = .ok (.lload 6, 2) := by decide +kernel
theorem d_P_termOfSpan_49 : decode prog_4_method_5_code 49 = .ok (.goto 5, 3) := by decide +kernel
theorem d_P_termOfSpan_52 : decode prog_4_method_5_code 52 = .ok (.lload 8, 2) := by decide +kernel
theorem d_P_termOfSpan_54 : decode prog_4_method_5_code 54 = .ok (.lload 10, 2) := by decide +kernel
theorem d_P_termOfSpan_56 : decode prog_4_method_5_code 56 = .ok (.ldiv, 1) := by decide +kernel
theorem d_P_termOfSpan_57 : decode prog_4_method_5_code 57 = .ok (.lreturn, 1) := by decide +kernel
theorem d_P_commonDivisor_0 : decode prog_4_method_8_code 0 = .ok (.lload_n 0, 1) := by decide +kernel
theorem d_P_commonDivisor_1 : decode prog_4_method_8_code 1 = .ok (.lstore 4, 2) := by decide +kernel
theorem d_P_commonDivisor_3 : decode prog_4_method_8_code 3 = .ok (.lload_n 2, 1) := by decide +kernel
theorem d_P_commonDivisor_4 : decode prog_4_method_8_code 4 = .ok (.lstore 6, 2) := by decide +kernel
theorem d_P_commonDivisor_6 : decode prog_4_method_8_code 6 = .ok (.iconst 0, 1) := by decide +kernel
theorem d_P_commonDivisor_7 : decode prog_4_method_8_code 7 = .ok (.istore 8, 2) := by decide +kernel
theorem d_P_commonDivisor_9 : decode prog_4_method_8_code 9 = .ok (.iload 8, 2) := by decide +kernel
theorem d_P_commonDivisor_11 : decode prog_4_method_8_code 11 = .ok (.sipush 200, 3) := by decide +kernel
theorem d_P_commonDivisor_14 : decode prog_4_method_8_code 14 = .ok (.if_icmp .ge 31, 3) := by decide +kernel
theorem d_P_commonDivisor_17 : decode prog_4_method_8_code 17 = .ok (.lload 6, 2) := by decide +kernel
theorem d_P_commonDivisor_19 : decode prog_4_method_8_code 19 = .ok (.lconst 0, 1) := by decide +kernel
theorem d_P_commonDivisor_20 : decode prog_4_method_8_code 20 = .ok (.lcmp, 1) := by decide +kernel
theorem d_P_commonDivisor_21 : decode prog_4_method_8_code 21 = .ok (.ifCond .eq 24, 3) := by decide +kernel
theorem d_P_commonDivisor_24 : decode prog_4_method_8_code 24 = .ok (.lload 4, 2) := by decide +kernel
theorem d_P_commonDivisor_26 : decode prog_4_method_8_code 26 = .ok (.lload 6, 2) := by decide +kernel
theorem d_P_commonDivisor_28 : decode prog_4_method_8_code 28 = .ok (.lrem, 1) := by decide +kernel
theorem d_P_commonDivisor_29 : decode prog_4_method_8_code 29 = .ok (.lstore 9, 2) := by decide +kernel
theorem d_P_commonDivisor_31 : decode prog_4_method_8_code 31 = .ok (.lload 6, 2) := by decide +kernel
theorem d_P_commonDivisor_33 : decode prog_4_method_8_code 33 = .ok (.lstore 4, 2) := by decide +kernel
theorem d_P_commonDivisor_35 : decode prog_4_method_8_code 35 = .ok (.lload 9, 2) := by decide +kernel
theorem d_P_commonDivisor_37 : decode prog_4_method_8_code 37 = .ok (.lstore 6, 2) := by decide +kernel
theorem d_P_commonDivisor_39 : decode prog_4_method_8_code 39 = .ok (.iinc 8 1, 3) := by decide +kernel
theorem d_P_commonDivisor_42 : decode prog_4_method_8_code 42 = .ok (.goto (-33), 3) := by decide +kernel
theorem d_P_commonDivisor_45 : decode prog_4_method_8_code 45 = .ok (.lload 4, 2) := by decide +kernel
theorem d_P_commonDivisor_47 : decode prog_4_method_8_code 47 = .ok (.lreturn, 1) := by decide +kernel
theorem d_X_guard_0 : decode prog_1_method_11_code 0 = .ok (.aload_n 0, 1) := by decide +kernel
theorem d_X_guard_1 : decode prog_1_method_11_code 1 = .ok (.iload_n 1, 1) := by decide +kernel
theorem d_X_guard_2 : decode prog_1_method_11_code 2 = .ok (.invokevirtual 48, 3) := by decide +kernel
theorem d_X_guard_5 : decode prog_1_method_11_code 5 = .ok (.aload_n 0, 1) := by decide +kernel
theorem d_X_guard_6 : decode prog_1_method_11_code 6 = .ok (.iload_n 2, 1) := by decide +kernel
theorem d_X_guard_7 : decode prog_1_method_11_code 7 = .ok (.invokevirtual 48, 3) := by decide +kernel
theorem d_X_guard_10 : decode prog_1_method_11_code 10 = .ok (.aload_n 0, 1) := by decide +kernel
theorem d_X_guard_11 : decode prog_1_method_11_code 11 = .ok (.getfield 33, 3) := by decide +kernel
theorem d_X_guard_14 : decode prog_1_method_11_code 14 = .ok (.iload_n 1, 1) := by decide +kernel
theorem d_X_guard_15 : decode prog_1_method_11_code 15 = .ok (.iload_n 2, 1) := by decide +kernel
theorem d_X_guard_16 : decode prog_1_method_11_code 16 = .ok (.invokevirtual 141, 3) := by decide +kernel
theorem d_X_guard_19 : decode prog_1_method_11_code 19 = .ok (.iload_n 3, 1) := by decide +kernel
theorem d_X_guard_20 : decode prog_1_method_11_code 20 = .ok (.invokestatic 145, 3) := by decide +kernel
theorem d_X_guard_23 : decode prog_1_method_11_code 23 = .ok (.ireturn, 1) := by decide +kernel
theorem d_P_joinedToBoth_0 : decode prog_4_method_4_code 0 = .ok (.aload_n 0, 1) := by decide +kernel
theorem d_P_joinedToBoth_1 : decode prog_4_method_4_code 1 = .ok (.getfield 15, 3) := by decide +kernel
theorem d_P_joinedToBoth_4 : decode prog_4_method_4_code 4 = .ok (.iload_n 1, 1) := by decide +kernel
theorem d_P_joinedToBoth_5 : decode prog_4_method_4_code 5 = .ok (.iaload, 1) := by decide +kernel
theorem d_P_joinedToBoth_6 : decode prog_4_method_4_code 6 = .ok (.aload_n 0, 1) := by decide +kernel
theorem d_P_joinedToBoth_7 : decode prog_4_method_4_code 7 = .ok (.getfield 15, 3) := by decide +kernel
theorem d_P_joinedToBoth_10 : decode prog_4_method_4_code 10 = .ok (.iload_n 2, 1) := by decide +kernel
theorem d_P_joinedToBoth_11 : decode prog_4_method_4_code 11 = .ok (.iaload, 1) := by decide +kernel
theorem d_P_joinedToBoth_12 : decode prog_4_method_4_code 12 = .ok (.iand, 1) := by decide +kernel
theorem d_P_joinedToBoth_13 : decode prog_4_method_4_code 13 = .ok (.ireturn, 1) := by decide +kernel
theorem d_X_nthBit_0 : decode prog_1_method_25_code 0 = .ok (.iconst 0, 1) := by decide +kernel
theorem d_X_nthBit_1 : decode prog_1_method_25_code 1 = .ok (.istore_n 2, 1) := by decide +kernel
theorem d_X_nthBit_2 : decode prog_1_method_25_code 2 = .ok (.iconst 0, 1) := by decide +kernel
theorem d_X_nthBit_3 : decode prog_1_method_25_code 3 = .ok (.istore_n 3, 1) := by decide +kernel
theorem d_X_nthBit_4 : decode prog_1_method_25_code 4 = .ok (.iload_n 3, 1) := by decide +kernel
theorem d_X_nthBit_5 : decode prog_1_method_25_code 5 = .ok (.bipush 12, 2) := by decide +kernel
theorem d_X_nthBit_7 : decode prog_1_method_25_code 7 = .ok (.if_icmp .ge 27, 3) := by decide +kernel
theorem d_X_nthBit_10 : decode prog_1_method_25_code 10 = .ok (.iload_n 0, 1) := by decide +kernel
theorem d_X_nthBit_11 : decode prog_1_method_25_code 11 = .ok (.iload_n 3, 1) := by decide +kernel
theorem d_X_nthBit_12 : decode prog_1_method_25_code 12 = .ok (.invokestatic 203, 3) := by decide +kernel
theorem d_X_nthBit_15 : decode prog_1_method_25_code 15 = .ok (.ifCond .eq 13, 3) := by decide +kernel
theorem d_X_nthBit_18 : decode prog_1_method_25_code 18 = .ok (.iload_n 2, 1) := by decide +kernel
theorem d_X_nthBit_19 : decode prog_1_method_25_code 19 = .ok (.iload_n 1, 1) := by decide +kernel
theorem d_X_nthBit_20 : decode prog_1_method_25_code 20 = .ok (.if_icmp .ne 5, 3) := by decide +kernel
theorem d_X_nthBit_23 : decode prog_1_method_25_code 23 = .ok (.iload_n 3, 1) := by decide +kernel
theorem d_X_nthBit_24 : decode prog_1_method_25_code 24 = .ok (.ireturn, 1) := by decide +kernel
theorem d_X_nthBit_25 : decode prog_1_method_25_code 25 = .ok (.iinc 2 1, 3) := by decide +kernel
theorem d_X_nthBit_28 : decode prog_1_method_25_code 28 = .ok (.iinc 3 1, 3) := by decide +kernel
theorem d_X_nthBit_31 : decode prog_1_method_25_code 31 = .ok (.goto (-27), 3) := by decide +kernel
theorem d_X_nthBit_34 : decode prog_1_method_25_code 34 = .ok (.iconst (-1), 1) := by decide +kernel
theorem d_X_nthBit_35 : decode prog_1_method_25_code 35 = .ok (.ireturn, 1) := by decide +kernel
theorem d_X_fail_0 : decode prog_1_method_12_code 0 = .ok (.iload_n 1, 1) := by decide +kernel
theorem d_X_fail_1 : decode prog_1_method_12_code 1 = .ok (.ifCond .ge 13, 3) := by decide +kernel
theorem d_X_fail_4 : decode prog_1_method_12_code 4 = .ok (.new 123, 3) := by decide +kernel
theorem d_X_fail_7 : decode prog_1_method_12_code 7 = .ok (.dup, 1) := by decide +kernel
theorem d_X_fail_8 : decode prog_1_method_12_code 8 = .ok (.ldc 148, 2) := by decide +kernel
theorem d_X_fail_10 : decode prog_1_method_12_code 10 = .ok (.invokespecial 127, 3) := by decide +kernel
theorem d_X_fail_13 : decode prog_1_method_12_code 13 = .ok (.athrow, 1) := by decide +kernel
theorem d_X_fail_14 : decode prog_1_method_12_code 14 = .ok (.iload_n 1, 1) := by decide +kernel
theorem d_X_fail_15 : decode prog_1_method_12_code 15 = .ok (.bipush 16, 2) := by decide +kernel
theorem d_X_fail_17 : decode prog_1_method_12_code 17 = .ok (.idiv, 1) := by decide +kernel
theorem d_X_fail_18 : decode prog_1_method_12_code 18 = .ok (.istore_n 2, 1) := by decide +kernel
theorem d_X_fail_19 : decode prog_1_method_12_code 19 = .ok (.iload_n 1, 1) := by decide +kernel
theorem d_X_fail_20 : decode prog_1_method_12_code 20 = .ok (.bipush 16, 2) := by decide +kernel
theorem d_X_fail_22 : decode prog_1_method_12_code 22 = .ok (.irem, 1) := by decide +kernel
theorem d_X_fail_23 : decode prog_1_method_12_code 23 = .ok (.istore_n 3, 1) := by decide +kernel
theorem d_X_fail_24 : decode prog_1_method_12_code 24 = .ok (.aload_n 0, 1) := by decide +kernel
theorem d_X_fail_25 : decode prog_1_method_12_code 25 = .ok (.iload_n 2, 1) := by decide +kernel
theorem d_X_fail_26 : decode prog_1_method_12_code 26 = .ok (.invokevirtual 48, 3) := by decide +kernel
theorem d_X_fail_29 : decode prog_1_method_12_code 29 = .ok (.aload_n 0, 1) := by decide +kernel
theorem d_X_fail_30 : decode prog_1_method_12_code 30 = .ok (.iload_n 3, 1) := by decide +kernel
theorem d_X_fail_31 : decode prog_1_method_12_code 31 = .ok (.invokevirtual 48, 3) := by decide +kernel
theorem d_X_fail_34 : decode prog_1_method_12_code 34 = .ok (.iload_n 2, 1) := by decide +kernel
theorem d_X_fail_35 : decode prog_1_method_12_code 35 = .ok (.iload_n 3, 1) := by decide +kernel
theorem d_X_fail_36 : decode prog_1_method_12_code 36 = .ok (.if_icmp .eq 19, 3) := by decide +kernel
theorem d_X_fail_39 : decode prog_1_method_12_code 39 = .ok (.aload_n 0, 1) := by decide +kernel
theorem d_X_fail_40 : decode prog_1_method_12_code 40 = .ok (.getfield 40, 3) := by decide +kernel
theorem d_X_fail_43 : decode prog_1_method_12_code 43 = .ok (.iload_n 2, 1) := by decide +kernel
theorem d_X_fail_44 : decode prog_1_method_12_code 44 = .ok (.iload_n 3, 1) := by decide +kernel
theorem d_X_fail_45 : decode prog_1_method_12_code 45 = .ok (.invokevirtual 150, 3) := by decide +kernel
theorem d_X_fail_48 : decode prog_1_method_12_code 48 = .ok (.ifCond .eq 7, 3) := by decide +kernel
theorem d_X_fail_51 : decode prog_1_method_12_code 51 = .ok (.iconst 1, 1) := by decide +kernel
theorem d_X_fail_52 : decode prog_1_method_12_code 52 = .ok (.goto 4, 3) := by decide +kernel
theorem d_X_fail_55 : decode prog_1_method_12_code 55 = .ok (.iconst 0, 1) := by decide +kernel
theorem d_X_fail_56 : decode prog_1_method_12_code 56 = .ok (.ireturn, 1) := by decide +kernel
theorem d_R_add_0 : decode prog_5_method_2_code 0 = .ok (.aload_n 0, 1) := by decide +kernel
theorem d_R_add_1 : decode prog_5_method_2_code 1 = .ok (.getfield 9, 3) := by decide +kernel
theorem d_R_add_4 : decode prog_5_method_2_code 4 = .ok (.iload_n 1, 1) := by decide +kernel
theorem d_R_add_5 : decode prog_5_method_2_code 5 = .ok (.iaload, 1) := by decide +kernel
theorem d_R_add_6 : decode prog_5_method_2_code 6 = .ok (.iload_n 2, 1) := by decide +kernel
theorem d_R_add_7 : decode prog_5_method_2_code 7 = .ok (.invokestatic 15, 3) := by decide +kernel
theorem d_R_add_10 : decode prog_5_method_2_code 10 = .ok (.ifCond .eq 5, 3) := by decide +kernel
theorem d_R_add_13 : decode prog_5_method_2_code 13 = .ok (.iconst 0, 1) := by decide +kernel
theorem d_R_add_14 : decode prog_5_method_2_code 14 = .ok (.ireturn, 1) := by decide +kernel
theorem d_R_add_15 : decode prog_5_method_2_code 15 = .ok (.aload_n 0, 1) := by decide +kernel
theorem d_R_add_16 : decode prog_5_method_2_code 16 = .ok (.getfield 9, 3) := by decide +kernel
theorem d_R_add_19 : decode prog_5_method_2_code 19 = .ok (.iload_n 1, 1) := by decide +kernel
theorem d_R_add_20 : decode prog_5_method_2_code 20 = .ok (.dup2, 1) := by decide +kernel
theorem d_R_add_21 : decode prog_5_method_2_code 21 = .ok (.iaload, 1) := by decide +kernel
theorem d_R_add_22 : decode prog_5_method_2_code 22 = .ok (.iconst 1, 1) := by decide +kernel
theorem d_R_add_23 : decode prog_5_method_2_code 23 = .ok (.iload_n 2, 1) := by decide +kernel
theorem d_R_add_24 : decode prog_5_method_2_code 24 = .ok (.ishl, 1) := by decide +kernel
theorem d_R_add_25 : decode prog_5_method_2_code 25 = .ok (.ior, 1) := by decide +kernel
theorem d_R_add_26 : decode prog_5_method_2_code 26 = .ok (.iastore, 1) := by decide +kernel
theorem d_R_add_27 : decode prog_5_method_2_code 27 = .ok (.aload_n 0, 1) := by decide +kernel
theorem d_R_add_28 : decode prog_5_method_2_code 28 = .ok (.getfield 9, 3) := by decide +kernel
theorem d_R_add_31 : decode prog_5_method_2_code 31 = .ok (.iload_n 2, 1) := by decide +kernel
theorem d_R_add_32 : decode prog_5_method_2_code 32 = .ok (.dup2, 1) := by decide +kernel
theorem d_R_add_33 : decode prog_5_method_2_code 33 = .ok (.iaload, 1) := by decide +kernel
theorem d_R_add_34 : decode prog_5_method_2_code 34 = .ok (.iconst 1, 1) := by decide +kernel
theorem d_R_add_35 : decode prog_5_method_2_code 35 = .ok (.iload_n 1, 1) := by decide +kernel
theorem d_R_add_36 : decode prog_5_method_2_code 36 = .ok (.ishl, 1) := by decide +kernel
theorem d_R_add_37 : decode prog_5_method_2_code 37 = .ok (.ior, 1) := by decide +kernel
theorem d_R_add_38 : decode prog_5_method_2_code 38 = .ok (.iastore, 1) := by decide +kernel
theorem d_R_add_39 : decode prog_5_method_2_code 39 = .ok (.aload_n 0, 1) := by decide +kernel
theorem d_R_add_40 : decode prog_5_method_2_code 40 = .ok (.iconst 1, 1) := by decide +kernel
theorem d_R_add_41 : decode prog_5_method_2_code 41 = .ok (.putfield 19, 3) := by decide +kernel
theorem d_R_add_44 : decode prog_5_method_2_code 44 = .ok (.iconst 1, 1) := by decide +kernel
theorem d_R_add_45 : decode prog_5_method_2_code 45 = .ok (.ireturn, 1) := by decide +kernel
theorem d_X_suspect_0 : decode prog_1_method_14_code 0 = .ok (.aload_n 0, 1) := by decide +kernel
theorem d_X_suspect_1 : decode prog_1_method_14_code 1 = .ok (.getfield 40, 3) := by decide +kernel
theorem d_X_suspect_4 : decode prog_1_method_14_code 4 = .ok (.invokevirtual 152, 3) := by decide +kernel
theorem d_X_suspect_7 : decode prog_1_method_14_code 7 = .ok (.iload_n 1, 1) := by decide +kernel
theorem d_X_suspect_8 : decode prog_1_method_14_code 8 = .ok (.invokestatic 145, 3) := by decide +kernel
theorem d_X_suspect_11 : decode prog_1_method_14_code 11 = .ok (.istore_n 3, 1) := by decide +kernel
theorem d_X_suspect_12 : decode prog_1_method_14_code 12 = .ok (.iload_n 3, 1) := by decide +kernel
theorem d_X_suspect_13 : decode prog_1_method_14_code 13 = .ok (.iconst (-1), 1) := by decide +kernel
theorem d_X_suspect_14 : decode prog_1_method_14_code 14 = .ok (.if_icmp .eq 13, 3) := by decide +kernel
theorem d_X_suspect_17 : decode prog_1_method_14_code 17 = .ok (.iload_n 2, 1) := by decide +kernel
theorem d_X_suspect_18 : decode prog_1_method_14_code 18 = .ok (.i2l, 1) := by decide +kernel
theorem d_X_suspect_19 : decode prog_1_method_14_code 19 = .ok (.lconst 0, 1) := by decide +kernel
theorem d_X_suspect_20 : decode prog_1_method_14_code 20 = .ok (.lconst 1, 1) := by decide +kernel
theorem d_X_suspect_21 : decode prog_1_method_14_code 21 = .ok (.invokestatic 56, 3) := by decide +kernel
theorem d_X_suspect_24 : decode prog_1_method_14_code 24 = .ok (.ifCond .ne 13, 3) := by decide +kernel
theorem d_X_suspect_27 : decode prog_1_method_14_code 27 = .ok (.new 123, 3) := by decide +kernel
theorem d_X_suspect_30 : decode prog_1_method_14_code 30 = .ok (.dup, 1) := by decide +kernel
theorem d_X_suspect_31 : decode prog_1_method_14_code 31 = .ok (.ldc 162, 2) := by decide +kernel
theorem d_X_suspect_33 : decode prog_1_method_14_code 33 = .ok (.invokespecial 127, 3) := by decide +kernel
theorem d_X_suspect_36 : decode prog_1_method_14_code 36 = .ok (.athrow, 1) := by decide +kernel
theorem d_X_suspect_37 : decode prog_1_method_14_code 37 = .ok (.iload_n 2, 1) := by decide +kernel
theorem d_X_suspect_38 : decode prog_1_method_14_code 38 = .ok (.ifCond .ne 7, 3) := by decide +kernel
theorem d_X_suspect_41 : decode prog_1_method_14_code 41 = .ok (.iload_n 3, 1) := by decide +kernel
theorem d_X_suspect_42 : decode prog_1_method_14_code 42 = .ok (.goto 11, 3) := by decide +kernel
theorem d_X_suspect_45 : decode prog_1_method_14_code 45 = .ok (.aload_n 0, 1) := by decide +kernel
theorem d_X_suspect_46 : decode prog_1_method_14_code 46 = .ok (.getfield 40, 3) := by decide +kernel
theorem d_X_suspect_49 : decode prog_1_method_14_code 49 = .ok (.iload_n 3, 1) := by decide +kernel
theorem d_X_suspect_50 : decode prog_1_method_14_code 50 = .ok (.invokevirtual 164, 3) := by decide +kernel
theorem d_X_suspect_53 : decode prog_1_method_14_code 53 = .ok (.ireturn, 1) := by decide +kernel
theorem d_R_countOf_0 : decode prog_5_method_3_code 0 = .ok (.aload_n 0, 1) := by decide +kernel
theorem d_R_countOf_1 : decode prog_5_method_3_code 1 = .ok (.getfield 9, 3) := by decide +kernel
theorem d_R_countOf_4 : decode prog_5_method_3_code 4 = .ok (.iload_n 1, 1) := by decide +kernel
theorem d_R_countOf_5 : decode prog_5_method_3_code 5 = .ok (.iaload, 1) := by decide +kernel
theorem d_R_countOf_6 : decode prog_5_method_3_code 6 = .ok (.invokestatic 23, 3) := by decide +kernel
theorem d_R_countOf_9 : decode prog_5_method_3_code 9 = .ok (.ireturn, 1) := by decide +kernel
theorem d_X_faults_0 : decode prog_1_method_15_code 0 = .ok (.aload_n 0, 1) := by decide +kernel
theorem d_X_faults_1 : decode prog_1_method_15_code 1 = .ok (.iload_n 1, 1) := by decide +kernel
theorem d_X_faults_2 : decode prog_1_method_15_code 2 = .ok (.invokevirtual 48, 3) := by decide +kernel
theorem d_X_faults_5 : decode prog_1_method_15_code 5 = .ok (.aload_n 0, 1) := by decide +kernel
theorem d_X_faults_6 : decode prog_1_method_15_code 6 = .ok (.getfield 40, 3) := by decide +kernel
theorem d_X_faults_9 : decode prog_1_method_15_code 9 = .ok (.iload_n 1, 1) := by decide +kernel
theorem d_X_faults_10 : decode prog_1_method_15_code 10 = .ok (.invokevirtual 164, 3) := by decide +kernel
theorem d_X_faults_13 : decode prog_1_method_15_code 13 = .ok (.ireturn, 1) := by decide +kernel
theorem d_X_force_0 : decode prog_1_method_18_code 0 = .ok (.aload_n 0, 1) := by decide +kernel
theorem d_X_force_1 : decode prog_1_method_18_code 1 = .ok (.getfield 12, 3) := by decide +kernel
theorem d_X_force_4 : decode prog_1_method_18_code 4 = .ok (.iload_n 1, 1) := by decide +kernel
theorem d_X_force_5 : decode prog_1_method_18_code 5 = .ok (.invokevirtual 174, 3) := by decide +kernel
theorem d_X_force_8 : decode prog_1_method_18_code 8 = .ok (.ifCond .ne 13, 3) := by decide +kernel
theorem d_X_force_11 : decode prog_1_method_18_code 11 = .ok (.new 123, 3) := by decide +kernel
theorem d_X_force_14 : decode prog_1_method_18_code 14 = .ok (.dup, 1) := by decide +kernel
theorem d_X_force_15 : decode prog_1_method_18_code 15 = .ok (.ldc 178, 2) := by decide +kernel
theorem d_X_force_17 : decode prog_1_method_18_code 17 = .ok (.invokespecial 127, 3) := by decide +kernel
theorem d_X_force_20 : decode prog_1_method_18_code 20 = .ok (.athrow, 1) := by decide +kernel
theorem d_X_force_21 : decode prog_1_method_18_code 21 = .ok (.lload_n 2, 1) := by decide +kernel
theorem d_X_force_22 : decode prog_1_method_18_code 22 = .ok (.lconst 0, 1) := by decide +kernel
theorem d_X_force_23 : decode prog_1_method_18_code 23 = .ok (.ldc2_w 54, 3) := by decide +kernel
theorem d_X_force_26 : decode prog_1_method_18_code 26 = .ok (.invokestatic 56, 3) := by decide +kernel
theorem d_X_force_29 : decode prog_1_method_18_code 29 = .ok (.ifCond .ne 13, 3) := by decide +kernel
theorem d_X_force_32 : decode prog_1_method_18_code 32 = .ok (.new 60, 3) := by decide +kernel
theorem d_X_force_35 : decode prog_1_method_18_code 35 = .ok (.dup, 1) := by decide +kernel
theorem d_X_force_36 : decode prog_1_method_18_code 36 = .ok (.ldc 180, 2) := by decide +kernel
theorem d_X_force_38 : decode prog_1_method_18_code 38 = .ok (.invokespecial 64, 3) := by decide +kernel
theorem d_X_force_41 : decode prog_1_method_18_code 41 = .ok (.athrow, 1) := by decide +kernel
theorem d_X_force_42 : decode prog_1_method_18_code 42 = .ok (.aload_n 0, 1) := by decide +kernel
theorem d_X_force_43 : decode prog_1_method_18_code 43 = .ok (.getfield 12, 3) := by decide +kernel
theorem d_X_force_46 : decode prog_1_method_18_code 46 = .ok (.iload_n 1, 1) := by decide +kernel
theorem d_X_force_47 : decode prog_1_method_18_code 47 = .ok (.lload_n 2, 1) := by decide +kernel
theorem d_X_force_48 : decode prog_1_method_18_code 48 = .ok (.invokevirtual 182, 3) := by decide +kernel
theorem d_X_force_51 : decode prog_1_method_18_code 51 = .ok (.ireturn, 1) := by decide +kernel
theorem d_B_hasPoint_0 : decode prog_2_method_3_code 0 = .ok (.iload_n 1, 1) := by decide +kernel
theorem d_B_hasPoint_1 : decode prog_2_method_3_code 1 = .ok (.ifCond .lt 15, 3) := by decide +kernel
theorem d_B_hasPoint_4 : decode prog_2_method_3_code 4 = .ok (.iload_n 1, 1) := by decide +kernel
theorem d_B_hasPoint_5 : decode prog_2_method_3_code 5 = .ok (.aload_n 0, 1) := by decide +kernel
theorem d_B_hasPoint_6 : decode prog_2_method_3_code 6 = .ok (.getfield 39, 3) := by decide +kernel
theorem d_B_hasPoint_9 : decode prog_2_method_3_code 9 = .ok (.if_icmp .ge 7, 3) := by decide +kernel
theorem d_B_hasPoint_12 : decode prog_2_method_3_code 12 = .ok (.iconst 1, 1) := by decide +kernel
theorem d_B_hasPoint_13 : decode prog_2_method_3_code 13 = .ok (.goto 4, 3) := by decide +kernel
theorem d_B_hasPoint_16 : decode prog_2_method_3_code 16 = .ok (.iconst 0, 1) := by decide +kernel
theorem d_B_hasPoint_17 : decode prog_2_method_3_code 17 = .ok (.ireturn, 1) := by decide +kernel
theorem d_B_setForce_0 : decode prog_2_method_7_code 0 = .ok (.lload_n 2, 1) := by decide +kernel
theorem d_B_setForce_1 : decode prog_2_method_7_code 1 = .ok (.aload_n 0, 1) := by decide +kernel
theorem d_B_setForce_2 : decode prog_2_method_7_code 2 = .ok (.getfield 32, 3) := by decide +kernel
theorem d_B_setForce_5 : decode prog_2_method_7_code 5 = .ok (.iload_n 1, 1) := by decide +kernel
theorem d_B_setForce_6 : decode prog_2_method_7_code 6 = .ok (.laload, 1) := by decide +kernel
theorem d_B_setForce_7 : decode prog_2_method_7_code 7 = .ok (.lcmp, 1) := by decide +kernel
theorem d_B_setForce_8 : decode prog_2_method_7_code 8 = .ok (.ifCond .eq 7, 3) := by decide +kernel
theorem d_B_setForce_11 : decode prog_2_method_7_code 11 = .ok (.iconst 1, 1) := by decide +kernel
theorem d_B_setForce_12 : decode prog_2_method_7_code 12 = .ok (.goto 4, 3) := by decide +kernel
theorem d_B_setForce_15 : decode prog_2_method_7_code 15 = .ok (.iconst 0, 1) := by decide +kernel
theorem d_B_setForce_16 : decode prog_2_method_7_code 16 = .ok (.istore 4, 2) := by decide +kernel
theorem d_B_setForce_18 : decode prog_2_method_7_code 18 = .ok (.aload_n 0, 1) := by decide +kernel
theorem d_B_setForce_19 : decode prog_2_method_7_code 19 = .ok (.getfield 32, 3) := by decide +kernel
theorem d_B_setForce_22 : decode prog_2_method_7_code 22 = .ok (.iload_n 1, 1) := by decide +kernel
theorem d_B_setForce_23 : decode prog_2_method_7_code 23 = .ok (.lload_n 2, 1) := by decide +kernel
theorem d_B_setForce_24 : decode prog_2_method_7_code 24 = .ok (.lastore, 1) := by decide +kernel
theorem d_B_setForce_25 : decode prog_2_method_7_code 25 = .ok (.iload 4, 2) := by decide +kernel
theorem d_B_setForce_27 : decode prog_2_method_7_code 27 = .ok (.ireturn, 1) := by decide +kernel
theorem d_X_text_0 : decode prog_1_method_20_code 0 = .ok (.iload_n 1, 1) := by decide +kernel
theorem d_X_text_1 : decode prog_1_method_20_code 1 = .ok (.ifCond .ge 13, 3) := by decide +kernel
theorem d_X_text_4 : decode prog_1_method_20_code 4 = .ok (.new 123, 3) := by decide +kernel
theorem d_X_text_7 : decode prog_1_method_20_code 7 = .ok (.dup, 1) := by decide +kernel
theorem d_X_text_8 : decode prog_1_method_20_code 8 = .ok (.ldc 190, 2) := by decide +kernel
theorem d_X_text_10 : decode prog_1_method_20_code 10 = .ok (.invokespecial 127, 3) := by decide +kernel
theorem d_X_text_13 : decode prog_1_method_20_code 13 = .ok (.athrow, 1) := by decide +kernel
theorem d_X_text_14 : decode prog_1_method_20_code 14 = .ok (.aload_n 0, 1) := by decide +kernel
theorem d_X_text_15 : decode prog_1_method_20_code 15 = .ok (.getfield 26, 3) := by decide +kernel
theorem d_X_text_18 : decode prog_1_method_20_code 18 = .ok (.iload_n 1, 1) := by decide +kernel
theorem d_X_text_19 : decode prog_1_method_20_code 19 = .ok (.invokevirtual 192, 3) := by decide +kernel
theorem d_X_text_22 : decode prog_1_method_20_code 22 = .ok (.ireturn, 1) := by decide +kernel
end
section
theorem d_S_init_0 : decode prog_6_method_1_code 0 = .ok (.aload_n 0, 1) := by decide +kernel
theorem d_S_init_1 : decode prog_6_method_1_code 1 = .ok (.invokespecial 3, 3) := by decide +kernel
theorem d_S_init_4 : decode prog_6_method_1_code 4 = .ok (.aload_n 0, 1) := by decide +kernel
theorem d_S_init_5 : decode prog_6_method_1_code 5 = .ok (.bipush 8, 2) := by decide +kernel
theorem d_S_init_7 : decode prog_6_method_1_code 7 = .ok (.newarray .int, 2) := by decide +kernel
theorem d_S_init_9 : decode prog_6_method_1_code 9 = .ok (.putfield 9, 3) := by decide +kernel
theorem d_S_init_12 : decode prog_6_method_1_code 12 = .ok (.aload_n 0, 1) := by decide +kernel
theorem d_S_init_13 : decode prog_6_method_1_code 13 = .ok (.bipush 8, 2) := by decide +kernel
theorem d_S_init_15 : decode prog_6_method_1_code 15 = .ok (.newarray .int, 2) := by decide +kernel
theorem d_S_init_17 : decode prog_6_method_1_code 17 = .ok (.putfield 15, 3) := by decide +kernel
theorem d_S_init_20 : decode prog_6_method_1_code 20 = .ok (.aload_n 0, 1) := by decide +kernel
theorem d_S_init_21 : decode prog_6_method_1_code 21 = .ok (.bipush 24, 2) := by decide +kernel
theorem d_S_init_23 : decode prog_6_method_1_code 23 = .ok (.newarray .int, 2) := by decide +kernel
theorem d_S_init_25 : decode prog_6_method_1_code 25 = .ok (.putfield 18, 3) := by decide +kernel
theorem d_S_init_28 : decode prog_6_method_1_code 28 = .ok (.aload_n 0, 1) := by decide +kernel
theorem d_S_init_29 : decode prog_6_method_1_code 29 = .ok (.bipush 24, 2) := by decide +kernel
theorem d_S_init_31 : decode prog_6_method_1_code 31 = .ok (.newarray .long, 2) := by decide +kernel
theorem d_S_init_33 : decode prog_6_method_1_code 33 = .ok (.putfield 21, 3) := by decide +kernel
theorem d_S_init_36 : decode prog_6_method_1_code 36 = .ok (.aload_n 0, 1) := by decide +kernel
theorem d_S_init_37 : decode prog_6_method_1_code 37 = .ok (.bipush 24, 2) := by decide +kernel
theorem d_S_init_39 : decode prog_6_method_1_code 39 = .ok (.newarray .int, 2) := by decide +kernel
theorem d_S_init_41 : decode prog_6_method_1_code 41 = .ok (.putfield 25, 3) := by decide +kernel
theorem d_S_init_44 : decode prog_6_method_1_code 44 = .ok (.aload_n 0, 1) := by decide +kernel
theorem d_S_init_45 : decode prog_6_method_1_code 45 = .ok (.bipush 8, 2) := by decide +kernel
theorem d_S_init_47 : decode prog_6_method_1_code 47 = .ok (.newarray .int, 2) := by decide +kernel
theorem d_S_init_49 : decode prog_6_method_1_code 49 = .ok (.putfield 28, 3) := by decide +kernel
theorem d_S_init_52 : decode prog_6_method_1_code 52 = .ok (.aload_n 0, 1) := by decide +kernel
theorem d_S_init_53 : decode prog_6_method_1_code 53 = .ok (.bipush 8, 2) := by decide +kernel
theorem d_S_init_55 : decode prog_6_method_1_code 55 = .ok (.newarray .int, 2) := by decide +kernel
theorem d_S_init_57 : decode prog_6_method_1_code 57 = .ok (.putfield 31, 3) := by decide +kernel
theorem d_S_init_60 : decode prog_6_method_1_code 60 = .ok (.return_, 1) := by decide +kernel
theorem d_F_init_0 : decode prog_3_method_1_code 0 = .ok (.aload_n 0, 1) := by decide +kernel
theorem d_F_init_1 : decode prog_3_method_1_code 1 = .ok (.invokespecial 3, 3) := by decide +kernel
theorem d_F_init_4 : decode prog_3_method_1_code 4 = .ok (.aload_n 0, 1) := by decide +kernel
theorem d_F_init_5 : decode prog_3_method_1_code 5 = .ok (.bipush 8, 2) := by decide +kernel
theorem d_F_init_7 : decode prog_3_method_1_code 7 = .ok (.newarray .int, 2) := by decide +kernel
theorem d_F_init_9 : decode prog_3_method_1_code 9 = .ok (.putfield 9, 3) := by decide +kernel
theorem d_F_init_12 : decode prog_3_method_1_code 12 = .ok (.aload_n 0, 1) := by decide +kernel
theorem d_F_init_13 : decode prog_3_method_1_code 13 = .ok (.bipush 8, 2) := by decide +kernel
theorem d_F_init_15 : decode prog_3_method_1_code 15 = .ok (.newarray .int, 2) := by decide +kernel
theorem d_F_init_17 : decode prog_3_method_1_code 17 = .ok (.putfield 15, 3) := by decide +kernel
theorem d_F_init_20 : decode prog_3_method_1_code 20 = .ok (.aload_n 0, 1) := by decide +kernel
theorem d_F_init_21 : decode prog_3_method_1_code 21 = .ok (.bipush 8, 2) := by decide +kernel
theorem d_F_init_23 : decode prog_3_method_1_code 23 = .ok (.newarray .int, 2) := by decide +kernel
theorem d_F_init_25 : decode prog_3_method_1_code 25 = .ok (.putfield 18, 3) := by decide +kernel
theorem d_F_init_28 : decode prog_3_method_1_code 28 = .ok (.aload_n 0, 1) := by decide +kernel
theorem d_F_init_29 : decode prog_3_method_1_code 29 = .ok (.bipush 8, 2) := by decide +kernel
theorem d_F_init_31 : decode prog_3_method_1_code 31 = .ok (.newarray .int, 2) := by decide +kernel
theorem d_F_init_33 : decode prog_3_method_1_code 33 = .ok (.putfield 21, 3) := by decide +kernel
theorem d_F_init_36 : decode prog_3_method_1_code 36 = .ok (.aload_n 0, 1) := by decide +kernel
theorem d_F_init_37 : decode prog_3_method_1_code 37 = .ok (.sipush 176, 3) := by decide +kernel
theorem d_F_init_40 : decode prog_3_method_1_code 40 = .ok (.newarray .char, 2) := by decide +kernel
theorem d_F_init_42 : decode prog_3_method_1_code 42 = .ok (.putfield 24, 3) := by decide +kernel
theorem d_F_init_45 : decode prog_3_method_1_code 45 = .ok (.return_, 1) := by decide +kernel
theorem d_F_sumOfForces_0 : decode prog_3_method_3_code 0 = .ok (.lconst 0, 1) := by decide +kernel
theorem d_F_sumOfForces_1 : decode prog_3_method_3_code 1 = .ok (.lstore_n 2, 1) := by decide +kernel
theorem d_F_sumOfForces_2 : decode prog_3_method_3_code 2 = .ok (.iconst 0, 1) := by decide +kernel
theorem d_F_sumOfForces_3 : decode prog_3_method_3_code 3 = .ok (.istore 4, 2) := by decide +kernel
theorem d_F_sumOfForces_5 : decode prog_3_method_3_code 5 = .ok (.iload 4, 2) := by decide +kernel
theorem d_F_sumOfForces_7 : decode prog_3_method_3_code 7 = .ok (.aload_n 0, 1) := by decide +kernel
theorem d_F_sumOfForces_8 : decode prog_3_method_3_code 8 = .ok (.getfield 58, 3) := by decide +kernel
theorem d_F_sumOfForces_11 : decode prog_3_method_3_code 11 = .ok (.if_icmp .ge 24, 3) := by decide +kernel
theorem d_F_sumOfForces_14 : decode prog_3_method_3_code 14 = .ok (.lload_n 2, 1) := by decide +kernel
theorem d_F_sumOfForces_15 : decode prog_3_method_3_code 15 = .ok (.aload_n 1, 1) := by decide +kernel
theorem d_F_sumOfForces_16 : decode prog_3_method_3_code 16 = .ok (.getfield 61, 3) := by decide +kernel
theorem d_F_sumOfForces_19 : decode prog_3_method_3_code 19 = .ok (.aload_n 0, 1) := by decide +kernel
theorem d_F_sumOfForces_20 : decode prog_3_method_3_code 20 = .ok (.getfield 9, 3) := by decide +kernel
theorem d_F_sumOfForces_23 : decode prog_3_method_3_code 23 = .ok (.iload 4, 2) := by decide +kernel
theorem d_F_sumOfForces_25 : decode prog_3_method_3_code 25 = .ok (.iaload, 1) := by decide +kernel
theorem d_F_sumOfForces_26 : decode prog_3_method_3_code 26 = .ok (.laload, 1) := by decide +kernel
theorem d_F_sumOfForces_27 : decode prog_3_method_3_code 27 = .ok (.ladd, 1) := by decide +kernel
theorem d_F_sumOfForces_28 : decode prog_3_method_3_code 28 = .ok (.lstore_n 2, 1) := by decide +kernel
theorem d_F_sumOfForces_29 : decode prog_3_method_3_code 29 = .ok (.iinc 4 1, 3) := by decide +kernel
theorem d_F_sumOfForces_32 : decode prog_3_method_3_code 32 = .ok (.goto (-27), 3) := by decide +kernel
theorem d_F_sumOfForces_35 : decode prog_3_method_3_code 35 = .ok (.lload_n 2, 1) := by decide +kernel
theorem d_F_sumOfForces_36 : decode prog_3_method_3_code 36 = .ok (.lreturn, 1) := by decide +kernel
theorem d_S_choose_0 : decode prog_6_method_2_code 0 = .ok (.aload_n 0, 1) := by decide +kernel
theorem d_S_choose_1 : decode prog_6_method_2_code 1 = .ok (.aload_n 1, 1) := by decide +kernel
theorem d_S_choose_2 : decode prog_6_method_2_code 2 = .ok (.iload_n 2, 1) := by decide +kernel
theorem d_S_choose_3 : decode prog_6_method_2_code 3 = .ok (.invokevirtual 34, 3) := by decide +kernel
theorem d_S_choose_6 : decode prog_6_method_2_code 6 = .ok (.aload_n 0, 1) := by decide +kernel
theorem d_S_choose_7 : decode prog_6_method_2_code 7 = .ok (.aload_n 1, 1) := by decide +kernel
theorem d_S_choose_8 : decode prog_6_method_2_code 8 = .ok (.invokevirtual 38, 3) := by decide +kernel
theorem d_S_choose_11 : decode prog_6_method_2_code 11 = .ok (.aload_n 0, 1) := by decide +kernel
theorem d_S_choose_12 : decode prog_6_method_2_code 12 = .ok (.aload_n 0, 1) := by decide +kernel
theorem d_S_choose_13 : decode prog_6_method_2_code 13 = .ok (.invokevirtual 42, 3) := by decide +kernel
theorem d_S_choose_16 : decode prog_6_method_2_code 16 = .ok (.lconst 1, 1) := by decide +kernel
theorem d_S_choose_17 : decode prog_6_method_2_code 17 = .ok (.lsub, 1) := by decide +kernel
theorem d_S_choose_18 : decode prog_6_method_2_code 18 = .ok (.putfield 46, 3) := by decide +kernel
theorem d_S_choose_21 : decode prog_6_method_2_code 21 = .ok (.aload_n 0, 1) := by decide +kernel
theorem d_S_choose_22 : decode prog_6_method_2_code 22 = .ok (.iconst 0, 1) := by decide +kernel
theorem d_S_choose_23 : decode prog_6_method_2_code 23 = .ok (.lconst 0, 1) := by decide +kernel
theorem d_S_choose_24 : decode prog_6_method_2_code 24 = .ok (.iconst 0, 1) := by decide +kernel
theorem d_S_choose_25 : decode prog_6_method_2_code 25 = .ok (.invokestatic 50, 3) := by decide +kernel
theorem d_S_choose_28 : decode prog_6_method_2_code 28 = .ok (.return_, 1) := by decide +kernel
theorem d_S_lookAtNets_0 : decode prog_6_method_3_code 0 = .ok (.aload_n 0, 1) := by decide +kernel
theorem d_S_lookAtNets_1 : decode prog_6_method_3_code 1 = .ok (.iconst 0, 1) := by decide +kernel
theorem d_S_lookAtNets_2 : decode prog_6_method_3_code 2 = .ok (.putfield 54, 3) := by decide +kernel
theorem d_S_lookAtNets_5 : decode prog_6_method_3_code 5 = .ok (.iconst 0, 1) := by decide +kernel
theorem d_S_lookAtNets_6 : decode prog_6_method_3_code 6 = .ok (.istore_n 3, 1) := by decide +kernel
theorem d_S_lookAtNets_7 : decode prog_6_method_3_code 7 = .ok (.iload_n 3, 1) := by decide +kernel
theorem d_S_lookAtNets_8 : decode prog_6_method_3_code 8 = .ok (.aload_n 1, 1) := by decide +kernel
theorem d_S_lookAtNets_9 : decode prog_6_method_3_code 9 = .ok (.getfield 58, 3) := by decide +kernel
theorem d_S_lookAtNets_12 : decode prog_6_method_3_code 12 = .ok (.if_icmp .ge 144, 3) := by decide +kernel
theorem d_S_lookAtNets_15 : decode prog_6_method_3_code 15 = .ok (.aload_n 1, 1) := by decide +kernel
theorem d_S_lookAtNets_16 : decode prog_6_method_3_code 16 = .ok (.getfield 63, 3) := by decide +kernel
theorem d_S_lookAtNets_19 : decode prog_6_method_3_code 19 = .ok (.iload_n 3, 1) := by decide +kernel
theorem d_S_lookAtNets_20 : decode prog_6_method_3_code 20 = .ok (.baload, 1) := by decide +kernel
theorem d_S_lookAtNets_21 : decode prog_6_method_3_code 21 = .ok (.ifCond .eq 129, 3) := by decide +kernel
theorem d_S_lookAtNets_24 : decode prog_6_method_3_code 24 = .ok (.aload_n 0, 1) := by decide +kernel
theorem d_S_lookAtNets_25 : decode prog_6_method_3_code 25 = .ok (.getfield 54, 3) := by decide +kernel
theorem d_S_lookAtNets_28 : decode prog_6_method_3_code 28 = .ok (.iload_n 2, 1) := by decide +kernel
theorem d_S_lookAtNets_29 : decode prog_6_method_3_code 29 = .ok (.if_icmp .ge 121, 3) := by decide +kernel
theorem d_S_lookAtNets_32 : decode prog_6_method_3_code 32 = .ok (.aload_n 0, 1) := by decide +kernel
theorem d_S_lookAtNets_33 : decode prog_6_method_3_code 33 = .ok (.getfield 54, 3) := by decide +kernel
theorem d_S_lookAtNets_36 : decode prog_6_method_3_code 36 = .ok (.bipush 8, 2) := by decide +kernel
theorem d_S_lookAtNets_38 : decode prog_6_method_3_code 38 = .ok (.if_icmp .ge 112, 3) := by decide +kernel
theorem d_S_lookAtNets_41 : decode prog_6_method_3_code 41 = .ok (.aload_n 0, 1) := by decide +kernel
theorem d_S_lookAtNets_42 : decode prog_6_method_3_code 42 = .ok (.getfield 9, 3) := by decide +kernel
theorem d_S_lookAtNets_45 : decode prog_6_method_3_code 45 = .ok (.aload_n 0, 1) := by decide +kernel
theorem d_S_lookAtNets_46 : decode prog_6_method_3_code 46 = .ok (.getfield 54, 3) := by decide +kernel
theorem d_S_lookAtNets_49 : decode prog_6_method_3_code 49 = .ok (.iload_n 3, 1) := by decide +kernel
theorem d_S_lookAtNets_50 : decode prog_6_method_3_code 50 = .ok (.iastore, 1) := by decide +kernel
theorem d_S_lookAtNets_51 : decode prog_6_method_3_code 51 = .ok (.aload_n 0, 1) := by decide +kernel
theorem d_S_lookAtNets_52 : decode prog_6_method_3_code 52 = .ok (.getfield 15, 3) := by decide +kernel
theorem d_S_lookAtNets_55 : decode prog_6_method_3_code 55 = .ok (.aload_n 0, 1) := by decide +kernel
theorem d_S_lookAtNets_56 : decode prog_6_method_3_code 56 = .ok (.getfield 54, 3) := by decide +kernel
theorem d_S_lookAtNets_59 : decode prog_6_method_3_code 59 = .ok (.aload_n 1, 1) := by decide +kernel
theorem d_S_lookAtNets_60 : decode prog_6_method_3_code 60 = .ok (.getfield 67, 3) := by decide +kernel
theorem d_S_lookAtNets_63 : decode prog_6_method_3_code 63 = .ok (.iload_n 3, 1) := by decide +kernel
theorem d_S_lookAtNets_64 : decode prog_6_method_3_code 64 = .ok (.iaload, 1) := by decide +kernel
theorem d_S_lookAtNets_65 : decode prog_6_method_3_code 65 = .ok (.iastore, 1) := by decide +kernel
theorem d_S_lookAtNets_66 : decode prog_6_method_3_code 66 = .ok (.iconst 0, 1) := by decide +kernel
theorem d_S_lookAtNets_67 : decode prog_6_method_3_code 67 = .ok (.istore 4, 2) := by decide +kernel
theorem d_S_lookAtNets_69 : decode prog_6_method_3_code 69 = .ok (.iload 4, 2) := by decide +kernel
theorem d_S_lookAtNets_71 : decode prog_6_method_3_code 71 = .ok (.aload_n 1, 1) := by decide +kernel
theorem d_S_lookAtNets_72 : decode prog_6_method_3_code 72 = .ok (.getfield 67, 3) := by decide +kernel
theorem d_S_lookAtNets_75 : decode prog_6_method_3_code 75 = .ok (.iload_n 3, 1) := by decide +kernel
theorem d_S_lookAtNets_76 : decode prog_6_method_3_code 76 = .ok (.iaload, 1) := by decide +kernel
theorem d_S_lookAtNets_77 : decode prog_6_method_3_code 77 = .ok (.if_icmp .ge 63, 3) := by decide +kernel
theorem d_S_lookAtNets_80 : decode prog_6_method_3_code 80 = .ok (.aload_n 1, 1) := by decide +kernel
theorem d_S_lookAtNets_81 : decode prog_6_method_3_code 81 = .ok (.getfield 68, 3) := by decide +kernel
theorem d_S_lookAtNets_84 : decode prog_6_method_3_code 84 = .ok (.iload_n 3, 1) := by decide +kernel
theorem d_S_lookAtNets_85 : decode prog_6_method_3_code 85 = .ok (.iconst 3, 1) := by decide +kernel
theorem d_S_lookAtNets_86 : decode prog_6_method_3_code 86 = .ok (.imul, 1) := by decide +kernel
theorem d_S_lookAtNets_87 : decode prog_6_method_3_code 87 = .ok (.iload 4, 2) := by decide +kernel
theorem d_S_lookAtNets_89 : decode prog_6_method_3_code 89 = .ok (.iadd, 1) := by decide +kernel
theorem d_S_lookAtNets_90 : decode prog_6_method_3_code 90 = .ok (.iaload, 1) := by decide +kernel
theorem d_S_lookAtNets_91 : decode prog_6_method_3_code 91 = .ok (.istore 5, 2) := by decide +kernel
theorem d_S_lookAtNets_93 : decode prog_6_method_3_code 93 = .ok (.aload_n 0, 1) := by decide +kernel
theorem d_S_lookAtNets_94 : decode prog_6_method_3_code 94 = .ok (.getfield 18, 3) := by decide +kernel
theorem d_S_lookAtNets_97 : decode prog_6_method_3_code 97 = .ok (.aload_n 0, 1) := by decide +kernel
theorem d_S_lookAtNets_98 : decode prog_6_method_3_code 98 = .ok (.getfield 54, 3) := by decide +kernel
theorem d_S_lookAtNets_101 : decode prog_6_method_3_code 101 = .ok (.iconst 3, 1) := by decide +kernel
theorem d_S_lookAtNets_102 : decode prog_6_method_3_code 102 = .ok (.imul, 1) := by decide +kernel
theorem d_S_lookAtNets_103 : decode prog_6_method_3_code 103 = .ok (.iload 4, 2) := by decide +kernel
theorem d_S_lookAtNets_105 : decode prog_6_method_3_code 105 = .ok (.iadd, 1) := by decide +kernel
theorem d_S_lookAtNets_106 : decode prog_6_method_3_code 106 = .ok (.iload 5, 2) := by decide +kernel
theorem d_S_lookAtNets_108 : decode prog_6_method_3_code 108 = .ok (.iastore, 1) := by decide +kernel
theorem d_S_lookAtNets_109 : decode prog_6_method_3_code 109 = .ok (.aload_n 0, 1) := by decide +kernel
theorem d_S_lookAtNets_110 : decode prog_6_method_3_code 110 = .ok (.getfield 21, 3) := by decide +kernel
theorem d_S_lookAtNets_113 : decode prog_6_method_3_code 113 = .ok (.aload_n 0, 1) := by decide +kernel
theorem d_S_lookAtNets_114 : decode prog_6_method_3_code 114 = .ok (.getfield 54, 3) := by decide +kernel
theorem d_S_lookAtNets_117 : decode prog_6_method_3_code 117 = .ok (.iconst 3, 1) := by decide +kernel
theorem d_S_lookAtNets_118 : decode prog_6_method_3_code 118 = .ok (.imul, 1) := by decide +kernel
theorem d_S_lookAtNets_119 : decode prog_6_method_3_code 119 = .ok (.iload 4, 2) := by decide +kernel
theorem d_S_lookAtNets_121 : decode prog_6_method_3_code 121 = .ok (.iadd, 1) := by decide +kernel
theorem d_S_lookAtNets_122 : decode prog_6_method_3_code 122 = .ok (.ldc2_w 71, 3) := by decide +kernel
theorem d_S_lookAtNets_125 : decode prog_6_method_3_code 125 = .ok (.aload_n 1, 1) := by decide +kernel
theorem d_S_lookAtNets_126 : decode prog_6_method_3_code 126 = .ok (.getfield 73, 3) := by decide +kernel
theorem d_S_lookAtNets_129 : decode prog_6_method_3_code 129 = .ok (.iload 5, 2) := by decide +kernel
theorem d_S_lookAtNets_131 : decode prog_6_method_3_code 131 = .ok (.laload, 1) := by decide +kernel
theorem d_S_lookAtNets_132 : decode prog_6_method_3_code 132 = .ok (.lsub, 1) := by decide +kernel
theorem d_S_lookAtNets_133 : decode prog_6_method_3_code 133 = .ok (.lastore, 1) := by decide +kernel
theorem d_S_lookAtNets_134 : decode prog_6_method_3_code 134 = .ok (.iinc 4 1, 3) := by decide +kernel
theorem d_S_lookAtNets_137 : decode prog_6_method_3_code 137 = .ok (.goto (-68), 3) := by decide +kernel
theorem d_S_lookAtNets_140 : decode prog_6_method_3_code 140 = .ok (.aload_n 0, 1) := by decide +kernel
theorem d_S_lookAtNets_141 : decode prog_6_method_3_code 141 = .ok (.dup, 1) := by decide +kernel
theorem d_S_lookAtNets_142 : decode prog_6_method_3_code 142 = .ok (.getfield 54, 3) := by decide +kernel
theorem d_S_lookAtNets_145 : decode prog_6_method_3_code 145 = .ok (.iconst 1, 1) := by decide +kernel
theorem d_S_lookAtNets_146 : decode prog_6_method_3_code 146 = .ok (.iadd, 1) := by decide +kernel
theorem d_S_lookAtNets_147 : decode prog_6_method_3_code 147 = .ok (.putfield 54, 3) := by decide +kernel
theorem d_S_lookAtNets_150 : decode prog_6_method_3_code 150 = .ok (.iinc 3 1, 3) := by decide +kernel
theorem d_S_lookAtNets_153 : decode prog_6_method_3_code 153 = .ok (.goto (-146), 3) := by decide +kernel
theorem d_S_lookAtNets_156 : decode prog_6_method_3_code 156 = .ok (.return_, 1) := by decide +kernel
theorem d_S_markClashes_0 : decode prog_6_method_4_code 0 = .ok (.aload_n 0, 1) := by decide +kernel
theorem d_S_markClashes_1 : decode prog_6_method_4_code 1 = .ok (.getfield 25, 3) := by decide +kernel
theorem d_S_markClashes_4 : decode prog_6_method_4_code 4 = .ok (.iconst 0, 1) := by decide +kernel
theorem d_S_markClashes_5 : decode prog_6_method_4_code 5 = .ok (.invokestatic 76, 3) := by decide +kernel
theorem d_S_markClashes_8 : decode prog_6_method_4_code 8 = .ok (.iconst 0, 1) := by decide +kernel
theorem d_S_markClashes_9 : decode prog_6_method_4_code 9 = .ok (.istore_n 2, 1) := by decide +kernel
theorem d_S_markClashes_10 : decode prog_6_method_4_code 10 = .ok (.iload_n 2, 1) := by decide +kernel
theorem d_S_markClashes_11 : decode prog_6_method_4_code 11 = .ok (.aload_n 0, 1) := by decide +kernel
theorem d_S_markClashes_12 : decode prog_6_method_4_code 12 = .ok (.getfield 54, 3) := by decide +kernel
theorem d_S_markClashes_15 : decode prog_6_method_4_code 15 = .ok (.if_icmp .ge 56, 3) := by decide +kernel
theorem d_S_markClashes_18 : decode prog_6_method_4_code 18 = .ok (.iload_n 2, 1) := by decide +kernel
theorem d_S_markClashes_19 : decode prog_6_method_4_code 19 = .ok (.iconst 3, 1) := by decide +kernel
theorem d_S_markClashes_20 : decode prog_6_method_4_code 20 = .ok (.imul, 1) := by decide +kernel
theorem d_S_markClashes_21 : decode prog_6_method_4_code 21 = .ok (.istore_n 3, 1) := by decide +kernel
theorem d_S_markClashes_22 : decode prog_6_method_4_code 22 = .ok (.iload_n 3, 1) := by decide +kernel
theorem d_S_markClashes_23 : decode prog_6_method_4_code 23 = .ok (.aload_n 0, 1) := by decide +kernel
theorem d_S_markClashes_24 : decode prog_6_method_4_code 24 = .ok (.iload_n 2, 1) := by decide +kernel
theorem d_S_markClashes_25 : decode prog_6_method_4_code 25 = .ok (.invokevirtual 82, 3) := by decide +kernel
theorem d_S_markClashes_28 : decode prog_6_method_4_code 28 = .ok (.if_icmp .ge 37, 3) := by decide +kernel
theorem d_S_markClashes_31 : decode prog_6_method_4_code 31 = .ok (.iload_n 2, 1) := by decide +kernel
theorem d_S_markClashes_32 : decode prog_6_method_4_code 32 = .ok (.iconst 1, 1) := by decide +kernel
theorem d_S_markClashes_33 : decode prog_6_method_4_code 33 = .ok (.iadd, 1) := by decide +kernel
theorem d_S_markClashes_34 : decode prog_6_method_4_code 34 = .ok (.istore 4, 2) := by decide +kernel
theorem d_S_markClashes_36 : decode prog_6_method_4_code 36 = .ok (.iload 4, 2) := by decide +kernel
theorem d_S_markClashes_38 : decode prog_6_method_4_code 38 = .ok (.aload_n 0, 1) := by decide +kernel
theorem d_S_markClashes_39 : decode prog_6_method_4_code 39 = .ok (.getfield 54, 3) := by decide +kernel
theorem d_S_markClashes_42 : decode prog_6_method_4_code 42 = .ok (.if_icmp .ge 17, 3) := by decide +kernel
theorem d_S_markClashes_45 : decode prog_6_method_4_code 45 = .ok (.aload_n 0, 1) := by decide +kernel
theorem d_S_markClashes_46 : decode prog_6_method_4_code 46 = .ok (.aload_n 1, 1) := by decide +kernel
theorem d_S_markClashes_47 : decode prog_6_method_4_code 47 = .ok (.iload_n 3, 1) := by decide +kernel
theorem d_S_markClashes_48 : decode prog_6_method_4_code 48 = .ok (.iload 4, 2) := by decide +kernel
theorem d_S_markClashes_50 : decode prog_6_method_4_code 50 = .ok (.invokevirtual 86, 3) := by decide +kernel
theorem d_S_markClashes_53 : decode prog_6_method_4_code 53 = .ok (.iinc 4 1, 3) := by decide +kernel
theorem d_S_markClashes_56 : decode prog_6_method_4_code 56 = .ok (.goto (-20), 3) := by decide +kernel
theorem d_S_markClashes_59 : decode prog_6_method_4_code 59 = .ok (.iinc 3 1, 3) := by decide +kernel
theorem d_S_markClashes_62 : decode prog_6_method_4_code 62 = .ok (.goto (-40), 3) := by decide +kernel
theorem d_S_markClashes_65 : decode prog_6_method_4_code 65 = .ok (.iinc 2 1, 3) := by decide +kernel
theorem d_S_markClashes_68 : decode prog_6_method_4_code 68 = .ok (.goto (-58), 3) := by decide +kernel
theorem d_S_markClashes_71 : decode prog_6_method_4_code 71 = .ok (.return_, 1) := by decide +kernel
theorem d_S_endOf_0 : decode prog_6_method_6_code 0 = .ok (.iload_n 1, 1) := by decide +kernel
theorem d_S_endOf_1 : decode prog_6_method_6_code 1 = .ok (.iconst 3, 1) := by decide +kernel
theorem d_S_endOf_2 : decode prog_6_method_6_code 2 = .ok (.imul, 1) := by decide +kernel
theorem d_S_endOf_3 : decode prog_6_method_6_code 3 = .ok (.aload_n 0, 1) := by decide +kernel
theorem d_S_endOf_4 : decode prog_6_method_6_code 4 = .ok (.getfield 15, 3) := by decide +kernel
theorem d_S_endOf_7 : decode prog_6_method_6_code 7 = .ok (.iload_n 1, 1) := by decide +kernel
theorem d_S_endOf_8 : decode prog_6_method_6_code 8 = .ok (.iaload, 1) := by decide +kernel
theorem d_S_endOf_9 : decode prog_6_method_6_code 9 = .ok (.iadd, 1) := by decide +kernel
theorem d_S_endOf_10 : decode prog_6_method_6_code 10 = .ok (.ireturn, 1) := by decide +kernel
theorem d_S_markClashesWithNet_0 : decode prog_6_method_5_code 0 = .ok (.iload_n 3, 1) := by decide +kernel
theorem d_S_markClashesWithNet_1 : decode prog_6_method_5_code 1 = .ok (.iconst 3, 1) := by decide +kernel
theorem d_S_markClashesWithNet_2 : decode prog_6_method_5_code 2 = .ok (.imul, 1) := by decide +kernel
theorem d_S_markClashesWithNet_3 : decode prog_6_method_5_code 3 = .ok (.istore 4, 2) := by decide +kernel
theorem d_S_markClashesWithNet_5 : decode prog_6_method_5_code 5 = .ok (.iload 4, 2) := by decide +kernel
theorem d_S_markClashesWithNet_7 : decode prog_6_method_5_code 7 = .ok (.aload_n 0, 1) := by decide +kernel
theorem d_S_markClashesWithNet_8 : decode prog_6_method_5_code 8 = .ok (.iload_n 3, 1) := by decide +kernel
theorem d_S_markClashesWithNet_9 : decode prog_6_method_5_code 9 = .ok (.invokevirtual 82, 3) := by decide +kernel
theorem d_S_markClashesWithNet_12 : decode prog_6_method_5_code 12 = .ok (.if_icmp .ge 42, 3) := by decide +kernel
theorem d_S_markClashesWithNet_15 : decode prog_6_method_5_code 15 = .ok (.aload_n 1, 1) := by decide +kernel
theorem d_S_markClashesWithNet_16 : decode prog_6_method_5_code 16 = .ok (.aload_n 0, 1) := by decide +kernel
theorem d_S_markClashesWithNet_17 : decode prog_6_method_5_code 17 = .ok (.getfield 18, 3) := by decide +kernel
theorem d_S_markClashesWithNet_20 : decode prog_6_method_5_code 20 = .ok (.iload_n 2, 1) := by decide +kernel
theorem d_S_markClashesWithNet_21 : decode prog_6_method_5_code 21 = .ok (.iaload, 1) := by decide +kernel
theorem d_S_markClashesWithNet_22 : decode prog_6_method_5_code 22 = .ok (.aload_n 0, 1) := by decide +kernel
theorem d_S_markClashesWithNet_23 : decode prog_6_method_5_code 23 = .ok (.getfield 18, 3) := by decide +kernel
theorem d_S_markClashesWithNet_26 : decode prog_6_method_5_code 26 = .ok (.iload 4, 2) := by decide +kernel
theorem d_S_markClashesWithNet_28 : decode prog_6_method_5_code 28 = .ok (.iaload, 1) := by decide +kernel
theorem d_S_markClashesWithNet_29 : decode prog_6_method_5_code 29 = .ok (.invokevirtual 90, 3) := by decide +kernel
theorem d_S_markClashesWithNet_32 : decode prog_6_method_5_code 32 = .ok (.ifCond .ne 16, 3) := by decide +kernel
theorem d_S_markClashesWithNet_35 : decode prog_6_method_5_code 35 = .ok (.aload_n 0, 1) := by decide +kernel
theorem d_S_markClashesWithNet_36 : decode prog_6_method_5_code 36 = .ok (.getfield 25, 3) := by decide +kernel
theorem d_S_markClashesWithNet_39 : decode prog_6_method_5_code 39 = .ok (.iload_n 2, 1) := by decide +kernel
theorem d_S_markClashesWithNet_40 : decode prog_6_method_5_code 40 = .ok (.dup2, 1) := by decide +kernel
theorem d_S_markClashesWithNet_41 : decode prog_6_method_5_code 41 = .ok (.iaload, 1) := by decide +kernel
theorem d_S_markClashesWithNet_42 : decode prog_6_method_5_code 42 = .ok (.iconst 1, 1) := by decide +kernel
theorem d_S_markClashesWithNet_43 : decode prog_6_method_5_code 43 = .ok (.iload 4, 2) := by decide +kernel
theorem d_S_markClashesWithNet_45 : decode prog_6_method_5_code 45 = .ok (.ishl, 1) := by decide +kernel
theorem d_S_markClashesWithNet_46 : decode prog_6_method_5_code 46 = .ok (.ior, 1) := by decide +kernel
theorem d_S_markClashesWithNet_47 : decode prog_6_method_5_code 47 = .ok (.iastore, 1) := by decide +kernel
theorem d_S_markClashesWithNet_48 : decode prog_6_method_5_code 48 = .ok (.iinc 4 1, 3) := by decide +kernel
theorem d_S_markClashesWithNet_51 : decode prog_6_method_5_code 51 = .ok (.goto (-46), 3) := by decide +kernel
theorem d_S_markClashesWithNet_54 : decode prog_6_method_5_code 54 = .ok (.return_, 1) := by decide +kernel
theorem d_S_worthOfPlainChoice_0 : decode prog_6_method_7_code 0 = .ok (.lconst 0, 1) := by decide +kernel
theorem d_S_worthOfPlainChoice_1 : decode prog_6_method_7_code 1 = .ok (.lstore_n 1, 1) := by decide +kernel
theorem d_S_worthOfPlainChoice_2 : decode prog_6_method_7_code 2 = .ok (.iconst 0, 1) := by decide +kernel
theorem d_S_worthOfPlainChoice_3 : decode prog_6_method_7_code 3 = .ok (.istore_n 3, 1) := by decide +kernel
theorem d_S_worthOfPlainChoice_4 : decode prog_6_method_7_code 4 = .ok (.iconst 0, 1) := by decide +kernel
theorem d_S_worthOfPlainChoice_5 : decode prog_6_method_7_code 5 = .ok (.istore 4, 2) := by decide +kernel
theorem d_S_worthOfPlainChoice_7 : decode prog_6_method_7_code 7 = .ok (.iload 4, 2) := by decide +kernel
theorem d_S_worthOfPlainChoice_9 : decode prog_6_method_7_code 9 = .ok (.aload_n 0, 1) := by decide +kernel
theorem d_S_worthOfPlainChoice_10 : decode prog_6_method_7_code 10 = .ok (.getfield 54, 3) := by decide +kernel
theorem d_S_worthOfPlainChoice_13 : decode prog_6_method_7_code 13 = .ok (.if_icmp .ge 44, 3) := by decide +kernel
theorem d_S_worthOfPlainChoice_16 : decode prog_6_method_7_code 16 = .ok (.aload_n 0, 1) := by decide +kernel
theorem d_S_worthOfPlainChoice_17 : decode prog_6_method_7_code 17 = .ok (.iload 4, 2) := by decide +kernel
theorem d_S_worthOfPlainChoice_19 : decode prog_6_method_7_code 19 = .ok (.iload_n 3, 1) := by decide +kernel
theorem d_S_worthOfPlainChoice_20 : decode prog_6_method_7_code 20 = .ok (.invokevirtual 94, 3) := by decide +kernel
theorem d_S_worthOfPlainChoice_23 : decode prog_6_method_7_code 23 = .ok (.istore 5, 2) := by decide +kernel
theorem d_S_worthOfPlainChoice_25 : decode prog_6_method_7_code 25 = .ok (.iload 5, 2) := by decide +kernel
theorem d_S_worthOfPlainChoice_27 : decode prog_6_method_7_code 27 = .ok (.iconst (-1), 1) := by decide +kernel
theorem d_S_worthOfPlainChoice_28 : decode prog_6_method_7_code 28 = .ok (.if_icmp .eq 23, 3) := by decide +kernel
theorem d_S_worthOfPlainChoice_31 : decode prog_6_method_7_code 31 = .ok (.lload_n 1, 1) := by decide +kernel
theorem d_S_worthOfPlainChoice_32 : decode prog_6_method_7_code 32 = .ok (.aload_n 0, 1) := by decide +kernel
theorem d_S_worthOfPlainChoice_33 : decode prog_6_method_7_code 33 = .ok (.getfield 21, 3) := by decide +kernel
theorem d_S_worthOfPlainChoice_36 : decode prog_6_method_7_code 36 = .ok (.iload 5, 2) := by decide +kernel
theorem d_S_worthOfPlainChoice_38 : decode prog_6_method_7_code 38 = .ok (.laload, 1) := by decide +kernel
theorem d_S_worthOfPlainChoice_39 : decode prog_6_method_7_code 39 = .ok (.ladd, 1) := by decide +kernel
theorem d_S_worthOfPlainChoice_40 : decode prog_6_method_7_code 40 = .ok (.lstore_n 1, 1) := by decide +kernel
theorem d_S_worthOfPlainChoice_41 : decode prog_6_method_7_code 41 = .ok (.iload_n 3, 1) := by decide +kernel
theorem d_S_worthOfPlainChoice_42 : decode prog_6_method_7_code 42 = .ok (.aload_n 0, 1) := by decide +kernel
theorem d_S_worthOfPlainChoice_43 : decode prog_6_method_7_code 43 = .ok (.getfield 25, 3) := by decide +kernel
theorem d_S_worthOfPlainChoice_46 : decode prog_6_method_7_code 46 = .ok (.iload 5, 2) := by decide +kernel
theorem d_S_worthOfPlainChoice_48 : decode prog_6_method_7_code 48 = .ok (.iaload, 1) := by decide +kernel
theorem d_S_worthOfPlainChoice_49 : decode prog_6_method_7_code 49 = .ok (.ior, 1) := by decide +kernel
theorem d_S_worthOfPlainChoice_50 : decode prog_6_method_7_code 50 = .ok (.istore_n 3, 1) := by decide +kernel
theorem d_S_worthOfPlainChoice_51 : decode prog_6_method_7_code 51 = .ok (.iinc 4 1, 3) := by decide +kernel
theorem d_S_worthOfPlainChoice_54 : decode prog_6_method_7_code 54 = .ok (.goto (-47), 3) := by decide +kernel
theorem d_S_worthOfPlainChoice_57 : decode prog_6_method_7_code 57 = .ok (.lload_n 1, 1) := by decide +kernel
theorem d_S_worthOfPlainChoice_58 : decode prog_6_method_7_code 58 = .ok (.lreturn, 1) := by decide +kernel
theorem d_S_bestSlot_0 : decode prog_6_method_9_code 0 = .ok (.iconst (-1), 1) := by decide +kernel
theorem d_S_bestSlot_1 : decode prog_6_method_9_code 1 = .ok (.istore_n 3, 1) := by decide +kernel
theorem d_S_bestSlot_2 : decode prog_6_method_9_code 2 = .ok (.iload_n 1, 1) := by decide +kernel
theorem d_S_bestSlot_3 : decode prog_6_method_9_code 3 = .ok (.iconst 3, 1) := by decide +kernel
theorem d_S_bestSlot_4 : decode prog_6_method_9_code 4 = .ok (.imul, 1) := by decide +kernel
theorem d_S_bestSlot_5 : decode prog_6_method_9_code 5 = .ok (.istore 4, 2) := by decide +kernel
theorem d_S_bestSlot_7 : decode prog_6_method_9_code 7 = .ok (.iload 4, 2) := by decide +kernel
theorem d_S_bestSlot_9 : decode prog_6_method_9_code 9 = .ok (.aload_n 0, 1) := by decide +kernel
theorem d_S_bestSlot_10 : decode prog_6_method_9_code 10 = .ok (.iload_n 1, 1) := by decide +kernel
theorem d_S_bestSlot_11 : decode prog_6_method_9_code 11 = .ok (.invokevirtual 82, 3) := by decide +kernel
theorem d_S_bestSlot_14 : decode prog_6_method_9_code 14 = .ok (.if_icmp .ge 43, 3) := by decide +kernel
theorem d_S_bestSlot_17 : decode prog_6_method_9_code 17 = .ok (.iload_n 2, 1) := by decide +kernel
theorem d_S_bestSlot_18 : decode prog_6_method_9_code 18 = .ok (.iload 4, 2) := by decide +kernel
theorem d_S_bestSlot_20 : decode prog_6_method_9_code 20 = .ok (.invokestatic 98, 3) := by decide +kernel
theorem d_S_bestSlot_23 : decode prog_6_method_9_code 23 = .ok (.ifCond .ne 28, 3) := by decide +kernel
theorem d_S_bestSlot_26 : decode prog_6_method_9_code 26 = .ok (.iload_n 3, 1) := by decide +kernel
theorem d_S_bestSlot_27 : decode prog_6_method_9_code 27 = .ok (.iconst (-1), 1) := by decide +kernel
theorem d_S_bestSlot_28 : decode prog_6_method_9_code 28 = .ok (.if_icmp .eq 20, 3) := by decide +kernel
theorem d_S_bestSlot_31 : decode prog_6_method_9_code 31 = .ok (.aload_n 0, 1) := by decide +kernel
theorem d_S_bestSlot_32 : decode prog_6_method_9_code 32 = .ok (.getfield 21, 3) := by decide +kernel
theorem d_S_bestSlot_35 : decode prog_6_method_9_code 35 = .ok (.iload 4, 2) := by decide +kernel
theorem d_S_bestSlot_37 : decode prog_6_method_9_code 37 = .ok (.laload, 1) := by decide +kernel
theorem d_S_bestSlot_38 : decode prog_6_method_9_code 38 = .ok (.aload_n 0, 1) := by decide +kernel
theorem d_S_bestSlot_39 : decode prog_6_method_9_code 39 = .ok (.getfield 21, 3) := by decide +kernel
theorem d_S_bestSlot_42 : decode prog_6_method_9_code 42 = .ok (.iload_n 3, 1) := by decide +kernel
theorem d_S_bestSlot_43 : decode prog_6_method_9_code 43 = .ok (.laload, 1) := by decide +kernel
theorem d_S_bestSlot_44 : decode prog_6_method_9_code 44 = .ok (.lcmp, 1) := by decide +kernel
theorem d_S_bestSlot_45 : decode prog_6_method_9_code 45 = .ok (.ifCond .le 6, 3) := by decide +kernel
theorem d_S_bestSlot_48 : decode prog_6_method_9_code 48 = .ok (.iload 4, 2) := by decide +kernel
theorem d_S_bestSlot_50 : decode prog_6_method_9_code 50 = .ok (.istore_n 3, 1) := by decide +kernel
theorem d_S_bestSlot_51 : decode prog_6_method_9_code 51 = .ok (.iinc 4 1, 3) := by decide +kernel
theorem d_S_bestSlot_54 : decode prog_6_method_9_code 54 = .ok (.goto (-47), 3) := by decide +kernel
theorem d_S_bestSlot_57 : decode prog_6_method_9_code 57 = .ok (.iload_n 3, 1) := by decide +kernel
theorem d_S_bestSlot_58 : decode prog_6_method_9_code 58 = .ok (.ireturn, 1) := by decide +kernel
theorem d_S_descend_0 : decode prog_6_method_10_code 0 = .ok (.lload_n 2, 1) := by decide +kernel
theorem d_S_descend_1 : decode prog_6_method_10_code 1 = .ok (.aload_n 0, 1) := by decide +kernel
theorem d_S_descend_2 : decode prog_6_method_10_code 2 = .ok (.iload_n 1, 1) := by decide +kernel
theorem d_S_descend_3 : decode prog_6_method_10_code 3 = .ok (.iload 4, 2) := by decide +kernel
theorem d_S_descend_5 : decode prog_6_method_10_code 5 = .ok (.invokevirtual 101, 3) := by decide +kernel
theorem d_S_descend_8 : decode prog_6_method_10_code 8 = .ok (.ladd, 1) := by decide +kernel
theorem d_S_descend_9 : decode prog_6_method_10_code 9 = .ok (.aload_n 0, 1) := by decide +kernel
theorem d_S_descend_10 : decode prog_6_method_10_code 10 = .ok (.getfield 46, 3) := by decide +kernel
theorem d_S_descend_13 : decode prog_6_method_10_code 13 = .ok (.lcmp, 1) := by decide +kernel
theorem d_S_descend_14 : decode prog_6_method_10_code 14 = .ok (.ifCond .gt 4, 3) := by decide +kernel
theorem d_S_descend_17 : decode prog_6_method_10_code 17 = .ok (.return_, 1) := by decide +kernel
theorem d_S_descend_18 : decode prog_6_method_10_code 18 = .ok (.iload_n 1, 1) := by decide +kernel
theorem d_S_descend_19 : decode prog_6_method_10_code 19 = .ok (.aload_n 0, 1) := by decide +kernel
theorem d_S_descend_20 : decode prog_6_method_10_code 20 = .ok (.getfield 54, 3) := by decide +kernel
theorem d_S_descend_23 : decode prog_6_method_10_code 23 = .ok (.if_icmp .ge 9, 3) := by decide +kernel
theorem d_S_descend_26 : decode prog_6_method_10_code 26 = .ok (.iload_n 1, 1) := by decide +kernel
theorem d_S_descend_27 : decode prog_6_method_10_code 27 = .ok (.bipush 8, 2) := by decide +kernel
theorem d_S_descend_29 : decode prog_6_method_10_code 29 = .ok (.if_icmp .lt 9, 3) := by decide +kernel
theorem d_S_descend_32 : decode prog_6_method_10_code 32 = .ok (.aload_n 0, 1) := by decide +kernel
theorem d_S_descend_33 : decode prog_6_method_10_code 33 = .ok (.lload_n 2, 1) := by decide +kernel
theorem d_S_descend_34 : decode prog_6_method_10_code 34 = .ok (.invokevirtual 105, 3) := by decide +kernel
theorem d_S_descend_37 : decode prog_6_method_10_code 37 = .ok (.return_, 1) := by decide +kernel
theorem d_S_descend_38 : decode prog_6_method_10_code 38 = .ok (.iload_n 1, 1) := by decide +kernel
theorem d_S_descend_39 : decode prog_6_method_10_code 39 = .ok (.iconst 3, 1) := by decide +kernel
theorem d_S_descend_40 : decode prog_6_method_10_code 40 = .ok (.imul, 1) := by decide +kernel
theorem d_S_descend_41 : decode prog_6_method_10_code 41 = .ok (.istore 5, 2) := by decide +kernel
theorem d_S_descend_43 : decode prog_6_method_10_code 43 = .ok (.iload 5, 2) := by decide +kernel
theorem d_S_descend_45 : decode prog_6_method_10_code 45 = .ok (.aload_n 0, 1) := by decide +kernel
theorem d_S_descend_46 : decode prog_6_method_10_code 46 = .ok (.iload_n 1, 1) := by decide +kernel
theorem d_S_descend_47 : decode prog_6_method_10_code 47 = .ok (.invokevirtual 82, 3) := by decide +kernel
theorem d_S_descend_50 : decode prog_6_method_10_code 50 = .ok (.if_icmp .ge 58, 3) := by decide +kernel
theorem d_S_descend_53 : decode prog_6_method_10_code 53 = .ok (.iload 4, 2) := by decide +kernel
theorem d_S_descend_55 : decode prog_6_method_10_code 55 = .ok (.iload 5, 2) := by decide +kernel
theorem d_S_descend_57 : decode prog_6_method_10_code 57 = .ok (.invokestatic 98, 3) := by decide +kernel
theorem d_S_descend_60 : decode prog_6_method_10_code 60 = .ok (.ifCond .ne 42, 3) := by decide +kernel
theorem d_S_descend_63 : decode prog_6_method_10_code 63 = .ok (.aload_n 0, 1) := by decide +kernel
theorem d_S_descend_64 : decode prog_6_method_10_code 64 = .ok (.getfield 28, 3) := by decide +kernel
theorem d_S_descend_67 : decode prog_6_method_10_code 67 = .ok (.iload_n 1, 1) := by decide +kernel
theorem d_S_descend_68 : decode prog_6_method_10_code 68 = .ok (.aload_n 0, 1) := by decide +kernel
theorem d_S_descend_69 : decode prog_6_method_10_code 69 = .ok (.getfield 18, 3) := by decide +kernel
theorem d_S_descend_72 : decode prog_6_method_10_code 72 = .ok (.iload 5, 2) := by decide +kernel
theorem d_S_descend_74 : decode prog_6_method_10_code 74 = .ok (.iaload, 1) := by decide +kernel
theorem d_S_descend_75 : decode prog_6_method_10_code 75 = .ok (.iastore, 1) := by decide +kernel
theorem d_S_descend_76 : decode prog_6_method_10_code 76 = .ok (.aload_n 0, 1) := by decide +kernel
theorem d_S_descend_77 : decode prog_6_method_10_code 77 = .ok (.iload_n 1, 1) := by decide +kernel
theorem d_S_descend_78 : decode prog_6_method_10_code 78 = .ok (.iconst 1, 1) := by decide +kernel
theorem d_S_descend_79 : decode prog_6_method_10_code 79 = .ok (.iadd, 1) := by decide +kernel
theorem d_S_descend_80 : decode prog_6_method_10_code 80 = .ok (.lload_n 2, 1) := by decide +kernel
theorem d_S_descend_81 : decode prog_6_method_10_code 81 = .ok (.aload_n 0, 1) := by decide +kernel
theorem d_S_descend_82 : decode prog_6_method_10_code 82 = .ok (.getfield 21, 3) := by decide +kernel
theorem d_S_descend_85 : decode prog_6_method_10_code 85 = .ok (.iload 5, 2) := by decide +kernel
theorem d_S_descend_87 : decode prog_6_method_10_code 87 = .ok (.laload, 1) := by decide +kernel
theorem d_S_descend_88 : decode prog_6_method_10_code 88 = .ok (.ladd, 1) := by decide +kernel
theorem d_S_descend_89 : decode prog_6_method_10_code 89 = .ok (.iload 4, 2) := by decide +kernel
theorem d_S_descend_91 : decode prog_6_method_10_code 91 = .ok (.aload_n 0, 1) := by decide +kernel
theorem d_S_descend_92 : decode prog_6_method_10_code 92 = .ok (.getfield 25, 3) := by decide +kernel
theorem d_S_descend_95 : decode prog_6_method_10_code 95 = .ok (.iload 5, 2) := by decide +kernel
theorem d_S_descend_97 : decode prog_6_method_10_code 97 = .ok (.iaload, 1) := by decide +kernel
theorem d_S_descend_98 : decode prog_6_method_10_code 98 = .ok (.ior, 1) := by decide +kernel
theorem d_S_descend_99 : decode prog_6_method_10_code 99 = .ok (.invokestatic 50, 3) := by decide +kernel
theorem d_S_descend_102 : decode prog_6_method_10_code 102 = .ok (.iinc 5 1, 3) := by decide +kernel
theorem d_S_descend_105 : decode prog_6_method_10_code 105 = .ok (.goto (-62), 3) := by decide +kernel
theorem d_S_descend_108 : decode prog_6_method_10_code 108 = .ok (.aload_n 0, 1) := by decide +kernel
theorem d_S_descend_109 : decode prog_6_method_10_code 109 = .ok (.getfield 28, 3) := by decide +kernel
theorem d_S_descend_112 : decode prog_6_method_10_code 112 = .ok (.iload_n 1, 1) := by decide +kernel
theorem d_S_descend_113 : decode prog_6_method_10_code 113 = .ok (.iconst (-1), 1) := by decide +kernel
theorem d_S_descend_114 : decode prog_6_method_10_code 114 = .ok (.iastore, 1) := by decide +kernel
theorem d_S_descend_115 : decode prog_6_method_10_code 115 = .ok (.aload_n 0, 1) := by decide +kernel
theorem d_S_descend_116 : decode prog_6_method_10_code 116 = .ok (.iload_n 1, 1) := by decide +kernel
theorem d_S_descend_117 : decode prog_6_method_10_code 117 = .ok (.iconst 1, 1) := by decide +kernel
theorem d_S_descend_118 : decode prog_6_method_10_code 118 = .ok (.iadd, 1) := by decide +kernel
theorem d_S_descend_119 : decode prog_6_method_10_code 119 = .ok (.lload_n 2, 1) := by decide +kernel
theorem d_S_descend_120 : decode prog_6_method_10_code 120 = .ok (.iload 4, 2) := by decide +kernel
theorem d_S_descend_122 : decode prog_6_method_10_code 122 = .ok (.invokestatic 50, 3) := by decide +kernel
theorem d_S_descend_125 : decode prog_6_method_10_code 125 = .ok (.return_, 1) := by decide +kernel
theorem d_S_mostWorthFrom_0 : decode prog_6_method_8_code 0 = .ok (.lconst 0, 1) := by decide +kernel
theorem d_S_mostWorthFrom_1 : decode prog_6_method_8_code 1 = .ok (.lstore_n 3, 1) := by decide +kernel
theorem d_S_mostWorthFrom_2 : decode prog_6_method_8_code 2 = .ok (.iload_n 1, 1) := by decide +kernel
theorem d_S_mostWorthFrom_3 : decode prog_6_method_8_code 3 = .ok (.istore 5, 2) := by decide +kernel
theorem d_S_mostWorthFrom_5 : decode prog_6_method_8_code 5 = .ok (.iload 5, 2) := by decide +kernel
theorem d_S_mostWorthFrom_7 : decode prog_6_method_8_code 7 = .ok (.aload_n 0, 1) := by decide +kernel
theorem d_S_mostWorthFrom_8 : decode prog_6_method_8_code 8 = .ok (.getfield 54, 3) := by decide +kernel
theorem d_S_mostWorthFrom_11 : decode prog_6_method_8_code 11 = .ok (.if_icmp .ge 34, 3) := by decide +kernel
theorem d_S_mostWorthFrom_14 : decode prog_6_method_8_code 14 = .ok (.aload_n 0, 1) := by decide +kernel
theorem d_S_mostWorthFrom_15 : decode prog_6_method_8_code 15 = .ok (.iload 5, 2) := by decide +kernel
theorem d_S_mostWorthFrom_17 : decode prog_6_method_8_code 17 = .ok (.iload_n 2, 1) := by decide +kernel
theorem d_S_mostWorthFrom_18 : decode prog_6_method_8_code 18 = .ok (.invokevirtual 94, 3) := by decide +kernel
theorem d_S_mostWorthFrom_21 : decode prog_6_method_8_code 21 = .ok (.istore 6, 2) := by decide +kernel
theorem d_S_mostWorthFrom_23 : decode prog_6_method_8_code 23 = .ok (.iload 6, 2) := by decide +kernel
theorem d_S_mostWorthFrom_25 : decode prog_6_method_8_code 25 = .ok (.iconst (-1), 1) := by decide +kernel
theorem d_S_mostWorthFrom_26 : decode prog_6_method_8_code 26 = .ok (.if_icmp .eq 13, 3) := by decide +kernel
theorem d_S_mostWorthFrom_29 : decode prog_6_method_8_code 29 = .ok (.lload_n 3, 1) := by decide +kernel
theorem d_S_mostWorthFrom_30 : decode prog_6_method_8_code 30 = .ok (.aload_n 0, 1) := by decide +kernel
theorem d_S_mostWorthFrom_31 : decode prog_6_method_8_code 31 = .ok (.getfield 21, 3) := by decide +kernel
theorem d_S_mostWorthFrom_34 : decode prog_6_method_8_code 34 = .ok (.iload 6, 2) := by decide +kernel
theorem d_S_mostWorthFrom_36 : decode prog_6_method_8_code 36 = .ok (.laload, 1) := by decide +kernel
theorem d_S_mostWorthFrom_37 : decode prog_6_method_8_code 37 = .ok (.ladd, 1) := by decide +kernel
theorem d_S_mostWorthFrom_38 : decode prog_6_method_8_code 38 = .ok (.lstore_n 3, 1) := by decide +kernel
theorem d_S_mostWorthFrom_39 : decode prog_6_method_8_code 39 = .ok (.iinc 5 1, 3) := by decide +kernel
theorem d_S_mostWorthFrom_42 : decode prog_6_method_8_code 42 = .ok (.goto (-37), 3) := by decide +kernel
theorem d_S_mostWorthFrom_45 : decode prog_6_method_8_code 45 = .ok (.lload_n 3, 1) := by decide +kernel
theorem d_S_mostWorthFrom_46 : decode prog_6_method_8_code 46 = .ok (.lreturn, 1) := by decide +kernel
theorem d_S_keep_0 : decode prog_6_method_11_code 0 = .ok (.aload_n 0, 1) := by decide +kernel
theorem d_S_keep_1 : decode prog_6_method_11_code 1 = .ok (.lload_n 1, 1) := by decide +kernel
theorem d_S_keep_2 : decode prog_6_method_11_code 2 = .ok (.putfield 46, 3) := by decide +kernel
theorem d_S_keep_5 : decode prog_6_method_11_code 5 = .ok (.aload_n 0, 1) := by decide +kernel
theorem d_S_keep_6 : decode prog_6_method_11_code 6 = .ok (.getfield 28, 3) := by decide +kernel
theorem d_S_keep_9 : decode prog_6_method_11_code 9 = .ok (.iconst 0, 1) := by decide +kernel
theorem d_S_keep_10 : decode prog_6_method_11_code 10 = .ok (.aload_n 0, 1) := by decide +kernel
theorem d_S_keep_11 : decode prog_6_method_11_code 11 = .ok (.getfield 31, 3) := by decide +kernel
theorem d_S_keep_14 : decode prog_6_method_11_code 14 = .ok (.iconst 0, 1) := by decide +kernel
theorem d_S_keep_15 : decode prog_6_method_11_code 15 = .ok (.bipush 8, 2) := by decide +kernel
theorem d_S_keep_17 : decode prog_6_method_11_code 17 = .ok (.invokestatic 109, 3) := by decide +kernel
theorem d_S_keep_20 : decode prog_6_method_11_code 20 = .ok (.return_, 1) := by decide +kernel
theorem d_F_build_0 : decode prog_3_method_2_code 0 = .ok (.aload_n 0, 1) := by decide +kernel
theorem d_F_build_1 : decode prog_3_method_2_code 1 = .ok (.aload_n 2, 1) := by decide +kernel
theorem d_F_build_2 : decode prog_3_method_2_code 2 = .ok (.getfield 28, 3) := by decide +kernel
theorem d_F_build_5 : decode prog_3_method_2_code 5 = .ok (.aload_n 1, 1) := by decide +kernel
theorem d_F_build_6 : decode prog_3_method_2_code 6 = .ok (.invokevirtual 34, 3) := by decide +kernel
theorem d_F_build_9 : decode prog_3_method_2_code 9 = .ok (.if_icmp .ne 7, 3) := by decide +kernel
theorem d_F_build_12 : decode prog_3_method_2_code 12 = .ok (.iconst 1, 1) := by decide +kernel
theorem d_F_build_13 : decode prog_3_method_2_code 13 = .ok (.goto 4, 3) := by decide +kernel
theorem d_F_build_16 : decode prog_3_method_2_code 16 = .ok (.iconst 0, 1) := by decide +kernel
theorem d_F_build_17 : decode prog_3_method_2_code 17 = .ok (.putfield 40, 3) := by decide +kernel
theorem d_F_build_20 : decode prog_3_method_2_code 20 = .ok (.aload_n 0, 1) := by decide +kernel
theorem d_F_build_21 : decode prog_3_method_2_code 21 = .ok (.aload_n 2, 1) := by decide +kernel
theorem d_F_build_22 : decode prog_3_method_2_code 22 = .ok (.invokevirtual 44, 3) := by decide +kernel
theorem d_F_build_25 : decode prog_3_method_2_code 25 = .ok (.aload_n 0, 1) := by decide +kernel
theorem d_F_build_26 : decode prog_3_method_2_code 26 = .ok (.aload_n 1, 1) := by decide +kernel
theorem d_F_build_27 : decode prog_3_method_2_code 27 = .ok (.invokevirtual 48, 3) := by decide +kernel
theorem d_F_build_30 : decode prog_3_method_2_code 30 = .ok (.aload_n 0, 1) := by decide +kernel
theorem d_F_build_31 : decode prog_3_method_2_code 31 = .ok (.aload_n 1, 1) := by decide +kernel
theorem d_F_build_32 : decode prog_3_method_2_code 32 = .ok (.invokevirtual 52, 3) := by decide +kernel
theorem d_F_build_35 : decode prog_3_method_2_code 35 = .ok (.aload_n 0, 1) := by decide +kernel
theorem d_F_build_36 : decode prog_3_method_2_code 36 = .ok (.aload_n 1, 1) := by decide +kernel
theorem d_F_build_37 : decode prog_3_method_2_code 37 = .ok (.invokevirtual 55, 3) := by decide +kernel
theorem d_F_build_40 : decode prog_3_method_2_code 40 = .ok (.return_, 1) := by decide +kernel
theorem d_F_takeProbes_0 : decode prog_3_method_5_code 0 = .ok (.aload_n 0, 1) := by decide +kernel
theorem d_F_takeProbes_1 : decode prog_3_method_5_code 1 = .ok (.iconst 0, 1) := by decide +kernel
theorem d_F_takeProbes_2 : decode prog_3_method_5_code 2 = .ok (.putfield 58, 3) := by decide +kernel
theorem d_F_takeProbes_5 : decode prog_3_method_5_code 5 = .ok (.aload_n 0, 1) := by decide +kernel
theorem d_F_takeProbes_6 : decode prog_3_method_5_code 6 = .ok (.iconst 0, 1) := by decide +kernel
theorem d_F_takeProbes_7 : decode prog_3_method_5_code 7 = .ok (.putfield 68, 3) := by decide +kernel
theorem d_F_takeProbes_10 : decode prog_3_method_5_code 10 = .ok (.iconst 0, 1) := by decide +kernel
theorem d_F_takeProbes_11 : decode prog_3_method_5_code 11 = .ok (.istore_n 2, 1) := by decide +kernel
theorem d_F_takeProbes_12 : decode prog_3_method_5_code 12 = .ok (.iload_n 2, 1) := by decide +kernel
theorem d_F_takeProbes_13 : decode prog_3_method_5_code 13 = .ok (.aload_n 1, 1) := by decide +kernel
theorem d_F_takeProbes_14 : decode prog_3_method_5_code 14 = .ok (.getfield 28, 3) := by decide +kernel
theorem d_F_takeProbes_17 : decode prog_3_method_5_code 17 = .ok (.if_icmp .ge 72, 3) := by decide +kernel
theorem d_F_takeProbes_20 : decode prog_3_method_5_code 20 = .ok (.aload_n 1, 1) := by decide +kernel
theorem d_F_takeProbes_21 : decode prog_3_method_5_code 21 = .ok (.getfield 71, 3) := by decide +kernel
theorem d_F_takeProbes_24 : decode prog_3_method_5_code 24 = .ok (.iload_n 2, 1) := by decide +kernel
theorem d_F_takeProbes_25 : decode prog_3_method_5_code 25 = .ok (.iaload, 1) := by decide +kernel
theorem d_F_takeProbes_26 : decode prog_3_method_5_code 26 = .ok (.iconst (-1), 1) := by decide +kernel
theorem d_F_takeProbes_27 : decode prog_3_method_5_code 27 = .ok (.if_icmp .ne 31, 3) := by decide +kernel
theorem d_F_takeProbes_30 : decode prog_3_method_5_code 30 = .ok (.aload_n 0, 1) := by decide +kernel
theorem d_F_takeProbes_31 : decode prog_3_method_5_code 31 = .ok (.getfield 15, 3) := by decide +kernel
theorem d_F_takeProbes_34 : decode prog_3_method_5_code 34 = .ok (.aload_n 0, 1) := by decide +kernel
theorem d_F_takeProbes_35 : decode prog_3_method_5_code 35 = .ok (.getfield 68, 3) := by decide +kernel
theorem d_F_takeProbes_38 : decode prog_3_method_5_code 38 = .ok (.aload_n 1, 1) := by decide +kernel
theorem d_F_takeProbes_39 : decode prog_3_method_5_code 39 = .ok (.getfield 74, 3) := by decide +kernel
theorem d_F_takeProbes_42 : decode prog_3_method_5_code 42 = .ok (.iload_n 2, 1) := by decide +kernel
theorem d_F_takeProbes_43 : decode prog_3_method_5_code 43 = .ok (.iaload, 1) := by decide +kernel
theorem d_F_takeProbes_44 : decode prog_3_method_5_code 44 = .ok (.iastore, 1) := by decide +kernel
theorem d_F_takeProbes_45 : decode prog_3_method_5_code 45 = .ok (.aload_n 0, 1) := by decide +kernel
theorem d_F_takeProbes_46 : decode prog_3_method_5_code 46 = .ok (.dup, 1) := by decide +kernel
theorem d_F_takeProbes_47 : decode prog_3_method_5_code 47 = .ok (.getfield 68, 3) := by decide +kernel
theorem d_F_takeProbes_50 : decode prog_3_method_5_code 50 = .ok (.iconst 1, 1) := by decide +kernel
theorem d_F_takeProbes_51 : decode prog_3_method_5_code 51 = .ok (.iadd, 1) := by decide +kernel
theorem d_F_takeProbes_52 : decode prog_3_method_5_code 52 = .ok (.putfield 68, 3) := by decide +kernel
theorem d_F_takeProbes_55 : decode prog_3_method_5_code 55 = .ok (.goto 28, 3) := by decide +kernel
theorem d_F_takeProbes_58 : decode prog_3_method_5_code 58 = .ok (.aload_n 0, 1) := by decide +kernel
theorem d_F_takeProbes_59 : decode prog_3_method_5_code 59 = .ok (.getfield 9, 3) := by decide +kernel
theorem d_F_takeProbes_62 : decode prog_3_method_5_code 62 = .ok (.aload_n 0, 1) := by decide +kernel
theorem d_F_takeProbes_63 : decode prog_3_method_5_code 63 = .ok (.getfield 58, 3) := by decide +kernel
theorem d_F_takeProbes_66 : decode prog_3_method_5_code 66 = .ok (.aload_n 1, 1) := by decide +kernel
theorem d_F_takeProbes_67 : decode prog_3_method_5_code 67 = .ok (.getfield 71, 3) := by decide +kernel
theorem d_F_takeProbes_70 : decode prog_3_method_5_code 70 = .ok (.iload_n 2, 1) := by decide +kernel
theorem d_F_takeProbes_71 : decode prog_3_method_5_code 71 = .ok (.iaload, 1) := by decide +kernel
theorem d_F_takeProbes_72 : decode prog_3_method_5_code 72 = .ok (.iastore, 1) := by decide +kernel
theorem d_F_takeProbes_73 : decode prog_3_method_5_code 73 = .ok (.aload_n 0, 1) := by decide +kernel
theorem d_F_takeProbes_74 : decode prog_3_method_5_code 74 = .ok (.dup, 1) := by decide +kernel
theorem d_F_takeProbes_75 : decode prog_3_method_5_code 75 = .ok (.getfield 58, 3) := by decide +kernel
theorem d_F_takeProbes_78 : decode prog_3_method_5_code 78 = .ok (.iconst 1, 1) := by decide +kernel
theorem d_F_takeProbes_79 : decode prog_3_method_5_code 79 = .ok (.iadd, 1) := by decide +kernel
theorem d_F_takeProbes_80 : decode prog_3_method_5_code 80 = .ok (.putfield 58, 3) := by decide +kernel
theorem d_F_takeProbes_83 : decode prog_3_method_5_code 83 = .ok (.iinc 2 1, 3) := by decide +kernel
theorem d_F_takeProbes_86 : decode prog_3_method_5_code 86 = .ok (.goto (-74), 3) := by decide +kernel
theorem d_F_takeProbes_89 : decode prog_3_method_5_code 89 = .ok (.return_, 1) := by decide +kernel
theorem d_F_planFlight_0 : decode prog_3_method_6_code 0 = .ok (.aload_n 0, 1) := by decide +kernel
theorem d_F_planFlight_1 : decode prog_3_method_6_code 1 = .ok (.getfield 9, 3) := by decide +kernel
theorem d_F_planFlight_4 : decode prog_3_method_6_code 4 = .ok (.iconst 0, 1) := by decide +kernel
theorem d_F_planFlight_5 : decode prog_3_method_6_code 5 = .ok (.aload_n 0, 1) := by decide +kernel
theorem d_F_planFlight_6 : decode prog_3_method_6_code 6 = .ok (.getfield 18, 3) := by decide +kernel
theorem d_F_planFlight_9 : decode prog_3_method_6_code 9 = .ok (.iconst 0, 1) := by decide +kernel
theorem d_F_planFlight_10 : decode prog_3_method_6_code 10 = .ok (.aload_n 0, 1) := by decide +kernel
theorem d_F_planFlight_11 : decode prog_3_method_6_code 11 = .ok (.getfield 58, 3) := by decide +kernel
theorem d_F_planFlight_14 : decode prog_3_method_6_code 14 = .ok (.invokestatic 77, 3) := by decide +kernel
theorem d_F_planFlight_17 : decode prog_3_method_6_code 17 = .ok (.aload_n 0, 1) := by decide +kernel
theorem d_F_planFlight_18 : decode prog_3_method_6_code 18 = .ok (.lconst 0, 1) := by decide +kernel
theorem d_F_planFlight_19 : decode prog_3_method_6_code 19 = .ok (.putfield 83, 3) := by decide +kernel
theorem d_F_planFlight_22 : decode prog_3_method_6_code 22 = .ok (.lconst 0, 1) := by decide +kernel
theorem d_F_planFlight_23 : decode prog_3_method_6_code 23 = .ok (.lstore_n 2, 1) := by decide +kernel
theorem d_F_planFlight_24 : decode prog_3_method_6_code 24 = .ok (.lconst 0, 1) := by decide +kernel
theorem d_F_planFlight_25 : decode prog_3_method_6_code 25 = .ok (.lstore 4, 2) := by decide +kernel
theorem d_F_planFlight_27 : decode prog_3_method_6_code 27 = .ok (.iconst 0, 1) := by decide +kernel
theorem d_F_planFlight_28 : decode prog_3_method_6_code 28 = .ok (.istore 6, 2) := by decide +kernel
theorem d_F_planFlight_30 : decode prog_3_method_6_code 30 = .ok (.iload 6, 2) := by decide +kernel
theorem d_F_planFlight_32 : decode prog_3_method_6_code 32 = .ok (.aload_n 0, 1) := by decide +kernel
theorem d_F_planFlight_33 : decode prog_3_method_6_code 33 = .ok (.getfield 58, 3) := by decide +kernel
theorem d_F_planFlight_36 : decode prog_3_method_6_code 36 = .ok (.if_icmp .ge 107, 3) := by decide +kernel
theorem d_F_planFlight_39 : decode prog_3_method_6_code 39 = .ok (.aload_n 0, 1) := by decide +kernel
theorem d_F_planFlight_40 : decode prog_3_method_6_code 40 = .ok (.aload_n 1, 1) := by decide +kernel
theorem d_F_planFlight_41 : decode prog_3_method_6_code 41 = .ok (.iload 6, 2) := by decide +kernel
theorem d_F_planFlight_43 : decode prog_3_method_6_code 43 = .ok (.lload_n 2, 1) := by decide +kernel
theorem d_F_planFlight_44 : decode prog_3_method_6_code 44 = .ok (.lload 4, 2) := by decide +kernel
theorem d_F_planFlight_46 : decode prog_3_method_6_code 46 = .ok (.invokevirtual 87, 3) := by decide +kernel
theorem d_F_planFlight_49 : decode prog_3_method_6_code 49 = .ok (.istore 7, 2) := by decide +kernel
theorem d_F_planFlight_51 : decode prog_3_method_6_code 51 = .ok (.aload_n 0, 1) := by decide +kernel
theorem d_F_planFlight_52 : decode prog_3_method_6_code 52 = .ok (.getfield 18, 3) := by decide +kernel
theorem d_F_planFlight_55 : decode prog_3_method_6_code 55 = .ok (.iload 7, 2) := by decide +kernel
theorem d_F_planFlight_57 : decode prog_3_method_6_code 57 = .ok (.iaload, 1) := by decide +kernel
theorem d_F_planFlight_58 : decode prog_3_method_6_code 58 = .ok (.istore 8, 2) := by decide +kernel
theorem d_F_planFlight_60 : decode prog_3_method_6_code 60 = .ok (.aload_n 0, 1) := by decide +kernel
theorem d_F_planFlight_61 : decode prog_3_method_6_code 61 = .ok (.getfield 18, 3) := by decide +kernel
theorem d_F_planFlight_64 : decode prog_3_method_6_code 64 = .ok (.iload 7, 2) := by decide +kernel
theorem d_F_planFlight_66 : decode prog_3_method_6_code 66 = .ok (.aload_n 0, 1) := by decide +kernel
theorem d_F_planFlight_67 : decode prog_3_method_6_code 67 = .ok (.getfield 18, 3) := by decide +kernel
theorem d_F_planFlight_70 : decode prog_3_method_6_code 70 = .ok (.iload 6, 2) := by decide +kernel
theorem d_F_planFlight_72 : decode prog_3_method_6_code 72 = .ok (.iaload, 1) := by decide +kernel
theorem d_F_planFlight_73 : decode prog_3_method_6_code 73 = .ok (.iastore, 1) := by decide +kernel
theorem d_F_planFlight_74 : decode prog_3_method_6_code 74 = .ok (.aload_n 0, 1) := by decide +kernel
theorem d_F_planFlight_75 : decode prog_3_method_6_code 75 = .ok (.getfield 18, 3) := by decide +kernel
theorem d_F_planFlight_78 : decode prog_3_method_6_code 78 = .ok (.iload 6, 2) := by decide +kernel
theorem d_F_planFlight_80 : decode prog_3_method_6_code 80 = .ok (.iload 8, 2) := by decide +kernel
theorem d_F_planFlight_82 : decode prog_3_method_6_code 82 = .ok (.iastore, 1) := by decide +kernel
theorem d_F_planFlight_83 : decode prog_3_method_6_code 83 = .ok (.aload_n 0, 1) := by decide +kernel
theorem d_F_planFlight_84 : decode prog_3_method_6_code 84 = .ok (.dup, 1) := by decide +kernel
theorem d_F_planFlight_85 : decode prog_3_method_6_code 85 = .ok (.getfield 83, 3) := by decide +kernel
theorem d_F_planFlight_88 : decode prog_3_method_6_code 88 = .ok (.aload_n 1, 1) := by decide +kernel
theorem d_F_planFlight_89 : decode prog_3_method_6_code 89 = .ok (.getfield 91, 3) := by decide +kernel
theorem d_F_planFlight_92 : decode prog_3_method_6_code 92 = .ok (.iload 8, 2) := by decide +kernel
theorem d_F_planFlight_94 : decode prog_3_method_6_code 94 = .ok (.laload, 1) := by decide +kernel
theorem d_F_planFlight_95 : decode prog_3_method_6_code 95 = .ok (.lload_n 2, 1) := by decide +kernel
theorem d_F_planFlight_96 : decode prog_3_method_6_code 96 = .ok (.lsub, 1) := by decide +kernel
theorem d_F_planFlight_97 : decode prog_3_method_6_code 97 = .ok (.invokestatic 94, 3) := by decide +kernel
theorem d_F_planFlight_100 : decode prog_3_method_6_code 100 = .ok (.aload_n 1, 1) := by decide +kernel
theorem d_F_planFlight_101 : decode prog_3_method_6_code 101 = .ok (.getfield 100, 3) := by decide +kernel
theorem d_F_planFlight_104 : decode prog_3_method_6_code 104 = .ok (.iload 8, 2) := by decide +kernel
theorem d_F_planFlight_106 : decode prog_3_method_6_code 106 = .ok (.laload, 1) := by decide +kernel
theorem d_F_planFlight_107 : decode prog_3_method_6_code 107 = .ok (.lload 4, 2) := by decide +kernel
theorem d_F_planFlight_109 : decode prog_3_method_6_code 109 = .ok (.lsub, 1) := by decide +kernel
theorem d_F_planFlight_110 : decode prog_3_method_6_code 110 = .ok (.invokestatic 94, 3) := by decide +kernel
theorem d_F_planFlight_113 : decode prog_3_method_6_code 113 = .ok (.invokestatic 103, 3) := by decide +kernel
theorem d_F_planFlight_116 : decode prog_3_method_6_code 116 = .ok (.ladd, 1) := by decide +kernel
theorem d_F_planFlight_117 : decode prog_3_method_6_code 117 = .ok (.putfield 83, 3) := by decide +kernel
theorem d_F_planFlight_120 : decode prog_3_method_6_code 120 = .ok (.aload_n 1, 1) := by decide +kernel
theorem d_F_planFlight_121 : decode prog_3_method_6_code 121 = .ok (.getfield 91, 3) := by decide +kernel
theorem d_F_planFlight_124 : decode prog_3_method_6_code 124 = .ok (.iload 8, 2) := by decide +kernel
theorem d_F_planFlight_126 : decode prog_3_method_6_code 126 = .ok (.laload, 1) := by decide +kernel
theorem d_F_planFlight_127 : decode prog_3_method_6_code 127 = .ok (.lstore_n 2, 1) := by decide +kernel
theorem d_F_planFlight_128 : decode prog_3_method_6_code 128 = .ok (.aload_n 1, 1) := by decide +kernel
theorem d_F_planFlight_129 : decode prog_3_method_6_code 129 = .ok (.getfield 100, 3) := by decide +kernel
theorem d_F_planFlight_132 : decode prog_3_method_6_code 132 = .ok (.iload 8, 2) := by decide +kernel
theorem d_F_planFlight_134 : decode prog_3_method_6_code 134 = .ok (.laload, 1) := by decide +kernel
theorem d_F_planFlight_135 : decode prog_3_method_6_code 135 = .ok (.lstore 4, 2) := by decide +kernel
theorem d_F_planFlight_137 : decode prog_3_method_6_code 137 = .ok (.iinc 6 1, 3) := by decide +kernel
theorem d_F_planFlight_140 : decode prog_3_method_6_code 140 = .ok (.goto (-110), 3) := by decide +kernel
theorem d_F_planFlight_143 : decode prog_3_method_6_code 143 = .ok (.return_, 1) := by decide +kernel
theorem d_F_placeOfNearest_0 : decode prog_3_method_7_code 0 = .ok (.iload_n 2, 1) := by decide +kernel
theorem d_F_placeOfNearest_1 : decode prog_3_method_7_code 1 = .ok (.istore 7, 2) := by decide +kernel
theorem d_F_placeOfNearest_3 : decode prog_3_method_7_code 3 = .ok (.iload_n 2, 1) := by decide +kernel
theorem d_F_placeOfNearest_4 : decode prog_3_method_7_code 4 = .ok (.iconst 1, 1) := by decide +kernel
theorem d_F_placeOfNearest_5 : decode prog_3_method_7_code 5 = .ok (.iadd, 1) := by decide +kernel
theorem d_F_placeOfNearest_6 : decode prog_3_method_7_code 6 = .ok (.istore 8, 2) := by decide +kernel
theorem d_F_placeOfNearest_8 : decode prog_3_method_7_code 8 = .ok (.iload 8, 2) := by decide +kernel
theorem d_F_placeOfNearest_10 : decode prog_3_method_7_code 10 = .ok (.aload_n 0, 1) := by decide +kernel
theorem d_F_placeOfNearest_11 : decode prog_3_method_7_code 11 = .ok (.getfield 58, 3) := by decide +kernel
theorem d_F_placeOfNearest_14 : decode prog_3_method_7_code 14 = .ok (.if_icmp .ge 78, 3) := by decide +kernel
theorem d_F_placeOfNearest_17 : decode prog_3_method_7_code 17 = .ok (.aload_n 1, 1) := by decide +kernel
theorem d_F_placeOfNearest_18 : decode prog_3_method_7_code 18 = .ok (.aload_n 0, 1) := by decide +kernel
theorem d_F_placeOfNearest_19 : decode prog_3_method_7_code 19 = .ok (.getfield 18, 3) := by decide +kernel
theorem d_F_placeOfNearest_22 : decode prog_3_method_7_code 22 = .ok (.iload 8, 2) := by decide +kernel
theorem d_F_placeOfNearest_24 : decode prog_3_method_7_code 24 = .ok (.iaload, 1) := by decide +kernel
theorem d_F_placeOfNearest_25 : decode prog_3_method_7_code 25 = .ok (.lload_n 3, 1) := by decide +kernel
theorem d_F_placeOfNearest_26 : decode prog_3_method_7_code 26 = .ok (.lload 5, 2) := by decide +kernel
theorem d_F_placeOfNearest_28 : decode prog_3_method_7_code 28 = .ok (.invokevirtual 107, 3) := by decide +kernel
theorem d_F_placeOfNearest_31 : decode prog_3_method_7_code 31 = .ok (.lstore 9, 2) := by decide +kernel
theorem d_F_placeOfNearest_33 : decode prog_3_method_7_code 33 = .ok (.aload_n 1, 1) := by decide +kernel
theorem d_F_placeOfNearest_34 : decode prog_3_method_7_code 34 = .ok (.aload_n 0, 1) := by decide +kernel
theorem d_F_placeOfNearest_35 : decode prog_3_method_7_code 35 = .ok (.getfield 18, 3) := by decide +kernel
theorem d_F_placeOfNearest_38 : decode prog_3_method_7_code 38 = .ok (.iload 7, 2) := by decide +kernel
theorem d_F_placeOfNearest_40 : decode prog_3_method_7_code 40 = .ok (.iaload, 1) := by decide +kernel
theorem d_F_placeOfNearest_41 : decode prog_3_method_7_code 41 = .ok (.lload_n 3, 1) := by decide +kernel
theorem d_F_placeOfNearest_42 : decode prog_3_method_7_code 42 = .ok (.lload 5, 2) := by decide +kernel
theorem d_F_placeOfNearest_44 : decode prog_3_method_7_code 44 = .ok (.invokevirtual 107, 3) := by decide +kernel
theorem d_F_placeOfNearest_47 : decode prog_3_method_7_code 47 = .ok (.lstore 11, 2) := by decide +kernel
theorem d_F_placeOfNearest_49 : decode prog_3_method_7_code 49 = .ok (.lload 9, 2) := by decide +kernel
theorem d_F_placeOfNearest_51 : decode prog_3_method_7_code 51 = .ok (.lload 11, 2) := by decide +kernel
theorem d_F_placeOfNearest_53 : decode prog_3_method_7_code 53 = .ok (.lcmp, 1) := by decide +kernel
theorem d_F_placeOfNearest_54 : decode prog_3_method_7_code 54 = .ok (.ifCond .lt 28, 3) := by decide +kernel
theorem d_F_placeOfNearest_57 : decode prog_3_method_7_code 57 = .ok (.lload 9, 2) := by decide +kernel
theorem d_F_placeOfNearest_59 : decode prog_3_method_7_code 59 = .ok (.lload 11, 2) := by decide +kernel
theorem d_F_placeOfNearest_61 : decode prog_3_method_7_code 61 = .ok (.lcmp, 1) := by decide +kernel
theorem d_F_placeOfNearest_62 : decode prog_3_method_7_code 62 = .ok (.ifCond .ne 24, 3) := by decide +kernel
theorem d_F_placeOfNearest_65 : decode prog_3_method_7_code 65 = .ok (.aload_n 0, 1) := by decide +kernel
theorem d_F_placeOfNearest_66 : decode prog_3_method_7_code 66 = .ok (.getfield 18, 3) := by decide +kernel
theorem d_F_placeOfNearest_69 : decode prog_3_method_7_code 69 = .ok (.iload 8, 2) := by decide +kernel
theorem d_F_placeOfNearest_71 : decode prog_3_method_7_code 71 = .ok (.iaload, 1) := by decide +kernel
theorem d_F_placeOfNearest_72 : decode prog_3_method_7_code 72 = .ok (.aload_n 0, 1) := by decide +kernel
theorem d_F_placeOfNearest_73 : decode prog_3_method_7_code 73 = .ok (.getfield 18, 3) := by decide +kernel
theorem d_F_placeOfNearest_76 : decode prog_3_method_7_code 76 = .ok (.iload 7, 2) := by decide +kernel
theorem d_F_placeOfNearest_78 : decode prog_3_method_7_code 78 = .ok (.iaload, 1) := by decide +kernel
theorem d_F_placeOfNearest_79 : decode prog_3_method_7_code 79 = .ok (.if_icmp .ge 7, 3) := by decide +kernel
theorem d_F_placeOfNearest_82 : decode prog_3_method_7_code 82 = .ok (.iload 8, 2) := by decide +kernel
theorem d_F_placeOfNearest_84 : decode prog_3_method_7_code 84 = .ok (.istore 7, 2) := by decide +kernel
theorem d_F_placeOfNearest_86 : decode prog_3_method_7_code 86 = .ok (.iinc 8 1, 3) := by decide +kernel
theorem d_F_placeOfNearest_89 : decode prog_3_method_7_code 89 = .ok (.goto (-81), 3) := by decide +kernel
theorem d_F_placeOfNearest_92 : decode prog_3_method_7_code 92 = .ok (.iload 7, 2) := by decide +kernel
theorem d_F_placeOfNearest_94 : decode prog_3_method_7_code 94 = .ok (.ireturn, 1) := by decide +kernel
theorem d_F_sortByPlace_0 : decode prog_3_method_8_code 0 = .ok (.iconst 0, 1) := by decide +kernel
theorem d_F_sortByPlace_1 : decode prog_3_method_8_code 1 = .ok (.istore_n 2, 1) := by decide +kernel
theorem d_F_sortByPlace_2 : decode prog_3_method_8_code 2 = .ok (.iload_n 2, 1) := by decide +kernel
theorem d_F_sortByPlace_3 : decode prog_3_method_8_code 3 = .ok (.aload_n 0, 1) := by decide +kernel
theorem d_F_sortByPlace_4 : decode prog_3_method_8_code 4 = .ok (.getfield 58, 3) := by decide +kernel
theorem d_F_sortByPlace_7 : decode prog_3_method_8_code 7 = .ok (.if_icmp .ge 68, 3) := by decide +kernel
theorem d_F_sortByPlace_10 : decode prog_3_method_8_code 10 = .ok (.iload_n 2, 1) := by decide +kernel
theorem d_F_sortByPlace_11 : decode prog_3_method_8_code 11 = .ok (.istore_n 3, 1) := by decide +kernel
theorem d_F_sortByPlace_12 : decode prog_3_method_8_code 12 = .ok (.iload_n 3, 1) := by decide +kernel
theorem d_F_sortByPlace_13 : decode prog_3_method_8_code 13 = .ok (.ifCond .le 44, 3) := by decide +kernel
theorem d_F_sortByPlace_16 : decode prog_3_method_8_code 16 = .ok (.aload_n 1, 1) := by decide +kernel
theorem d_F_sortByPlace_17 : decode prog_3_method_8_code 17 = .ok (.aload_n 0, 1) := by decide +kernel
theorem d_F_sortByPlace_18 : decode prog_3_method_8_code 18 = .ok (.getfield 9, 3) := by decide +kernel
theorem d_F_sortByPlace_21 : decode prog_3_method_8_code 21 = .ok (.iload_n 2, 1) := by decide +kernel
theorem d_F_sortByPlace_22 : decode prog_3_method_8_code 22 = .ok (.iaload, 1) := by decide +kernel
theorem d_F_sortByPlace_23 : decode prog_3_method_8_code 23 = .ok (.aload_n 0, 1) := by decide +kernel
theorem d_F_sortByPlace_24 : decode prog_3_method_8_code 24 = .ok (.getfield 21, 3) := by decide +kernel
theorem d_F_sortByPlace_27 : decode prog_3_method_8_code 27 = .ok (.iload_n 3, 1) := by decide +kernel
theorem d_F_sortByPlace_28 : decode prog_3_method_8_code 28 = .ok (.iconst 1, 1) := by decide +kernel
theorem d_F_sortByPlace_29 : decode prog_3_method_8_code 29 = .ok (.isub, 1) := by decide +kernel
theorem d_F_sortByPlace_30 : decode prog_3_method_8_code 30 = .ok (.iaload, 1) := by decide +kernel
theorem d_F_sortByPlace_31 : decode prog_3_method_8_code 31 = .ok (.invokevirtual 111, 3) := by decide +kernel
theorem d_F_sortByPlace_34 : decode prog_3_method_8_code 34 = .ok (.ifCond .eq 23, 3) := by decide +kernel
theorem d_F_sortByPlace_37 : decode prog_3_method_8_code 37 = .ok (.aload_n 0, 1) := by decide +kernel
theorem d_F_sortByPlace_38 : decode prog_3_method_8_code 38 = .ok (.getfield 21, 3) := by decide +kernel
theorem d_F_sortByPlace_41 : decode prog_3_method_8_code 41 = .ok (.iload_n 3, 1) := by decide +kernel
theorem d_F_sortByPlace_42 : decode prog_3_method_8_code 42 = .ok (.aload_n 0, 1) := by decide +kernel
theorem d_F_sortByPlace_43 : decode prog_3_method_8_code 43 = .ok (.getfield 21, 3) := by decide +kernel
theorem d_F_sortByPlace_46 : decode prog_3_method_8_code 46 = .ok (.iload_n 3, 1) := by decide +kernel
theorem d_F_sortByPlace_47 : decode prog_3_method_8_code 47 = .ok (.iconst 1, 1) := by decide +kernel
theorem d_F_sortByPlace_48 : decode prog_3_method_8_code 48 = .ok (.isub, 1) := by decide +kernel
theorem d_F_sortByPlace_49 : decode prog_3_method_8_code 49 = .ok (.iaload, 1) := by decide +kernel
theorem d_F_sortByPlace_50 : decode prog_3_method_8_code 50 = .ok (.iastore, 1) := by decide +kernel
theorem d_F_sortByPlace_51 : decode prog_3_method_8_code 51 = .ok (.iinc 3 (-1), 3) := by decide +kernel
theorem d_F_sortByPlace_54 : decode prog_3_method_8_code 54 = .ok (.goto (-42), 3) := by decide +kernel
theorem d_F_sortByPlace_57 : decode prog_3_method_8_code 57 = .ok (.aload_n 0, 1) := by decide +kernel
theorem d_F_sortByPlace_58 : decode prog_3_method_8_code 58 = .ok (.getfield 21, 3) := by decide +kernel
theorem d_F_sortByPlace_61 : decode prog_3_method_8_code 61 = .ok (.iload_n 3, 1) := by decide +kernel
theorem d_F_sortByPlace_62 : decode prog_3_method_8_code 62 = .ok (.aload_n 0, 1) := by decide +kernel
theorem d_F_sortByPlace_63 : decode prog_3_method_8_code 63 = .ok (.getfield 9, 3) := by decide +kernel
theorem d_F_sortByPlace_66 : decode prog_3_method_8_code 66 = .ok (.iload_n 2, 1) := by decide +kernel
theorem d_F_sortByPlace_67 : decode prog_3_method_8_code 67 = .ok (.iaload, 1) := by decide +kernel
theorem d_F_sortByPlace_68 : decode prog_3_method_8_code 68 = .ok (.iastore, 1) := by decide +kernel
theorem d_F_sortByPlace_69 : decode prog_3_method_8_code 69 = .ok (.iinc 2 1, 3) := by decide +kernel
theorem d_F_sortByPlace_72 : decode prog_3_method_8_code 72 = .ok (.goto (-70), 3) := by decide +kernel
theorem d_F_sortByPlace_75 : decode prog_3_method_8_code 75 = .ok (.return_, 1) := by decide +kernel
theorem d_F_writeText_0 : decode prog_3_method_9_code 0 = .ok (.aload_n 0, 1) := by decide +kernel
theorem d_F_writeText_1 : decode prog_3_method_9_code 1 = .ok (.iconst 0, 1) := by decide +kernel
theorem d_F_writeText_2 : decode prog_3_method_9_code 2 = .ok (.putfield 65, 3) := by decide +kernel
theorem d_F_writeText_5 : decode prog_3_method_9_code 5 = .ok (.iconst 0, 1) := by decide +kernel
theorem d_F_writeText_6 : decode prog_3_method_9_code 6 = .ok (.istore_n 2, 1) := by decide +kernel
theorem d_F_writeText_7 : decode prog_3_method_9_code 7 = .ok (.iload_n 2, 1) := by decide +kernel
theorem d_F_writeText_8 : decode prog_3_method_9_code 8 = .ok (.aload_n 0, 1) := by decide +kernel
theorem d_F_writeText_9 : decode prog_3_method_9_code 9 = .ok (.getfield 58, 3) := by decide +kernel
theorem d_F_writeText_12 : decode prog_3_method_9_code 12 = .ok (.if_icmp .ge 66, 3) := by decide +kernel
theorem d_F_writeText_15 : decode prog_3_method_9_code 15 = .ok (.aload_n 0, 1) := by decide +kernel
theorem d_F_writeText_16 : decode prog_3_method_9_code 16 = .ok (.getfield 21, 3) := by decide +kernel
theorem d_F_writeText_19 : decode prog_3_method_9_code 19 = .ok (.iload_n 2, 1) := by decide +kernel
theorem d_F_writeText_20 : decode prog_3_method_9_code 20 = .ok (.iaload, 1) := by decide +kernel
theorem d_F_writeText_21 : decode prog_3_method_9_code 21 = .ok (.istore_n 3, 1) := by decide +kernel
theorem d_F_writeText_22 : decode prog_3_method_9_code 22 = .ok (.aload_n 0, 1) := by decide +kernel
theorem d_F_writeText_23 : decode prog_3_method_9_code 23 = .ok (.bipush 112, 2) := by decide +kernel
theorem d_F_writeText_25 : decode prog_3_method_9_code 25 = .ok (.invokevirtual 115, 3) := by decide +kernel
theorem d_F_writeText_28 : decode prog_3_method_9_code 28 = .ok (.aload_n 0, 1) := by decide +kernel
theorem d_F_writeText_29 : decode prog_3_method_9_code 29 = .ok (.iload_n 3, 1) := by decide +kernel
theorem d_F_writeText_30 : decode prog_3_method_9_code 30 = .ok (.i2l, 1) := by decide +kernel
theorem d_F_writeText_31 : decode prog_3_method_9_code 31 = .ok (.invokevirtual 119, 3) := by decide +kernel
theorem d_F_writeText_34 : decode prog_3_method_9_code 34 = .ok (.aload_n 0, 1) := by decide +kernel
theorem d_F_writeText_35 : decode prog_3_method_9_code 35 = .ok (.bipush 32, 2) := by decide +kernel
theorem d_F_writeText_37 : decode prog_3_method_9_code 37 = .ok (.invokevirtual 115, 3) := by decide +kernel
theorem d_F_writeText_40 : decode prog_3_method_9_code 40 = .ok (.aload_n 0, 1) := by decide +kernel
theorem d_F_writeText_41 : decode prog_3_method_9_code 41 = .ok (.aload_n 1, 1) := by decide +kernel
theorem d_F_writeText_42 : decode prog_3_method_9_code 42 = .ok (.getfield 91, 3) := by decide +kernel
theorem d_F_writeText_45 : decode prog_3_method_9_code 45 = .ok (.iload_n 3, 1) := by decide +kernel
theorem d_F_writeText_46 : decode prog_3_method_9_code 46 = .ok (.laload, 1) := by decide +kernel
theorem d_F_writeText_47 : decode prog_3_method_9_code 47 = .ok (.invokevirtual 119, 3) := by decide +kernel
theorem d_F_writeText_50 : decode prog_3_method_9_code 50 = .ok (.aload_n 0, 1) := by decide +kernel
theorem d_F_writeText_51 : decode prog_3_method_9_code 51 = .ok (.bipush 32, 2) := by decide +kernel
theorem d_F_writeText_53 : decode prog_3_method_9_code 53 = .ok (.invokevirtual 115, 3) := by decide +kernel
theorem d_F_writeText_56 : decode prog_3_method_9_code 56 = .ok (.aload_n 0, 1) := by decide +kernel
theorem d_F_writeText_57 : decode prog_3_method_9_code 57 = .ok (.aload_n 1, 1) := by decide +kernel
theorem d_F_writeText_58 : decode prog_3_method_9_code 58 = .ok (.getfield 100, 3) := by decide +kernel
theorem d_F_writeText_61 : decode prog_3_method_9_code 61 = .ok (.iload_n 3, 1) := by decide +kernel
theorem d_F_writeText_62 : decode prog_3_method_9_code 62 = .ok (.laload, 1) := by decide +kernel
theorem d_F_writeText_63 : decode prog_3_method_9_code 63 = .ok (.invokevirtual 119, 3) := by decide +kernel
theorem d_F_writeText_66 : decode prog_3_method_9_code 66 = .ok (.aload_n 0, 1) := by decide +kernel
theorem d_F_writeText_67 : decode prog_3_method_9_code 67 = .ok (.bipush 10, 2) := by decide +kernel
theorem d_F_writeText_69 : decode prog_3_method_9_code 69 = .ok (.invokevirtual 115, 3) := by decide +kernel
theorem d_F_writeText_72 : decode prog_3_method_9_code 72 = .ok (.iinc 2 1, 3) := by decide +kernel
theorem d_F_writeText_75 : decode prog_3_method_9_code 75 = .ok (.goto (-68), 3) := by decide +kernel
theorem d_F_writeText_78 : decode prog_3_method_9_code 78 = .ok (.return_, 1) := by decide +kernel
theorem d_F_writeLetter_0 : decode prog_3_method_11_code 0 = .ok (.aload_n 0, 1) := by decide +kernel
theorem d_F_writeLetter_1 : decode prog_3_method_11_code 1 = .ok (.getfield 65, 3) := by decide +kernel
theorem d_F_writeLetter_4 : decode prog_3_method_11_code 4 = .ok (.sipush 176, 3) := by decide +kernel
theorem d_F_writeLetter_7 : decode prog_3_method_11_code 7 = .ok (.if_icmp .ge 23, 3) := by decide +kernel
theorem d_F_writeLetter_10 : decode prog_3_method_11_code 10 = .ok (.aload_n 0, 1) := by decide +kernel
theorem d_F_writeLetter_11 : decode prog_3_method_11_code 11 = .ok (.getfield 24, 3) := by decide +kernel
theorem d_F_writeLetter_14 : decode prog_3_method_11_code 14 = .ok (.aload_n 0, 1) := by decide +kernel
theorem d_F_writeLetter_15 : decode prog_3_method_11_code 15 = .ok (.getfield 65, 3) := by decide +kernel
theorem d_F_writeLetter_18 : decode prog_3_method_11_code 18 = .ok (.iload_n 1, 1) := by decide +kernel
theorem d_F_writeLetter_19 : decode prog_3_method_11_code 19 = .ok (.castore, 1) := by decide +kernel
theorem d_F_writeLetter_20 : decode prog_3_method_11_code 20 = .ok (.aload_n 0, 1) := by decide +kernel
theorem d_F_writeLetter_21 : decode prog_3_method_11_code 21 = .ok (.dup, 1) := by decide +kernel
theorem d_F_writeLetter_22 : decode prog_3_method_11_code 22 = .ok (.getfield 65, 3) := by decide +kernel
theorem d_F_writeLetter_25 : decode prog_3_method_11_code 25 = .ok (.iconst 1, 1) := by decide +kernel
theorem d_F_writeLetter_26 : decode prog_3_method_11_code 26 = .ok (.iadd, 1) := by decide +kernel
theorem d_F_writeLetter_27 : decode prog_3_method_11_code 27 = .ok (.putfield 65, 3) := by decide +kernel
theorem d_F_writeLetter_30 : decode prog_3_method_11_code 30 = .ok (.return_, 1) := by decide +kernel
theorem d_F_writeNumber_0 : decode prog_3_method_10_code 0 = .ok (.lload_n 1, 1) := by decide +kernel
theorem d_F_writeNumber_1 : decode prog_3_method_10_code 1 = .ok (.lconst 0, 1) := by decide +kernel
theorem d_F_writeNumber_2 : decode prog_3_method_10_code 2 = .ok (.lcmp, 1) := by decide +kernel
theorem d_F_writeNumber_3 : decode prog_3_method_10_code 3 = .ok (.ifCond .ge 9, 3) := by decide +kernel
theorem d_F_writeNumber_6 : decode prog_3_method_10_code 6 = .ok (.aload_n 0, 1) := by decide +kernel
theorem d_F_writeNumber_7 : decode prog_3_method_10_code 7 = .ok (.bipush 45, 2) := by decide +kernel
theorem d_F_writeNumber_9 : decode prog_3_method_10_code 9 = .ok (.invokevirtual 115, 3) := by decide +kernel
theorem d_F_writeNumber_12 : decode prog_3_method_10_code 12 = .ok (.lload_n 1, 1) := by decide +kernel
theorem d_F_writeNumber_13 : decode prog_3_method_10_code 13 = .ok (.invokestatic 94, 3) := by decide +kernel
theorem d_F_writeNumber_16 : decode prog_3_method_10_code 16 = .ok (.lstore_n 3, 1) := by decide +kernel
theorem d_F_writeNumber_17 : decode prog_3_method_10_code 17 = .ok (.lconst 1, 1) := by decide +kernel
theorem d_F_writeNumber_18 : decode prog_3_method_10_code 18 = .ok (.lstore 5, 2) := by decide +kernel
theorem d_F_writeNumber_20 : decode prog_3_method_10_code 20 = .ok (.iconst 1, 1) := by decide +kernel
theorem d_F_writeNumber_21 : decode prog_3_method_10_code 21 = .ok (.istore 7, 2) := by decide +kernel
theorem d_F_writeNumber_23 : decode prog_3_method_10_code 23 = .ok (.iload 7, 2) := by decide +kernel
theorem d_F_writeNumber_25 : decode prog_3_method_10_code 25 = .ok (.bipush 7, 2) := by decide +kernel
theorem d_F_writeNumber_27 : decode prog_3_method_10_code 27 = .ok (.if_icmp .ge 28, 3) := by decide +kernel
theorem d_F_writeNumber_30 : decode prog_3_method_10_code 30 = .ok (.lload 5, 2) := by decide +kernel
theorem d_F_writeNumber_32 : decode prog_3_method_10_code 32 = .ok (.ldc2_w 123, 3) := by decide +kernel
theorem d_F_writeNumber_35 : decode prog_3_method_10_code 35 = .ok (.lmul, 1) := by decide +kernel
theorem d_F_writeNumber_36 : decode prog_3_method_10_code 36 = .ok (.lload_n 3, 1) := by decide +kernel
theorem d_F_writeNumber_37 : decode prog_3_method_10_code 37 = .ok (.lcmp, 1) := by decide +kernel
theorem d_F_writeNumber_38 : decode prog_3_method_10_code 38 = .ok (.ifCond .gt 17, 3) := by decide +kernel
theorem d_F_writeNumber_41 : decode prog_3_method_10_code 41 = .ok (.lload 5, 2) := by decide +kernel
theorem d_F_writeNumber_43 : decode prog_3_method_10_code 43 = .ok (.ldc2_w 123, 3) := by decide +kernel
theorem d_F_writeNumber_46 : decode prog_3_method_10_code 46 = .ok (.lmul, 1) := by decide +kernel
theorem d_F_writeNumber_47 : decode prog_3_method_10_code 47 = .ok (.lstore 5, 2) := by decide +kernel
theorem d_F_writeNumber_49 : decode prog_3_method_10_code 49 = .ok (.iinc 7 1, 3) := by decide +kernel
theorem d_F_writeNumber_52 : decode prog_3_method_10_code 52 = .ok (.goto (-29), 3) := by decide +kernel
theorem d_F_writeNumber_55 : decode prog_3_method_10_code 55 = .ok (.iconst 0, 1) := by decide +kernel
theorem d_F_writeNumber_56 : decode prog_3_method_10_code 56 = .ok (.istore 7, 2) := by decide +kernel
theorem d_F_writeNumber_58 : decode prog_3_method_10_code 58 = .ok (.iload 7, 2) := by decide +kernel
theorem d_F_writeNumber_60 : decode prog_3_method_10_code 60 = .ok (.bipush 7, 2) := by decide +kernel
theorem d_F_writeNumber_62 : decode prog_3_method_10_code 62 = .ok (.if_icmp .ge 42, 3) := by decide +kernel
theorem d_F_writeNumber_65 : decode prog_3_method_10_code 65 = .ok (.lload 5, 2) := by decide +kernel
theorem d_F_writeNumber_67 : decode prog_3_method_10_code 67 = .ok (.lconst 0, 1) := by decide +kernel
theorem d_F_writeNumber_68 : decode prog_3_method_10_code 68 = .ok (.lcmp, 1) := by decide +kernel
theorem d_F_writeNumber_69 : decode prog_3_method_10_code 69 = .ok (.ifCond .le 35, 3) := by decide +kernel
theorem d_F_writeNumber_72 : decode prog_3_method_10_code 72 = .ok (.aload_n 0, 1) := by decide +kernel
theorem d_F_writeNumber_73 : decode prog_3_method_10_code 73 = .ok (.ldc2_w 125, 3) := by decide +kernel
theorem d_F_writeNumber_76 : decode prog_3_method_10_code 76 = .ok (.lload_n 3, 1) := by decide +kernel
theorem d_F_writeNumber_77 : decode prog_3_method_10_code 77 = .ok (.lload 5, 2) := by decide +kernel
theorem d_F_writeNumber_79 : decode prog_3_method_10_code 79 = .ok (.ldiv, 1) := by decide +kernel
theorem d_F_writeNumber_80 : decode prog_3_method_10_code 80 = .ok (.ldc2_w 123, 3) := by decide +kernel
theorem d_F_writeNumber_83 : decode prog_3_method_10_code 83 = .ok (.lrem, 1) := by decide +kernel
theorem d_F_writeNumber_84 : decode prog_3_method_10_code 84 = .ok (.ladd, 1) := by decide +kernel
theorem d_F_writeNumber_85 : decode prog_3_method_10_code 85 = .ok (.l2i, 1) := by decide +kernel
theorem d_F_writeNumber_86 : decode prog_3_method_10_code 86 = .ok (.i2c, 1) := by decide +kernel
theorem d_F_writeNumber_87 : decode prog_3_method_10_code 87 = .ok (.invokevirtual 115, 3) := by decide +kernel
theorem d_F_writeNumber_90 : decode prog_3_method_10_code 90 = .ok (.lload 5, 2) := by decide +kernel
theorem d_F_writeNumber_92 : decode prog_3_method_10_code 92 = .ok (.ldc2_w 123, 3) := by decide +kernel
theorem d_F_writeNumber_95 : decode prog_3_method_10_code 95 = .ok (.ldiv, 1) := by decide +kernel
theorem d_F_writeNumber_96 : decode prog_3_method_10_code 96 = .ok (.lstore 5, 2) := by decide +kernel
theorem d_F_writeNumber_98 : decode prog_3_method_10_code 98 = .ok (.iinc 7 1, 3) := by decide +kernel
theorem d_F_writeNumber_101 : decode prog_3_method_10_code 101 = .ok (.goto (-43), 3) := by decide +kernel
theorem d_F_writeNumber_104 : decode prog_3_method_10_code 104 = .ok (.return_, 1) := by decide +kernel
theorem d_F_letterAt_0 : decode prog_3_method_4_code 0 = .ok (.iload_n 1, 1) := by decide +kernel
theorem d_F_letterAt_1 : decode prog_3_method_4_code 1 = .ok (.aload_n 0, 1) := by decide +kernel
theorem d_F_letterAt_2 : decode prog_3_method_4_code 2 = .ok (.getfield 65, 3) := by decide +kernel
theorem d_F_letterAt_5 : decode prog_3_method_4_code 5 = .ok (.if_icmp .ge 10, 3) := by decide +kernel
theorem d_F_letterAt_8 : decode prog_3_method_4_code 8 = .ok (.iload_n 1, 1) := by decide +kernel
theorem d_F_letterAt_9 : decode prog_3_method_4_code 9 = .ok (.sipush 176, 3) := by decide +kernel
theorem d_F_letterAt_12 : decode prog_3_method_4_code 12 = .ok (.if_icmp .lt 5, 3) := by decide +kernel
theorem d_F_letterAt_15 : decode prog_3_method_4_code 15 = .ok (.iconst (-1), 1) := by decide +kernel
theorem d_F_letterAt_16 : decode prog_3_method_4_code 16 = .ok (.ireturn, 1) := by decide +kernel
theorem d_F_letterAt_17 : decode prog_3_method_4_code 17 = .ok (.aload_n 0, 1) := by decide +kernel
theorem d_F_letterAt_18 : decode prog_3_method_4_code 18 = .ok (.getfield 24, 3) := by decide +kernel
theorem d_F_letterAt_21 : decode prog_3_method_4_code 21 = .ok (.iload_n 1, 1) := by decide +kernel
theorem d_F_letterAt_22 : decode prog_3_method_4_code 22 = .ok (.caload, 1) := by decide +kernel
theorem d_F_letterAt_23 : decode prog_3_method_4_code 23 = .ok (.ireturn, 1) := by decide +kernel
end
section
theorem d_M_init_0 : decode prog_8_method_1_code 0 = .ok (.aload_n 0, 1) := by decide +kernel
theorem d_M_init_1 : decode prog_8_method_1_code 1 = .ok (.invokespecial 1, 3) := by decide +kernel
theorem d_M_init_4 : decode prog_8_method_1_code 4 = .ok (.aload_n 0, 1) := by decide +kernel
theorem d_M_init_5 : decode prog_8_method_1_code 5 = .ok (.bipush 12, 2) := by decide +kernel
theorem d_M_init_7 : decode prog_8_method_1_code 7 = .ok (.newarray .boolean, 2) := by decide +kernel
theorem d_M_init_9 : decode prog_8_method_1_code 9 = .ok (.putfield 7, 3) := by decide +kernel
theorem d_M_init_12 : decode prog_8_method_1_code 12 = .ok (.aload_n 0, 1) := by decide +kernel
theorem d_M_init_13 : decode prog_8_method_1_code 13 = .ok (.bipush 12, 2) := by decide +kernel
theorem d_M_init_15 : decode prog_8_method_1_code 15 = .ok (.newarray .int, 2) := by decide +kernel
theorem d_M_init_17 : decode prog_8_method_1_code 17 = .ok (.putfield 13, 3) := by decide +kernel
theorem d_M_init_20 : decode prog_8_method_1_code 20 = .ok (.aload_n 0, 1) := by decide +kernel
theorem d_M_init_21 : decode prog_8_method_1_code 21 = .ok (.bipush 36, 2) := by decide +kernel
theorem d_M_init_23 : decode prog_8_method_1_code 23 = .ok (.newarray .int, 2) := by decide +kernel
theorem d_M_init_25 : decode prog_8_method_1_code 25 = .ok (.putfield 17, 3) := by decide +kernel
theorem d_M_init_28 : decode prog_8_method_1_code 28 = .ok (.aload_n 0, 1) := by decide +kernel
theorem d_M_init_29 : decode prog_8_method_1_code 29 = .ok (.bipush 36, 2) := by decide +kernel
theorem d_M_init_31 : decode prog_8_method_1_code 31 = .ok (.newarray .long, 2) := by decide +kernel
theorem d_M_init_33 : decode prog_8_method_1_code 33 = .ok (.putfield 20, 3) := by decide +kernel
theorem d_M_init_36 : decode prog_8_method_1_code 36 = .ok (.aload_n 0, 1) := by decide +kernel
theorem d_M_init_37 : decode prog_8_method_1_code 37 = .ok (.bipush 36, 2) := by decide +kernel
theorem d_M_init_39 : decode prog_8_method_1_code 39 = .ok (.newarray .long, 2) := by decide +kernel
theorem d_M_init_41 : decode prog_8_method_1_code 41 = .ok (.putfield 24, 3) := by decide +kernel
theorem d_M_init_44 : decode prog_8_method_1_code 44 = .ok (.aload_n 0, 1) := by decide +kernel
theorem d_M_init_45 : decode prog_8_method_1_code 45 = .ok (.bipush 36, 2) := by decide +kernel
theorem d_M_init_47 : decode prog_8_method_1_code 47 = .ok (.newarray .long, 2) := by decide +kernel
theorem d_M_init_49 : decode prog_8_method_1_code 49 = .ok (.putfield 27, 3) := by decide +kernel
theorem d_M_init_52 : decode prog_8_method_1_code 52 = .ok (.aload_n 0, 1) := by decide +kernel
theorem d_M_init_53 : decode prog_8_method_1_code 53 = .ok (.bipush 36, 2) := by decide +kernel
theorem d_M_init_55 : decode prog_8_method_1_code 55 = .ok (.newarray .long, 2) := by decide +kernel
theorem d_M_init_57 : decode prog_8_method_1_code 57 = .ok (.putfield 30, 3) := by decide +kernel
theorem d_M_init_60 : decode prog_8_method_1_code 60 = .ok (.aload_n 0, 1) := by decide +kernel
theorem d_M_init_61 : decode prog_8_method_1_code 61 = .ok (.bipush 8, 2) := by decide +kernel
theorem d_M_init_63 : decode prog_8_method_1_code 63 = .ok (.newarray .int, 2) := by decide +kernel
theorem d_M_init_65 : decode prog_8_method_1_code 65 = .ok (.putfield 33, 3) := by decide +kernel
theorem d_M_init_68 : decode prog_8_method_1_code 68 = .ok (.aload_n 0, 1) := by decide +kernel
theorem d_M_init_69 : decode prog_8_method_1_code 69 = .ok (.bipush 8, 2) := by decide +kernel
theorem d_M_init_71 : decode prog_8_method_1_code 71 = .ok (.newarray .int, 2) := by decide +kernel
theorem d_M_init_73 : decode prog_8_method_1_code 73 = .ok (.putfield 36, 3) := by decide +kernel
theorem d_M_init_76 : decode prog_8_method_1_code 76 = .ok (.aload_n 0, 1) := by decide +kernel
theorem d_M_init_77 : decode prog_8_method_1_code 77 = .ok (.bipush 8, 2) := by decide +kernel
theorem d_M_init_79 : decode prog_8_method_1_code 79 = .ok (.newarray .int, 2) := by decide +kernel
theorem d_M_init_81 : decode prog_8_method_1_code 81 = .ok (.putfield 39, 3) := by decide +kernel
theorem d_M_init_84 : decode prog_8_method_1_code 84 = .ok (.aload_n 0, 1) := by decide +kernel
theorem d_M_init_85 : decode prog_8_method_1_code 85 = .ok (.bipush 8, 2) := by decide +kernel
theorem d_M_init_87 : decode prog_8_method_1_code 87 = .ok (.newarray .int, 2) := by decide +kernel
theorem d_M_init_89 : decode prog_8_method_1_code 89 = .ok (.putfield 42, 3) := by decide +kernel
theorem d_M_init_92 : decode prog_8_method_1_code 92 = .ok (.aload_n 0, 1) := by decide +kernel
theorem d_M_init_93 : decode prog_8_method_1_code 93 = .ok (.sipush 144, 3) := by decide +kernel
theorem d_M_init_96 : decode prog_8_method_1_code 96 = .ok (.newarray .int, 2) := by decide +kernel
theorem d_M_init_98 : decode prog_8_method_1_code 98 = .ok (.putfield 45, 3) := by decide +kernel
theorem d_M_init_101 : decode prog_8_method_1_code 101 = .ok (.aload_n 0, 1) := by decide +kernel
theorem d_M_init_102 : decode prog_8_method_1_code 102 = .ok (.sipush 1152, 3) := by decide +kernel
theorem d_M_init_105 : decode prog_8_method_1_code 105 = .ok (.newarray .long, 2) := by decide +kernel
theorem d_M_init_107 : decode prog_8_method_1_code 107 = .ok (.putfield 48, 3) := by decide +kernel
theorem d_M_init_110 : decode prog_8_method_1_code 110 = .ok (.aload_n 0, 1) := by decide +kernel
theorem d_M_init_111 : decode prog_8_method_1_code 111 = .ok (.bipush 12, 2) := by decide +kernel
theorem d_M_init_113 : decode prog_8_method_1_code 113 = .ok (.newarray .int, 2) := by decide +kernel
theorem d_M_init_115 : decode prog_8_method_1_code 115 = .ok (.putfield 51, 3) := by decide +kernel
theorem d_M_init_118 : decode prog_8_method_1_code 118 = .ok (.aload_n 0, 1) := by decide +kernel
theorem d_M_init_119 : decode prog_8_method_1_code 119 = .ok (.bipush 36, 2) := by decide +kernel
theorem d_M_init_121 : decode prog_8_method_1_code 121 = .ok (.newarray .boolean, 2) := by decide +kernel
theorem d_M_init_123 : decode prog_8_method_1_code 123 = .ok (.putfield 54, 3) := by decide +kernel
theorem d_M_init_126 : decode prog_8_method_1_code 126 = .ok (.aload_n 0, 1) := by decide +kernel
theorem d_M_init_127 : decode prog_8_method_1_code 127 = .ok (.sipush 400, 3) := by decide +kernel
theorem d_M_init_130 : decode prog_8_method_1_code 130 = .ok (.newarray .int, 2) := by decide +kernel
theorem d_M_init_132 : decode prog_8_method_1_code 132 = .ok (.putfield 57, 3) := by decide +kernel
theorem d_M_init_135 : decode prog_8_method_1_code 135 = .ok (.return_, 1) := by decide +kernel
theorem d_M_thrown_0 : decode prog_8_method_2_code 0 = .ok (.aload_n 0, 1) := by decide +kernel
theorem d_M_thrown_1 : decode prog_8_method_2_code 1 = .ok (.getfield 60, 3) := by decide +kernel
theorem d_M_thrown_4 : decode prog_8_method_2_code 4 = .ok (.ireturn, 1) := by decide +kernel
theorem d_M_net_0 : decode prog_8_method_5_code 0 = .ok (.aload_n 0, 1) := by decide +kernel
theorem d_M_net_1 : decode prog_8_method_5_code 1 = .ok (.iconst 0, 1) := by decide +kernel
theorem d_M_net_2 : decode prog_8_method_5_code 2 = .ok (.putfield 60, 3) := by decide +kernel
theorem d_M_net_5 : decode prog_8_method_5_code 5 = .ok (.aload_n 0, 1) := by decide +kernel
theorem d_M_net_6 : decode prog_8_method_5_code 6 = .ok (.getfield 64, 3) := by decide +kernel
theorem d_M_net_9 : decode prog_8_method_5_code 9 = .ok (.bipush 12, 2) := by decide +kernel
theorem d_M_net_11 : decode prog_8_method_5_code 11 = .ok (.if_icmp .ne 5, 3) := by decide +kernel
theorem d_M_net_14 : decode prog_8_method_5_code 14 = .ok (.iconst (-1), 1) := by decide +kernel
theorem d_M_net_15 : decode prog_8_method_5_code 15 = .ok (.ireturn, 1) := by decide +kernel
theorem d_M_net_16 : decode prog_8_method_5_code 16 = .ok (.aload_n 0, 1) := by decide +kernel
theorem d_M_net_17 : decode prog_8_method_5_code 17 = .ok (.getfield 7, 3) := by decide +kernel
theorem d_M_net_20 : decode prog_8_method_5_code 20 = .ok (.aload_n 0, 1) := by decide +kernel
theorem d_M_net_21 : decode prog_8_method_5_code 21 = .ok (.getfield 64, 3) := by decide +kernel
theorem d_M_net_24 : decode prog_8_method_5_code 24 = .ok (.iload_n 1, 1) := by decide +kernel
theorem d_M_net_25 : decode prog_8_method_5_code 25 = .ok (.bastore, 1) := by decide +kernel
theorem d_M_net_26 : decode prog_8_method_5_code 26 = .ok (.aload_n 0, 1) := by decide +kernel
theorem d_M_net_27 : decode prog_8_method_5_code 27 = .ok (.dup, 1) := by decide +kernel
theorem d_M_net_28 : decode prog_8_method_5_code 28 = .ok (.getfield 64, 3) := by decide +kernel
theorem d_M_net_31 : decode prog_8_method_5_code 31 = .ok (.iconst 1, 1) := by decide +kernel
theorem d_M_net_32 : decode prog_8_method_5_code 32 = .ok (.iadd, 1) := by decide +kernel
theorem d_M_net_33 : decode prog_8_method_5_code 33 = .ok (.putfield 64, 3) := by decide +kernel
theorem d_M_net_36 : decode prog_8_method_5_code 36 = .ok (.aload_n 0, 1) := by decide +kernel
theorem d_M_net_37 : decode prog_8_method_5_code 37 = .ok (.getfield 64, 3) := by decide +kernel
theorem d_M_net_40 : decode prog_8_method_5_code 40 = .ok (.iconst 1, 1) := by decide +kernel
theorem d_M_net_41 : decode prog_8_method_5_code 41 = .ok (.isub, 1) := by decide +kernel
theorem d_M_net_42 : decode prog_8_method_5_code 42 = .ok (.ireturn, 1) := by decide +kernel
theorem d_M_point_0 : decode prog_8_method_7_code 0 = .ok (.lload_n 2, 1) := by decide +kernel
theorem d_M_point_1 : decode prog_8_method_7_code 1 = .ok (.invokestatic 74, 3) := by decide +kernel
theorem d_M_point_4 : decode prog_8_method_7_code 4 = .ok (.ifCond .eq 31, 3) := by decide +kernel
theorem d_M_point_7 : decode prog_8_method_7_code 7 = .ok (.lload 4, 2) := by decide +kernel
theorem d_M_point_9 : decode prog_8_method_7_code 9 = .ok (.invokestatic 74, 3) := by decide +kernel
theorem d_M_point_12 : decode prog_8_method_7_code 12 = .ok (.ifCond .eq 23, 3) := by decide +kernel
theorem d_M_point_15 : decode prog_8_method_7_code 15 = .ok (.lload 6, 2) := by decide +kernel
theorem d_M_point_17 : decode prog_8_method_7_code 17 = .ok (.lconst 1, 1) := by decide +kernel
theorem d_M_point_18 : decode prog_8_method_7_code 18 = .ok (.lcmp, 1) := by decide +kernel
theorem d_M_point_19 : decode prog_8_method_7_code 19 = .ok (.ifCond .lt 16, 3) := by decide +kernel
theorem d_M_point_22 : decode prog_8_method_7_code 22 = .ok (.lload 6, 2) := by decide +kernel
theorem d_M_point_24 : decode prog_8_method_7_code 24 = .ok (.ldc2_w 78, 3) := by decide +kernel
theorem d_M_point_27 : decode prog_8_method_7_code 27 = .ok (.lcmp, 1) := by decide +kernel
theorem d_M_point_28 : decode prog_8_method_7_code 28 = .ok (.ifCond .gt 7, 3) := by decide +kernel
theorem d_M_point_31 : decode prog_8_method_7_code 31 = .ok (.iconst 1, 1) := by decide +kernel
theorem d_M_point_32 : decode prog_8_method_7_code 32 = .ok (.goto 4, 3) := by decide +kernel
theorem d_M_point_35 : decode prog_8_method_7_code 35 = .ok (.iconst 0, 1) := by decide +kernel
theorem d_M_point_36 : decode prog_8_method_7_code 36 = .ok (.istore 8, 2) := by decide +kernel
theorem d_M_point_38 : decode prog_8_method_7_code 38 = .ok (.aload_n 0, 1) := by decide +kernel
theorem d_M_point_39 : decode prog_8_method_7_code 39 = .ok (.aload_n 0, 1) := by decide +kernel
theorem d_M_point_40 : decode prog_8_method_7_code 40 = .ok (.iload_n 1, 1) := by decide +kernel
theorem d_M_point_41 : decode prog_8_method_7_code 41 = .ok (.invokevirtual 80, 3) := by decide +kernel
theorem d_M_point_44 : decode prog_8_method_7_code 44 = .ok (.ifCond .ne 7, 3) := by decide +kernel
theorem d_M_point_47 : decode prog_8_method_7_code 47 = .ok (.iconst 1, 1) := by decide +kernel
theorem d_M_point_48 : decode prog_8_method_7_code 48 = .ok (.goto 13, 3) := by decide +kernel
theorem d_M_point_51 : decode prog_8_method_7_code 51 = .ok (.iload 8, 2) := by decide +kernel
theorem d_M_point_53 : decode prog_8_method_7_code 53 = .ok (.ifCond .eq 7, 3) := by decide +kernel
theorem d_M_point_56 : decode prog_8_method_7_code 56 = .ok (.iconst 0, 1) := by decide +kernel
theorem d_M_point_57 : decode prog_8_method_7_code 57 = .ok (.goto 4, 3) := by decide +kernel
theorem d_M_point_60 : decode prog_8_method_7_code 60 = .ok (.iconst 2, 1) := by decide +kernel
theorem d_M_point_61 : decode prog_8_method_7_code 61 = .ok (.putfield 60, 3) := by decide +kernel
theorem d_M_point_64 : decode prog_8_method_7_code 64 = .ok (.aload_n 0, 1) := by decide +kernel
theorem d_M_point_65 : decode prog_8_method_7_code 65 = .ok (.getfield 60, 3) := by decide +kernel
theorem d_M_point_68 : decode prog_8_method_7_code 68 = .ok (.ifCond .eq 5, 3) := by decide +kernel
theorem d_M_point_71 : decode prog_8_method_7_code 71 = .ok (.iconst 0, 1) := by decide +kernel
theorem d_M_point_72 : decode prog_8_method_7_code 72 = .ok (.ireturn, 1) := by decide +kernel
theorem d_M_point_73 : decode prog_8_method_7_code 73 = .ok (.aload_n 0, 1) := by decide +kernel
theorem d_M_point_74 : decode prog_8_method_7_code 74 = .ok (.getfield 13, 3) := by decide +kernel
theorem d_M_point_77 : decode prog_8_method_7_code 77 = .ok (.iload_n 1, 1) := by decide +kernel
theorem d_M_point_78 : decode prog_8_method_7_code 78 = .ok (.iaload, 1) := by decide +kernel
theorem d_M_point_79 : decode prog_8_method_7_code 79 = .ok (.iconst 3, 1) := by decide +kernel
theorem d_M_point_80 : decode prog_8_method_7_code 80 = .ok (.if_icmp .ne 5, 3) := by decide +kernel
theorem d_M_point_83 : decode prog_8_method_7_code 83 = .ok (.iconst (-1), 1) := by decide +kernel
theorem d_M_point_84 : decode prog_8_method_7_code 84 = .ok (.ireturn, 1) := by decide +kernel
theorem d_M_point_85 : decode prog_8_method_7_code 85 = .ok (.aload_n 0, 1) := by decide +kernel
theorem d_M_point_86 : decode prog_8_method_7_code 86 = .ok (.getfield 20, 3) := by decide +kernel
theorem d_M_point_89 : decode prog_8_method_7_code 89 = .ok (.aload_n 0, 1) := by decide +kernel
theorem d_M_point_90 : decode prog_8_method_7_code 90 = .ok (.getfield 67, 3) := by decide +kernel
theorem d_M_point_93 : decode prog_8_method_7_code 93 = .ok (.lload_n 2, 1) := by decide +kernel
theorem d_M_point_94 : decode prog_8_method_7_code 94 = .ok (.lastore, 1) := by decide +kernel
theorem d_M_point_95 : decode prog_8_method_7_code 95 = .ok (.aload_n 0, 1) := by decide +kernel
theorem d_M_point_96 : decode prog_8_method_7_code 96 = .ok (.getfield 24, 3) := by decide +kernel
theorem d_M_point_99 : decode prog_8_method_7_code 99 = .ok (.aload_n 0, 1) := by decide +kernel
theorem d_M_point_100 : decode prog_8_method_7_code 100 = .ok (.getfield 67, 3) := by decide +kernel
theorem d_M_point_103 : decode prog_8_method_7_code 103 = .ok (.lload 4, 2) := by decide +kernel
theorem d_M_point_105 : decode prog_8_method_7_code 105 = .ok (.lastore, 1) := by decide +kernel
theorem d_M_point_106 : decode prog_8_method_7_code 106 = .ok (.aload_n 0, 1) := by decide +kernel
theorem d_M_point_107 : decode prog_8_method_7_code 107 = .ok (.getfield 27, 3) := by decide +kernel
theorem d_M_point_110 : decode prog_8_method_7_code 110 = .ok (.aload_n 0, 1) := by decide +kernel
theorem d_M_point_111 : decode prog_8_method_7_code 111 = .ok (.getfield 67, 3) := by decide +kernel
theorem d_M_point_114 : decode prog_8_method_7_code 114 = .ok (.lload 6, 2) := by decide +kernel
theorem d_M_point_116 : decode prog_8_method_7_code 116 = .ok (.lastore, 1) := by decide +kernel
theorem d_M_point_117 : decode prog_8_method_7_code 117 = .ok (.aload_n 0, 1) := by decide +kernel
theorem d_M_point_118 : decode prog_8_method_7_code 118 = .ok (.getfield 17, 3) := by decide +kernel
theorem d_M_point_121 : decode prog_8_method_7_code 121 = .ok (.iconst 3, 1) := by decide +kernel
theorem d_M_point_122 : decode prog_8_method_7_code 122 = .ok (.iload_n 1, 1) := by decide +kernel
theorem d_M_point_123 : decode prog_8_method_7_code 123 = .ok (.imul, 1) := by decide +kernel
theorem d_M_point_124 : decode prog_8_method_7_code 124 = .ok (.aload_n 0, 1) := by decide +kernel
theorem d_M_point_125 : decode prog_8_method_7_code 125 = .ok (.getfield 13, 3) := by decide +kernel
theorem d_M_point_128 : decode prog_8_method_7_code 128 = .ok (.iload_n 1, 1) := by decide +kernel
theorem d_M_point_129 : decode prog_8_method_7_code 129 = .ok (.iaload, 1) := by decide +kernel
theorem d_M_point_130 : decode prog_8_method_7_code 130 = .ok (.iadd, 1) := by decide +kernel
theorem d_M_point_131 : decode prog_8_method_7_code 131 = .ok (.aload_n 0, 1) := by decide +kernel
theorem d_M_point_132 : decode prog_8_method_7_code 132 = .ok (.getfield 67, 3) := by decide +kernel
theorem d_M_point_135 : decode prog_8_method_7_code 135 = .ok (.iastore, 1) := by decide +kernel
theorem d_M_point_136 : decode prog_8_method_7_code 136 = .ok (.aload_n 0, 1) := by decide +kernel
theorem d_M_point_137 : decode prog_8_method_7_code 137 = .ok (.getfield 13, 3) := by decide +kernel
theorem d_M_point_140 : decode prog_8_method_7_code 140 = .ok (.iload_n 1, 1) := by decide +kernel
theorem d_M_point_141 : decode prog_8_method_7_code 141 = .ok (.dup2, 1) := by decide +kernel
theorem d_M_point_142 : decode prog_8_method_7_code 142 = .ok (.iaload, 1) := by decide +kernel
theorem d_M_point_143 : decode prog_8_method_7_code 143 = .ok (.iconst 1, 1) := by decide +kernel
theorem d_M_point_144 : decode prog_8_method_7_code 144 = .ok (.iadd, 1) := by decide +kernel
theorem d_M_point_145 : decode prog_8_method_7_code 145 = .ok (.iastore, 1) := by decide +kernel
theorem d_M_point_146 : decode prog_8_method_7_code 146 = .ok (.aload_n 0, 1) := by decide +kernel
theorem d_M_point_147 : decode prog_8_method_7_code 147 = .ok (.dup, 1) := by decide +kernel
theorem d_M_point_148 : decode prog_8_method_7_code 148 = .ok (.getfield 67, 3) := by decide +kernel
theorem d_M_point_151 : decode prog_8_method_7_code 151 = .ok (.iconst 1, 1) := by decide +kernel
theorem d_M_point_152 : decode prog_8_method_7_code 152 = .ok (.iadd, 1) := by decide +kernel
theorem d_M_point_153 : decode prog_8_method_7_code 153 = .ok (.putfield 67, 3) := by decide +kernel
theorem d_M_point_156 : decode prog_8_method_7_code 156 = .ok (.aload_n 0, 1) := by decide +kernel
theorem d_M_point_157 : decode prog_8_method_7_code 157 = .ok (.getfield 67, 3) := by decide +kernel
theorem d_M_point_160 : decode prog_8_method_7_code 160 = .ok (.iconst 1, 1) := by decide +kernel
theorem d_M_point_161 : decode prog_8_method_7_code 161 = .ok (.isub, 1) := by decide +kernel
theorem d_M_point_162 : decode prog_8_method_7_code 162 = .ok (.ireturn, 1) := by decide +kernel
theorem d_M_isPlace_0 : decode prog_8_method_6_code 0 = .ok (.lload_n 0, 1) := by decide +kernel
theorem d_M_isPlace_1 : decode prog_8_method_6_code 1 = .ok (.ldc2_w 70, 3) := by decide +kernel
theorem d_M_isPlace_4 : decode prog_8_method_6_code 4 = .ok (.lcmp, 1) := by decide +kernel
theorem d_M_isPlace_5 : decode prog_8_method_6_code 5 = .ok (.ifCond .lt 15, 3) := by decide +kernel
theorem d_M_isPlace_8 : decode prog_8_method_6_code 8 = .ok (.lload_n 0, 1) := by decide +kernel
theorem d_M_isPlace_9 : decode prog_8_method_6_code 9 = .ok (.ldc2_w 72, 3) := by decide +kernel
theorem d_M_isPlace_12 : decode prog_8_method_6_code 12 = .ok (.lcmp, 1) := by decide +kernel
theorem d_M_isPlace_13 : decode prog_8_method_6_code 13 = .ok (.ifCond .gt 7, 3) := by decide +kernel
theorem d_M_isPlace_16 : decode prog_8_method_6_code 16 = .ok (.iconst 1, 1) := by decide +kernel
theorem d_M_isPlace_17 : decode prog_8_method_6_code 17 = .ok (.goto 4, 3) := by decide +kernel
theorem d_M_isPlace_20 : decode prog_8_method_6_code 20 = .ok (.iconst 0, 1) := by decide +kernel
theorem d_M_isPlace_21 : decode prog_8_method_6_code 21 = .ok (.ireturn, 1) := by decide +kernel
theorem d_M_isNet_0 : decode prog_8_method_3_code 0 = .ok (.iload_n 1, 1) := by decide +kernel
theorem d_M_isNet_1 : decode prog_8_method_3_code 1 = .ok (.ifCond .lt 15, 3) := by decide +kernel
theorem d_M_isNet_4 : decode prog_8_method_3_code 4 = .ok (.iload_n 1, 1) := by decide +kernel
theorem d_M_isNet_5 : decode prog_8_method_3_code 5 = .ok (.aload_n 0, 1) := by decide +kernel
theorem d_M_isNet_6 : decode prog_8_method_3_code 6 = .ok (.getfield 64, 3) := by decide +kernel
theorem d_M_isNet_9 : decode prog_8_method_3_code 9 = .ok (.if_icmp .ge 7, 3) := by decide +kernel
theorem d_M_isNet_12 : decode prog_8_method_3_code 12 = .ok (.iconst 1, 1) := by decide +kernel
theorem d_M_isNet_13 : decode prog_8_method_3_code 13 = .ok (.goto 4, 3) := by decide +kernel
theorem d_M_isNet_16 : decode prog_8_method_3_code 16 = .ok (.iconst 0, 1) := by decide +kernel
theorem d_M_isNet_17 : decode prog_8_method_3_code 17 = .ok (.ireturn, 1) := by decide +kernel
theorem d_M_gap_0 : decode prog_8_method_8_code 0 = .ok (.aload_n 0, 1) := by decide +kernel
theorem d_M_gap_1 : decode prog_8_method_8_code 1 = .ok (.lload_n 1, 1) := by decide +kernel
theorem d_M_gap_2 : decode prog_8_method_8_code 2 = .ok (.lconst 0, 1) := by decide +kernel
theorem d_M_gap_3 : decode prog_8_method_8_code 3 = .ok (.lcmp, 1) := by decide +kernel
theorem d_M_gap_4 : decode prog_8_method_8_code 4 = .ok (.ifCond .lt 11, 3) := by decide +kernel
theorem d_M_gap_7 : decode prog_8_method_8_code 7 = .ok (.lload_n 1, 1) := by decide +kernel
theorem d_M_gap_8 : decode prog_8_method_8_code 8 = .ok (.ldc2_w 72, 3) := by decide +kernel
theorem d_M_gap_11 : decode prog_8_method_8_code 11 = .ok (.lcmp, 1) := by decide +kernel
theorem d_M_gap_12 : decode prog_8_method_8_code 12 = .ok (.ifCond .le 7, 3) := by decide +kernel
theorem d_M_gap_15 : decode prog_8_method_8_code 15 = .ok (.iconst 1, 1) := by decide +kernel
theorem d_M_gap_16 : decode prog_8_method_8_code 16 = .ok (.goto 4, 3) := by decide +kernel
theorem d_M_gap_19 : decode prog_8_method_8_code 19 = .ok (.iconst 0, 1) := by decide +kernel
theorem d_M_gap_20 : decode prog_8_method_8_code 20 = .ok (.putfield 60, 3) := by decide +kernel
theorem d_M_gap_23 : decode prog_8_method_8_code 23 = .ok (.aload_n 0, 1) := by decide +kernel
theorem d_M_gap_24 : decode prog_8_method_8_code 24 = .ok (.getfield 60, 3) := by decide +kernel
theorem d_M_gap_27 : decode prog_8_method_8_code 27 = .ok (.ifCond .ne 12, 3) := by decide +kernel
theorem d_M_gap_30 : decode prog_8_method_8_code 30 = .ok (.aload_n 0, 1) := by decide +kernel
theorem d_M_gap_31 : decode prog_8_method_8_code 31 = .ok (.getfield 84, 3) := by decide +kernel
theorem d_M_gap_34 : decode prog_8_method_8_code 34 = .ok (.lload_n 1, 1) := by decide +kernel
theorem d_M_gap_35 : decode prog_8_method_8_code 35 = .ok (.lcmp, 1) := by decide +kernel
theorem d_M_gap_36 : decode prog_8_method_8_code 36 = .ok (.ifCond .ne 5, 3) := by decide +kernel
theorem d_M_gap_39 : decode prog_8_method_8_code 39 = .ok (.iconst 0, 1) := by decide +kernel
theorem d_M_gap_40 : decode prog_8_method_8_code 40 = .ok (.ireturn, 1) := by decide +kernel
theorem d_M_gap_41 : decode prog_8_method_8_code 41 = .ok (.aload_n 0, 1) := by decide +kernel
theorem d_M_gap_42 : decode prog_8_method_8_code 42 = .ok (.lload_n 1, 1) := by decide +kernel
theorem d_M_gap_43 : decode prog_8_method_8_code 43 = .ok (.putfield 84, 3) := by decide +kernel
theorem d_M_gap_46 : decode prog_8_method_8_code 46 = .ok (.iconst 1, 1) := by decide +kernel
theorem d_M_gap_47 : decode prog_8_method_8_code 47 = .ok (.ireturn, 1) := by decide +kernel
theorem d_M_force_0 : decode prog_8_method_9_code 0 = .ok (.aload_n 0, 1) := by decide +kernel
theorem d_M_force_1 : decode prog_8_method_9_code 1 = .ok (.aload_n 0, 1) := by decide +kernel
theorem d_M_force_2 : decode prog_8_method_9_code 2 = .ok (.iload_n 1, 1) := by decide +kernel
theorem d_M_force_3 : decode prog_8_method_9_code 3 = .ok (.invokevirtual 88, 3) := by decide +kernel
theorem d_M_force_6 : decode prog_8_method_9_code 6 = .ok (.ifCond .ne 7, 3) := by decide +kernel
theorem d_M_force_9 : decode prog_8_method_9_code 9 = .ok (.iconst 1, 1) := by decide +kernel
theorem d_M_force_10 : decode prog_8_method_9_code 10 = .ok (.goto 22, 3) := by decide +kernel
theorem d_M_force_13 : decode prog_8_method_9_code 13 = .ok (.lload_n 2, 1) := by decide +kernel
theorem d_M_force_14 : decode prog_8_method_9_code 14 = .ok (.lconst 0, 1) := by decide +kernel
theorem d_M_force_15 : decode prog_8_method_9_code 15 = .ok (.lcmp, 1) := by decide +kernel
theorem d_M_force_16 : decode prog_8_method_9_code 16 = .ok (.ifCond .lt 11, 3) := by decide +kernel
theorem d_M_force_19 : decode prog_8_method_9_code 19 = .ok (.lload_n 2, 1) := by decide +kernel
theorem d_M_force_20 : decode prog_8_method_9_code 20 = .ok (.ldc2_w 72, 3) := by decide +kernel
theorem d_M_force_23 : decode prog_8_method_9_code 23 = .ok (.lcmp, 1) := by decide +kernel
theorem d_M_force_24 : decode prog_8_method_9_code 24 = .ok (.ifCond .le 7, 3) := by decide +kernel
theorem d_M_force_27 : decode prog_8_method_9_code 27 = .ok (.iconst 2, 1) := by decide +kernel
theorem d_M_force_28 : decode prog_8_method_9_code 28 = .ok (.goto 4, 3) := by decide +kernel
theorem d_M_force_31 : decode prog_8_method_9_code 31 = .ok (.iconst 0, 1) := by decide +kernel
theorem d_M_force_32 : decode prog_8_method_9_code 32 = .ok (.putfield 60, 3) := by decide +kernel
theorem d_M_force_35 : decode prog_8_method_9_code 35 = .ok (.aload_n 0, 1) := by decide +kernel
theorem d_M_force_36 : decode prog_8_method_9_code 36 = .ok (.getfield 60, 3) := by decide +kernel
theorem d_M_force_39 : decode prog_8_method_9_code 39 = .ok (.ifCond .ne 14, 3) := by decide +kernel
theorem d_M_force_42 : decode prog_8_method_9_code 42 = .ok (.aload_n 0, 1) := by decide +kernel
theorem d_M_force_43 : decode prog_8_method_9_code 43 = .ok (.getfield 30, 3) := by decide +kernel
theorem d_M_force_46 : decode prog_8_method_9_code 46 = .ok (.iload_n 1, 1) := by decide +kernel
theorem d_M_force_47 : decode prog_8_method_9_code 47 = .ok (.laload, 1) := by decide +kernel
theorem d_M_force_48 : decode prog_8_method_9_code 48 = .ok (.lload_n 2, 1) := by decide +kernel
theorem d_M_force_49 : decode prog_8_method_9_code 49 = .ok (.lcmp, 1) := by decide +kernel
theorem d_M_force_50 : decode prog_8_method_9_code 50 = .ok (.ifCond .ne 5, 3) := by decide +kernel
theorem d_M_force_53 : decode prog_8_method_9_code 53 = .ok (.iconst 0, 1) := by decide +kernel
theorem d_M_force_54 : decode prog_8_method_9_code 54 = .ok (.ireturn, 1) := by decide +kernel
theorem d_M_force_55 : decode prog_8_method_9_code 55 = .ok (.aload_n 0, 1) := by decide +kernel
theorem d_M_force_56 : decode prog_8_method_9_code 56 = .ok (.getfield 30, 3) := by decide +kernel
theorem d_M_force_59 : decode prog_8_method_9_code 59 = .ok (.iload_n 1, 1) := by decide +kernel
theorem d_M_force_60 : decode prog_8_method_9_code 60 = .ok (.lload_n 2, 1) := by decide +kernel
theorem d_M_force_61 : decode prog_8_method_9_code 61 = .ok (.lastore, 1) := by decide +kernel
theorem d_M_force_62 : decode prog_8_method_9_code 62 = .ok (.iconst 1, 1) := by decide +kernel
theorem d_M_force_63 : decode prog_8_method_9_code 63 = .ok (.ireturn, 1) := by decide +kernel
theorem d_M_isPoint_0 : decode prog_8_method_4_code 0 = .ok (.iload_n 1, 1) := by decide +kernel
theorem d_M_isPoint_1 : decode prog_8_method_4_code 1 = .ok (.ifCond .lt 15, 3) := by decide +kernel
theorem d_M_isPoint_4 : decode prog_8_method_4_code 4 = .ok (.iload_n 1, 1) := by decide +kernel
theorem d_M_isPoint_5 : decode prog_8_method_4_code 5 = .ok (.aload_n 0, 1) := by decide +kernel
theorem d_M_isPoint_6 : decode prog_8_method_4_code 6 = .ok (.getfield 67, 3) := by decide +kernel
theorem d_M_isPoint_9 : decode prog_8_method_4_code 9 = .ok (.if_icmp .ge 7, 3) := by decide +kernel
theorem d_M_isPoint_12 : decode prog_8_method_4_code 12 = .ok (.iconst 1, 1) := by decide +kernel
theorem d_M_isPoint_13 : decode prog_8_method_4_code 13 = .ok (.goto 4, 3) := by decide +kernel
theorem d_M_isPoint_16 : decode prog_8_method_4_code 16 = .ok (.iconst 0, 1) := by decide +kernel
theorem d_M_isPoint_17 : decode prog_8_method_4_code 17 = .ok (.ireturn, 1) := by decide +kernel
theorem d_M_run_0 : decode prog_8_method_15_code 0 = .ok (.aload_n 0, 1) := by decide +kernel
theorem d_M_run_1 : decode prog_8_method_15_code 1 = .ok (.lload_n 1, 1) := by decide +kernel
theorem d_M_run_2 : decode prog_8_method_15_code 2 = .ok (.lconst 0, 1) := by decide +kernel
theorem d_M_run_3 : decode prog_8_method_15_code 3 = .ok (.lcmp, 1) := by decide +kernel
theorem d_M_run_4 : decode prog_8_method_15_code 4 = .ok (.ifCond .lt 15, 3) := by decide +kernel
theorem d_M_run_7 : decode prog_8_method_15_code 7 = .ok (.lload_n 1, 1) := by decide +kernel
theorem d_M_run_8 : decode prog_8_method_15_code 8 = .ok (.ldc2_w 109, 3) := by decide +kernel
theorem d_M_run_11 : decode prog_8_method_15_code 11 = .ok (.lcmp, 1) := by decide +kernel
theorem d_M_run_12 : decode prog_8_method_15_code 12 = .ok (.ifCond .gt 7, 3) := by decide +kernel
theorem d_M_run_15 : decode prog_8_method_15_code 15 = .ok (.iconst 0, 1) := by decide +kernel
theorem d_M_run_16 : decode prog_8_method_15_code 16 = .ok (.goto 4, 3) := by decide +kernel
theorem d_M_run_19 : decode prog_8_method_15_code 19 = .ok (.iconst 1, 1) := by decide +kernel
theorem d_M_run_20 : decode prog_8_method_15_code 20 = .ok (.putfield 60, 3) := by decide +kernel
theorem d_M_run_23 : decode prog_8_method_15_code 23 = .ok (.aload_n 0, 1) := by decide +kernel
theorem d_M_run_24 : decode prog_8_method_15_code 24 = .ok (.getfield 60, 3) := by decide +kernel
theorem d_M_run_27 : decode prog_8_method_15_code 27 = .ok (.ifCond .eq 5, 3) := by decide +kernel
theorem d_M_run_30 : decode prog_8_method_15_code 30 = .ok (.iconst 0, 1) := by decide +kernel
theorem d_M_run_31 : decode prog_8_method_15_code 31 = .ok (.ireturn, 1) := by decide +kernel
theorem d_M_run_32 : decode prog_8_method_15_code 32 = .ok (.aload_n 0, 1) := by decide +kernel
theorem d_M_run_33 : decode prog_8_method_15_code 33 = .ok (.iconst 1, 1) := by decide +kernel
theorem d_M_run_34 : decode prog_8_method_15_code 34 = .ok (.putfield 111, 3) := by decide +kernel
theorem d_M_run_37 : decode prog_8_method_15_code 37 = .ok (.aload_n 0, 1) := by decide +kernel
theorem d_M_run_38 : decode prog_8_method_15_code 38 = .ok (.iconst 0, 1) := by decide +kernel
theorem d_M_run_39 : decode prog_8_method_15_code 39 = .ok (.putfield 91, 3) := by decide +kernel
theorem d_M_run_42 : decode prog_8_method_15_code 42 = .ok (.iconst 0, 1) := by decide +kernel
theorem d_M_run_43 : decode prog_8_method_15_code 43 = .ok (.istore_n 3, 1) := by decide +kernel
theorem d_M_run_44 : decode prog_8_method_15_code 44 = .ok (.iconst 0, 1) := by decide +kernel
theorem d_M_run_45 : decode prog_8_method_15_code 45 = .ok (.istore 4, 2) := by decide +kernel
theorem d_M_run_47 : decode prog_8_method_15_code 47 = .ok (.iload 4, 2) := by decide +kernel
theorem d_M_run_49 : decode prog_8_method_15_code 49 = .ok (.aload_n 0, 1) := by decide +kernel
theorem d_M_run_50 : decode prog_8_method_15_code 50 = .ok (.getfield 64, 3) := by decide +kernel
theorem d_M_run_53 : decode prog_8_method_15_code 53 = .ok (.if_icmp .ge 56, 3) := by decide +kernel
theorem d_M_run_56 : decode prog_8_method_15_code 56 = .ok (.aload_n 0, 1) := by decide +kernel
theorem d_M_run_57 : decode prog_8_method_15_code 57 = .ok (.getfield 7, 3) := by decide +kernel
theorem d_M_run_60 : decode prog_8_method_15_code 60 = .ok (.iload 4, 2) := by decide +kernel
theorem d_M_run_62 : decode prog_8_method_15_code 62 = .ok (.baload, 1) := by decide +kernel
theorem d_M_run_63 : decode prog_8_method_15_code 63 = .ok (.ifCond .ne 6, 3) := by decide +kernel
theorem d_M_run_66 : decode prog_8_method_15_code 66 = .ok (.goto 37, 3) := by decide +kernel
theorem d_M_run_69 : decode prog_8_method_15_code 69 = .ok (.aload_n 0, 1) := by decide +kernel
theorem d_M_run_70 : decode prog_8_method_15_code 70 = .ok (.getfield 91, 3) := by decide +kernel
theorem d_M_run_73 : decode prog_8_method_15_code 73 = .ok (.i2l, 1) := by decide +kernel
theorem d_M_run_74 : decode prog_8_method_15_code 74 = .ok (.lload_n 1, 1) := by decide +kernel
theorem d_M_run_75 : decode prog_8_method_15_code 75 = .ok (.lcmp, 1) := by decide +kernel
theorem d_M_run_76 : decode prog_8_method_15_code 76 = .ok (.ifCond .ge 24, 3) := by decide +kernel
theorem d_M_run_79 : decode prog_8_method_15_code 79 = .ok (.aload_n 0, 1) := by decide +kernel
theorem d_M_run_80 : decode prog_8_method_15_code 80 = .ok (.getfield 33, 3) := by decide +kernel
theorem d_M_run_83 : decode prog_8_method_15_code 83 = .ok (.aload_n 0, 1) := by decide +kernel
theorem d_M_run_84 : decode prog_8_method_15_code 84 = .ok (.getfield 91, 3) := by decide +kernel
theorem d_M_run_87 : decode prog_8_method_15_code 87 = .ok (.iload 4, 2) := by decide +kernel
theorem d_M_run_89 : decode prog_8_method_15_code 89 = .ok (.iastore, 1) := by decide +kernel
theorem d_M_run_90 : decode prog_8_method_15_code 90 = .ok (.aload_n 0, 1) := by decide +kernel
theorem d_M_run_91 : decode prog_8_method_15_code 91 = .ok (.dup, 1) := by decide +kernel
theorem d_M_run_92 : decode prog_8_method_15_code 92 = .ok (.getfield 91, 3) := by decide +kernel
theorem d_M_run_95 : decode prog_8_method_15_code 95 = .ok (.iconst 1, 1) := by decide +kernel
theorem d_M_run_96 : decode prog_8_method_15_code 96 = .ok (.iadd, 1) := by decide +kernel
theorem d_M_run_97 : decode prog_8_method_15_code 97 = .ok (.putfield 91, 3) := by decide +kernel
theorem d_M_run_100 : decode prog_8_method_15_code 100 = .ok (.iinc 3 1, 3) := by decide +kernel
theorem d_M_run_103 : decode prog_8_method_15_code 103 = .ok (.iinc 4 1, 3) := by decide +kernel
theorem d_M_run_106 : decode prog_8_method_15_code 106 = .ok (.goto (-59), 3) := by decide +kernel
theorem d_M_run_109 : decode prog_8_method_15_code 109 = .ok (.aload_n 0, 1) := by decide +kernel
theorem d_M_run_110 : decode prog_8_method_15_code 110 = .ok (.aload_n 0, 1) := by decide +kernel
theorem d_M_run_111 : decode prog_8_method_15_code 111 = .ok (.getfield 91, 3) := by decide +kernel
theorem d_M_run_114 : decode prog_8_method_15_code 114 = .ok (.iload_n 3, 1) := by decide +kernel
theorem d_M_run_115 : decode prog_8_method_15_code 115 = .ok (.if_icmp .ne 7, 3) := by decide +kernel
theorem d_M_run_118 : decode prog_8_method_15_code 118 = .ok (.iconst 1, 1) := by decide +kernel
theorem d_M_run_119 : decode prog_8_method_15_code 119 = .ok (.goto 4, 3) := by decide +kernel
theorem d_M_run_122 : decode prog_8_method_15_code 122 = .ok (.iconst 0, 1) := by decide +kernel
theorem d_M_run_123 : decode prog_8_method_15_code 123 = .ok (.putfield 115, 3) := by decide +kernel
theorem d_M_run_126 : decode prog_8_method_15_code 126 = .ok (.aload_n 0, 1) := by decide +kernel
theorem d_M_run_127 : decode prog_8_method_15_code 127 = .ok (.invokevirtual 118, 3) := by decide +kernel
theorem d_M_run_130 : decode prog_8_method_15_code 130 = .ok (.aload_n 0, 1) := by decide +kernel
theorem d_M_run_131 : decode prog_8_method_15_code 131 = .ok (.iconst 0, 1) := by decide +kernel
theorem d_M_run_132 : decode prog_8_method_15_code 132 = .ok (.putfield 121, 3) := by decide +kernel
theorem d_M_run_135 : decode prog_8_method_15_code 135 = .ok (.iconst 0, 1) := by decide +kernel
theorem d_M_run_136 : decode prog_8_method_15_code 136 = .ok (.istore 4, 2) := by decide +kernel
theorem d_M_run_138 : decode prog_8_method_15_code 138 = .ok (.iload 4, 2) := by decide +kernel
theorem d_M_run_140 : decode prog_8_method_15_code 140 = .ok (.aload_n 0, 1) := by decide +kernel
theorem d_M_run_141 : decode prog_8_method_15_code 141 = .ok (.getfield 91, 3) := by decide +kernel
theorem d_M_run_144 : decode prog_8_method_15_code 144 = .ok (.if_icmp .ge 55, 3) := by decide +kernel
theorem d_M_run_147 : decode prog_8_method_15_code 147 = .ok (.aload_n 0, 1) := by decide +kernel
theorem d_M_run_148 : decode prog_8_method_15_code 148 = .ok (.getfield 39, 3) := by decide +kernel
theorem d_M_run_151 : decode prog_8_method_15_code 151 = .ok (.iload 4, 2) := by decide +kernel
theorem d_M_run_153 : decode prog_8_method_15_code 153 = .ok (.iaload, 1) := by decide +kernel
theorem d_M_run_154 : decode prog_8_method_15_code 154 = .ok (.iconst 3, 1) := by decide +kernel
theorem d_M_run_155 : decode prog_8_method_15_code 155 = .ok (.if_icmp .ne 6, 3) := by decide +kernel
theorem d_M_run_158 : decode prog_8_method_15_code 158 = .ok (.goto 35, 3) := by decide +kernel
theorem d_M_run_161 : decode prog_8_method_15_code 161 = .ok (.aload_n 0, 1) := by decide +kernel
theorem d_M_run_162 : decode prog_8_method_15_code 162 = .ok (.getfield 42, 3) := by decide +kernel
theorem d_M_run_165 : decode prog_8_method_15_code 165 = .ok (.aload_n 0, 1) := by decide +kernel
theorem d_M_run_166 : decode prog_8_method_15_code 166 = .ok (.getfield 121, 3) := by decide +kernel
theorem d_M_run_169 : decode prog_8_method_15_code 169 = .ok (.aload_n 0, 1) := by decide +kernel
theorem d_M_run_170 : decode prog_8_method_15_code 170 = .ok (.iload 4, 2) := by decide +kernel
theorem d_M_run_172 : decode prog_8_method_15_code 172 = .ok (.aload_n 0, 1) := by decide +kernel
theorem d_M_run_173 : decode prog_8_method_15_code 173 = .ok (.getfield 39, 3) := by decide +kernel
theorem d_M_run_176 : decode prog_8_method_15_code 176 = .ok (.iload 4, 2) := by decide +kernel
theorem d_M_run_178 : decode prog_8_method_15_code 178 = .ok (.iaload, 1) := by decide +kernel
theorem d_M_run_179 : decode prog_8_method_15_code 179 = .ok (.invokevirtual 94, 3) := by decide +kernel
theorem d_M_run_182 : decode prog_8_method_15_code 182 = .ok (.iastore, 1) := by decide +kernel
theorem d_M_run_183 : decode prog_8_method_15_code 183 = .ok (.aload_n 0, 1) := by decide +kernel
theorem d_M_run_184 : decode prog_8_method_15_code 184 = .ok (.dup, 1) := by decide +kernel
theorem d_M_run_185 : decode prog_8_method_15_code 185 = .ok (.getfield 121, 3) := by decide +kernel
theorem d_M_run_188 : decode prog_8_method_15_code 188 = .ok (.iconst 1, 1) := by decide +kernel
theorem d_M_run_189 : decode prog_8_method_15_code 189 = .ok (.iadd, 1) := by decide +kernel
theorem d_M_run_190 : decode prog_8_method_15_code 190 = .ok (.putfield 121, 3) := by decide +kernel
theorem d_M_run_193 : decode prog_8_method_15_code 193 = .ok (.iinc 4 1, 3) := by decide +kernel
theorem d_M_run_196 : decode prog_8_method_15_code 196 = .ok (.goto (-58), 3) := by decide +kernel
theorem d_M_run_199 : decode prog_8_method_15_code 199 = .ok (.aload_n 0, 1) := by decide +kernel
theorem d_M_run_200 : decode prog_8_method_15_code 200 = .ok (.getfield 121, 3) := by decide +kernel
theorem d_M_run_203 : decode prog_8_method_15_code 203 = .ok (.ireturn, 1) := by decide +kernel
theorem d_M_choose_0 : decode prog_8_method_14_code 0 = .ok (.iconst (-1), 1) := by decide +kernel
theorem d_M_choose_1 : decode prog_8_method_14_code 1 = .ok (.istore_n 1, 1) := by decide +kernel
theorem d_M_choose_2 : decode prog_8_method_14_code 2 = .ok (.lconst 0, 1) := by decide +kernel
theorem d_M_choose_3 : decode prog_8_method_14_code 3 = .ok (.lstore_n 2, 1) := by decide +kernel
theorem d_M_choose_4 : decode prog_8_method_14_code 4 = .ok (.iconst 0, 1) := by decide +kernel
theorem d_M_choose_5 : decode prog_8_method_14_code 5 = .ok (.istore 4, 2) := by decide +kernel
theorem d_M_choose_7 : decode prog_8_method_14_code 7 = .ok (.iload 4, 2) := by decide +kernel
theorem d_M_choose_9 : decode prog_8_method_14_code 9 = .ok (.aload_n 0, 1) := by decide +kernel
theorem d_M_choose_10 : decode prog_8_method_14_code 10 = .ok (.getfield 91, 3) := by decide +kernel
theorem d_M_choose_13 : decode prog_8_method_14_code 13 = .ok (.if_icmp .ge 17, 3) := by decide +kernel
theorem d_M_choose_16 : decode prog_8_method_14_code 16 = .ok (.aload_n 0, 1) := by decide +kernel
theorem d_M_choose_17 : decode prog_8_method_14_code 17 = .ok (.getfield 36, 3) := by decide +kernel
theorem d_M_choose_20 : decode prog_8_method_14_code 20 = .ok (.iload 4, 2) := by decide +kernel
theorem d_M_choose_22 : decode prog_8_method_14_code 22 = .ok (.iconst 0, 1) := by decide +kernel
theorem d_M_choose_23 : decode prog_8_method_14_code 23 = .ok (.iastore, 1) := by decide +kernel
theorem d_M_choose_24 : decode prog_8_method_14_code 24 = .ok (.iinc 4 1, 3) := by decide +kernel
theorem d_M_choose_27 : decode prog_8_method_14_code 27 = .ok (.goto (-20), 3) := by decide +kernel
theorem d_M_choose_30 : decode prog_8_method_14_code 30 = .ok (.iconst 1, 1) := by decide +kernel
theorem d_M_choose_31 : decode prog_8_method_14_code 31 = .ok (.istore 4, 2) := by decide +kernel
theorem d_M_choose_33 : decode prog_8_method_14_code 33 = .ok (.iload 4, 2) := by decide +kernel
theorem d_M_choose_35 : decode prog_8_method_14_code 35 = .ok (.ifCond .eq 159, 3) := by decide +kernel
theorem d_M_choose_38 : decode prog_8_method_14_code 38 = .ok (.aload_n 0, 1) := by decide +kernel
theorem d_M_choose_39 : decode prog_8_method_14_code 39 = .ok (.invokevirtual 102, 3) := by decide +kernel
theorem d_M_choose_42 : decode prog_8_method_14_code 42 = .ok (.ifCond .eq 143, 3) := by decide +kernel
theorem d_M_choose_45 : decode prog_8_method_14_code 45 = .ok (.iconst 0, 1) := by decide +kernel
theorem d_M_choose_46 : decode prog_8_method_14_code 46 = .ok (.istore 5, 2) := by decide +kernel
theorem d_M_choose_48 : decode prog_8_method_14_code 48 = .ok (.lconst 0, 1) := by decide +kernel
theorem d_M_choose_49 : decode prog_8_method_14_code 49 = .ok (.lstore 6, 2) := by decide +kernel
theorem d_M_choose_51 : decode prog_8_method_14_code 51 = .ok (.iconst 0, 1) := by decide +kernel
theorem d_M_choose_52 : decode prog_8_method_14_code 52 = .ok (.istore 8, 2) := by decide +kernel
theorem d_M_choose_54 : decode prog_8_method_14_code 54 = .ok (.iload 8, 2) := by decide +kernel
theorem d_M_choose_56 : decode prog_8_method_14_code 56 = .ok (.aload_n 0, 1) := by decide +kernel
theorem d_M_choose_57 : decode prog_8_method_14_code 57 = .ok (.getfield 91, 3) := by decide +kernel
theorem d_M_choose_60 : decode prog_8_method_14_code 60 = .ok (.if_icmp .ge 68, 3) := by decide +kernel
theorem d_M_choose_63 : decode prog_8_method_14_code 63 = .ok (.iload 5, 2) := by decide +kernel
theorem d_M_choose_65 : decode prog_8_method_14_code 65 = .ok (.aload_n 0, 1) := by decide +kernel
theorem d_M_choose_66 : decode prog_8_method_14_code 66 = .ok (.getfield 36, 3) := by decide +kernel
theorem d_M_choose_69 : decode prog_8_method_14_code 69 = .ok (.iload 8, 2) := by decide +kernel
theorem d_M_choose_71 : decode prog_8_method_14_code 71 = .ok (.iaload, 1) := by decide +kernel
theorem d_M_choose_72 : decode prog_8_method_14_code 72 = .ok (.iconst 3, 1) := by decide +kernel
theorem d_M_choose_73 : decode prog_8_method_14_code 73 = .ok (.if_icmp .ge 7, 3) := by decide +kernel
theorem d_M_choose_76 : decode prog_8_method_14_code 76 = .ok (.iconst 1, 1) := by decide +kernel
theorem d_M_choose_77 : decode prog_8_method_14_code 77 = .ok (.goto 4, 3) := by decide +kernel
theorem d_M_choose_80 : decode prog_8_method_14_code 80 = .ok (.iconst 0, 1) := by decide +kernel
theorem d_M_choose_81 : decode prog_8_method_14_code 81 = .ok (.iadd, 1) := by decide +kernel
theorem d_M_choose_82 : decode prog_8_method_14_code 82 = .ok (.istore 5, 2) := by decide +kernel
theorem d_M_choose_84 : decode prog_8_method_14_code 84 = .ok (.lload 6, 2) := by decide +kernel
theorem d_M_choose_86 : decode prog_8_method_14_code 86 = .ok (.aload_n 0, 1) := by decide +kernel
theorem d_M_choose_87 : decode prog_8_method_14_code 87 = .ok (.getfield 36, 3) := by decide +kernel
theorem d_M_choose_90 : decode prog_8_method_14_code 90 = .ok (.iload 8, 2) := by decide +kernel
theorem d_M_choose_92 : decode prog_8_method_14_code 92 = .ok (.iaload, 1) := by decide +kernel
theorem d_M_choose_93 : decode prog_8_method_14_code 93 = .ok (.iconst 3, 1) := by decide +kernel
theorem d_M_choose_94 : decode prog_8_method_14_code 94 = .ok (.if_icmp .ge 24, 3) := by decide +kernel
theorem d_M_choose_97 : decode prog_8_method_14_code 97 = .ok (.aload_n 0, 1) := by decide +kernel
theorem d_M_choose_98 : decode prog_8_method_14_code 98 = .ok (.getfield 30, 3) := by decide +kernel
theorem d_M_choose_101 : decode prog_8_method_14_code 101 = .ok (.aload_n 0, 1) := by decide +kernel
theorem d_M_choose_102 : decode prog_8_method_14_code 102 = .ok (.iload 8, 2) := by decide +kernel
theorem d_M_choose_104 : decode prog_8_method_14_code 104 = .ok (.aload_n 0, 1) := by decide +kernel
theorem d_M_choose_105 : decode prog_8_method_14_code 105 = .ok (.getfield 36, 3) := by decide +kernel
theorem d_M_choose_108 : decode prog_8_method_14_code 108 = .ok (.iload 8, 2) := by decide +kernel
theorem d_M_choose_110 : decode prog_8_method_14_code 110 = .ok (.iaload, 1) := by decide +kernel
theorem d_M_choose_111 : decode prog_8_method_14_code 111 = .ok (.invokevirtual 94, 3) := by decide +kernel
theorem d_M_choose_114 : decode prog_8_method_14_code 114 = .ok (.laload, 1) := by decide +kernel
theorem d_M_choose_115 : decode prog_8_method_14_code 115 = .ok (.goto 4, 3) := by decide +kernel
theorem d_M_choose_118 : decode prog_8_method_14_code 118 = .ok (.lconst 0, 1) := by decide +kernel
theorem d_M_choose_119 : decode prog_8_method_14_code 119 = .ok (.ladd, 1) := by decide +kernel
theorem d_M_choose_120 : decode prog_8_method_14_code 120 = .ok (.lstore 6, 2) := by decide +kernel
theorem d_M_choose_122 : decode prog_8_method_14_code 122 = .ok (.iinc 8 1, 3) := by decide +kernel
theorem d_M_choose_125 : decode prog_8_method_14_code 125 = .ok (.goto (-71), 3) := by decide +kernel
theorem d_M_choose_128 : decode prog_8_method_14_code 128 = .ok (.iload 5, 2) := by decide +kernel
theorem d_M_choose_130 : decode prog_8_method_14_code 130 = .ok (.iload_n 1, 1) := by decide +kernel
theorem d_M_choose_131 : decode prog_8_method_14_code 131 = .ok (.if_icmp .gt 16, 3) := by decide +kernel
theorem d_M_choose_134 : decode prog_8_method_14_code 134 = .ok (.iload 5, 2) := by decide +kernel
theorem d_M_choose_136 : decode prog_8_method_14_code 136 = .ok (.iload_n 1, 1) := by decide +kernel
theorem d_M_choose_137 : decode prog_8_method_14_code 137 = .ok (.if_icmp .ne 48, 3) := by decide +kernel
theorem d_M_choose_140 : decode prog_8_method_14_code 140 = .ok (.lload 6, 2) := by decide +kernel
theorem d_M_choose_142 : decode prog_8_method_14_code 142 = .ok (.lload_n 2, 1) := by decide +kernel
theorem d_M_choose_143 : decode prog_8_method_14_code 143 = .ok (.lcmp, 1) := by decide +kernel
theorem d_M_choose_144 : decode prog_8_method_14_code 144 = .ok (.ifCond .ge 41, 3) := by decide +kernel
theorem d_M_choose_147 : decode prog_8_method_14_code 147 = .ok (.iload 5, 2) := by decide +kernel
theorem d_M_choose_149 : decode prog_8_method_14_code 149 = .ok (.istore_n 1, 1) := by decide +kernel
theorem d_M_choose_150 : decode prog_8_method_14_code 150 = .ok (.lload 6, 2) := by decide +kernel
theorem d_M_choose_152 : decode prog_8_method_14_code 152 = .ok (.lstore_n 2, 1) := by decide +kernel
theorem d_M_choose_153 : decode prog_8_method_14_code 153 = .ok (.iconst 0, 1) := by decide +kernel
theorem d_M_choose_154 : decode prog_8_method_14_code 154 = .ok (.istore 8, 2) := by decide +kernel
theorem d_M_choose_156 : decode prog_8_method_14_code 156 = .ok (.iload 8, 2) := by decide +kernel
theorem d_M_choose_158 : decode prog_8_method_14_code 158 = .ok (.aload_n 0, 1) := by decide +kernel
theorem d_M_choose_159 : decode prog_8_method_14_code 159 = .ok (.getfield 91, 3) := by decide +kernel
theorem d_M_choose_162 : decode prog_8_method_14_code 162 = .ok (.if_icmp .ge 23, 3) := by decide +kernel
theorem d_M_choose_165 : decode prog_8_method_14_code 165 = .ok (.aload_n 0, 1) := by decide +kernel
theorem d_M_choose_166 : decode prog_8_method_14_code 166 = .ok (.getfield 39, 3) := by decide +kernel
theorem d_M_choose_169 : decode prog_8_method_14_code 169 = .ok (.iload 8, 2) := by decide +kernel
theorem d_M_choose_171 : decode prog_8_method_14_code 171 = .ok (.aload_n 0, 1) := by decide +kernel
theorem d_M_choose_172 : decode prog_8_method_14_code 172 = .ok (.getfield 36, 3) := by decide +kernel
theorem d_M_choose_175 : decode prog_8_method_14_code 175 = .ok (.iload 8, 2) := by decide +kernel
theorem d_M_choose_177 : decode prog_8_method_14_code 177 = .ok (.iaload, 1) := by decide +kernel
theorem d_M_choose_178 : decode prog_8_method_14_code 178 = .ok (.iastore, 1) := by decide +kernel
theorem d_M_choose_179 : decode prog_8_method_14_code 179 = .ok (.iinc 8 1, 3) := by decide +kernel
theorem d_M_choose_182 : decode prog_8_method_14_code 182 = .ok (.goto (-26), 3) := by decide +kernel
theorem d_M_choose_185 : decode prog_8_method_14_code 185 = .ok (.aload_n 0, 1) := by decide +kernel
theorem d_M_choose_186 : decode prog_8_method_14_code 186 = .ok (.invokevirtual 106, 3) := by decide +kernel
theorem d_M_choose_189 : decode prog_8_method_14_code 189 = .ok (.istore 4, 2) := by decide +kernel
theorem d_M_choose_191 : decode prog_8_method_14_code 191 = .ok (.goto (-158), 3) := by decide +kernel
theorem d_M_choose_194 : decode prog_8_method_14_code 194 = .ok (.return_, 1) := by decide +kernel
theorem d_M_isChoice_0 : decode prog_8_method_12_code 0 = .ok (.iconst 0, 1) := by decide +kernel
theorem d_M_isChoice_1 : decode prog_8_method_12_code 1 = .ok (.istore_n 1, 1) := by decide +kernel
theorem d_M_isChoice_2 : decode prog_8_method_12_code 2 = .ok (.iload_n 1, 1) := by decide +kernel
theorem d_M_isChoice_3 : decode prog_8_method_12_code 3 = .ok (.aload_n 0, 1) := by decide +kernel
theorem d_M_isChoice_4 : decode prog_8_method_12_code 4 = .ok (.getfield 91, 3) := by decide +kernel
theorem d_M_isChoice_7 : decode prog_8_method_12_code 7 = .ok (.if_icmp .ge 41, 3) := by decide +kernel
theorem d_M_isChoice_10 : decode prog_8_method_12_code 10 = .ok (.aload_n 0, 1) := by decide +kernel
theorem d_M_isChoice_11 : decode prog_8_method_12_code 11 = .ok (.getfield 36, 3) := by decide +kernel
theorem d_M_isChoice_14 : decode prog_8_method_12_code 14 = .ok (.iload_n 1, 1) := by decide +kernel
theorem d_M_isChoice_15 : decode prog_8_method_12_code 15 = .ok (.iaload, 1) := by decide +kernel
theorem d_M_isChoice_16 : decode prog_8_method_12_code 16 = .ok (.iconst 3, 1) := by decide +kernel
theorem d_M_isChoice_17 : decode prog_8_method_12_code 17 = .ok (.if_icmp .ge 25, 3) := by decide +kernel
theorem d_M_isChoice_20 : decode prog_8_method_12_code 20 = .ok (.aload_n 0, 1) := by decide +kernel
theorem d_M_isChoice_21 : decode prog_8_method_12_code 21 = .ok (.getfield 36, 3) := by decide +kernel
theorem d_M_isChoice_24 : decode prog_8_method_12_code 24 = .ok (.iload_n 1, 1) := by decide +kernel
theorem d_M_isChoice_25 : decode prog_8_method_12_code 25 = .ok (.iaload, 1) := by decide +kernel
theorem d_M_isChoice_26 : decode prog_8_method_12_code 26 = .ok (.aload_n 0, 1) := by decide +kernel
theorem d_M_isChoice_27 : decode prog_8_method_12_code 27 = .ok (.getfield 13, 3) := by decide +kernel
theorem d_M_isChoice_30 : decode prog_8_method_12_code 30 = .ok (.aload_n 0, 1) := by decide +kernel
theorem d_M_isChoice_31 : decode prog_8_method_12_code 31 = .ok (.getfield 33, 3) := by decide +kernel
theorem d_M_isChoice_34 : decode prog_8_method_12_code 34 = .ok (.iload_n 1, 1) := by decide +kernel
theorem d_M_isChoice_35 : decode prog_8_method_12_code 35 = .ok (.iaload, 1) := by decide +kernel
theorem d_M_isChoice_36 : decode prog_8_method_12_code 36 = .ok (.iaload, 1) := by decide +kernel
theorem d_M_isChoice_37 : decode prog_8_method_12_code 37 = .ok (.if_icmp .lt 5, 3) := by decide +kernel
theorem d_M_isChoice_40 : decode prog_8_method_12_code 40 = .ok (.iconst 0, 1) := by decide +kernel
theorem d_M_isChoice_41 : decode prog_8_method_12_code 41 = .ok (.ireturn, 1) := by decide +kernel
theorem d_M_isChoice_42 : decode prog_8_method_12_code 42 = .ok (.iinc 1 1, 3) := by decide +kernel
theorem d_M_isChoice_45 : decode prog_8_method_12_code 45 = .ok (.goto (-43), 3) := by decide +kernel
theorem d_M_isChoice_48 : decode prog_8_method_12_code 48 = .ok (.iconst 0, 1) := by decide +kernel
theorem d_M_isChoice_49 : decode prog_8_method_12_code 49 = .ok (.istore_n 1, 1) := by decide +kernel
theorem d_M_isChoice_50 : decode prog_8_method_12_code 50 = .ok (.iload_n 1, 1) := by decide +kernel
theorem d_M_isChoice_51 : decode prog_8_method_12_code 51 = .ok (.aload_n 0, 1) := by decide +kernel
theorem d_M_isChoice_52 : decode prog_8_method_12_code 52 = .ok (.getfield 91, 3) := by decide +kernel
theorem d_M_isChoice_55 : decode prog_8_method_12_code 55 = .ok (.if_icmp .ge 73, 3) := by decide +kernel
theorem d_M_isChoice_58 : decode prog_8_method_12_code 58 = .ok (.iconst 0, 1) := by decide +kernel
theorem d_M_isChoice_59 : decode prog_8_method_12_code 59 = .ok (.istore_n 2, 1) := by decide +kernel
theorem d_M_isChoice_60 : decode prog_8_method_12_code 60 = .ok (.iload_n 2, 1) := by decide +kernel
theorem d_M_isChoice_61 : decode prog_8_method_12_code 61 = .ok (.iload_n 1, 1) := by decide +kernel
theorem d_M_isChoice_62 : decode prog_8_method_12_code 62 = .ok (.if_icmp .ge 60, 3) := by decide +kernel
theorem d_M_isChoice_65 : decode prog_8_method_12_code 65 = .ok (.aload_n 0, 1) := by decide +kernel
theorem d_M_isChoice_66 : decode prog_8_method_12_code 66 = .ok (.getfield 36, 3) := by decide +kernel
theorem d_M_isChoice_69 : decode prog_8_method_12_code 69 = .ok (.iload_n 1, 1) := by decide +kernel
theorem d_M_isChoice_70 : decode prog_8_method_12_code 70 = .ok (.iaload, 1) := by decide +kernel
theorem d_M_isChoice_71 : decode prog_8_method_12_code 71 = .ok (.iconst 3, 1) := by decide +kernel
theorem d_M_isChoice_72 : decode prog_8_method_12_code 72 = .ok (.if_icmp .ge 44, 3) := by decide +kernel
theorem d_M_isChoice_75 : decode prog_8_method_12_code 75 = .ok (.aload_n 0, 1) := by decide +kernel
theorem d_M_isChoice_76 : decode prog_8_method_12_code 76 = .ok (.getfield 36, 3) := by decide +kernel
theorem d_M_isChoice_79 : decode prog_8_method_12_code 79 = .ok (.iload_n 2, 1) := by decide +kernel
theorem d_M_isChoice_80 : decode prog_8_method_12_code 80 = .ok (.iaload, 1) := by decide +kernel
theorem d_M_isChoice_81 : decode prog_8_method_12_code 81 = .ok (.iconst 3, 1) := by decide +kernel
theorem d_M_isChoice_82 : decode prog_8_method_12_code 82 = .ok (.if_icmp .ge 34, 3) := by decide +kernel
theorem d_M_isChoice_85 : decode prog_8_method_12_code 85 = .ok (.aload_n 0, 1) := by decide +kernel
theorem d_M_isChoice_86 : decode prog_8_method_12_code 86 = .ok (.aload_n 0, 1) := by decide +kernel
theorem d_M_isChoice_87 : decode prog_8_method_12_code 87 = .ok (.iload_n 1, 1) := by decide +kernel
theorem d_M_isChoice_88 : decode prog_8_method_12_code 88 = .ok (.aload_n 0, 1) := by decide +kernel
theorem d_M_isChoice_89 : decode prog_8_method_12_code 89 = .ok (.getfield 36, 3) := by decide +kernel
theorem d_M_isChoice_92 : decode prog_8_method_12_code 92 = .ok (.iload_n 1, 1) := by decide +kernel
theorem d_M_isChoice_93 : decode prog_8_method_12_code 93 = .ok (.iaload, 1) := by decide +kernel
theorem d_M_isChoice_94 : decode prog_8_method_12_code 94 = .ok (.invokevirtual 94, 3) := by decide +kernel
theorem d_M_isChoice_97 : decode prog_8_method_12_code 97 = .ok (.aload_n 0, 1) := by decide +kernel
theorem d_M_isChoice_98 : decode prog_8_method_12_code 98 = .ok (.iload_n 2, 1) := by decide +kernel
theorem d_M_isChoice_99 : decode prog_8_method_12_code 99 = .ok (.aload_n 0, 1) := by decide +kernel
theorem d_M_isChoice_100 : decode prog_8_method_12_code 100 = .ok (.getfield 36, 3) := by decide +kernel
theorem d_M_isChoice_103 : decode prog_8_method_12_code 103 = .ok (.iload_n 2, 1) := by decide +kernel
theorem d_M_isChoice_104 : decode prog_8_method_12_code 104 = .ok (.iaload, 1) := by decide +kernel
theorem d_M_isChoice_105 : decode prog_8_method_12_code 105 = .ok (.invokevirtual 94, 3) := by decide +kernel
theorem d_M_isChoice_108 : decode prog_8_method_12_code 108 = .ok (.invokevirtual 98, 3) := by decide +kernel
theorem d_M_isChoice_111 : decode prog_8_method_12_code 111 = .ok (.ifCond .ne 5, 3) := by decide +kernel
theorem d_M_isChoice_114 : decode prog_8_method_12_code 114 = .ok (.iconst 0, 1) := by decide +kernel
theorem d_M_isChoice_115 : decode prog_8_method_12_code 115 = .ok (.ireturn, 1) := by decide +kernel
theorem d_M_isChoice_116 : decode prog_8_method_12_code 116 = .ok (.iinc 2 1, 3) := by decide +kernel
theorem d_M_isChoice_119 : decode prog_8_method_12_code 119 = .ok (.goto (-59), 3) := by decide +kernel
theorem d_M_isChoice_122 : decode prog_8_method_12_code 122 = .ok (.iinc 1 1, 3) := by decide +kernel
theorem d_M_isChoice_125 : decode prog_8_method_12_code 125 = .ok (.goto (-75), 3) := by decide +kernel
theorem d_M_isChoice_128 : decode prog_8_method_12_code 128 = .ok (.iconst 1, 1) := by decide +kernel
theorem d_M_isChoice_129 : decode prog_8_method_12_code 129 = .ok (.ireturn, 1) := by decide +kernel
theorem d_M_pointAt_0 : decode prog_8_method_11_code 0 = .ok (.iload_n 2, 1) := by decide +kernel
theorem d_M_pointAt_1 : decode prog_8_method_11_code 1 = .ok (.iconst 3, 1) := by decide +kernel
theorem d_M_pointAt_2 : decode prog_8_method_11_code 2 = .ok (.if_icmp .ne 7, 3) := by decide +kernel
theorem d_M_pointAt_5 : decode prog_8_method_11_code 5 = .ok (.iconst (-1), 1) := by decide +kernel
theorem d_M_pointAt_6 : decode prog_8_method_11_code 6 = .ok (.goto 18, 3) := by decide +kernel
theorem d_M_pointAt_9 : decode prog_8_method_11_code 9 = .ok (.aload_n 0, 1) := by decide +kernel
theorem d_M_pointAt_10 : decode prog_8_method_11_code 10 = .ok (.getfield 17, 3) := by decide +kernel
theorem d_M_pointAt_13 : decode prog_8_method_11_code 13 = .ok (.iconst 3, 1) := by decide +kernel
theorem d_M_pointAt_14 : decode prog_8_method_11_code 14 = .ok (.aload_n 0, 1) := by decide +kernel
theorem d_M_pointAt_15 : decode prog_8_method_11_code 15 = .ok (.getfield 33, 3) := by decide +kernel
theorem d_M_pointAt_18 : decode prog_8_method_11_code 18 = .ok (.iload_n 1, 1) := by decide +kernel
theorem d_M_pointAt_19 : decode prog_8_method_11_code 19 = .ok (.iaload, 1) := by decide +kernel
theorem d_M_pointAt_20 : decode prog_8_method_11_code 20 = .ok (.imul, 1) := by decide +kernel
theorem d_M_pointAt_21 : decode prog_8_method_11_code 21 = .ok (.iload_n 2, 1) := by decide +kernel
theorem d_M_pointAt_22 : decode prog_8_method_11_code 22 = .ok (.iadd, 1) := by decide +kernel
theorem d_M_pointAt_23 : decode prog_8_method_11_code 23 = .ok (.iaload, 1) := by decide +kernel
theorem d_M_pointAt_24 : decode prog_8_method_11_code 24 = .ok (.ireturn, 1) := by decide +kernel
theorem d_M_areApart_0 : decode prog_8_method_10_code 0 = .ok (.aload_n 0, 1) := by decide +kernel
theorem d_M_areApart_1 : decode prog_8_method_10_code 1 = .ok (.getfield 20, 3) := by decide +kernel
theorem d_M_areApart_4 : decode prog_8_method_10_code 4 = .ok (.iload_n 1, 1) := by decide +kernel
theorem d_M_areApart_5 : decode prog_8_method_10_code 5 = .ok (.laload, 1) := by decide +kernel
theorem d_M_areApart_6 : decode prog_8_method_10_code 6 = .ok (.aload_n 0, 1) := by decide +kernel
theorem d_M_areApart_7 : decode prog_8_method_10_code 7 = .ok (.getfield 20, 3) := by decide +kernel
theorem d_M_areApart_10 : decode prog_8_method_10_code 10 = .ok (.iload_n 2, 1) := by decide +kernel
theorem d_M_areApart_11 : decode prog_8_method_10_code 11 = .ok (.laload, 1) := by decide +kernel
theorem d_M_areApart_12 : decode prog_8_method_10_code 12 = .ok (.lsub, 1) := by decide +kernel
theorem d_M_areApart_13 : decode prog_8_method_10_code 13 = .ok (.lstore_n 3, 1) := by decide +kernel
theorem d_M_areApart_14 : decode prog_8_method_10_code 14 = .ok (.aload_n 0, 1) := by decide +kernel
theorem d_M_areApart_15 : decode prog_8_method_10_code 15 = .ok (.getfield 24, 3) := by decide +kernel
theorem d_M_areApart_18 : decode prog_8_method_10_code 18 = .ok (.iload_n 1, 1) := by decide +kernel
theorem d_M_areApart_19 : decode prog_8_method_10_code 19 = .ok (.laload, 1) := by decide +kernel
theorem d_M_areApart_20 : decode prog_8_method_10_code 20 = .ok (.aload_n 0, 1) := by decide +kernel
theorem d_M_areApart_21 : decode prog_8_method_10_code 21 = .ok (.getfield 24, 3) := by decide +kernel
theorem d_M_areApart_24 : decode prog_8_method_10_code 24 = .ok (.iload_n 2, 1) := by decide +kernel
theorem d_M_areApart_25 : decode prog_8_method_10_code 25 = .ok (.laload, 1) := by decide +kernel
theorem d_M_areApart_26 : decode prog_8_method_10_code 26 = .ok (.lsub, 1) := by decide +kernel
theorem d_M_areApart_27 : decode prog_8_method_10_code 27 = .ok (.lstore 5, 2) := by decide +kernel
theorem d_M_areApart_29 : decode prog_8_method_10_code 29 = .ok (.aload_n 0, 1) := by decide +kernel
theorem d_M_areApart_30 : decode prog_8_method_10_code 30 = .ok (.getfield 84, 3) := by decide +kernel
theorem d_M_areApart_33 : decode prog_8_method_10_code 33 = .ok (.aload_n 0, 1) := by decide +kernel
theorem d_M_areApart_34 : decode prog_8_method_10_code 34 = .ok (.getfield 27, 3) := by decide +kernel
theorem d_M_areApart_37 : decode prog_8_method_10_code 37 = .ok (.iload_n 1, 1) := by decide +kernel
theorem d_M_areApart_38 : decode prog_8_method_10_code 38 = .ok (.laload, 1) := by decide +kernel
theorem d_M_areApart_39 : decode prog_8_method_10_code 39 = .ok (.ladd, 1) := by decide +kernel
theorem d_M_areApart_40 : decode prog_8_method_10_code 40 = .ok (.aload_n 0, 1) := by decide +kernel
theorem d_M_areApart_41 : decode prog_8_method_10_code 41 = .ok (.getfield 27, 3) := by decide +kernel
theorem d_M_areApart_44 : decode prog_8_method_10_code 44 = .ok (.iload_n 2, 1) := by decide +kernel
theorem d_M_areApart_45 : decode prog_8_method_10_code 45 = .ok (.laload, 1) := by decide +kernel
theorem d_M_areApart_46 : decode prog_8_method_10_code 46 = .ok (.ladd, 1) := by decide +kernel
theorem d_M_areApart_47 : decode prog_8_method_10_code 47 = .ok (.lstore 7, 2) := by decide +kernel
theorem d_M_areApart_49 : decode prog_8_method_10_code 49 = .ok (.lload_n 3, 1) := by decide +kernel
theorem d_M_areApart_50 : decode prog_8_method_10_code 50 = .ok (.lload_n 3, 1) := by decide +kernel
theorem d_M_areApart_51 : decode prog_8_method_10_code 51 = .ok (.lmul, 1) := by decide +kernel
theorem d_M_areApart_52 : decode prog_8_method_10_code 52 = .ok (.lload 5, 2) := by decide +kernel
theorem d_M_areApart_54 : decode prog_8_method_10_code 54 = .ok (.lload 5, 2) := by decide +kernel
theorem d_M_areApart_56 : decode prog_8_method_10_code 56 = .ok (.lmul, 1) := by decide +kernel
theorem d_M_areApart_57 : decode prog_8_method_10_code 57 = .ok (.ladd, 1) := by decide +kernel
theorem d_M_areApart_58 : decode prog_8_method_10_code 58 = .ok (.lload 7, 2) := by decide +kernel
theorem d_M_areApart_60 : decode prog_8_method_10_code 60 = .ok (.lload 7, 2) := by decide +kernel
theorem d_M_areApart_62 : decode prog_8_method_10_code 62 = .ok (.lmul, 1) := by decide +kernel
theorem d_M_areApart_63 : decode prog_8_method_10_code 63 = .ok (.lcmp, 1) := by decide +kernel
theorem d_M_areApart_64 : decode prog_8_method_10_code 64 = .ok (.ifCond .lt 7, 3) := by decide +kernel
theorem d_M_areApart_67 : decode prog_8_method_10_code 67 = .ok (.iconst 1, 1) := by decide +kernel
theorem d_M_areApart_68 : decode prog_8_method_10_code 68 = .ok (.goto 4, 3) := by decide +kernel
theorem d_M_areApart_71 : decode prog_8_method_10_code 71 = .ok (.iconst 0, 1) := by decide +kernel
theorem d_M_areApart_72 : decode prog_8_method_10_code 72 = .ok (.ireturn, 1) := by decide +kernel
theorem d_M_goOn_0 : decode prog_8_method_13_code 0 = .ok (.aload_n 0, 1) := by decide +kernel
theorem d_M_goOn_1 : decode prog_8_method_13_code 1 = .ok (.getfield 91, 3) := by decide +kernel
theorem d_M_goOn_4 : decode prog_8_method_13_code 4 = .ok (.iconst 1, 1) := by decide +kernel
theorem d_M_goOn_5 : decode prog_8_method_13_code 5 = .ok (.isub, 1) := by decide +kernel
theorem d_M_goOn_6 : decode prog_8_method_13_code 6 = .ok (.istore_n 1, 1) := by decide +kernel
theorem d_M_goOn_7 : decode prog_8_method_13_code 7 = .ok (.iload_n 1, 1) := by decide +kernel
theorem d_M_goOn_8 : decode prog_8_method_13_code 8 = .ok (.ifCond .lt 38, 3) := by decide +kernel
theorem d_M_goOn_11 : decode prog_8_method_13_code 11 = .ok (.aload_n 0, 1) := by decide +kernel
theorem d_M_goOn_12 : decode prog_8_method_13_code 12 = .ok (.getfield 36, 3) := by decide +kernel
theorem d_M_goOn_15 : decode prog_8_method_13_code 15 = .ok (.iload_n 1, 1) := by decide +kernel
theorem d_M_goOn_16 : decode prog_8_method_13_code 16 = .ok (.dup2, 1) := by decide +kernel
theorem d_M_goOn_17 : decode prog_8_method_13_code 17 = .ok (.iaload, 1) := by decide +kernel
theorem d_M_goOn_18 : decode prog_8_method_13_code 18 = .ok (.iconst 1, 1) := by decide +kernel
theorem d_M_goOn_19 : decode prog_8_method_13_code 19 = .ok (.iadd, 1) := by decide +kernel
theorem d_M_goOn_20 : decode prog_8_method_13_code 20 = .ok (.iastore, 1) := by decide +kernel
theorem d_M_goOn_21 : decode prog_8_method_13_code 21 = .ok (.aload_n 0, 1) := by decide +kernel
theorem d_M_goOn_22 : decode prog_8_method_13_code 22 = .ok (.getfield 36, 3) := by decide +kernel
theorem d_M_goOn_25 : decode prog_8_method_13_code 25 = .ok (.iload_n 1, 1) := by decide +kernel
theorem d_M_goOn_26 : decode prog_8_method_13_code 26 = .ok (.iaload, 1) := by decide +kernel
theorem d_M_goOn_27 : decode prog_8_method_13_code 27 = .ok (.iconst 4, 1) := by decide +kernel
theorem d_M_goOn_28 : decode prog_8_method_13_code 28 = .ok (.if_icmp .ge 5, 3) := by decide +kernel
theorem d_M_goOn_31 : decode prog_8_method_13_code 31 = .ok (.iconst 1, 1) := by decide +kernel
theorem d_M_goOn_32 : decode prog_8_method_13_code 32 = .ok (.ireturn, 1) := by decide +kernel
theorem d_M_goOn_33 : decode prog_8_method_13_code 33 = .ok (.aload_n 0, 1) := by decide +kernel
theorem d_M_goOn_34 : decode prog_8_method_13_code 34 = .ok (.getfield 36, 3) := by decide +kernel
theorem d_M_goOn_37 : decode prog_8_method_13_code 37 = .ok (.iload_n 1, 1) := by decide +kernel
theorem d_M_goOn_38 : decode prog_8_method_13_code 38 = .ok (.iconst 0, 1) := by decide +kernel
theorem d_M_goOn_39 : decode prog_8_method_13_code 39 = .ok (.iastore, 1) := by decide +kernel
theorem d_M_goOn_40 : decode prog_8_method_13_code 40 = .ok (.iinc 1 (-1), 3) := by decide +kernel
theorem d_M_goOn_43 : decode prog_8_method_13_code 43 = .ok (.goto (-36), 3) := by decide +kernel
theorem d_M_goOn_46 : decode prog_8_method_13_code 46 = .ok (.iconst 0, 1) := by decide +kernel
theorem d_M_goOn_47 : decode prog_8_method_13_code 47 = .ok (.ireturn, 1) := by decide +kernel
theorem d_M_probe_0 : decode prog_8_method_16_code 0 = .ok (.aload_n 0, 1) := by decide +kernel
theorem d_M_probe_1 : decode prog_8_method_16_code 1 = .ok (.iconst 0, 1) := by decide +kernel
theorem d_M_probe_2 : decode prog_8_method_16_code 2 = .ok (.putfield 60, 3) := by decide +kernel
theorem d_M_probe_5 : decode prog_8_method_16_code 5 = .ok (.iload_n 1, 1) := by decide +kernel
theorem d_M_probe_6 : decode prog_8_method_16_code 6 = .ok (.ifCond .lt 20, 3) := by decide +kernel
theorem d_M_probe_9 : decode prog_8_method_16_code 9 = .ok (.iload_n 1, 1) := by decide +kernel
theorem d_M_probe_10 : decode prog_8_method_16_code 10 = .ok (.aload_n 0, 1) := by decide +kernel
theorem d_M_probe_11 : decode prog_8_method_16_code 11 = .ok (.getfield 121, 3) := by decide +kernel
theorem d_M_probe_14 : decode prog_8_method_16_code 14 = .ok (.if_icmp .ge 12, 3) := by decide +kernel
theorem d_M_probe_17 : decode prog_8_method_16_code 17 = .ok (.aload_n 0, 1) := by decide +kernel
theorem d_M_probe_18 : decode prog_8_method_16_code 18 = .ok (.getfield 42, 3) := by decide +kernel
theorem d_M_probe_21 : decode prog_8_method_16_code 21 = .ok (.iload_n 1, 1) := by decide +kernel
theorem d_M_probe_22 : decode prog_8_method_16_code 22 = .ok (.iaload, 1) := by decide +kernel
theorem d_M_probe_23 : decode prog_8_method_16_code 23 = .ok (.goto 4, 3) := by decide +kernel
theorem d_M_probe_26 : decode prog_8_method_16_code 26 = .ok (.iconst (-1), 1) := by decide +kernel
theorem d_M_probe_27 : decode prog_8_method_16_code 27 = .ok (.ireturn, 1) := by decide +kernel
theorem d_M_proved_0 : decode prog_8_method_17_code 0 = .ok (.aload_n 0, 1) := by decide +kernel
theorem d_M_proved_1 : decode prog_8_method_17_code 1 = .ok (.iconst 0, 1) := by decide +kernel
theorem d_M_proved_2 : decode prog_8_method_17_code 2 = .ok (.putfield 60, 3) := by decide +kernel
theorem d_M_proved_5 : decode prog_8_method_17_code 5 = .ok (.aload_n 0, 1) := by decide +kernel
theorem d_M_proved_6 : decode prog_8_method_17_code 6 = .ok (.getfield 111, 3) := by decide +kernel
theorem d_M_proved_9 : decode prog_8_method_17_code 9 = .ok (.ifCond .eq 14, 3) := by decide +kernel
theorem d_M_proved_12 : decode prog_8_method_17_code 12 = .ok (.aload_n 0, 1) := by decide +kernel
theorem d_M_proved_13 : decode prog_8_method_17_code 13 = .ok (.getfield 115, 3) := by decide +kernel
theorem d_M_proved_16 : decode prog_8_method_17_code 16 = .ok (.ifCond .eq 7, 3) := by decide +kernel
theorem d_M_proved_19 : decode prog_8_method_17_code 19 = .ok (.iconst 1, 1) := by decide +kernel
theorem d_M_proved_20 : decode prog_8_method_17_code 20 = .ok (.goto 4, 3) := by decide +kernel
theorem d_M_proved_23 : decode prog_8_method_17_code 23 = .ok (.iconst 0, 1) := by decide +kernel
theorem d_M_proved_24 : decode prog_8_method_17_code 24 = .ok (.ireturn, 1) := by decide +kernel
theorem d_M_out_0 : decode prog_8_method_18_code 0 = .ok (.aload_n 0, 1) := by decide +kernel
theorem d_M_out_1 : decode prog_8_method_18_code 1 = .ok (.iconst 0, 1) := by decide +kernel
theorem d_M_out_2 : decode prog_8_method_18_code 2 = .ok (.putfield 60, 3) := by decide +kernel
theorem d_M_out_5 : decode prog_8_method_18_code 5 = .ok (.iload_n 1, 1) := by decide +kernel
theorem d_M_out_6 : decode prog_8_method_18_code 6 = .ok (.istore_n 2, 1) := by decide +kernel
theorem d_M_out_7 : decode prog_8_method_18_code 7 = .ok (.iconst 0, 1) := by decide +kernel
theorem d_M_out_8 : decode prog_8_method_18_code 8 = .ok (.istore_n 3, 1) := by decide +kernel
theorem d_M_out_9 : decode prog_8_method_18_code 9 = .ok (.iload_n 3, 1) := by decide +kernel
theorem d_M_out_10 : decode prog_8_method_18_code 10 = .ok (.aload_n 0, 1) := by decide +kernel
theorem d_M_out_11 : decode prog_8_method_18_code 11 = .ok (.getfield 91, 3) := by decide +kernel
theorem d_M_out_14 : decode prog_8_method_18_code 14 = .ok (.if_icmp .ge 40, 3) := by decide +kernel
theorem d_M_out_17 : decode prog_8_method_18_code 17 = .ok (.iload_n 1, 1) := by decide +kernel
theorem d_M_out_18 : decode prog_8_method_18_code 18 = .ok (.ifCond .lt 36, 3) := by decide +kernel
theorem d_M_out_21 : decode prog_8_method_18_code 21 = .ok (.aload_n 0, 1) := by decide +kernel
theorem d_M_out_22 : decode prog_8_method_18_code 22 = .ok (.getfield 39, 3) := by decide +kernel
theorem d_M_out_25 : decode prog_8_method_18_code 25 = .ok (.iload_n 3, 1) := by decide +kernel
theorem d_M_out_26 : decode prog_8_method_18_code 26 = .ok (.iaload, 1) := by decide +kernel
theorem d_M_out_27 : decode prog_8_method_18_code 27 = .ok (.iconst 3, 1) := by decide +kernel
theorem d_M_out_28 : decode prog_8_method_18_code 28 = .ok (.if_icmp .ge 6, 3) := by decide +kernel
theorem d_M_out_31 : decode prog_8_method_18_code 31 = .ok (.goto 17, 3) := by decide +kernel
theorem d_M_out_34 : decode prog_8_method_18_code 34 = .ok (.iload_n 2, 1) := by decide +kernel
theorem d_M_out_35 : decode prog_8_method_18_code 35 = .ok (.ifCond .ne 10, 3) := by decide +kernel
theorem d_M_out_38 : decode prog_8_method_18_code 38 = .ok (.aload_n 0, 1) := by decide +kernel
theorem d_M_out_39 : decode prog_8_method_18_code 39 = .ok (.getfield 33, 3) := by decide +kernel
theorem d_M_out_42 : decode prog_8_method_18_code 42 = .ok (.iload_n 3, 1) := by decide +kernel
theorem d_M_out_43 : decode prog_8_method_18_code 43 = .ok (.iaload, 1) := by decide +kernel
theorem d_M_out_44 : decode prog_8_method_18_code 44 = .ok (.ireturn, 1) := by decide +kernel
theorem d_M_out_45 : decode prog_8_method_18_code 45 = .ok (.iinc 2 (-1), 3) := by decide +kernel
theorem d_M_out_48 : decode prog_8_method_18_code 48 = .ok (.iinc 3 1, 3) := by decide +kernel
theorem d_M_out_51 : decode prog_8_method_18_code 51 = .ok (.goto (-42), 3) := by decide +kernel
theorem d_M_out_54 : decode prog_8_method_18_code 54 = .ok (.iconst (-1), 1) := by decide +kernel
theorem d_M_out_55 : decode prog_8_method_18_code 55 = .ok (.ireturn, 1) := by decide +kernel
theorem d_M_forces_0 : decode prog_8_method_19_code 0 = .ok (.aload_n 0, 1) := by decide +kernel
theorem d_M_forces_1 : decode prog_8_method_19_code 1 = .ok (.iconst 0, 1) := by decide +kernel
theorem d_M_forces_2 : decode prog_8_method_19_code 2 = .ok (.putfield 60, 3) := by decide +kernel
theorem d_M_forces_5 : decode prog_8_method_19_code 5 = .ok (.lconst 0, 1) := by decide +kernel
theorem d_M_forces_6 : decode prog_8_method_19_code 6 = .ok (.lstore_n 1, 1) := by decide +kernel
theorem d_M_forces_7 : decode prog_8_method_19_code 7 = .ok (.iconst 0, 1) := by decide +kernel
theorem d_M_forces_8 : decode prog_8_method_19_code 8 = .ok (.istore_n 3, 1) := by decide +kernel
theorem d_M_forces_9 : decode prog_8_method_19_code 9 = .ok (.iload_n 3, 1) := by decide +kernel
theorem d_M_forces_10 : decode prog_8_method_19_code 10 = .ok (.aload_n 0, 1) := by decide +kernel
theorem d_M_forces_11 : decode prog_8_method_19_code 11 = .ok (.getfield 121, 3) := by decide +kernel
theorem d_M_forces_14 : decode prog_8_method_19_code 14 = .ok (.if_icmp .ge 23, 3) := by decide +kernel
theorem d_M_forces_17 : decode prog_8_method_19_code 17 = .ok (.lload_n 1, 1) := by decide +kernel
theorem d_M_forces_18 : decode prog_8_method_19_code 18 = .ok (.aload_n 0, 1) := by decide +kernel
theorem d_M_forces_19 : decode prog_8_method_19_code 19 = .ok (.getfield 30, 3) := by decide +kernel
theorem d_M_forces_22 : decode prog_8_method_19_code 22 = .ok (.aload_n 0, 1) := by decide +kernel
theorem d_M_forces_23 : decode prog_8_method_19_code 23 = .ok (.getfield 42, 3) := by decide +kernel
theorem d_M_forces_26 : decode prog_8_method_19_code 26 = .ok (.iload_n 3, 1) := by decide +kernel
theorem d_M_forces_27 : decode prog_8_method_19_code 27 = .ok (.iaload, 1) := by decide +kernel
theorem d_M_forces_28 : decode prog_8_method_19_code 28 = .ok (.laload, 1) := by decide +kernel
theorem d_M_forces_29 : decode prog_8_method_19_code 29 = .ok (.ladd, 1) := by decide +kernel
theorem d_M_forces_30 : decode prog_8_method_19_code 30 = .ok (.lstore_n 1, 1) := by decide +kernel
theorem d_M_forces_31 : decode prog_8_method_19_code 31 = .ok (.iinc 3 1, 3) := by decide +kernel
theorem d_M_forces_34 : decode prog_8_method_19_code 34 = .ok (.goto (-25), 3) := by decide +kernel
theorem d_M_forces_37 : decode prog_8_method_19_code 37 = .ok (.lload_n 1, 1) := by decide +kernel
theorem d_M_forces_38 : decode prog_8_method_19_code 38 = .ok (.lreturn, 1) := by decide +kernel
theorem d_M_part_0 : decode prog_8_method_20_code 0 = .ok (.lload_n 3, 1) := by decide +kernel
theorem d_M_part_1 : decode prog_8_method_20_code 1 = .ok (.lconst 1, 1) := by decide +kernel
theorem d_M_part_2 : decode prog_8_method_20_code 2 = .ok (.lcmp, 1) := by decide +kernel
theorem d_M_part_3 : decode prog_8_method_20_code 3 = .ok (.ifCond .lt 23, 3) := by decide +kernel
theorem d_M_part_6 : decode prog_8_method_20_code 6 = .ok (.lload_n 3, 1) := by decide +kernel
theorem d_M_part_7 : decode prog_8_method_20_code 7 = .ok (.lload 5, 2) := by decide +kernel
theorem d_M_part_9 : decode prog_8_method_20_code 9 = .ok (.lcmp, 1) := by decide +kernel
theorem d_M_part_10 : decode prog_8_method_20_code 10 = .ok (.ifCond .gt 16, 3) := by decide +kernel
theorem d_M_part_13 : decode prog_8_method_20_code 13 = .ok (.lload 5, 2) := by decide +kernel
theorem d_M_part_15 : decode prog_8_method_20_code 15 = .ok (.ldc2_w 124, 3) := by decide +kernel
theorem d_M_part_18 : decode prog_8_method_20_code 18 = .ok (.lcmp, 1) := by decide +kernel
theorem d_M_part_19 : decode prog_8_method_20_code 19 = .ok (.ifCond .gt 7, 3) := by decide +kernel
theorem d_M_part_22 : decode prog_8_method_20_code 22 = .ok (.iconst 1, 1) := by decide +kernel
theorem d_M_part_23 : decode prog_8_method_20_code 23 = .ok (.goto 4, 3) := by decide +kernel
theorem d_M_part_26 : decode prog_8_method_20_code 26 = .ok (.iconst 0, 1) := by decide +kernel
theorem d_M_part_27 : decode prog_8_method_20_code 27 = .ok (.istore 7, 2) := by decide +kernel
theorem d_M_part_29 : decode prog_8_method_20_code 29 = .ok (.aload_n 0, 1) := by decide +kernel
theorem d_M_part_30 : decode prog_8_method_20_code 30 = .ok (.aload_n 0, 1) := by decide +kernel
theorem d_M_part_31 : decode prog_8_method_20_code 31 = .ok (.iload_n 1, 1) := by decide +kernel
theorem d_M_part_32 : decode prog_8_method_20_code 32 = .ok (.invokevirtual 80, 3) := by decide +kernel
theorem d_M_part_35 : decode prog_8_method_20_code 35 = .ok (.ifCond .eq 11, 3) := by decide +kernel
theorem d_M_part_38 : decode prog_8_method_20_code 38 = .ok (.aload_n 0, 1) := by decide +kernel
theorem d_M_part_39 : decode prog_8_method_20_code 39 = .ok (.iload_n 2, 1) := by decide +kernel
theorem d_M_part_40 : decode prog_8_method_20_code 40 = .ok (.invokevirtual 80, 3) := by decide +kernel
theorem d_M_part_43 : decode prog_8_method_20_code 43 = .ok (.ifCond .ne 7, 3) := by decide +kernel
theorem d_M_part_46 : decode prog_8_method_20_code 46 = .ok (.iconst 1, 1) := by decide +kernel
theorem d_M_part_47 : decode prog_8_method_20_code 47 = .ok (.goto 13, 3) := by decide +kernel
theorem d_M_part_50 : decode prog_8_method_20_code 50 = .ok (.iload 7, 2) := by decide +kernel
theorem d_M_part_52 : decode prog_8_method_20_code 52 = .ok (.ifCond .eq 7, 3) := by decide +kernel
theorem d_M_part_55 : decode prog_8_method_20_code 55 = .ok (.iconst 0, 1) := by decide +kernel
theorem d_M_part_56 : decode prog_8_method_20_code 56 = .ok (.goto 4, 3) := by decide +kernel
theorem d_M_part_59 : decode prog_8_method_20_code 59 = .ok (.iconst 2, 1) := by decide +kernel
theorem d_M_part_60 : decode prog_8_method_20_code 60 = .ok (.putfield 60, 3) := by decide +kernel
theorem d_M_part_63 : decode prog_8_method_20_code 63 = .ok (.aload_n 0, 1) := by decide +kernel
theorem d_M_part_64 : decode prog_8_method_20_code 64 = .ok (.getfield 60, 3) := by decide +kernel
theorem d_M_part_67 : decode prog_8_method_20_code 67 = .ok (.ifCond .ne 8, 3) := by decide +kernel
theorem d_M_part_70 : decode prog_8_method_20_code 70 = .ok (.iload_n 1, 1) := by decide +kernel
theorem d_M_part_71 : decode prog_8_method_20_code 71 = .ok (.iload_n 2, 1) := by decide +kernel
theorem d_M_part_72 : decode prog_8_method_20_code 72 = .ok (.if_icmp .ne 5, 3) := by decide +kernel
theorem d_M_part_75 : decode prog_8_method_20_code 75 = .ok (.iconst 0, 1) := by decide +kernel
theorem d_M_part_76 : decode prog_8_method_20_code 76 = .ok (.ireturn, 1) := by decide +kernel
theorem d_M_part_77 : decode prog_8_method_20_code 77 = .ok (.iload_n 1, 1) := by decide +kernel
theorem d_M_part_78 : decode prog_8_method_20_code 78 = .ok (.iload_n 2, 1) := by decide +kernel
theorem d_M_part_79 : decode prog_8_method_20_code 79 = .ok (.invokestatic 126, 3) := by decide +kernel
theorem d_M_part_82 : decode prog_8_method_20_code 82 = .ok (.istore 8, 2) := by decide +kernel
theorem d_M_part_84 : decode prog_8_method_20_code 84 = .ok (.aload_n 0, 1) := by decide +kernel
theorem d_M_part_85 : decode prog_8_method_20_code 85 = .ok (.getfield 45, 3) := by decide +kernel
theorem d_M_part_88 : decode prog_8_method_20_code 88 = .ok (.iload 8, 2) := by decide +kernel
theorem d_M_part_90 : decode prog_8_method_20_code 90 = .ok (.iaload, 1) := by decide +kernel
theorem d_M_part_91 : decode prog_8_method_20_code 91 = .ok (.iconst 4, 1) := by decide +kernel
theorem d_M_part_92 : decode prog_8_method_20_code 92 = .ok (.if_icmp .ne 5, 3) := by decide +kernel
theorem d_M_part_95 : decode prog_8_method_20_code 95 = .ok (.iconst 0, 1) := by decide +kernel
theorem d_M_part_96 : decode prog_8_method_20_code 96 = .ok (.ireturn, 1) := by decide +kernel
theorem d_M_part_97 : decode prog_8_method_20_code 97 = .ok (.aload_n 0, 1) := by decide +kernel
theorem d_M_part_98 : decode prog_8_method_20_code 98 = .ok (.getfield 48, 3) := by decide +kernel
theorem d_M_part_101 : decode prog_8_method_20_code 101 = .ok (.bipush 8, 2) := by decide +kernel
theorem d_M_part_103 : decode prog_8_method_20_code 103 = .ok (.iload 8, 2) := by decide +kernel
theorem d_M_part_105 : decode prog_8_method_20_code 105 = .ok (.imul, 1) := by decide +kernel
theorem d_M_part_106 : decode prog_8_method_20_code 106 = .ok (.iconst 2, 1) := by decide +kernel
theorem d_M_part_107 : decode prog_8_method_20_code 107 = .ok (.aload_n 0, 1) := by decide +kernel
theorem d_M_part_108 : decode prog_8_method_20_code 108 = .ok (.getfield 45, 3) := by decide +kernel
theorem d_M_part_111 : decode prog_8_method_20_code 111 = .ok (.iload 8, 2) := by decide +kernel
theorem d_M_part_113 : decode prog_8_method_20_code 113 = .ok (.iaload, 1) := by decide +kernel
theorem d_M_part_114 : decode prog_8_method_20_code 114 = .ok (.imul, 1) := by decide +kernel
theorem d_M_part_115 : decode prog_8_method_20_code 115 = .ok (.iadd, 1) := by decide +kernel
theorem d_M_part_116 : decode prog_8_method_20_code 116 = .ok (.lload_n 3, 1) := by decide +kernel
theorem d_M_part_117 : decode prog_8_method_20_code 117 = .ok (.lastore, 1) := by decide +kernel
theorem d_M_part_118 : decode prog_8_method_20_code 118 = .ok (.aload_n 0, 1) := by decide +kernel
theorem d_M_part_119 : decode prog_8_method_20_code 119 = .ok (.getfield 48, 3) := by decide +kernel
theorem d_M_part_122 : decode prog_8_method_20_code 122 = .ok (.bipush 8, 2) := by decide +kernel
theorem d_M_part_124 : decode prog_8_method_20_code 124 = .ok (.iload 8, 2) := by decide +kernel
theorem d_M_part_126 : decode prog_8_method_20_code 126 = .ok (.imul, 1) := by decide +kernel
theorem d_M_part_127 : decode prog_8_method_20_code 127 = .ok (.iconst 2, 1) := by decide +kernel
theorem d_M_part_128 : decode prog_8_method_20_code 128 = .ok (.aload_n 0, 1) := by decide +kernel
theorem d_M_part_129 : decode prog_8_method_20_code 129 = .ok (.getfield 45, 3) := by decide +kernel
theorem d_M_part_132 : decode prog_8_method_20_code 132 = .ok (.iload 8, 2) := by decide +kernel
theorem d_M_part_134 : decode prog_8_method_20_code 134 = .ok (.iaload, 1) := by decide +kernel
theorem d_M_part_135 : decode prog_8_method_20_code 135 = .ok (.imul, 1) := by decide +kernel
theorem d_M_part_136 : decode prog_8_method_20_code 136 = .ok (.iadd, 1) := by decide +kernel
theorem d_M_part_137 : decode prog_8_method_20_code 137 = .ok (.iconst 1, 1) := by decide +kernel
theorem d_M_part_138 : decode prog_8_method_20_code 138 = .ok (.iadd, 1) := by decide +kernel
theorem d_M_part_139 : decode prog_8_method_20_code 139 = .ok (.lload 5, 2) := by decide +kernel
theorem d_M_part_141 : decode prog_8_method_20_code 141 = .ok (.lastore, 1) := by decide +kernel
theorem d_M_part_142 : decode prog_8_method_20_code 142 = .ok (.aload_n 0, 1) := by decide +kernel
theorem d_M_part_143 : decode prog_8_method_20_code 143 = .ok (.getfield 45, 3) := by decide +kernel
theorem d_M_part_146 : decode prog_8_method_20_code 146 = .ok (.iload 8, 2) := by decide +kernel
theorem d_M_part_148 : decode prog_8_method_20_code 148 = .ok (.dup2, 1) := by decide +kernel
theorem d_M_part_149 : decode prog_8_method_20_code 149 = .ok (.iaload, 1) := by decide +kernel
theorem d_M_part_150 : decode prog_8_method_20_code 150 = .ok (.iconst 1, 1) := by decide +kernel
theorem d_M_part_151 : decode prog_8_method_20_code 151 = .ok (.iadd, 1) := by decide +kernel
theorem d_M_part_152 : decode prog_8_method_20_code 152 = .ok (.iastore, 1) := by decide +kernel
theorem d_M_part_153 : decode prog_8_method_20_code 153 = .ok (.iconst 1, 1) := by decide +kernel
theorem d_M_part_154 : decode prog_8_method_20_code 154 = .ok (.ireturn, 1) := by decide +kernel
theorem d_M_pairOf_0 : decode prog_8_method_21_code 0 = .ok (.iload_n 0, 1) := by decide +kernel
theorem d_M_pairOf_1 : decode prog_8_method_21_code 1 = .ok (.iload_n 1, 1) := by decide +kernel
theorem d_M_pairOf_2 : decode prog_8_method_21_code 2 = .ok (.if_icmp .ge 12, 3) := by decide +kernel
theorem d_M_pairOf_5 : decode prog_8_method_21_code 5 = .ok (.bipush 12, 2) := by decide +kernel
theorem d_M_pairOf_7 : decode prog_8_method_21_code 7 = .ok (.iload_n 0, 1) := by decide +kernel
theorem d_M_pairOf_8 : decode prog_8_method_21_code 8 = .ok (.imul, 1) := by decide +kernel
theorem d_M_pairOf_9 : decode prog_8_method_21_code 9 = .ok (.iload_n 1, 1) := by decide +kernel
theorem d_M_pairOf_10 : decode prog_8_method_21_code 10 = .ok (.iadd, 1) := by decide +kernel
theorem d_M_pairOf_11 : decode prog_8_method_21_code 11 = .ok (.goto 9, 3) := by decide +kernel
theorem d_M_pairOf_14 : decode prog_8_method_21_code 14 = .ok (.bipush 12, 2) := by decide +kernel
theorem d_M_pairOf_16 : decode prog_8_method_21_code 16 = .ok (.iload_n 1, 1) := by decide +kernel
theorem d_M_pairOf_17 : decode prog_8_method_21_code 17 = .ok (.imul, 1) := by decide +kernel
theorem d_M_pairOf_18 : decode prog_8_method_21_code 18 = .ok (.iload_n 0, 1) := by decide +kernel
theorem d_M_pairOf_19 : decode prog_8_method_21_code 19 = .ok (.iadd, 1) := by decide +kernel
theorem d_M_pairOf_20 : decode prog_8_method_21_code 20 = .ok (.ireturn, 1) := by decide +kernel
theorem d_M_span_0 : decode prog_8_method_22_code 0 = .ok (.aload_n 0, 1) := by decide +kernel
theorem d_M_span_1 : decode prog_8_method_22_code 1 = .ok (.iload_n 1, 1) := by decide +kernel
theorem d_M_span_2 : decode prog_8_method_22_code 2 = .ok (.invokevirtual 80, 3) := by decide +kernel
theorem d_M_span_5 : decode prog_8_method_22_code 5 = .ok (.ifCond .eq 35, 3) := by decide +kernel
theorem d_M_span_8 : decode prog_8_method_22_code 8 = .ok (.aload_n 0, 1) := by decide +kernel
theorem d_M_span_9 : decode prog_8_method_22_code 9 = .ok (.iload_n 2, 1) := by decide +kernel
theorem d_M_span_10 : decode prog_8_method_22_code 10 = .ok (.invokevirtual 80, 3) := by decide +kernel
theorem d_M_span_13 : decode prog_8_method_22_code 13 = .ok (.ifCond .eq 27, 3) := by decide +kernel
theorem d_M_span_16 : decode prog_8_method_22_code 16 = .ok (.iload_n 3, 1) := by decide +kernel
theorem d_M_span_17 : decode prog_8_method_22_code 17 = .ok (.ifCond .lt 23, 3) := by decide +kernel
theorem d_M_span_20 : decode prog_8_method_22_code 20 = .ok (.iload_n 3, 1) := by decide +kernel
theorem d_M_span_21 : decode prog_8_method_22_code 21 = .ok (.iconst 2, 1) := by decide +kernel
theorem d_M_span_22 : decode prog_8_method_22_code 22 = .ok (.if_icmp .ge 18, 3) := by decide +kernel
theorem d_M_span_25 : decode prog_8_method_22_code 25 = .ok (.iload 4, 2) := by decide +kernel
theorem d_M_span_27 : decode prog_8_method_22_code 27 = .ok (.ifCond .lt 13, 3) := by decide +kernel
theorem d_M_span_30 : decode prog_8_method_22_code 30 = .ok (.iload 4, 2) := by decide +kernel
theorem d_M_span_32 : decode prog_8_method_22_code 32 = .ok (.iconst 2, 1) := by decide +kernel
theorem d_M_span_33 : decode prog_8_method_22_code 33 = .ok (.if_icmp .ge 7, 3) := by decide +kernel
theorem d_M_span_36 : decode prog_8_method_22_code 36 = .ok (.iconst 1, 1) := by decide +kernel
theorem d_M_span_37 : decode prog_8_method_22_code 37 = .ok (.goto 4, 3) := by decide +kernel
theorem d_M_span_40 : decode prog_8_method_22_code 40 = .ok (.iconst 0, 1) := by decide +kernel
theorem d_M_span_41 : decode prog_8_method_22_code 41 = .ok (.istore 5, 2) := by decide +kernel
theorem d_M_span_43 : decode prog_8_method_22_code 43 = .ok (.aload_n 0, 1) := by decide +kernel
theorem d_M_span_44 : decode prog_8_method_22_code 44 = .ok (.iload 5, 2) := by decide +kernel
theorem d_M_span_46 : decode prog_8_method_22_code 46 = .ok (.ifCond .ne 7, 3) := by decide +kernel
theorem d_M_span_49 : decode prog_8_method_22_code 49 = .ok (.iconst 1, 1) := by decide +kernel
theorem d_M_span_50 : decode prog_8_method_22_code 50 = .ok (.goto 26, 3) := by decide +kernel
theorem d_M_span_53 : decode prog_8_method_22_code 53 = .ok (.iload_n 1, 1) := by decide +kernel
theorem d_M_span_54 : decode prog_8_method_22_code 54 = .ok (.iload_n 2, 1) := by decide +kernel
theorem d_M_span_55 : decode prog_8_method_22_code 55 = .ok (.if_icmp .eq 16, 3) := by decide +kernel
theorem d_M_span_58 : decode prog_8_method_22_code 58 = .ok (.aload_n 0, 1) := by decide +kernel
theorem d_M_span_59 : decode prog_8_method_22_code 59 = .ok (.getfield 45, 3) := by decide +kernel
theorem d_M_span_62 : decode prog_8_method_22_code 62 = .ok (.iload_n 1, 1) := by decide +kernel
theorem d_M_span_63 : decode prog_8_method_22_code 63 = .ok (.iload_n 2, 1) := by decide +kernel
theorem d_M_span_64 : decode prog_8_method_22_code 64 = .ok (.invokestatic 126, 3) := by decide +kernel
theorem d_M_span_67 : decode prog_8_method_22_code 67 = .ok (.iaload, 1) := by decide +kernel
theorem d_M_span_68 : decode prog_8_method_22_code 68 = .ok (.ifCond .ne 7, 3) := by decide +kernel
theorem d_M_span_71 : decode prog_8_method_22_code 71 = .ok (.iconst 2, 1) := by decide +kernel
theorem d_M_span_72 : decode prog_8_method_22_code 72 = .ok (.goto 4, 3) := by decide +kernel
theorem d_M_span_75 : decode prog_8_method_22_code 75 = .ok (.iconst 0, 1) := by decide +kernel
theorem d_M_span_76 : decode prog_8_method_22_code 76 = .ok (.putfield 60, 3) := by decide +kernel
theorem d_M_span_79 : decode prog_8_method_22_code 79 = .ok (.aload_n 0, 1) := by decide +kernel
theorem d_M_span_80 : decode prog_8_method_22_code 80 = .ok (.getfield 60, 3) := by decide +kernel
theorem d_M_span_83 : decode prog_8_method_22_code 83 = .ok (.ifCond .eq 5, 3) := by decide +kernel
theorem d_M_span_86 : decode prog_8_method_22_code 86 = .ok (.lconst 0, 1) := by decide +kernel
theorem d_M_span_87 : decode prog_8_method_22_code 87 = .ok (.lreturn, 1) := by decide +kernel
theorem d_M_span_88 : decode prog_8_method_22_code 88 = .ok (.iload_n 1, 1) := by decide +kernel
theorem d_M_span_89 : decode prog_8_method_22_code 89 = .ok (.iload_n 2, 1) := by decide +kernel
theorem d_M_span_90 : decode prog_8_method_22_code 90 = .ok (.invokestatic 126, 3) := by decide +kernel
theorem d_M_span_93 : decode prog_8_method_22_code 93 = .ok (.istore 6, 2) := by decide +kernel
theorem d_M_span_95 : decode prog_8_method_22_code 95 = .ok (.lconst 0, 1) := by decide +kernel
theorem d_M_span_96 : decode prog_8_method_22_code 96 = .ok (.lstore 7, 2) := by decide +kernel
theorem d_M_span_98 : decode prog_8_method_22_code 98 = .ok (.lconst 1, 1) := by decide +kernel
theorem d_M_span_99 : decode prog_8_method_22_code 99 = .ok (.lstore 9, 2) := by decide +kernel
theorem d_M_span_101 : decode prog_8_method_22_code 101 = .ok (.iconst 0, 1) := by decide +kernel
theorem d_M_span_102 : decode prog_8_method_22_code 102 = .ok (.istore 11, 2) := by decide +kernel
theorem d_M_span_104 : decode prog_8_method_22_code 104 = .ok (.iload 11, 2) := by decide +kernel
theorem d_M_span_106 : decode prog_8_method_22_code 106 = .ok (.aload_n 0, 1) := by decide +kernel
theorem d_M_span_107 : decode prog_8_method_22_code 107 = .ok (.getfield 45, 3) := by decide +kernel
theorem d_M_span_110 : decode prog_8_method_22_code 110 = .ok (.iload 6, 2) := by decide +kernel
theorem d_M_span_112 : decode prog_8_method_22_code 112 = .ok (.iaload, 1) := by decide +kernel
theorem d_M_span_113 : decode prog_8_method_22_code 113 = .ok (.if_icmp .ge 45, 3) := by decide +kernel
theorem d_M_span_116 : decode prog_8_method_22_code 116 = .ok (.aload_n 0, 1) := by decide +kernel
theorem d_M_span_117 : decode prog_8_method_22_code 117 = .ok (.getfield 48, 3) := by decide +kernel
theorem d_M_span_120 : decode prog_8_method_22_code 120 = .ok (.bipush 8, 2) := by decide +kernel
theorem d_M_span_122 : decode prog_8_method_22_code 122 = .ok (.iload 6, 2) := by decide +kernel
theorem d_M_span_124 : decode prog_8_method_22_code 124 = .ok (.imul, 1) := by decide +kernel
theorem d_M_span_125 : decode prog_8_method_22_code 125 = .ok (.iconst 2, 1) := by decide +kernel
theorem d_M_span_126 : decode prog_8_method_22_code 126 = .ok (.iload 11, 2) := by decide +kernel
theorem d_M_span_128 : decode prog_8_method_22_code 128 = .ok (.imul, 1) := by decide +kernel
theorem d_M_span_129 : decode prog_8_method_22_code 129 = .ok (.iadd, 1) := by decide +kernel
theorem d_M_span_130 : decode prog_8_method_22_code 130 = .ok (.iload_n 3, 1) := by decide +kernel
theorem d_M_span_131 : decode prog_8_method_22_code 131 = .ok (.iadd, 1) := by decide +kernel
theorem d_M_span_132 : decode prog_8_method_22_code 132 = .ok (.laload, 1) := by decide +kernel
theorem d_M_span_133 : decode prog_8_method_22_code 133 = .ok (.lstore 12, 2) := by decide +kernel
theorem d_M_span_135 : decode prog_8_method_22_code 135 = .ok (.lload 7, 2) := by decide +kernel
theorem d_M_span_137 : decode prog_8_method_22_code 137 = .ok (.lload 12, 2) := by decide +kernel
theorem d_M_span_139 : decode prog_8_method_22_code 139 = .ok (.lmul, 1) := by decide +kernel
theorem d_M_span_140 : decode prog_8_method_22_code 140 = .ok (.lload 9, 2) := by decide +kernel
theorem d_M_span_142 : decode prog_8_method_22_code 142 = .ok (.ladd, 1) := by decide +kernel
theorem d_M_span_143 : decode prog_8_method_22_code 143 = .ok (.lstore 7, 2) := by decide +kernel
theorem d_M_span_145 : decode prog_8_method_22_code 145 = .ok (.lload 9, 2) := by decide +kernel
theorem d_M_span_147 : decode prog_8_method_22_code 147 = .ok (.lload 12, 2) := by decide +kernel
theorem d_M_span_149 : decode prog_8_method_22_code 149 = .ok (.lmul, 1) := by decide +kernel
theorem d_M_span_150 : decode prog_8_method_22_code 150 = .ok (.lstore 9, 2) := by decide +kernel
theorem d_M_span_152 : decode prog_8_method_22_code 152 = .ok (.iinc 11 1, 3) := by decide +kernel
theorem d_M_span_155 : decode prog_8_method_22_code 155 = .ok (.goto (-51), 3) := by decide +kernel
theorem d_M_span_158 : decode prog_8_method_22_code 158 = .ok (.lload 7, 2) := by decide +kernel
theorem d_M_span_160 : decode prog_8_method_22_code 160 = .ok (.lstore 11, 2) := by decide +kernel
theorem d_M_span_162 : decode prog_8_method_22_code 162 = .ok (.lload 9, 2) := by decide +kernel
theorem d_M_span_164 : decode prog_8_method_22_code 164 = .ok (.lstore 13, 2) := by decide +kernel
theorem d_M_span_166 : decode prog_8_method_22_code 166 = .ok (.lload 13, 2) := by decide +kernel
theorem d_M_span_168 : decode prog_8_method_22_code 168 = .ok (.lconst 0, 1) := by decide +kernel
theorem d_M_span_169 : decode prog_8_method_22_code 169 = .ok (.lcmp, 1) := by decide +kernel
theorem d_M_span_170 : decode prog_8_method_22_code 170 = .ok (.ifCond .eq 21, 3) := by decide +kernel
theorem d_M_span_173 : decode prog_8_method_22_code 173 = .ok (.lload 11, 2) := by decide +kernel
theorem d_M_span_175 : decode prog_8_method_22_code 175 = .ok (.lload 13, 2) := by decide +kernel
theorem d_M_span_177 : decode prog_8_method_22_code 177 = .ok (.lrem, 1) := by decide +kernel
theorem d_M_span_178 : decode prog_8_method_22_code 178 = .ok (.lstore 15, 2) := by decide +kernel
theorem d_M_span_180 : decode prog_8_method_22_code 180 = .ok (.lload 13, 2) := by decide +kernel
theorem d_M_span_182 : decode prog_8_method_22_code 182 = .ok (.lstore 11, 2) := by decide +kernel
theorem d_M_span_184 : decode prog_8_method_22_code 184 = .ok (.lload 15, 2) := by decide +kernel
theorem d_M_span_186 : decode prog_8_method_22_code 186 = .ok (.lstore 13, 2) := by decide +kernel
theorem d_M_span_188 : decode prog_8_method_22_code 188 = .ok (.goto (-22), 3) := by decide +kernel
theorem d_M_span_191 : decode prog_8_method_22_code 191 = .ok (.iload 4, 2) := by decide +kernel
theorem d_M_span_193 : decode prog_8_method_22_code 193 = .ok (.ifCond .ne 11, 3) := by decide +kernel
theorem d_M_span_196 : decode prog_8_method_22_code 196 = .ok (.lload 9, 2) := by decide +kernel
theorem d_M_span_198 : decode prog_8_method_22_code 198 = .ok (.lload 11, 2) := by decide +kernel
theorem d_M_span_200 : decode prog_8_method_22_code 200 = .ok (.ldiv, 1) := by decide +kernel
theorem d_M_span_201 : decode prog_8_method_22_code 201 = .ok (.goto 8, 3) := by decide +kernel
theorem d_M_span_204 : decode prog_8_method_22_code 204 = .ok (.lload 7, 2) := by decide +kernel
theorem d_M_span_206 : decode prog_8_method_22_code 206 = .ok (.lload 11, 2) := by decide +kernel
theorem d_M_span_208 : decode prog_8_method_22_code 208 = .ok (.ldiv, 1) := by decide +kernel
theorem d_M_span_209 : decode prog_8_method_22_code 209 = .ok (.lreturn, 1) := by decide +kernel
theorem d_M_guard_0 : decode prog_8_method_24_code 0 = .ok (.aload_n 0, 1) := by decide +kernel
theorem d_M_guard_1 : decode prog_8_method_24_code 1 = .ok (.aload_n 0, 1) := by decide +kernel
theorem d_M_guard_2 : decode prog_8_method_24_code 2 = .ok (.iload_n 1, 1) := by decide +kernel
theorem d_M_guard_3 : decode prog_8_method_24_code 3 = .ok (.invokevirtual 80, 3) := by decide +kernel
theorem d_M_guard_6 : decode prog_8_method_24_code 6 = .ok (.ifCond .eq 15, 3) := by decide +kernel
theorem d_M_guard_9 : decode prog_8_method_24_code 9 = .ok (.aload_n 0, 1) := by decide +kernel
theorem d_M_guard_10 : decode prog_8_method_24_code 10 = .ok (.iload_n 2, 1) := by decide +kernel
theorem d_M_guard_11 : decode prog_8_method_24_code 11 = .ok (.invokevirtual 80, 3) := by decide +kernel
theorem d_M_guard_14 : decode prog_8_method_24_code 14 = .ok (.ifCond .eq 7, 3) := by decide +kernel
theorem d_M_guard_17 : decode prog_8_method_24_code 17 = .ok (.iconst 0, 1) := by decide +kernel
theorem d_M_guard_18 : decode prog_8_method_24_code 18 = .ok (.goto 4, 3) := by decide +kernel
theorem d_M_guard_21 : decode prog_8_method_24_code 21 = .ok (.iconst 1, 1) := by decide +kernel
theorem d_M_guard_22 : decode prog_8_method_24_code 22 = .ok (.putfield 60, 3) := by decide +kernel
theorem d_M_guard_25 : decode prog_8_method_24_code 25 = .ok (.aload_n 0, 1) := by decide +kernel
theorem d_M_guard_26 : decode prog_8_method_24_code 26 = .ok (.getfield 60, 3) := by decide +kernel
theorem d_M_guard_29 : decode prog_8_method_24_code 29 = .ok (.ifCond .eq 5, 3) := by decide +kernel
theorem d_M_guard_32 : decode prog_8_method_24_code 32 = .ok (.iconst 0, 1) := by decide +kernel
theorem d_M_guard_33 : decode prog_8_method_24_code 33 = .ok (.ireturn, 1) := by decide +kernel
theorem d_M_guard_34 : decode prog_8_method_24_code 34 = .ok (.iload_n 3, 1) := by decide +kernel
theorem d_M_guard_35 : decode prog_8_method_24_code 35 = .ok (.istore 4, 2) := by decide +kernel
theorem d_M_guard_37 : decode prog_8_method_24_code 37 = .ok (.iconst 0, 1) := by decide +kernel
theorem d_M_guard_38 : decode prog_8_method_24_code 38 = .ok (.istore 5, 2) := by decide +kernel
theorem d_M_guard_40 : decode prog_8_method_24_code 40 = .ok (.iload 5, 2) := by decide +kernel
theorem d_M_guard_42 : decode prog_8_method_24_code 42 = .ok (.aload_n 0, 1) := by decide +kernel
theorem d_M_guard_43 : decode prog_8_method_24_code 43 = .ok (.getfield 64, 3) := by decide +kernel
theorem d_M_guard_46 : decode prog_8_method_24_code 46 = .ok (.if_icmp .ge 59, 3) := by decide +kernel
theorem d_M_guard_49 : decode prog_8_method_24_code 49 = .ok (.iload_n 3, 1) := by decide +kernel
theorem d_M_guard_50 : decode prog_8_method_24_code 50 = .ok (.ifCond .lt 55, 3) := by decide +kernel
theorem d_M_guard_53 : decode prog_8_method_24_code 53 = .ok (.iload 5, 2) := by decide +kernel
theorem d_M_guard_55 : decode prog_8_method_24_code 55 = .ok (.iload_n 1, 1) := by decide +kernel
theorem d_M_guard_56 : decode prog_8_method_24_code 56 = .ok (.if_icmp .eq 43, 3) := by decide +kernel
theorem d_M_guard_59 : decode prog_8_method_24_code 59 = .ok (.iload 5, 2) := by decide +kernel
theorem d_M_guard_61 : decode prog_8_method_24_code 61 = .ok (.iload_n 2, 1) := by decide +kernel
theorem d_M_guard_62 : decode prog_8_method_24_code 62 = .ok (.if_icmp .eq 37, 3) := by decide +kernel
theorem d_M_guard_65 : decode prog_8_method_24_code 65 = .ok (.aload_n 0, 1) := by decide +kernel
theorem d_M_guard_66 : decode prog_8_method_24_code 66 = .ok (.iload 5, 2) := by decide +kernel
theorem d_M_guard_68 : decode prog_8_method_24_code 68 = .ok (.iload_n 1, 1) := by decide +kernel
theorem d_M_guard_69 : decode prog_8_method_24_code 69 = .ok (.invokevirtual 129, 3) := by decide +kernel
theorem d_M_guard_72 : decode prog_8_method_24_code 72 = .ok (.ifCond .eq 27, 3) := by decide +kernel
theorem d_M_guard_75 : decode prog_8_method_24_code 75 = .ok (.aload_n 0, 1) := by decide +kernel
theorem d_M_guard_76 : decode prog_8_method_24_code 76 = .ok (.iload 5, 2) := by decide +kernel
theorem d_M_guard_78 : decode prog_8_method_24_code 78 = .ok (.iload_n 2, 1) := by decide +kernel
theorem d_M_guard_79 : decode prog_8_method_24_code 79 = .ok (.invokevirtual 129, 3) := by decide +kernel
theorem d_M_guard_82 : decode prog_8_method_24_code 82 = .ok (.ifCond .ne 6, 3) := by decide +kernel
theorem d_M_guard_85 : decode prog_8_method_24_code 85 = .ok (.goto 14, 3) := by decide +kernel
theorem d_M_guard_88 : decode prog_8_method_24_code 88 = .ok (.iload 4, 2) := by decide +kernel
theorem d_M_guard_90 : decode prog_8_method_24_code 90 = .ok (.ifCond .ne 6, 3) := by decide +kernel
theorem d_M_guard_93 : decode prog_8_method_24_code 93 = .ok (.iload 5, 2) := by decide +kernel
theorem d_M_guard_95 : decode prog_8_method_24_code 95 = .ok (.ireturn, 1) := by decide +kernel
theorem d_M_guard_96 : decode prog_8_method_24_code 96 = .ok (.iinc 4 (-1), 3) := by decide +kernel
theorem d_M_guard_99 : decode prog_8_method_24_code 99 = .ok (.iinc 5 1, 3) := by decide +kernel
theorem d_M_guard_102 : decode prog_8_method_24_code 102 = .ok (.goto (-62), 3) := by decide +kernel
theorem d_M_guard_105 : decode prog_8_method_24_code 105 = .ok (.iconst (-1), 1) := by decide +kernel
theorem d_M_guard_106 : decode prog_8_method_24_code 106 = .ok (.ireturn, 1) := by decide +kernel
theorem d_M_haveParts_0 : decode prog_8_method_23_code 0 = .ok (.iload_n 1, 1) := by decide +kernel
theorem d_M_haveParts_1 : decode prog_8_method_23_code 1 = .ok (.iload_n 2, 1) := by decide +kernel
theorem d_M_haveParts_2 : decode prog_8_method_23_code 2 = .ok (.if_icmp .eq 20, 3) := by decide +kernel
theorem d_M_haveParts_5 : decode prog_8_method_23_code 5 = .ok (.aload_n 0, 1) := by decide +kernel
theorem d_M_haveParts_6 : decode prog_8_method_23_code 6 = .ok (.getfield 45, 3) := by decide +kernel
theorem d_M_haveParts_9 : decode prog_8_method_23_code 9 = .ok (.iload_n 1, 1) := by decide +kernel
theorem d_M_haveParts_10 : decode prog_8_method_23_code 10 = .ok (.iload_n 2, 1) := by decide +kernel
theorem d_M_haveParts_11 : decode prog_8_method_23_code 11 = .ok (.invokestatic 126, 3) := by decide +kernel
theorem d_M_haveParts_14 : decode prog_8_method_23_code 14 = .ok (.iaload, 1) := by decide +kernel
theorem d_M_haveParts_15 : decode prog_8_method_23_code 15 = .ok (.ifCond .le 7, 3) := by decide +kernel
theorem d_M_haveParts_18 : decode prog_8_method_23_code 18 = .ok (.iconst 1, 1) := by decide +kernel
theorem d_M_haveParts_19 : decode prog_8_method_23_code 19 = .ok (.goto 4, 3) := by decide +kernel
theorem d_M_haveParts_22 : decode prog_8_method_23_code 22 = .ok (.iconst 0, 1) := by decide +kernel
theorem d_M_haveParts_23 : decode prog_8_method_23_code 23 = .ok (.ireturn, 1) := by decide +kernel
theorem d_M_fail_0 : decode prog_8_method_25_code 0 = .ok (.aload_n 0, 1) := by decide +kernel
theorem d_M_fail_1 : decode prog_8_method_25_code 1 = .ok (.iload_n 1, 1) := by decide +kernel
theorem d_M_fail_2 : decode prog_8_method_25_code 2 = .ok (.ifCond .lt 29, 3) := by decide +kernel
theorem d_M_fail_5 : decode prog_8_method_25_code 5 = .ok (.aload_n 0, 1) := by decide +kernel
theorem d_M_fail_6 : decode prog_8_method_25_code 6 = .ok (.iload_n 1, 1) := by decide +kernel
theorem d_M_fail_7 : decode prog_8_method_25_code 7 = .ok (.bipush 16, 2) := by decide +kernel
theorem d_M_fail_9 : decode prog_8_method_25_code 9 = .ok (.idiv, 1) := by decide +kernel
theorem d_M_fail_10 : decode prog_8_method_25_code 10 = .ok (.invokevirtual 80, 3) := by decide +kernel
theorem d_M_fail_13 : decode prog_8_method_25_code 13 = .ok (.ifCond .eq 18, 3) := by decide +kernel
theorem d_M_fail_16 : decode prog_8_method_25_code 16 = .ok (.aload_n 0, 1) := by decide +kernel
theorem d_M_fail_17 : decode prog_8_method_25_code 17 = .ok (.iload_n 1, 1) := by decide +kernel
theorem d_M_fail_18 : decode prog_8_method_25_code 18 = .ok (.bipush 16, 2) := by decide +kernel
theorem d_M_fail_20 : decode prog_8_method_25_code 20 = .ok (.irem, 1) := by decide +kernel
theorem d_M_fail_21 : decode prog_8_method_25_code 21 = .ok (.invokevirtual 80, 3) := by decide +kernel
theorem d_M_fail_24 : decode prog_8_method_25_code 24 = .ok (.ifCond .eq 7, 3) := by decide +kernel
theorem d_M_fail_27 : decode prog_8_method_25_code 27 = .ok (.iconst 0, 1) := by decide +kernel
theorem d_M_fail_28 : decode prog_8_method_25_code 28 = .ok (.goto 4, 3) := by decide +kernel
theorem d_M_fail_31 : decode prog_8_method_25_code 31 = .ok (.iconst 1, 1) := by decide +kernel
theorem d_M_fail_32 : decode prog_8_method_25_code 32 = .ok (.putfield 60, 3) := by decide +kernel
theorem d_M_fail_35 : decode prog_8_method_25_code 35 = .ok (.aload_n 0, 1) := by decide +kernel
theorem d_M_fail_36 : decode prog_8_method_25_code 36 = .ok (.getfield 60, 3) := by decide +kernel
theorem d_M_fail_39 : decode prog_8_method_25_code 39 = .ok (.ifCond .eq 5, 3) := by decide +kernel
theorem d_M_fail_42 : decode prog_8_method_25_code 42 = .ok (.iconst 0, 1) := by decide +kernel
theorem d_M_fail_43 : decode prog_8_method_25_code 43 = .ok (.ireturn, 1) := by decide +kernel
theorem d_M_fail_44 : decode prog_8_method_25_code 44 = .ok (.iload_n 1, 1) := by decide +kernel
theorem d_M_fail_45 : decode prog_8_method_25_code 45 = .ok (.bipush 16, 2) := by decide +kernel
theorem d_M_fail_47 : decode prog_8_method_25_code 47 = .ok (.idiv, 1) := by decide +kernel
theorem d_M_fail_48 : decode prog_8_method_25_code 48 = .ok (.istore_n 2, 1) := by decide +kernel
theorem d_M_fail_49 : decode prog_8_method_25_code 49 = .ok (.iload_n 1, 1) := by decide +kernel
theorem d_M_fail_50 : decode prog_8_method_25_code 50 = .ok (.bipush 16, 2) := by decide +kernel
theorem d_M_fail_52 : decode prog_8_method_25_code 52 = .ok (.irem, 1) := by decide +kernel
theorem d_M_fail_53 : decode prog_8_method_25_code 53 = .ok (.istore_n 3, 1) := by decide +kernel
theorem d_M_fail_54 : decode prog_8_method_25_code 54 = .ok (.iload_n 2, 1) := by decide +kernel
theorem d_M_fail_55 : decode prog_8_method_25_code 55 = .ok (.iload_n 3, 1) := by decide +kernel
theorem d_M_fail_56 : decode prog_8_method_25_code 56 = .ok (.if_icmp .eq 17, 3) := by decide +kernel
theorem d_M_fail_59 : decode prog_8_method_25_code 59 = .ok (.aload_n 0, 1) := by decide +kernel
theorem d_M_fail_60 : decode prog_8_method_25_code 60 = .ok (.getfield 51, 3) := by decide +kernel
theorem d_M_fail_63 : decode prog_8_method_25_code 63 = .ok (.iload_n 2, 1) := by decide +kernel
theorem d_M_fail_64 : decode prog_8_method_25_code 64 = .ok (.iaload, 1) := by decide +kernel
theorem d_M_fail_65 : decode prog_8_method_25_code 65 = .ok (.iload_n 3, 1) := by decide +kernel
theorem d_M_fail_66 : decode prog_8_method_25_code 66 = .ok (.ishr, 1) := by decide +kernel
theorem d_M_fail_67 : decode prog_8_method_25_code 67 = .ok (.iconst 1, 1) := by decide +kernel
theorem d_M_fail_68 : decode prog_8_method_25_code 68 = .ok (.iand, 1) := by decide +kernel
theorem d_M_fail_69 : decode prog_8_method_25_code 69 = .ok (.iconst 1, 1) := by decide +kernel
theorem d_M_fail_70 : decode prog_8_method_25_code 70 = .ok (.if_icmp .ne 5, 3) := by decide +kernel
theorem d_M_fail_73 : decode prog_8_method_25_code 73 = .ok (.iconst 0, 1) := by decide +kernel
theorem d_M_fail_74 : decode prog_8_method_25_code 74 = .ok (.ireturn, 1) := by decide +kernel
theorem d_M_fail_75 : decode prog_8_method_25_code 75 = .ok (.aload_n 0, 1) := by decide +kernel
theorem d_M_fail_76 : decode prog_8_method_25_code 76 = .ok (.getfield 51, 3) := by decide +kernel
theorem d_M_fail_79 : decode prog_8_method_25_code 79 = .ok (.iload_n 2, 1) := by decide +kernel
theorem d_M_fail_80 : decode prog_8_method_25_code 80 = .ok (.aload_n 0, 1) := by decide +kernel
theorem d_M_fail_81 : decode prog_8_method_25_code 81 = .ok (.getfield 51, 3) := by decide +kernel
theorem d_M_fail_84 : decode prog_8_method_25_code 84 = .ok (.iload_n 2, 1) := by decide +kernel
theorem d_M_fail_85 : decode prog_8_method_25_code 85 = .ok (.iaload, 1) := by decide +kernel
theorem d_M_fail_86 : decode prog_8_method_25_code 86 = .ok (.iconst 1, 1) := by decide +kernel
theorem d_M_fail_87 : decode prog_8_method_25_code 87 = .ok (.iload_n 3, 1) := by decide +kernel
theorem d_M_fail_88 : decode prog_8_method_25_code 88 = .ok (.ishl, 1) := by decide +kernel
theorem d_M_fail_89 : decode prog_8_method_25_code 89 = .ok (.ior, 1) := by decide +kernel
theorem d_M_fail_90 : decode prog_8_method_25_code 90 = .ok (.iastore, 1) := by decide +kernel
theorem d_M_fail_91 : decode prog_8_method_25_code 91 = .ok (.aload_n 0, 1) := by decide +kernel
theorem d_M_fail_92 : decode prog_8_method_25_code 92 = .ok (.getfield 51, 3) := by decide +kernel
theorem d_M_fail_95 : decode prog_8_method_25_code 95 = .ok (.iload_n 3, 1) := by decide +kernel
theorem d_M_fail_96 : decode prog_8_method_25_code 96 = .ok (.aload_n 0, 1) := by decide +kernel
theorem d_M_fail_97 : decode prog_8_method_25_code 97 = .ok (.getfield 51, 3) := by decide +kernel
theorem d_M_fail_100 : decode prog_8_method_25_code 100 = .ok (.iload_n 3, 1) := by decide +kernel
theorem d_M_fail_101 : decode prog_8_method_25_code 101 = .ok (.iaload, 1) := by decide +kernel
theorem d_M_fail_102 : decode prog_8_method_25_code 102 = .ok (.iconst 1, 1) := by decide +kernel
theorem d_M_fail_103 : decode prog_8_method_25_code 103 = .ok (.iload_n 2, 1) := by decide +kernel
theorem d_M_fail_104 : decode prog_8_method_25_code 104 = .ok (.ishl, 1) := by decide +kernel
theorem d_M_fail_105 : decode prog_8_method_25_code 105 = .ok (.ior, 1) := by decide +kernel
theorem d_M_fail_106 : decode prog_8_method_25_code 106 = .ok (.iastore, 1) := by decide +kernel
theorem d_M_fail_107 : decode prog_8_method_25_code 107 = .ok (.iconst 1, 1) := by decide +kernel
theorem d_M_fail_108 : decode prog_8_method_25_code 108 = .ok (.ireturn, 1) := by decide +kernel
theorem d_M_suspects_0 : decode prog_8_method_30_code 0 = .ok (.aload_n 0, 1) := by decide +kernel
theorem d_M_suspects_1 : decode prog_8_method_30_code 1 = .ok (.iconst 0, 1) := by decide +kernel
theorem d_M_suspects_2 : decode prog_8_method_30_code 2 = .ok (.putfield 60, 3) := by decide +kernel
theorem d_M_suspects_5 : decode prog_8_method_30_code 5 = .ok (.aload_n 0, 1) := by decide +kernel
theorem d_M_suspects_6 : decode prog_8_method_30_code 6 = .ok (.invokevirtual 142, 3) := by decide +kernel
theorem d_M_suspects_9 : decode prog_8_method_30_code 9 = .ok (.invokestatic 135, 3) := by decide +kernel
theorem d_M_suspects_12 : decode prog_8_method_30_code 12 = .ok (.ireturn, 1) := by decide +kernel
theorem d_M_suspectSet_0 : decode prog_8_method_29_code 0 = .ok (.sipush 4095, 3) := by decide +kernel
theorem d_M_suspectSet_3 : decode prog_8_method_29_code 3 = .ok (.istore_n 1, 1) := by decide +kernel
theorem d_M_suspectSet_4 : decode prog_8_method_29_code 4 = .ok (.iconst 0, 1) := by decide +kernel
theorem d_M_suspectSet_5 : decode prog_8_method_29_code 5 = .ok (.istore_n 2, 1) := by decide +kernel
theorem d_M_suspectSet_6 : decode prog_8_method_29_code 6 = .ok (.iload_n 2, 1) := by decide +kernel
theorem d_M_suspectSet_7 : decode prog_8_method_29_code 7 = .ok (.iconst 1, 1) := by decide +kernel
theorem d_M_suspectSet_8 : decode prog_8_method_29_code 8 = .ok (.aload_n 0, 1) := by decide +kernel
theorem d_M_suspectSet_9 : decode prog_8_method_29_code 9 = .ok (.getfield 64, 3) := by decide +kernel
theorem d_M_suspectSet_12 : decode prog_8_method_29_code 12 = .ok (.ishl, 1) := by decide +kernel
theorem d_M_suspectSet_13 : decode prog_8_method_29_code 13 = .ok (.if_icmp .ge 58, 3) := by decide +kernel
theorem d_M_suspectSet_16 : decode prog_8_method_29_code 16 = .ok (.aload_n 0, 1) := by decide +kernel
theorem d_M_suspectSet_17 : decode prog_8_method_29_code 17 = .ok (.iload_n 2, 1) := by decide +kernel
theorem d_M_suspectSet_18 : decode prog_8_method_29_code 18 = .ok (.invokevirtual 132, 3) := by decide +kernel
theorem d_M_suspectSet_21 : decode prog_8_method_29_code 21 = .ok (.ifCond .ne 6, 3) := by decide +kernel
theorem d_M_suspectSet_24 : decode prog_8_method_29_code 24 = .ok (.goto 41, 3) := by decide +kernel
theorem d_M_suspectSet_27 : decode prog_8_method_29_code 27 = .ok (.iload_n 2, 1) := by decide +kernel
theorem d_M_suspectSet_28 : decode prog_8_method_29_code 28 = .ok (.invokestatic 135, 3) := by decide +kernel
theorem d_M_suspectSet_31 : decode prog_8_method_29_code 31 = .ok (.istore_n 3, 1) := by decide +kernel
theorem d_M_suspectSet_32 : decode prog_8_method_29_code 32 = .ok (.iload_n 1, 1) := by decide +kernel
theorem d_M_suspectSet_33 : decode prog_8_method_29_code 33 = .ok (.invokestatic 135, 3) := by decide +kernel
theorem d_M_suspectSet_36 : decode prog_8_method_29_code 36 = .ok (.istore 4, 2) := by decide +kernel
theorem d_M_suspectSet_38 : decode prog_8_method_29_code 38 = .ok (.iload_n 3, 1) := by decide +kernel
theorem d_M_suspectSet_39 : decode prog_8_method_29_code 39 = .ok (.iload 4, 2) := by decide +kernel
theorem d_M_suspectSet_41 : decode prog_8_method_29_code 41 = .ok (.if_icmp .lt 22, 3) := by decide +kernel
theorem d_M_suspectSet_44 : decode prog_8_method_29_code 44 = .ok (.iload_n 3, 1) := by decide +kernel
theorem d_M_suspectSet_45 : decode prog_8_method_29_code 45 = .ok (.iload 4, 2) := by decide +kernel
theorem d_M_suspectSet_47 : decode prog_8_method_29_code 47 = .ok (.if_icmp .ne 18, 3) := by decide +kernel
theorem d_M_suspectSet_50 : decode prog_8_method_29_code 50 = .ok (.iload_n 2, 1) := by decide +kernel
theorem d_M_suspectSet_51 : decode prog_8_method_29_code 51 = .ok (.iload_n 1, 1) := by decide +kernel
theorem d_M_suspectSet_52 : decode prog_8_method_29_code 52 = .ok (.if_icmp .eq 13, 3) := by decide +kernel
theorem d_M_suspectSet_55 : decode prog_8_method_29_code 55 = .ok (.iload_n 2, 1) := by decide +kernel
theorem d_M_suspectSet_56 : decode prog_8_method_29_code 56 = .ok (.iload_n 1, 1) := by decide +kernel
theorem d_M_suspectSet_57 : decode prog_8_method_29_code 57 = .ok (.invokestatic 139, 3) := by decide +kernel
theorem d_M_suspectSet_60 : decode prog_8_method_29_code 60 = .ok (.ifCond .eq 5, 3) := by decide +kernel
theorem d_M_suspectSet_63 : decode prog_8_method_29_code 63 = .ok (.iload_n 2, 1) := by decide +kernel
theorem d_M_suspectSet_64 : decode prog_8_method_29_code 64 = .ok (.istore_n 1, 1) := by decide +kernel
theorem d_M_suspectSet_65 : decode prog_8_method_29_code 65 = .ok (.iinc 2 1, 3) := by decide +kernel
theorem d_M_suspectSet_68 : decode prog_8_method_29_code 68 = .ok (.goto (-62), 3) := by decide +kernel
theorem d_M_suspectSet_71 : decode prog_8_method_29_code 71 = .ok (.iload_n 1, 1) := by decide +kernel
theorem d_M_suspectSet_72 : decode prog_8_method_29_code 72 = .ok (.ireturn, 1) := by decide +kernel
theorem d_M_explains_0 : decode prog_8_method_27_code 0 = .ok (.iconst 0, 1) := by decide +kernel
theorem d_M_explains_1 : decode prog_8_method_27_code 1 = .ok (.istore_n 2, 1) := by decide +kernel
theorem d_M_explains_2 : decode prog_8_method_27_code 2 = .ok (.iload_n 2, 1) := by decide +kernel
theorem d_M_explains_3 : decode prog_8_method_27_code 3 = .ok (.aload_n 0, 1) := by decide +kernel
theorem d_M_explains_4 : decode prog_8_method_27_code 4 = .ok (.getfield 64, 3) := by decide +kernel
theorem d_M_explains_7 : decode prog_8_method_27_code 7 = .ok (.if_icmp .ge 32, 3) := by decide +kernel
theorem d_M_explains_10 : decode prog_8_method_27_code 10 = .ok (.iload_n 1, 1) := by decide +kernel
theorem d_M_explains_11 : decode prog_8_method_27_code 11 = .ok (.iload_n 2, 1) := by decide +kernel
theorem d_M_explains_12 : decode prog_8_method_27_code 12 = .ok (.ishr, 1) := by decide +kernel
theorem d_M_explains_13 : decode prog_8_method_27_code 13 = .ok (.iconst 1, 1) := by decide +kernel
theorem d_M_explains_14 : decode prog_8_method_27_code 14 = .ok (.iand, 1) := by decide +kernel
theorem d_M_explains_15 : decode prog_8_method_27_code 15 = .ok (.ifCond .ne 18, 3) := by decide +kernel
theorem d_M_explains_18 : decode prog_8_method_27_code 18 = .ok (.aload_n 0, 1) := by decide +kernel
theorem d_M_explains_19 : decode prog_8_method_27_code 19 = .ok (.getfield 51, 3) := by decide +kernel
theorem d_M_explains_22 : decode prog_8_method_27_code 22 = .ok (.iload_n 2, 1) := by decide +kernel
theorem d_M_explains_23 : decode prog_8_method_27_code 23 = .ok (.iaload, 1) := by decide +kernel
theorem d_M_explains_24 : decode prog_8_method_27_code 24 = .ok (.iload_n 1, 1) := by decide +kernel
theorem d_M_explains_25 : decode prog_8_method_27_code 25 = .ok (.iconst (-1), 1) := by decide +kernel
theorem d_M_explains_26 : decode prog_8_method_27_code 26 = .ok (.ixor, 1) := by decide +kernel
theorem d_M_explains_27 : decode prog_8_method_27_code 27 = .ok (.iand, 1) := by decide +kernel
theorem d_M_explains_28 : decode prog_8_method_27_code 28 = .ok (.ifCond .eq 5, 3) := by decide +kernel
theorem d_M_explains_31 : decode prog_8_method_27_code 31 = .ok (.iconst 0, 1) := by decide +kernel
theorem d_M_explains_32 : decode prog_8_method_27_code 32 = .ok (.ireturn, 1) := by decide +kernel
theorem d_M_explains_33 : decode prog_8_method_27_code 33 = .ok (.iinc 2 1, 3) := by decide +kernel
theorem d_M_explains_36 : decode prog_8_method_27_code 36 = .ok (.goto (-34), 3) := by decide +kernel
theorem d_M_explains_39 : decode prog_8_method_27_code 39 = .ok (.iconst 1, 1) := by decide +kernel
theorem d_M_explains_40 : decode prog_8_method_27_code 40 = .ok (.ireturn, 1) := by decide +kernel
theorem d_M_bits_0 : decode prog_8_method_26_code 0 = .ok (.iconst 0, 1) := by decide +kernel
theorem d_M_bits_1 : decode prog_8_method_26_code 1 = .ok (.istore_n 1, 1) := by decide +kernel
theorem d_M_bits_2 : decode prog_8_method_26_code 2 = .ok (.iload_n 0, 1) := by decide +kernel
theorem d_M_bits_3 : decode prog_8_method_26_code 3 = .ok (.istore_n 2, 1) := by decide +kernel
theorem d_M_bits_4 : decode prog_8_method_26_code 4 = .ok (.iload_n 2, 1) := by decide +kernel
theorem d_M_bits_5 : decode prog_8_method_26_code 5 = .ok (.ifCond .eq 16, 3) := by decide +kernel
theorem d_M_bits_8 : decode prog_8_method_26_code 8 = .ok (.iload_n 1, 1) := by decide +kernel
theorem d_M_bits_9 : decode prog_8_method_26_code 9 = .ok (.iload_n 2, 1) := by decide +kernel
theorem d_M_bits_10 : decode prog_8_method_26_code 10 = .ok (.iconst 1, 1) := by decide +kernel
theorem d_M_bits_11 : decode prog_8_method_26_code 11 = .ok (.iand, 1) := by decide +kernel
theorem d_M_bits_12 : decode prog_8_method_26_code 12 = .ok (.iadd, 1) := by decide +kernel
theorem d_M_bits_13 : decode prog_8_method_26_code 13 = .ok (.istore_n 1, 1) := by decide +kernel
theorem d_M_bits_14 : decode prog_8_method_26_code 14 = .ok (.iload_n 2, 1) := by decide +kernel
theorem d_M_bits_15 : decode prog_8_method_26_code 15 = .ok (.iconst 1, 1) := by decide +kernel
theorem d_M_bits_16 : decode prog_8_method_26_code 16 = .ok (.ishr, 1) := by decide +kernel
theorem d_M_bits_17 : decode prog_8_method_26_code 17 = .ok (.istore_n 2, 1) := by decide +kernel
theorem d_M_bits_18 : decode prog_8_method_26_code 18 = .ok (.goto (-14), 3) := by decide +kernel
theorem d_M_bits_21 : decode prog_8_method_26_code 21 = .ok (.iload_n 1, 1) := by decide +kernel
theorem d_M_bits_22 : decode prog_8_method_26_code 22 = .ok (.ireturn, 1) := by decide +kernel
theorem d_M_comesFirst_0 : decode prog_8_method_28_code 0 = .ok (.iload_n 0, 1) := by decide +kernel
theorem d_M_comesFirst_1 : decode prog_8_method_28_code 1 = .ok (.iload_n 1, 1) := by decide +kernel
theorem d_M_comesFirst_2 : decode prog_8_method_28_code 2 = .ok (.ixor, 1) := by decide +kernel
theorem d_M_comesFirst_3 : decode prog_8_method_28_code 3 = .ok (.istore_n 2, 1) := by decide +kernel
theorem d_M_comesFirst_4 : decode prog_8_method_28_code 4 = .ok (.iconst 0, 1) := by decide +kernel
theorem d_M_comesFirst_5 : decode prog_8_method_28_code 5 = .ok (.istore_n 3, 1) := by decide +kernel
theorem d_M_comesFirst_6 : decode prog_8_method_28_code 6 = .ok (.iload_n 2, 1) := by decide +kernel
theorem d_M_comesFirst_7 : decode prog_8_method_28_code 7 = .ok (.iload_n 3, 1) := by decide +kernel
theorem d_M_comesFirst_8 : decode prog_8_method_28_code 8 = .ok (.ishr, 1) := by decide +kernel
theorem d_M_comesFirst_9 : decode prog_8_method_28_code 9 = .ok (.iconst 1, 1) := by decide +kernel
theorem d_M_comesFirst_10 : decode prog_8_method_28_code 10 = .ok (.iand, 1) := by decide +kernel
theorem d_M_comesFirst_11 : decode prog_8_method_28_code 11 = .ok (.ifCond .ne 9, 3) := by decide +kernel
theorem d_M_comesFirst_14 : decode prog_8_method_28_code 14 = .ok (.iinc 3 1, 3) := by decide +kernel
theorem d_M_comesFirst_17 : decode prog_8_method_28_code 17 = .ok (.goto (-11), 3) := by decide +kernel
theorem d_M_comesFirst_20 : decode prog_8_method_28_code 20 = .ok (.iload_n 0, 1) := by decide +kernel
theorem d_M_comesFirst_21 : decode prog_8_method_28_code 21 = .ok (.iload_n 3, 1) := by decide +kernel
theorem d_M_comesFirst_22 : decode prog_8_method_28_code 22 = .ok (.ishr, 1) := by decide +kernel
theorem d_M_comesFirst_23 : decode prog_8_method_28_code 23 = .ok (.iconst 1, 1) := by decide +kernel
theorem d_M_comesFirst_24 : decode prog_8_method_28_code 24 = .ok (.iand, 1) := by decide +kernel
theorem d_M_comesFirst_25 : decode prog_8_method_28_code 25 = .ok (.iconst 1, 1) := by decide +kernel
theorem d_M_comesFirst_26 : decode prog_8_method_28_code 26 = .ok (.if_icmp .ne 7, 3) := by decide +kernel
theorem d_M_comesFirst_29 : decode prog_8_method_28_code 29 = .ok (.iconst 1, 1) := by decide +kernel
theorem d_M_comesFirst_30 : decode prog_8_method_28_code 30 = .ok (.goto 4, 3) := by decide +kernel
theorem d_M_comesFirst_33 : decode prog_8_method_28_code 33 = .ok (.iconst 0, 1) := by decide +kernel
theorem d_M_comesFirst_34 : decode prog_8_method_28_code 34 = .ok (.ireturn, 1) := by decide +kernel
theorem d_M_suspect_0 : decode prog_8_method_31_code 0 = .ok (.aload_n 0, 1) := by decide +kernel
theorem d_M_suspect_1 : decode prog_8_method_31_code 1 = .ok (.invokevirtual 142, 3) := by decide +kernel
theorem d_M_suspect_4 : decode prog_8_method_31_code 4 = .ok (.istore_n 3, 1) := by decide +kernel
theorem d_M_suspect_5 : decode prog_8_method_31_code 5 = .ok (.aload_n 0, 1) := by decide +kernel
theorem d_M_suspect_6 : decode prog_8_method_31_code 6 = .ok (.iload_n 1, 1) := by decide +kernel
theorem d_M_suspect_7 : decode prog_8_method_31_code 7 = .ok (.ifCond .lt 24, 3) := by decide +kernel
theorem d_M_suspect_10 : decode prog_8_method_31_code 10 = .ok (.iload_n 1, 1) := by decide +kernel
theorem d_M_suspect_11 : decode prog_8_method_31_code 11 = .ok (.iload_n 3, 1) := by decide +kernel
theorem d_M_suspect_12 : decode prog_8_method_31_code 12 = .ok (.invokestatic 135, 3) := by decide +kernel
theorem d_M_suspect_15 : decode prog_8_method_31_code 15 = .ok (.if_icmp .ge 16, 3) := by decide +kernel
theorem d_M_suspect_18 : decode prog_8_method_31_code 18 = .ok (.iload_n 2, 1) := by decide +kernel
theorem d_M_suspect_19 : decode prog_8_method_31_code 19 = .ok (.ifCond .lt 12, 3) := by decide +kernel
theorem d_M_suspect_22 : decode prog_8_method_31_code 22 = .ok (.iload_n 2, 1) := by decide +kernel
theorem d_M_suspect_23 : decode prog_8_method_31_code 23 = .ok (.iconst 2, 1) := by decide +kernel
theorem d_M_suspect_24 : decode prog_8_method_31_code 24 = .ok (.if_icmp .ge 7, 3) := by decide +kernel
theorem d_M_suspect_27 : decode prog_8_method_31_code 27 = .ok (.iconst 0, 1) := by decide +kernel
theorem d_M_suspect_28 : decode prog_8_method_31_code 28 = .ok (.goto 4, 3) := by decide +kernel
theorem d_M_suspect_31 : decode prog_8_method_31_code 31 = .ok (.iconst 1, 1) := by decide +kernel
theorem d_M_suspect_32 : decode prog_8_method_31_code 32 = .ok (.putfield 60, 3) := by decide +kernel
theorem d_M_suspect_35 : decode prog_8_method_31_code 35 = .ok (.aload_n 0, 1) := by decide +kernel
theorem d_M_suspect_36 : decode prog_8_method_31_code 36 = .ok (.getfield 60, 3) := by decide +kernel
theorem d_M_suspect_39 : decode prog_8_method_31_code 39 = .ok (.ifCond .eq 5, 3) := by decide +kernel
theorem d_M_suspect_42 : decode prog_8_method_31_code 42 = .ok (.iconst 0, 1) := by decide +kernel
theorem d_M_suspect_43 : decode prog_8_method_31_code 43 = .ok (.ireturn, 1) := by decide +kernel
theorem d_M_suspect_44 : decode prog_8_method_31_code 44 = .ok (.iload_n 1, 1) := by decide +kernel
theorem d_M_suspect_45 : decode prog_8_method_31_code 45 = .ok (.istore 4, 2) := by decide +kernel
theorem d_M_suspect_47 : decode prog_8_method_31_code 47 = .ok (.iconst 0, 1) := by decide +kernel
theorem d_M_suspect_48 : decode prog_8_method_31_code 48 = .ok (.istore 5, 2) := by decide +kernel
theorem d_M_suspect_50 : decode prog_8_method_31_code 50 = .ok (.iload_n 3, 1) := by decide +kernel
theorem d_M_suspect_51 : decode prog_8_method_31_code 51 = .ok (.iload 5, 2) := by decide +kernel
theorem d_M_suspect_53 : decode prog_8_method_31_code 53 = .ok (.ishr, 1) := by decide +kernel
theorem d_M_suspect_54 : decode prog_8_method_31_code 54 = .ok (.iconst 1, 1) := by decide +kernel
theorem d_M_suspect_55 : decode prog_8_method_31_code 55 = .ok (.iand, 1) := by decide +kernel
theorem d_M_suspect_56 : decode prog_8_method_31_code 56 = .ok (.ifCond .eq 8, 3) := by decide +kernel
theorem d_M_suspect_59 : decode prog_8_method_31_code 59 = .ok (.iload 4, 2) := by decide +kernel
theorem d_M_suspect_61 : decode prog_8_method_31_code 61 = .ok (.ifCond .le 20, 3) := by decide +kernel
theorem d_M_suspect_64 : decode prog_8_method_31_code 64 = .ok (.iload 4, 2) := by decide +kernel
theorem d_M_suspect_66 : decode prog_8_method_31_code 66 = .ok (.iload_n 3, 1) := by decide +kernel
theorem d_M_suspect_67 : decode prog_8_method_31_code 67 = .ok (.iload 5, 2) := by decide +kernel
theorem d_M_suspect_69 : decode prog_8_method_31_code 69 = .ok (.ishr, 1) := by decide +kernel
theorem d_M_suspect_70 : decode prog_8_method_31_code 70 = .ok (.iconst 1, 1) := by decide +kernel
theorem d_M_suspect_71 : decode prog_8_method_31_code 71 = .ok (.iand, 1) := by decide +kernel
theorem d_M_suspect_72 : decode prog_8_method_31_code 72 = .ok (.isub, 1) := by decide +kernel
theorem d_M_suspect_73 : decode prog_8_method_31_code 73 = .ok (.istore 4, 2) := by decide +kernel
theorem d_M_suspect_75 : decode prog_8_method_31_code 75 = .ok (.iinc 5 1, 3) := by decide +kernel
theorem d_M_suspect_78 : decode prog_8_method_31_code 78 = .ok (.goto (-28), 3) := by decide +kernel
theorem d_M_suspect_81 : decode prog_8_method_31_code 81 = .ok (.iload_n 2, 1) := by decide +kernel
theorem d_M_suspect_82 : decode prog_8_method_31_code 82 = .ok (.ifCond .ne 8, 3) := by decide +kernel
theorem d_M_suspect_85 : decode prog_8_method_31_code 85 = .ok (.iload 5, 2) := by decide +kernel
theorem d_M_suspect_87 : decode prog_8_method_31_code 87 = .ok (.goto 13, 3) := by decide +kernel
theorem d_M_suspect_90 : decode prog_8_method_31_code 90 = .ok (.aload_n 0, 1) := by decide +kernel
theorem d_M_suspect_91 : decode prog_8_method_31_code 91 = .ok (.getfield 51, 3) := by decide +kernel
theorem d_M_suspect_94 : decode prog_8_method_31_code 94 = .ok (.iload 5, 2) := by decide +kernel
theorem d_M_suspect_96 : decode prog_8_method_31_code 96 = .ok (.iaload, 1) := by decide +kernel
theorem d_M_suspect_97 : decode prog_8_method_31_code 97 = .ok (.invokestatic 135, 3) := by decide +kernel
theorem d_M_suspect_100 : decode prog_8_method_31_code 100 = .ok (.ireturn, 1) := by decide +kernel
theorem d_M_faults_0 : decode prog_8_method_32_code 0 = .ok (.aload_n 0, 1) := by decide +kernel
theorem d_M_faults_1 : decode prog_8_method_32_code 1 = .ok (.aload_n 0, 1) := by decide +kernel
theorem d_M_faults_2 : decode prog_8_method_32_code 2 = .ok (.iload_n 1, 1) := by decide +kernel
theorem d_M_faults_3 : decode prog_8_method_32_code 3 = .ok (.invokevirtual 80, 3) := by decide +kernel
theorem d_M_faults_6 : decode prog_8_method_32_code 6 = .ok (.ifCond .eq 7, 3) := by decide +kernel
theorem d_M_faults_9 : decode prog_8_method_32_code 9 = .ok (.iconst 0, 1) := by decide +kernel
theorem d_M_faults_10 : decode prog_8_method_32_code 10 = .ok (.goto 4, 3) := by decide +kernel
theorem d_M_faults_13 : decode prog_8_method_32_code 13 = .ok (.iconst 1, 1) := by decide +kernel
theorem d_M_faults_14 : decode prog_8_method_32_code 14 = .ok (.putfield 60, 3) := by decide +kernel
theorem d_M_faults_17 : decode prog_8_method_32_code 17 = .ok (.aload_n 0, 1) := by decide +kernel
theorem d_M_faults_18 : decode prog_8_method_32_code 18 = .ok (.getfield 60, 3) := by decide +kernel
theorem d_M_faults_21 : decode prog_8_method_32_code 21 = .ok (.ifCond .ne 15, 3) := by decide +kernel
theorem d_M_faults_24 : decode prog_8_method_32_code 24 = .ok (.aload_n 0, 1) := by decide +kernel
theorem d_M_faults_25 : decode prog_8_method_32_code 25 = .ok (.getfield 51, 3) := by decide +kernel
theorem d_M_faults_28 : decode prog_8_method_32_code 28 = .ok (.iload_n 1, 1) := by decide +kernel
theorem d_M_faults_29 : decode prog_8_method_32_code 29 = .ok (.iaload, 1) := by decide +kernel
theorem d_M_faults_30 : decode prog_8_method_32_code 30 = .ok (.invokestatic 135, 3) := by decide +kernel
theorem d_M_faults_33 : decode prog_8_method_32_code 33 = .ok (.goto 4, 3) := by decide +kernel
theorem d_M_faults_36 : decode prog_8_method_32_code 36 = .ok (.iconst 0, 1) := by decide +kernel
theorem d_M_faults_37 : decode prog_8_method_32_code 37 = .ok (.ireturn, 1) := by decide +kernel
theorem d_M_fly_0 : decode prog_8_method_36_code 0 = .ok (.aload_n 0, 1) := by decide +kernel
theorem d_M_fly_1 : decode prog_8_method_36_code 1 = .ok (.iconst 0, 1) := by decide +kernel
theorem d_M_fly_2 : decode prog_8_method_36_code 2 = .ok (.putfield 60, 3) := by decide +kernel
theorem d_M_fly_5 : decode prog_8_method_36_code 5 = .ok (.iload_n 1, 1) := by decide +kernel
theorem d_M_fly_6 : decode prog_8_method_36_code 6 = .ok (.ifCond .lt 19, 3) := by decide +kernel
theorem d_M_fly_9 : decode prog_8_method_36_code 9 = .ok (.iload_n 1, 1) := by decide +kernel
theorem d_M_fly_10 : decode prog_8_method_36_code 10 = .ok (.aload_n 0, 1) := by decide +kernel
theorem d_M_fly_11 : decode prog_8_method_36_code 11 = .ok (.getfield 121, 3) := by decide +kernel
theorem d_M_fly_14 : decode prog_8_method_36_code 14 = .ok (.if_icmp .ge 11, 3) := by decide +kernel
theorem d_M_fly_17 : decode prog_8_method_36_code 17 = .ok (.aload_n 0, 1) := by decide +kernel
theorem d_M_fly_18 : decode prog_8_method_36_code 18 = .ok (.iload_n 1, 1) := by decide +kernel
theorem d_M_fly_19 : decode prog_8_method_36_code 19 = .ok (.invokevirtual 157, 3) := by decide +kernel
theorem d_M_fly_22 : decode prog_8_method_36_code 22 = .ok (.goto 4, 3) := by decide +kernel
theorem d_M_fly_25 : decode prog_8_method_36_code 25 = .ok (.iconst (-1), 1) := by decide +kernel
theorem d_M_fly_26 : decode prog_8_method_36_code 26 = .ok (.ireturn, 1) := by decide +kernel
theorem d_M_flyTo_0 : decode prog_8_method_35_code 0 = .ok (.iconst 0, 1) := by decide +kernel
theorem d_M_flyTo_1 : decode prog_8_method_35_code 1 = .ok (.istore_n 2, 1) := by decide +kernel
theorem d_M_flyTo_2 : decode prog_8_method_35_code 2 = .ok (.iload_n 2, 1) := by decide +kernel
theorem d_M_flyTo_3 : decode prog_8_method_35_code 3 = .ok (.bipush 36, 2) := by decide +kernel
theorem d_M_flyTo_5 : decode prog_8_method_35_code 5 = .ok (.if_icmp .ge 16, 3) := by decide +kernel
theorem d_M_flyTo_8 : decode prog_8_method_35_code 8 = .ok (.aload_n 0, 1) := by decide +kernel
theorem d_M_flyTo_9 : decode prog_8_method_35_code 9 = .ok (.getfield 54, 3) := by decide +kernel
theorem d_M_flyTo_12 : decode prog_8_method_35_code 12 = .ok (.iload_n 2, 1) := by decide +kernel
theorem d_M_flyTo_13 : decode prog_8_method_35_code 13 = .ok (.iconst 0, 1) := by decide +kernel
theorem d_M_flyTo_14 : decode prog_8_method_35_code 14 = .ok (.bastore, 1) := by decide +kernel
theorem d_M_flyTo_15 : decode prog_8_method_35_code 15 = .ok (.iinc 2 1, 3) := by decide +kernel
theorem d_M_flyTo_18 : decode prog_8_method_35_code 18 = .ok (.goto (-16), 3) := by decide +kernel
theorem d_M_flyTo_21 : decode prog_8_method_35_code 21 = .ok (.aload_n 0, 1) := by decide +kernel
theorem d_M_flyTo_22 : decode prog_8_method_35_code 22 = .ok (.lconst 0, 1) := by decide +kernel
theorem d_M_flyTo_23 : decode prog_8_method_35_code 23 = .ok (.putfield 146, 3) := by decide +kernel
theorem d_M_flyTo_26 : decode prog_8_method_35_code 26 = .ok (.lconst 0, 1) := by decide +kernel
theorem d_M_flyTo_27 : decode prog_8_method_35_code 27 = .ok (.lstore_n 2, 1) := by decide +kernel
theorem d_M_flyTo_28 : decode prog_8_method_35_code 28 = .ok (.lconst 0, 1) := by decide +kernel
theorem d_M_flyTo_29 : decode prog_8_method_35_code 29 = .ok (.lstore 4, 2) := by decide +kernel
theorem d_M_flyTo_31 : decode prog_8_method_35_code 31 = .ok (.iconst (-1), 1) := by decide +kernel
theorem d_M_flyTo_32 : decode prog_8_method_35_code 32 = .ok (.istore 6, 2) := by decide +kernel
theorem d_M_flyTo_34 : decode prog_8_method_35_code 34 = .ok (.iconst 0, 1) := by decide +kernel
theorem d_M_flyTo_35 : decode prog_8_method_35_code 35 = .ok (.istore 7, 2) := by decide +kernel
theorem d_M_flyTo_37 : decode prog_8_method_35_code 37 = .ok (.iload 7, 2) := by decide +kernel
theorem d_M_flyTo_39 : decode prog_8_method_35_code 39 = .ok (.iload_n 1, 1) := by decide +kernel
theorem d_M_flyTo_40 : decode prog_8_method_35_code 40 = .ok (.if_icmp .gt 104, 3) := by decide +kernel
theorem d_M_flyTo_43 : decode prog_8_method_35_code 43 = .ok (.aload_n 0, 1) := by decide +kernel
theorem d_M_flyTo_44 : decode prog_8_method_35_code 44 = .ok (.lload_n 2, 1) := by decide +kernel
theorem d_M_flyTo_45 : decode prog_8_method_35_code 45 = .ok (.lload 4, 2) := by decide +kernel
theorem d_M_flyTo_47 : decode prog_8_method_35_code 47 = .ok (.invokevirtual 149, 3) := by decide +kernel
theorem d_M_flyTo_50 : decode prog_8_method_35_code 50 = .ok (.istore 6, 2) := by decide +kernel
theorem d_M_flyTo_52 : decode prog_8_method_35_code 52 = .ok (.iload 6, 2) := by decide +kernel
theorem d_M_flyTo_54 : decode prog_8_method_35_code 54 = .ok (.iconst (-1), 1) := by decide +kernel
theorem d_M_flyTo_55 : decode prog_8_method_35_code 55 = .ok (.if_icmp .ne 5, 3) := by decide +kernel
theorem d_M_flyTo_58 : decode prog_8_method_35_code 58 = .ok (.iconst (-1), 1) := by decide +kernel
theorem d_M_flyTo_59 : decode prog_8_method_35_code 59 = .ok (.ireturn, 1) := by decide +kernel
theorem d_M_flyTo_60 : decode prog_8_method_35_code 60 = .ok (.aload_n 0, 1) := by decide +kernel
theorem d_M_flyTo_61 : decode prog_8_method_35_code 61 = .ok (.getfield 20, 3) := by decide +kernel
theorem d_M_flyTo_64 : decode prog_8_method_35_code 64 = .ok (.iload 6, 2) := by decide +kernel
theorem d_M_flyTo_66 : decode prog_8_method_35_code 66 = .ok (.laload, 1) := by decide +kernel
theorem d_M_flyTo_67 : decode prog_8_method_35_code 67 = .ok (.lload_n 2, 1) := by decide +kernel
theorem d_M_flyTo_68 : decode prog_8_method_35_code 68 = .ok (.lsub, 1) := by decide +kernel
theorem d_M_flyTo_69 : decode prog_8_method_35_code 69 = .ok (.invokestatic 153, 3) := by decide +kernel
theorem d_M_flyTo_72 : decode prog_8_method_35_code 72 = .ok (.lstore 8, 2) := by decide +kernel
theorem d_M_flyTo_74 : decode prog_8_method_35_code 74 = .ok (.aload_n 0, 1) := by decide +kernel
theorem d_M_flyTo_75 : decode prog_8_method_35_code 75 = .ok (.getfield 24, 3) := by decide +kernel
theorem d_M_flyTo_78 : decode prog_8_method_35_code 78 = .ok (.iload 6, 2) := by decide +kernel
theorem d_M_flyTo_80 : decode prog_8_method_35_code 80 = .ok (.laload, 1) := by decide +kernel
theorem d_M_flyTo_81 : decode prog_8_method_35_code 81 = .ok (.lload 4, 2) := by decide +kernel
theorem d_M_flyTo_83 : decode prog_8_method_35_code 83 = .ok (.lsub, 1) := by decide +kernel
theorem d_M_flyTo_84 : decode prog_8_method_35_code 84 = .ok (.invokestatic 153, 3) := by decide +kernel
theorem d_M_flyTo_87 : decode prog_8_method_35_code 87 = .ok (.lstore 10, 2) := by decide +kernel
theorem d_M_flyTo_89 : decode prog_8_method_35_code 89 = .ok (.aload_n 0, 1) := by decide +kernel
theorem d_M_flyTo_90 : decode prog_8_method_35_code 90 = .ok (.dup, 1) := by decide +kernel
theorem d_M_flyTo_91 : decode prog_8_method_35_code 91 = .ok (.getfield 146, 3) := by decide +kernel
theorem d_M_flyTo_94 : decode prog_8_method_35_code 94 = .ok (.lload 8, 2) := by decide +kernel
theorem d_M_flyTo_96 : decode prog_8_method_35_code 96 = .ok (.lload 10, 2) := by decide +kernel
theorem d_M_flyTo_98 : decode prog_8_method_35_code 98 = .ok (.lcmp, 1) := by decide +kernel
theorem d_M_flyTo_99 : decode prog_8_method_35_code 99 = .ok (.ifCond .le 8, 3) := by decide +kernel
theorem d_M_flyTo_102 : decode prog_8_method_35_code 102 = .ok (.lload 8, 2) := by decide +kernel
theorem d_M_flyTo_104 : decode prog_8_method_35_code 104 = .ok (.goto 5, 3) := by decide +kernel
theorem d_M_flyTo_107 : decode prog_8_method_35_code 107 = .ok (.lload 10, 2) := by decide +kernel
theorem d_M_flyTo_109 : decode prog_8_method_35_code 109 = .ok (.ladd, 1) := by decide +kernel
theorem d_M_flyTo_110 : decode prog_8_method_35_code 110 = .ok (.putfield 146, 3) := by decide +kernel
theorem d_M_flyTo_113 : decode prog_8_method_35_code 113 = .ok (.aload_n 0, 1) := by decide +kernel
theorem d_M_flyTo_114 : decode prog_8_method_35_code 114 = .ok (.getfield 54, 3) := by decide +kernel
theorem d_M_flyTo_117 : decode prog_8_method_35_code 117 = .ok (.iload 6, 2) := by decide +kernel
theorem d_M_flyTo_119 : decode prog_8_method_35_code 119 = .ok (.iconst 1, 1) := by decide +kernel
theorem d_M_flyTo_120 : decode prog_8_method_35_code 120 = .ok (.bastore, 1) := by decide +kernel
theorem d_M_flyTo_121 : decode prog_8_method_35_code 121 = .ok (.aload_n 0, 1) := by decide +kernel
theorem d_M_flyTo_122 : decode prog_8_method_35_code 122 = .ok (.getfield 20, 3) := by decide +kernel
theorem d_M_flyTo_125 : decode prog_8_method_35_code 125 = .ok (.iload 6, 2) := by decide +kernel
theorem d_M_flyTo_127 : decode prog_8_method_35_code 127 = .ok (.laload, 1) := by decide +kernel
theorem d_M_flyTo_128 : decode prog_8_method_35_code 128 = .ok (.lstore_n 2, 1) := by decide +kernel
theorem d_M_flyTo_129 : decode prog_8_method_35_code 129 = .ok (.aload_n 0, 1) := by decide +kernel
theorem d_M_flyTo_130 : decode prog_8_method_35_code 130 = .ok (.getfield 24, 3) := by decide +kernel
theorem d_M_flyTo_133 : decode prog_8_method_35_code 133 = .ok (.iload 6, 2) := by decide +kernel
theorem d_M_flyTo_135 : decode prog_8_method_35_code 135 = .ok (.laload, 1) := by decide +kernel
theorem d_M_flyTo_136 : decode prog_8_method_35_code 136 = .ok (.lstore 4, 2) := by decide +kernel
theorem d_M_flyTo_138 : decode prog_8_method_35_code 138 = .ok (.iinc 7 1, 3) := by decide +kernel
theorem d_M_flyTo_141 : decode prog_8_method_35_code 141 = .ok (.goto (-104), 3) := by decide +kernel
theorem d_M_flyTo_144 : decode prog_8_method_35_code 144 = .ok (.iload 6, 2) := by decide +kernel
theorem d_M_flyTo_146 : decode prog_8_method_35_code 146 = .ok (.ireturn, 1) := by decide +kernel
theorem d_M_nearest_0 : decode prog_8_method_34_code 0 = .ok (.iconst (-1), 1) := by decide +kernel
theorem d_M_nearest_1 : decode prog_8_method_34_code 1 = .ok (.istore 5, 2) := by decide +kernel
theorem d_M_nearest_3 : decode prog_8_method_34_code 3 = .ok (.lconst 0, 1) := by decide +kernel
theorem d_M_nearest_4 : decode prog_8_method_34_code 4 = .ok (.lstore 6, 2) := by decide +kernel
theorem d_M_nearest_6 : decode prog_8_method_34_code 6 = .ok (.iconst 0, 1) := by decide +kernel
theorem d_M_nearest_7 : decode prog_8_method_34_code 7 = .ok (.istore 8, 2) := by decide +kernel
theorem d_M_nearest_9 : decode prog_8_method_34_code 9 = .ok (.iload 8, 2) := by decide +kernel
theorem d_M_nearest_11 : decode prog_8_method_34_code 11 = .ok (.aload_n 0, 1) := by decide +kernel
theorem d_M_nearest_12 : decode prog_8_method_34_code 12 = .ok (.getfield 67, 3) := by decide +kernel
theorem d_M_nearest_15 : decode prog_8_method_34_code 15 = .ok (.if_icmp .ge 135, 3) := by decide +kernel
theorem d_M_nearest_18 : decode prog_8_method_34_code 18 = .ok (.iconst 0, 1) := by decide +kernel
theorem d_M_nearest_19 : decode prog_8_method_34_code 19 = .ok (.istore 9, 2) := by decide +kernel
theorem d_M_nearest_21 : decode prog_8_method_34_code 21 = .ok (.iconst 0, 1) := by decide +kernel
theorem d_M_nearest_22 : decode prog_8_method_34_code 22 = .ok (.istore 10, 2) := by decide +kernel
theorem d_M_nearest_24 : decode prog_8_method_34_code 24 = .ok (.iload 10, 2) := by decide +kernel
theorem d_M_nearest_26 : decode prog_8_method_34_code 26 = .ok (.aload_n 0, 1) := by decide +kernel
theorem d_M_nearest_27 : decode prog_8_method_34_code 27 = .ok (.getfield 121, 3) := by decide +kernel
theorem d_M_nearest_30 : decode prog_8_method_34_code 30 = .ok (.if_icmp .ge 33, 3) := by decide +kernel
theorem d_M_nearest_33 : decode prog_8_method_34_code 33 = .ok (.iload 9, 2) := by decide +kernel
theorem d_M_nearest_35 : decode prog_8_method_34_code 35 = .ok (.ifCond .ne 15, 3) := by decide +kernel
theorem d_M_nearest_38 : decode prog_8_method_34_code 38 = .ok (.aload_n 0, 1) := by decide +kernel
theorem d_M_nearest_39 : decode prog_8_method_34_code 39 = .ok (.getfield 42, 3) := by decide +kernel
theorem d_M_nearest_42 : decode prog_8_method_34_code 42 = .ok (.iload 10, 2) := by decide +kernel
theorem d_M_nearest_44 : decode prog_8_method_34_code 44 = .ok (.iaload, 1) := by decide +kernel
theorem d_M_nearest_45 : decode prog_8_method_34_code 45 = .ok (.iload 8, 2) := by decide +kernel
theorem d_M_nearest_47 : decode prog_8_method_34_code 47 = .ok (.if_icmp .ne 7, 3) := by decide +kernel
theorem d_M_nearest_50 : decode prog_8_method_34_code 50 = .ok (.iconst 1, 1) := by decide +kernel
theorem d_M_nearest_51 : decode prog_8_method_34_code 51 = .ok (.goto 4, 3) := by decide +kernel
theorem d_M_nearest_54 : decode prog_8_method_34_code 54 = .ok (.iconst 0, 1) := by decide +kernel
theorem d_M_nearest_55 : decode prog_8_method_34_code 55 = .ok (.istore 9, 2) := by decide +kernel
theorem d_M_nearest_57 : decode prog_8_method_34_code 57 = .ok (.iinc 10 1, 3) := by decide +kernel
theorem d_M_nearest_60 : decode prog_8_method_34_code 60 = .ok (.goto (-36), 3) := by decide +kernel
theorem d_M_nearest_63 : decode prog_8_method_34_code 63 = .ok (.aload_n 0, 1) := by decide +kernel
theorem d_M_nearest_64 : decode prog_8_method_34_code 64 = .ok (.getfield 20, 3) := by decide +kernel
theorem d_M_nearest_67 : decode prog_8_method_34_code 67 = .ok (.iload 8, 2) := by decide +kernel
theorem d_M_nearest_69 : decode prog_8_method_34_code 69 = .ok (.laload, 1) := by decide +kernel
theorem d_M_nearest_70 : decode prog_8_method_34_code 70 = .ok (.lload_n 1, 1) := by decide +kernel
theorem d_M_nearest_71 : decode prog_8_method_34_code 71 = .ok (.lsub, 1) := by decide +kernel
theorem d_M_nearest_72 : decode prog_8_method_34_code 72 = .ok (.aload_n 0, 1) := by decide +kernel
theorem d_M_nearest_73 : decode prog_8_method_34_code 73 = .ok (.getfield 20, 3) := by decide +kernel
theorem d_M_nearest_76 : decode prog_8_method_34_code 76 = .ok (.iload 8, 2) := by decide +kernel
theorem d_M_nearest_78 : decode prog_8_method_34_code 78 = .ok (.laload, 1) := by decide +kernel
theorem d_M_nearest_79 : decode prog_8_method_34_code 79 = .ok (.lload_n 1, 1) := by decide +kernel
theorem d_M_nearest_80 : decode prog_8_method_34_code 80 = .ok (.lsub, 1) := by decide +kernel
theorem d_M_nearest_81 : decode prog_8_method_34_code 81 = .ok (.lmul, 1) := by decide +kernel
theorem d_M_nearest_82 : decode prog_8_method_34_code 82 = .ok (.aload_n 0, 1) := by decide +kernel
theorem d_M_nearest_83 : decode prog_8_method_34_code 83 = .ok (.getfield 24, 3) := by decide +kernel
theorem d_M_nearest_86 : decode prog_8_method_34_code 86 = .ok (.iload 8, 2) := by decide +kernel
theorem d_M_nearest_88 : decode prog_8_method_34_code 88 = .ok (.laload, 1) := by decide +kernel
theorem d_M_nearest_89 : decode prog_8_method_34_code 89 = .ok (.lload_n 3, 1) := by decide +kernel
theorem d_M_nearest_90 : decode prog_8_method_34_code 90 = .ok (.lsub, 1) := by decide +kernel
theorem d_M_nearest_91 : decode prog_8_method_34_code 91 = .ok (.aload_n 0, 1) := by decide +kernel
theorem d_M_nearest_92 : decode prog_8_method_34_code 92 = .ok (.getfield 24, 3) := by decide +kernel
theorem d_M_nearest_95 : decode prog_8_method_34_code 95 = .ok (.iload 8, 2) := by decide +kernel
theorem d_M_nearest_97 : decode prog_8_method_34_code 97 = .ok (.laload, 1) := by decide +kernel
theorem d_M_nearest_98 : decode prog_8_method_34_code 98 = .ok (.lload_n 3, 1) := by decide +kernel
theorem d_M_nearest_99 : decode prog_8_method_34_code 99 = .ok (.lsub, 1) := by decide +kernel
theorem d_M_nearest_100 : decode prog_8_method_34_code 100 = .ok (.lmul, 1) := by decide +kernel
theorem d_M_nearest_101 : decode prog_8_method_34_code 101 = .ok (.ladd, 1) := by decide +kernel
theorem d_M_nearest_102 : decode prog_8_method_34_code 102 = .ok (.lstore 10, 2) := by decide +kernel
theorem d_M_nearest_104 : decode prog_8_method_34_code 104 = .ok (.iload 9, 2) := by decide +kernel
theorem d_M_nearest_106 : decode prog_8_method_34_code 106 = .ok (.ifCond .eq 38, 3) := by decide +kernel
theorem d_M_nearest_109 : decode prog_8_method_34_code 109 = .ok (.aload_n 0, 1) := by decide +kernel
theorem d_M_nearest_110 : decode prog_8_method_34_code 110 = .ok (.getfield 54, 3) := by decide +kernel
theorem d_M_nearest_113 : decode prog_8_method_34_code 113 = .ok (.iload 8, 2) := by decide +kernel
theorem d_M_nearest_115 : decode prog_8_method_34_code 115 = .ok (.baload, 1) := by decide +kernel
theorem d_M_nearest_116 : decode prog_8_method_34_code 116 = .ok (.ifCond .ne 28, 3) := by decide +kernel
theorem d_M_nearest_119 : decode prog_8_method_34_code 119 = .ok (.iload 5, 2) := by decide +kernel
theorem d_M_nearest_121 : decode prog_8_method_34_code 121 = .ok (.iconst (-1), 1) := by decide +kernel
theorem d_M_nearest_122 : decode prog_8_method_34_code 122 = .ok (.if_icmp .eq 14, 3) := by decide +kernel
theorem d_M_nearest_125 : decode prog_8_method_34_code 125 = .ok (.lload 10, 2) := by decide +kernel
theorem d_M_nearest_127 : decode prog_8_method_34_code 127 = .ok (.lload 6, 2) := by decide +kernel
theorem d_M_nearest_129 : decode prog_8_method_34_code 129 = .ok (.lcmp, 1) := by decide +kernel
theorem d_M_nearest_130 : decode prog_8_method_34_code 130 = .ok (.ifCond .lt 6, 3) := by decide +kernel
theorem d_M_nearest_133 : decode prog_8_method_34_code 133 = .ok (.goto 11, 3) := by decide +kernel
theorem d_M_nearest_136 : decode prog_8_method_34_code 136 = .ok (.iload 8, 2) := by decide +kernel
theorem d_M_nearest_138 : decode prog_8_method_34_code 138 = .ok (.istore 5, 2) := by decide +kernel
theorem d_M_nearest_140 : decode prog_8_method_34_code 140 = .ok (.lload 10, 2) := by decide +kernel
theorem d_M_nearest_142 : decode prog_8_method_34_code 142 = .ok (.lstore 6, 2) := by decide +kernel
theorem d_M_nearest_144 : decode prog_8_method_34_code 144 = .ok (.iinc 8 1, 3) := by decide +kernel
theorem d_M_nearest_147 : decode prog_8_method_34_code 147 = .ok (.goto (-138), 3) := by decide +kernel
theorem d_M_nearest_150 : decode prog_8_method_34_code 150 = .ok (.iload 5, 2) := by decide +kernel
theorem d_M_nearest_152 : decode prog_8_method_34_code 152 = .ok (.ireturn, 1) := by decide +kernel
theorem d_M_size_0 : decode prog_8_method_33_code 0 = .ok (.lload_n 0, 1) := by decide +kernel
theorem d_M_size_1 : decode prog_8_method_33_code 1 = .ok (.lconst 0, 1) := by decide +kernel
theorem d_M_size_2 : decode prog_8_method_33_code 2 = .ok (.lcmp, 1) := by decide +kernel
theorem d_M_size_3 : decode prog_8_method_33_code 3 = .ok (.ifCond .ge 9, 3) := by decide +kernel
theorem d_M_size_6 : decode prog_8_method_33_code 6 = .ok (.lconst 0, 1) := by decide +kernel
theorem d_M_size_7 : decode prog_8_method_33_code 7 = .ok (.lload_n 0, 1) := by decide +kernel
theorem d_M_size_8 : decode prog_8_method_33_code 8 = .ok (.lsub, 1) := by decide +kernel
theorem d_M_size_9 : decode prog_8_method_33_code 9 = .ok (.goto 4, 3) := by decide +kernel
theorem d_M_size_12 : decode prog_8_method_33_code 12 = .ok (.lload_n 0, 1) := by decide +kernel
theorem d_M_size_13 : decode prog_8_method_33_code 13 = .ok (.lreturn, 1) := by decide +kernel
theorem d_M_seconds_0 : decode prog_8_method_37_code 0 = .ok (.aload_n 0, 1) := by decide +kernel
theorem d_M_seconds_1 : decode prog_8_method_37_code 1 = .ok (.iconst 0, 1) := by decide +kernel
theorem d_M_seconds_2 : decode prog_8_method_37_code 2 = .ok (.putfield 60, 3) := by decide +kernel
theorem d_M_seconds_5 : decode prog_8_method_37_code 5 = .ok (.aload_n 0, 1) := by decide +kernel
theorem d_M_seconds_6 : decode prog_8_method_37_code 6 = .ok (.aload_n 0, 1) := by decide +kernel
theorem d_M_seconds_7 : decode prog_8_method_37_code 7 = .ok (.getfield 121, 3) := by decide +kernel
theorem d_M_seconds_10 : decode prog_8_method_37_code 10 = .ok (.iconst 1, 1) := by decide +kernel
theorem d_M_seconds_11 : decode prog_8_method_37_code 11 = .ok (.isub, 1) := by decide +kernel
theorem d_M_seconds_12 : decode prog_8_method_37_code 12 = .ok (.invokevirtual 157, 3) := by decide +kernel
theorem d_M_seconds_15 : decode prog_8_method_37_code 15 = .ok (.pop, 1) := by decide +kernel
theorem d_M_seconds_16 : decode prog_8_method_37_code 16 = .ok (.aload_n 0, 1) := by decide +kernel
theorem d_M_seconds_17 : decode prog_8_method_37_code 17 = .ok (.getfield 146, 3) := by decide +kernel
theorem d_M_seconds_20 : decode prog_8_method_37_code 20 = .ok (.lreturn, 1) := by decide +kernel
theorem d_M_order_0 : decode prog_8_method_40_code 0 = .ok (.aload_n 0, 1) := by decide +kernel
theorem d_M_order_1 : decode prog_8_method_40_code 1 = .ok (.iconst 0, 1) := by decide +kernel
theorem d_M_order_2 : decode prog_8_method_40_code 2 = .ok (.putfield 60, 3) := by decide +kernel
theorem d_M_order_5 : decode prog_8_method_40_code 5 = .ok (.aload_n 0, 1) := by decide +kernel
theorem d_M_order_6 : decode prog_8_method_40_code 6 = .ok (.iload_n 1, 1) := by decide +kernel
theorem d_M_order_7 : decode prog_8_method_40_code 7 = .ok (.invokevirtual 163, 3) := by decide +kernel
theorem d_M_order_10 : decode prog_8_method_40_code 10 = .ok (.ireturn, 1) := by decide +kernel
theorem d_M_placed_0 : decode prog_8_method_39_code 0 = .ok (.iconst 0, 1) := by decide +kernel
theorem d_M_placed_1 : decode prog_8_method_39_code 1 = .ok (.istore_n 2, 1) := by decide +kernel
theorem d_M_placed_2 : decode prog_8_method_39_code 2 = .ok (.iload_n 2, 1) := by decide +kernel
theorem d_M_placed_3 : decode prog_8_method_39_code 3 = .ok (.aload_n 0, 1) := by decide +kernel
theorem d_M_placed_4 : decode prog_8_method_39_code 4 = .ok (.getfield 121, 3) := by decide +kernel
theorem d_M_placed_7 : decode prog_8_method_39_code 7 = .ok (.if_icmp .ge 75, 3) := by decide +kernel
theorem d_M_placed_10 : decode prog_8_method_39_code 10 = .ok (.iconst 0, 1) := by decide +kernel
theorem d_M_placed_11 : decode prog_8_method_39_code 11 = .ok (.istore_n 3, 1) := by decide +kernel
theorem d_M_placed_12 : decode prog_8_method_39_code 12 = .ok (.iconst 0, 1) := by decide +kernel
theorem d_M_placed_13 : decode prog_8_method_39_code 13 = .ok (.istore 4, 2) := by decide +kernel
theorem d_M_placed_15 : decode prog_8_method_39_code 15 = .ok (.iload 4, 2) := by decide +kernel
theorem d_M_placed_17 : decode prog_8_method_39_code 17 = .ok (.aload_n 0, 1) := by decide +kernel
theorem d_M_placed_18 : decode prog_8_method_39_code 18 = .ok (.getfield 121, 3) := by decide +kernel
theorem d_M_placed_21 : decode prog_8_method_39_code 21 = .ok (.if_icmp .ge 43, 3) := by decide +kernel
theorem d_M_placed_24 : decode prog_8_method_39_code 24 = .ok (.iload_n 3, 1) := by decide +kernel
theorem d_M_placed_25 : decode prog_8_method_39_code 25 = .ok (.iload_n 2, 1) := by decide +kernel
theorem d_M_placed_26 : decode prog_8_method_39_code 26 = .ok (.iload 4, 2) := by decide +kernel
theorem d_M_placed_28 : decode prog_8_method_39_code 28 = .ok (.if_icmp .eq 27, 3) := by decide +kernel
theorem d_M_placed_31 : decode prog_8_method_39_code 31 = .ok (.aload_n 0, 1) := by decide +kernel
theorem d_M_placed_32 : decode prog_8_method_39_code 32 = .ok (.aload_n 0, 1) := by decide +kernel
theorem d_M_placed_33 : decode prog_8_method_39_code 33 = .ok (.getfield 42, 3) := by decide +kernel
theorem d_M_placed_36 : decode prog_8_method_39_code 36 = .ok (.iload 4, 2) := by decide +kernel
theorem d_M_placed_38 : decode prog_8_method_39_code 38 = .ok (.iaload, 1) := by decide +kernel
theorem d_M_placed_39 : decode prog_8_method_39_code 39 = .ok (.aload_n 0, 1) := by decide +kernel
theorem d_M_placed_40 : decode prog_8_method_39_code 40 = .ok (.getfield 42, 3) := by decide +kernel
theorem d_M_placed_43 : decode prog_8_method_39_code 43 = .ok (.iload_n 2, 1) := by decide +kernel
theorem d_M_placed_44 : decode prog_8_method_39_code 44 = .ok (.iaload, 1) := by decide +kernel
theorem d_M_placed_45 : decode prog_8_method_39_code 45 = .ok (.invokevirtual 160, 3) := by decide +kernel
theorem d_M_placed_48 : decode prog_8_method_39_code 48 = .ok (.ifCond .eq 7, 3) := by decide +kernel
theorem d_M_placed_51 : decode prog_8_method_39_code 51 = .ok (.iconst 1, 1) := by decide +kernel
theorem d_M_placed_52 : decode prog_8_method_39_code 52 = .ok (.goto 4, 3) := by decide +kernel
theorem d_M_placed_55 : decode prog_8_method_39_code 55 = .ok (.iconst 0, 1) := by decide +kernel
theorem d_M_placed_56 : decode prog_8_method_39_code 56 = .ok (.iadd, 1) := by decide +kernel
theorem d_M_placed_57 : decode prog_8_method_39_code 57 = .ok (.istore_n 3, 1) := by decide +kernel
theorem d_M_placed_58 : decode prog_8_method_39_code 58 = .ok (.iinc 4 1, 3) := by decide +kernel
theorem d_M_placed_61 : decode prog_8_method_39_code 61 = .ok (.goto (-46), 3) := by decide +kernel
theorem d_M_placed_64 : decode prog_8_method_39_code 64 = .ok (.iload_n 3, 1) := by decide +kernel
theorem d_M_placed_65 : decode prog_8_method_39_code 65 = .ok (.iload_n 1, 1) := by decide +kernel
theorem d_M_placed_66 : decode prog_8_method_39_code 66 = .ok (.if_icmp .ne 10, 3) := by decide +kernel
theorem d_M_placed_69 : decode prog_8_method_39_code 69 = .ok (.aload_n 0, 1) := by decide +kernel
theorem d_M_placed_70 : decode prog_8_method_39_code 70 = .ok (.getfield 42, 3) := by decide +kernel
theorem d_M_placed_73 : decode prog_8_method_39_code 73 = .ok (.iload_n 2, 1) := by decide +kernel
theorem d_M_placed_74 : decode prog_8_method_39_code 74 = .ok (.iaload, 1) := by decide +kernel
theorem d_M_placed_75 : decode prog_8_method_39_code 75 = .ok (.ireturn, 1) := by decide +kernel
theorem d_M_placed_76 : decode prog_8_method_39_code 76 = .ok (.iinc 2 1, 3) := by decide +kernel
theorem d_M_placed_79 : decode prog_8_method_39_code 79 = .ok (.goto (-77), 3) := by decide +kernel
theorem d_M_placed_82 : decode prog_8_method_39_code 82 = .ok (.iconst (-1), 1) := by decide +kernel
theorem d_M_placed_83 : decode prog_8_method_39_code 83 = .ok (.ireturn, 1) := by decide +kernel
theorem d_M_isAhead_0 : decode prog_8_method_38_code 0 = .ok (.aload_n 0, 1) := by decide +kernel
theorem d_M_isAhead_1 : decode prog_8_method_38_code 1 = .ok (.getfield 20, 3) := by decide +kernel
theorem d_M_isAhead_4 : decode prog_8_method_38_code 4 = .ok (.iload_n 1, 1) := by decide +kernel
theorem d_M_isAhead_5 : decode prog_8_method_38_code 5 = .ok (.laload, 1) := by decide +kernel
theorem d_M_isAhead_6 : decode prog_8_method_38_code 6 = .ok (.aload_n 0, 1) := by decide +kernel
theorem d_M_isAhead_7 : decode prog_8_method_38_code 7 = .ok (.getfield 20, 3) := by decide +kernel
theorem d_M_isAhead_10 : decode prog_8_method_38_code 10 = .ok (.iload_n 2, 1) := by decide +kernel
theorem d_M_isAhead_11 : decode prog_8_method_38_code 11 = .ok (.laload, 1) := by decide +kernel
theorem d_M_isAhead_12 : decode prog_8_method_38_code 12 = .ok (.lcmp, 1) := by decide +kernel
theorem d_M_isAhead_13 : decode prog_8_method_38_code 13 = .ok (.ifCond .eq 25, 3) := by decide +kernel
theorem d_M_isAhead_16 : decode prog_8_method_38_code 16 = .ok (.aload_n 0, 1) := by decide +kernel
theorem d_M_isAhead_17 : decode prog_8_method_38_code 17 = .ok (.getfield 20, 3) := by decide +kernel
theorem d_M_isAhead_20 : decode prog_8_method_38_code 20 = .ok (.iload_n 1, 1) := by decide +kernel
theorem d_M_isAhead_21 : decode prog_8_method_38_code 21 = .ok (.laload, 1) := by decide +kernel
theorem d_M_isAhead_22 : decode prog_8_method_38_code 22 = .ok (.aload_n 0, 1) := by decide +kernel
theorem d_M_isAhead_23 : decode prog_8_method_38_code 23 = .ok (.getfield 20, 3) := by decide +kernel
theorem d_M_isAhead_26 : decode prog_8_method_38_code 26 = .ok (.iload_n 2, 1) := by decide +kernel
theorem d_M_isAhead_27 : decode prog_8_method_38_code 27 = .ok (.laload, 1) := by decide +kernel
theorem d_M_isAhead_28 : decode prog_8_method_38_code 28 = .ok (.lcmp, 1) := by decide +kernel
theorem d_M_isAhead_29 : decode prog_8_method_38_code 29 = .ok (.ifCond .ge 7, 3) := by decide +kernel
theorem d_M_isAhead_32 : decode prog_8_method_38_code 32 = .ok (.iconst 1, 1) := by decide +kernel
theorem d_M_isAhead_33 : decode prog_8_method_38_code 33 = .ok (.goto 4, 3) := by decide +kernel
theorem d_M_isAhead_36 : decode prog_8_method_38_code 36 = .ok (.iconst 0, 1) := by decide +kernel
theorem d_M_isAhead_37 : decode prog_8_method_38_code 37 = .ok (.ireturn, 1) := by decide +kernel
theorem d_M_isAhead_38 : decode prog_8_method_38_code 38 = .ok (.aload_n 0, 1) := by decide +kernel
theorem d_M_isAhead_39 : decode prog_8_method_38_code 39 = .ok (.getfield 24, 3) := by decide +kernel
theorem d_M_isAhead_42 : decode prog_8_method_38_code 42 = .ok (.iload_n 1, 1) := by decide +kernel
theorem d_M_isAhead_43 : decode prog_8_method_38_code 43 = .ok (.laload, 1) := by decide +kernel
theorem d_M_isAhead_44 : decode prog_8_method_38_code 44 = .ok (.aload_n 0, 1) := by decide +kernel
theorem d_M_isAhead_45 : decode prog_8_method_38_code 45 = .ok (.getfield 24, 3) := by decide +kernel
theorem d_M_isAhead_48 : decode prog_8_method_38_code 48 = .ok (.iload_n 2, 1) := by decide +kernel
theorem d_M_isAhead_49 : decode prog_8_method_38_code 49 = .ok (.laload, 1) := by decide +kernel
theorem d_M_isAhead_50 : decode prog_8_method_38_code 50 = .ok (.lcmp, 1) := by decide +kernel
theorem d_M_isAhead_51 : decode prog_8_method_38_code 51 = .ok (.ifCond .eq 27, 3) := by decide +kernel
theorem d_M_isAhead_54 : decode prog_8_method_38_code 54 = .ok (.aload_n 0, 1) := by decide +kernel
theorem d_M_isAhead_55 : decode prog_8_method_38_code 55 = .ok (.getfield 24, 3) := by decide +kernel
theorem d_M_isAhead_58 : decode prog_8_method_38_code 58 = .ok (.iload_n 1, 1) := by decide +kernel
theorem d_M_isAhead_59 : decode prog_8_method_38_code 59 = .ok (.laload, 1) := by decide +kernel
theorem d_M_isAhead_60 : decode prog_8_method_38_code 60 = .ok (.aload_n 0, 1) := by decide +kernel
theorem d_M_isAhead_61 : decode prog_8_method_38_code 61 = .ok (.getfield 24, 3) := by decide +kernel
theorem d_M_isAhead_64 : decode prog_8_method_38_code 64 = .ok (.iload_n 2, 1) := by decide +kernel
theorem d_M_isAhead_65 : decode prog_8_method_38_code 65 = .ok (.laload, 1) := by decide +kernel
theorem d_M_isAhead_66 : decode prog_8_method_38_code 66 = .ok (.lcmp, 1) := by decide +kernel
theorem d_M_isAhead_67 : decode prog_8_method_38_code 67 = .ok (.ifCond .ge 7, 3) := by decide +kernel
theorem d_M_isAhead_70 : decode prog_8_method_38_code 70 = .ok (.iconst 1, 1) := by decide +kernel
theorem d_M_isAhead_71 : decode prog_8_method_38_code 71 = .ok (.goto 17, 3) := by decide +kernel
theorem d_M_isAhead_74 : decode prog_8_method_38_code 74 = .ok (.iconst 0, 1) := by decide +kernel
theorem d_M_isAhead_75 : decode prog_8_method_38_code 75 = .ok (.goto 13, 3) := by decide +kernel
theorem d_M_isAhead_78 : decode prog_8_method_38_code 78 = .ok (.iload_n 1, 1) := by decide +kernel
theorem d_M_isAhead_79 : decode prog_8_method_38_code 79 = .ok (.iload_n 2, 1) := by decide +kernel
theorem d_M_isAhead_80 : decode prog_8_method_38_code 80 = .ok (.if_icmp .ge 7, 3) := by decide +kernel
theorem d_M_isAhead_83 : decode prog_8_method_38_code 83 = .ok (.iconst 1, 1) := by decide +kernel
theorem d_M_isAhead_84 : decode prog_8_method_38_code 84 = .ok (.goto 4, 3) := by decide +kernel
theorem d_M_isAhead_87 : decode prog_8_method_38_code 87 = .ok (.iconst 0, 1) := by decide +kernel
theorem d_M_isAhead_88 : decode prog_8_method_38_code 88 = .ok (.ireturn, 1) := by decide +kernel
theorem d_M_text_0 : decode prog_8_method_43_code 0 = .ok (.aload_n 0, 1) := by decide +kernel
theorem d_M_text_1 : decode prog_8_method_43_code 1 = .ok (.iload_n 1, 1) := by decide +kernel
theorem d_M_text_2 : decode prog_8_method_43_code 2 = .ok (.ifCond .ge 7, 3) := by decide +kernel
theorem d_M_text_5 : decode prog_8_method_43_code 5 = .ok (.iconst 1, 1) := by decide +kernel
theorem d_M_text_6 : decode prog_8_method_43_code 6 = .ok (.goto 4, 3) := by decide +kernel
theorem d_M_text_9 : decode prog_8_method_43_code 9 = .ok (.iconst 0, 1) := by decide +kernel
theorem d_M_text_10 : decode prog_8_method_43_code 10 = .ok (.putfield 60, 3) := by decide +kernel
theorem d_M_text_13 : decode prog_8_method_43_code 13 = .ok (.aload_n 0, 1) := by decide +kernel
theorem d_M_text_14 : decode prog_8_method_43_code 14 = .ok (.getfield 60, 3) := by decide +kernel
theorem d_M_text_17 : decode prog_8_method_43_code 17 = .ok (.ifCond .eq 5, 3) := by decide +kernel
theorem d_M_text_20 : decode prog_8_method_43_code 20 = .ok (.iconst 0, 1) := by decide +kernel
theorem d_M_text_21 : decode prog_8_method_43_code 21 = .ok (.ireturn, 1) := by decide +kernel
theorem d_M_text_22 : decode prog_8_method_43_code 22 = .ok (.aload_n 0, 1) := by decide +kernel
theorem d_M_text_23 : decode prog_8_method_43_code 23 = .ok (.iconst 0, 1) := by decide +kernel
theorem d_M_text_24 : decode prog_8_method_43_code 24 = .ok (.putfield 166, 3) := by decide +kernel
theorem d_M_text_27 : decode prog_8_method_43_code 27 = .ok (.iconst 0, 1) := by decide +kernel
theorem d_M_text_28 : decode prog_8_method_43_code 28 = .ok (.istore_n 2, 1) := by decide +kernel
theorem d_M_text_29 : decode prog_8_method_43_code 29 = .ok (.iload_n 2, 1) := by decide +kernel
theorem d_M_text_30 : decode prog_8_method_43_code 30 = .ok (.aload_n 0, 1) := by decide +kernel
theorem d_M_text_31 : decode prog_8_method_43_code 31 = .ok (.getfield 121, 3) := by decide +kernel
theorem d_M_text_34 : decode prog_8_method_43_code 34 = .ok (.if_icmp .ge 65, 3) := by decide +kernel
theorem d_M_text_37 : decode prog_8_method_43_code 37 = .ok (.aload_n 0, 1) := by decide +kernel
theorem d_M_text_38 : decode prog_8_method_43_code 38 = .ok (.iload_n 2, 1) := by decide +kernel
theorem d_M_text_39 : decode prog_8_method_43_code 39 = .ok (.invokevirtual 163, 3) := by decide +kernel
theorem d_M_text_42 : decode prog_8_method_43_code 42 = .ok (.istore_n 3, 1) := by decide +kernel
theorem d_M_text_43 : decode prog_8_method_43_code 43 = .ok (.aload_n 0, 1) := by decide +kernel
theorem d_M_text_44 : decode prog_8_method_43_code 44 = .ok (.bipush 112, 2) := by decide +kernel
theorem d_M_text_46 : decode prog_8_method_43_code 46 = .ok (.invokevirtual 169, 3) := by decide +kernel
theorem d_M_text_49 : decode prog_8_method_43_code 49 = .ok (.aload_n 0, 1) := by decide +kernel
theorem d_M_text_50 : decode prog_8_method_43_code 50 = .ok (.iload_n 3, 1) := by decide +kernel
theorem d_M_text_51 : decode prog_8_method_43_code 51 = .ok (.i2l, 1) := by decide +kernel
theorem d_M_text_52 : decode prog_8_method_43_code 52 = .ok (.invokevirtual 175, 3) := by decide +kernel
theorem d_M_text_55 : decode prog_8_method_43_code 55 = .ok (.aload_n 0, 1) := by decide +kernel
theorem d_M_text_56 : decode prog_8_method_43_code 56 = .ok (.bipush 32, 2) := by decide +kernel
theorem d_M_text_58 : decode prog_8_method_43_code 58 = .ok (.invokevirtual 169, 3) := by decide +kernel
theorem d_M_text_61 : decode prog_8_method_43_code 61 = .ok (.aload_n 0, 1) := by decide +kernel
theorem d_M_text_62 : decode prog_8_method_43_code 62 = .ok (.aload_n 0, 1) := by decide +kernel
theorem d_M_text_63 : decode prog_8_method_43_code 63 = .ok (.getfield 20, 3) := by decide +kernel
theorem d_M_text_66 : decode prog_8_method_43_code 66 = .ok (.iload_n 3, 1) := by decide +kernel
theorem d_M_text_67 : decode prog_8_method_43_code 67 = .ok (.laload, 1) := by decide +kernel
theorem d_M_text_68 : decode prog_8_method_43_code 68 = .ok (.invokevirtual 175, 3) := by decide +kernel
theorem d_M_text_71 : decode prog_8_method_43_code 71 = .ok (.aload_n 0, 1) := by decide +kernel
theorem d_M_text_72 : decode prog_8_method_43_code 72 = .ok (.bipush 32, 2) := by decide +kernel
theorem d_M_text_74 : decode prog_8_method_43_code 74 = .ok (.invokevirtual 169, 3) := by decide +kernel
theorem d_M_text_77 : decode prog_8_method_43_code 77 = .ok (.aload_n 0, 1) := by decide +kernel
theorem d_M_text_78 : decode prog_8_method_43_code 78 = .ok (.aload_n 0, 1) := by decide +kernel
theorem d_M_text_79 : decode prog_8_method_43_code 79 = .ok (.getfield 24, 3) := by decide +kernel
theorem d_M_text_82 : decode prog_8_method_43_code 82 = .ok (.iload_n 3, 1) := by decide +kernel
theorem d_M_text_83 : decode prog_8_method_43_code 83 = .ok (.laload, 1) := by decide +kernel
theorem d_M_text_84 : decode prog_8_method_43_code 84 = .ok (.invokevirtual 175, 3) := by decide +kernel
theorem d_M_text_87 : decode prog_8_method_43_code 87 = .ok (.aload_n 0, 1) := by decide +kernel
theorem d_M_text_88 : decode prog_8_method_43_code 88 = .ok (.bipush 10, 2) := by decide +kernel
theorem d_M_text_90 : decode prog_8_method_43_code 90 = .ok (.invokevirtual 169, 3) := by decide +kernel
theorem d_M_text_93 : decode prog_8_method_43_code 93 = .ok (.iinc 2 1, 3) := by decide +kernel
theorem d_M_text_96 : decode prog_8_method_43_code 96 = .ok (.goto (-67), 3) := by decide +kernel
theorem d_M_text_99 : decode prog_8_method_43_code 99 = .ok (.iload_n 1, 1) := by decide +kernel
theorem d_M_text_100 : decode prog_8_method_43_code 100 = .ok (.aload_n 0, 1) := by decide +kernel
theorem d_M_text_101 : decode prog_8_method_43_code 101 = .ok (.getfield 166, 3) := by decide +kernel
theorem d_M_text_104 : decode prog_8_method_43_code 104 = .ok (.if_icmp .ge 12, 3) := by decide +kernel
theorem d_M_text_107 : decode prog_8_method_43_code 107 = .ok (.aload_n 0, 1) := by decide +kernel
theorem d_M_text_108 : decode prog_8_method_43_code 108 = .ok (.getfield 57, 3) := by decide +kernel
theorem d_M_text_111 : decode prog_8_method_43_code 111 = .ok (.iload_n 1, 1) := by decide +kernel
theorem d_M_text_112 : decode prog_8_method_43_code 112 = .ok (.iaload, 1) := by decide +kernel
theorem d_M_text_113 : decode prog_8_method_43_code 113 = .ok (.goto 4, 3) := by decide +kernel
theorem d_M_text_116 : decode prog_8_method_43_code 116 = .ok (.iconst (-1), 1) := by decide +kernel
theorem d_M_text_117 : decode prog_8_method_43_code 117 = .ok (.ireturn, 1) := by decide +kernel
theorem d_M_say_0 : decode prog_8_method_41_code 0 = .ok (.aload_n 0, 1) := by decide +kernel
theorem d_M_say_1 : decode prog_8_method_41_code 1 = .ok (.getfield 57, 3) := by decide +kernel
theorem d_M_say_4 : decode prog_8_method_41_code 4 = .ok (.aload_n 0, 1) := by decide +kernel
theorem d_M_say_5 : decode prog_8_method_41_code 5 = .ok (.getfield 166, 3) := by decide +kernel
theorem d_M_say_8 : decode prog_8_method_41_code 8 = .ok (.iload_n 1, 1) := by decide +kernel
theorem d_M_say_9 : decode prog_8_method_41_code 9 = .ok (.iastore, 1) := by decide +kernel
theorem d_M_say_10 : decode prog_8_method_41_code 10 = .ok (.aload_n 0, 1) := by decide +kernel
theorem d_M_say_11 : decode prog_8_method_41_code 11 = .ok (.dup, 1) := by decide +kernel
theorem d_M_say_12 : decode prog_8_method_41_code 12 = .ok (.getfield 166, 3) := by decide +kernel
theorem d_M_say_15 : decode prog_8_method_41_code 15 = .ok (.iconst 1, 1) := by decide +kernel
theorem d_M_say_16 : decode prog_8_method_41_code 16 = .ok (.iadd, 1) := by decide +kernel
theorem d_M_say_17 : decode prog_8_method_41_code 17 = .ok (.putfield 166, 3) := by decide +kernel
theorem d_M_say_20 : decode prog_8_method_41_code 20 = .ok (.return_, 1) := by decide +kernel
theorem d_M_sayNumber_0 : decode prog_8_method_42_code 0 = .ok (.lload_n 1, 1) := by decide +kernel
theorem d_M_sayNumber_1 : decode prog_8_method_42_code 1 = .ok (.lconst 0, 1) := by decide +kernel
theorem d_M_sayNumber_2 : decode prog_8_method_42_code 2 = .ok (.lcmp, 1) := by decide +kernel
theorem d_M_sayNumber_3 : decode prog_8_method_42_code 3 = .ok (.ifCond .ge 9, 3) := by decide +kernel
theorem d_M_sayNumber_6 : decode prog_8_method_42_code 6 = .ok (.aload_n 0, 1) := by decide +kernel
theorem d_M_sayNumber_7 : decode prog_8_method_42_code 7 = .ok (.bipush 45, 2) := by decide +kernel
theorem d_M_sayNumber_9 : decode prog_8_method_42_code 9 = .ok (.invokevirtual 169, 3) := by decide +kernel
theorem d_M_sayNumber_12 : decode prog_8_method_42_code 12 = .ok (.lload_n 1, 1) := by decide +kernel
theorem d_M_sayNumber_13 : decode prog_8_method_42_code 13 = .ok (.invokestatic 153, 3) := by decide +kernel
theorem d_M_sayNumber_16 : decode prog_8_method_42_code 16 = .ok (.lstore_n 3, 1) := by decide +kernel
theorem d_M_sayNumber_17 : decode prog_8_method_42_code 17 = .ok (.lconst 1, 1) := by decide +kernel
theorem d_M_sayNumber_18 : decode prog_8_method_42_code 18 = .ok (.lstore 5, 2) := by decide +kernel
theorem d_M_sayNumber_20 : decode prog_8_method_42_code 20 = .ok (.lload_n 3, 1) := by decide +kernel
theorem d_M_sayNumber_21 : decode prog_8_method_42_code 21 = .ok (.lload 5, 2) := by decide +kernel
theorem d_M_sayNumber_23 : decode prog_8_method_42_code 23 = .ok (.ldiv, 1) := by decide +kernel
theorem d_M_sayNumber_24 : decode prog_8_method_42_code 24 = .ok (.ldc2_w 173, 3) := by decide +kernel
theorem d_M_sayNumber_27 : decode prog_8_method_42_code 27 = .ok (.lcmp, 1) := by decide +kernel
theorem d_M_sayNumber_28 : decode prog_8_method_42_code 28 = .ok (.ifCond .lt 14, 3) := by decide +kernel
theorem d_M_sayNumber_31 : decode prog_8_method_42_code 31 = .ok (.ldc2_w 173, 3) := by decide +kernel
theorem d_M_sayNumber_34 : decode prog_8_method_42_code 34 = .ok (.lload 5, 2) := by decide +kernel
theorem d_M_sayNumber_36 : decode prog_8_method_42_code 36 = .ok (.lmul, 1) := by decide +kernel
theorem d_M_sayNumber_37 : decode prog_8_method_42_code 37 = .ok (.lstore 5, 2) := by decide +kernel
theorem d_M_sayNumber_39 : decode prog_8_method_42_code 39 = .ok (.goto (-19), 3) := by decide +kernel
theorem d_M_sayNumber_42 : decode prog_8_method_42_code 42 = .ok (.lload 5, 2) := by decide +kernel
theorem d_M_sayNumber_44 : decode prog_8_method_42_code 44 = .ok (.lconst 0, 1) := by decide +kernel
theorem d_M_sayNumber_45 : decode prog_8_method_42_code 45 = .ok (.lcmp, 1) := by decide +kernel
theorem d_M_sayNumber_46 : decode prog_8_method_42_code 46 = .ok (.ifCond .le 30, 3) := by decide +kernel
theorem d_M_sayNumber_49 : decode prog_8_method_42_code 49 = .ok (.aload_n 0, 1) := by decide +kernel
theorem d_M_sayNumber_50 : decode prog_8_method_42_code 50 = .ok (.lload_n 3, 1) := by decide +kernel
theorem d_M_sayNumber_51 : decode prog_8_method_42_code 51 = .ok (.lload 5, 2) := by decide +kernel
theorem d_M_sayNumber_53 : decode prog_8_method_42_code 53 = .ok (.ldiv, 1) := by decide +kernel
theorem d_M_sayNumber_54 : decode prog_8_method_42_code 54 = .ok (.ldc2_w 173, 3) := by decide +kernel
theorem d_M_sayNumber_57 : decode prog_8_method_42_code 57 = .ok (.lrem, 1) := by decide +kernel
theorem d_M_sayNumber_58 : decode prog_8_method_42_code 58 = .ok (.l2i, 1) := by decide +kernel
theorem d_M_sayNumber_59 : decode prog_8_method_42_code 59 = .ok (.bipush 48, 2) := by decide +kernel
theorem d_M_sayNumber_61 : decode prog_8_method_42_code 61 = .ok (.iadd, 1) := by decide +kernel
theorem d_M_sayNumber_62 : decode prog_8_method_42_code 62 = .ok (.invokevirtual 169, 3) := by decide +kernel
theorem d_M_sayNumber_65 : decode prog_8_method_42_code 65 = .ok (.lload 5, 2) := by decide +kernel
theorem d_M_sayNumber_67 : decode prog_8_method_42_code 67 = .ok (.ldc2_w 173, 3) := by decide +kernel
theorem d_M_sayNumber_70 : decode prog_8_method_42_code 70 = .ok (.ldiv, 1) := by decide +kernel
theorem d_M_sayNumber_71 : decode prog_8_method_42_code 71 = .ok (.lstore 5, 2) := by decide +kernel
theorem d_M_sayNumber_73 : decode prog_8_method_42_code 73 = .ok (.goto (-31), 3) := by decide +kernel
theorem d_M_sayNumber_76 : decode prog_8_method_42_code 76 = .ok (.return_, 1) := by decide +kernel
end
section
/-! what the class's methods answer, as functions of its state -/
theorem sq_bd {a n : Int} (h : -n ≤ a) (h2 : a ≤ n) : 0 ≤ a * a ∧ a * a ≤ n * n := by
  have h0 : 0 ≤ a * a := by
    rcases Int.le_total 0 a with q | q
    · exact Int.mul_nonneg q q
    · exact Int.mul_nonneg_of_nonpos_of_nonpos q q
  refine ⟨h0, ?_⟩
  have h3 : 0 ≤ (n - a) * (n + a) := Int.mul_nonneg (by omega) (by omega)
  have h4 : (n - a) * (n + a) = n * n - a * a := by
    rw [Int.sub_mul, Int.mul_add, Int.mul_add, Int.mul_comm a n]; omega
  omega
/-- the board's numbers are in their ranges -/
def IB (σ : St) : Prop := (0 ≤ σ 7 0 ∧ σ 7 0 ≤ 12) ∧ (0 ≤ σ 8 0 ∧ σ 8 0 ≤ 36) ∧ (0 ≤ σ 9 0 ∧ σ 9 0 ≤ 1000000) ∧ (∀ i, -1000000 ≤ σ 3 i ∧ σ 3 i ≤ 1000000) ∧ (∀ i, -1000000 ≤ σ 4 i ∧ σ 4 i ≤ 1000000) ∧ (∀ i, 0 ≤ σ 5 i ∧ σ 5 i ≤ 100000) ∧ (∀ i, 0 ≤ σ 6 i ∧ σ 6 i ≤ 1000000) ∧ (∀ i, 0 ≤ σ 1 i ∧ σ 1 i ≤ 3) ∧ (∀ i, 0 ≤ σ 2 i ∧ σ 2 i ≤ 35) ∧ (∀ i, σ 0 i = 0 ∨ σ 0 i = 1)
def sqW (σ : St) (p x y : Int) : Int := (σ 3 p - x) * (σ 3 p - x) + (σ 4 p - y) * (σ 4 p - y)
theorem sqW_bd {σ : St} (h : IB σ) (p : Int) {x y : Int} (hx : -1000000 ≤ x ∧ x ≤ 1000000) (hy : -1000000 ≤ y ∧ y ≤ 1000000) : 0 ≤ sqW σ p x y ∧ sqW σ p x y ≤ 8000000000000 := by
  obtain ⟨-, -, -, h3, h4, -⟩ := h
  have a := sq_bd (a := σ 3 p - x) (n := 2000000) (by have := h3 p; omega) (by have := h3 p; omega)
  have b := sq_bd (a := σ 4 p - y) (n := 2000000) (by have := h4 p; omega) (by have := h4 p; omega)
  unfold sqW
  omega
abbrev canB (σ : St) (a b : Int) : Prop := (σ 9 0 + σ 5 a + σ 5 b) * (σ 9 0 + σ 5 a + σ 5 b) ≤ sqW σ a (σ 3 b) (σ 4 b)
abbrev befP (σ : St) (a b : Int) : Prop := σ 3 a < σ 3 b ∨ (σ 3 a = σ 3 b ∧ (σ 4 a < σ 4 b ∨ (σ 4 a = σ 4 b ∧ a < b)))
def bNet (σ : St) (b : Int) : St := if 12 ≤ σ 7 0 then σ else up (up σ 0 (σ 7 0) b) 7 0 (σ 7 0 + 1)
def bPoint (σ : St) (n x y r : Int) : St := if 3 ≤ σ 1 n ∨ 36 ≤ σ 8 0 then σ else
  up (up (up (up (up (up σ 3 (σ 8 0) x) 4 (σ 8 0) y) 5 (σ 8 0) r) 2 (n * 3 + σ 1 n) (σ 8 0)) 1 n (σ 1 n + 1)) 8 0 (σ 8 0 + 1)
/-- how many of the first n nets must be reached -/
def cntM (σ : St) : Nat → Int
  | 0 => 0
  | n + 1 => cntM σ n + σ 0 n
theorem cntM_bd {σ : St} (h : ∀ i, σ 0 i = 0 ∨ σ 0 i = 1) (n : Nat) : 0 ≤ cntM σ n ∧ cntM σ n ≤ n := by
  induction n with
  | zero => simp [cntM]
  | succ n ih => have := h n; simp only [cntM]; omega
theorem Met.ofWF {l : Launch} {y : MethodName} {ws ws' : List Cond} {rm : Room} {Pc : Array Value → State → Prop} {Qc : Array Value → State → Outcome → State → Prop} {mc ms : Nat} {free : Addr → Prop} {cc : ByteArray} {maxL : Nat} {ret : Option FieldType}
    (hy : plainFor y = true) (hw : ws = Cond.code y cc maxL ret :: ws')
    (body : ∀ p e s m args below meth c s₁, BodyLoose p l y (headSpec ws rm) cc maxL ret e s m args below meth c s₁ → c.maxLocals = maxL → Pc args s →
      W p l e (headSpec ws rm).room s m args below meth c s.heap [] 0 0 (MQ below Qc args s mc ms free) (entryFrame m args maxL)) : Met l y ws rm Pc Qc mc ms free := by
  refine MetFree.of_bodySF (code := cc) (maxLocals := maxL) (ret := ret) hy ?_ ?_
  · intro args s m h hn
    obtain ⟨meth, c, h1, h2, h3, h4, h5, h6, -, -⟩ := Cond.code_spec hn (atoms_spec (ws := ws) h _ (by rw [hw]; exact List.mem_cons_self))
    exact ⟨meth, c, h1, h2, h3, h4, h5, h6⟩
  · intro p e s m args below meth c s₁ B hml hP _
    have hh0 : s₁.heap = s.heap := by rw [B.state]; rfl
    obtain ⟨t, a1, o, b1, b2, b3⟩ := body p e s m args below meth c s₁ B hml hP s₁ hh0 (Stand.of_body B)
    exact ⟨t, o, a1, b1, b2, ⟨b3.1, b3.2⟩⟩
theorem Cw.enterF {S0 : Type} {l : Launch} {D : va_G} {cl : List vw_C} {tys : List (ClassId × FieldType)} {wf : S0 → va_W} {y : MethodName} {cc : ByteArray} {nL : Nat} {ret : Option FieldType} {h : Nat} {as : List Value} {σ : S0} {Post : Option Value → S0 → Prop} (hy : plainFor y = true) (hn : (lg_sl as).length ≤ nL)
    (body : ∀ (A : Nat → Prop) (p : Program) (e : Env) (s : State) (m : MethodId) (below : List Frame) (meth : Method) (c : Code), Cx p s m as.toArray c cc nL y.cls meth ret D cl tys → ∀ ls : Array Slot, lv_has ls nL (lv_args 0 as) → Wd D cl wf A s.heap σ s.heap [] →
      W p l e (Rmh h) s m as.toArray below meth c s.heap [] 0 0 (MQ below (Qw D cl wf A Post) as.toArray s 0 0 A) (F0 m 0 ls [])) : Cw l D cl tys wf y cc nL ret h as σ Post := by
  intro A
  refine Met.ofWF (cc := cc) (maxL := nL) (ret := ret) hy rfl ?_
  intro p e s m args below meth c s₁ B hml hv
  obtain ⟨rfl, hTB, hK, hP, hD⟩ := hv
  have hl := lv_entry as (n := nL) hn
  rw [lg_entry_eq]
  exact body A p e s m below meth c ⟨B.exec, B.bytes, hml, findClass_of_methodNamed B.named, hTB, hK, B.returns, B.notSynchronized⟩ _ hl ⟨hP, hD, va_S.rf⟩
end
section
set_option maxHeartbeats 4000000 in
set_option maxRecDepth 100000 in
theorem k_JM_absL {l : Launch} {D : va_G} {ad : Nat → Nat} {ca : Nat → ClassId} (σ : St) (a : Int) (ha : r64 a) : Cw l D cl7 (tyX ca) (wX ad ca) y_JM_absL c_JM_absL 2 (some .long) 0 [.long (zL a)] σ (RW (.long (zL ((a.natAbs : Nat) : Int))) (σ = ·)) := by
  refine Cw.enterF (by decide +kernel) (Nat.le_of_ble_eq_true rfl) ?_
  intro A p e s m below meth c hc ls hl hw
  have hl : lv_has ls 2 [(0, .long (zL a))] := hl
  obtain ⟨hx, hb, hml, hown, hTB, hK, hr, hlk⟩ := id hc
  refine lv_lload_n hx hb d_JM_absL_0 rfl (lv_at hl 0 rfl) ?_
  refine z_lc0 hx hb d_JM_absL_1 ?_
  refine z_lcmp_ge hx hb 11 d_JM_absL_2 d_JM_absL_3 (by omega) (by omega) (by decide) (fun c2 => ?_) (fun c2 => ?_)
  · refine lv_lload_n hx hb d_JM_absL_11 rfl (lv_at hl 0 rfl) ?_
    exact w_lret hc hw (⟨by congr 3; omega, rfl⟩) d_JM_absL_12
  · refine lv_lload_n hx hb d_JM_absL_6 rfl (lv_at hl 0 rfl) ?_
    refine z_lneg hx hb d_JM_absL_7 ?_
    refine lv_goto (tgt := 12) hx hb d_JM_absL_8 (by decide) ?_
    exact w_lret hc hw (⟨by congr 3; omega, rfl⟩) d_JM_absL_12
set_option maxHeartbeats 4000000 in
set_option maxRecDepth 100000 in
theorem k_JM_maxL {l : Launch} {D : va_G} {ad : Nat → Nat} {ca : Nat → ClassId} (σ : St) (a b : Int) (ha : r64 a) (hb2 : r64 b) : Cw l D cl7 (tyX ca) (wX ad ca) y_JM_maxL c_JM_maxL 4 (some .long) 0 [.long (zL a), .long (zL b)] σ (RW (.long (zL (max a b))) (σ = ·)) := by
  refine Cw.enterF (by decide +kernel) (Nat.le_of_ble_eq_true rfl) ?_
  intro A p e s m below meth c hc ls hl hw
  have hl : lv_has ls 4 [(0, .long (zL a)), (2, .long (zL b))] := hl
  obtain ⟨hx, hb, hml, hown, hTB, hK, hr, hlk⟩ := id hc
  refine lv_lload_n hx hb d_JM_maxL_0 rfl (lv_at hl 0 rfl) ?_
  refine lv_lload_n hx hb d_JM_maxL_1 rfl (lv_at hl 1 rfl) ?_
  refine z_lcmp_lt hx hb 10 d_JM_maxL_2 d_JM_maxL_3 (by omega) (by omega) (by decide) (fun c2 => ?_) (fun c2 => ?_)
  · refine lv_lload_n hx hb d_JM_maxL_10 rfl (lv_at hl 1 rfl) ?_
    exact w_lret hc hw (⟨by congr 3; omega, rfl⟩) d_JM_maxL_11
  · refine lv_lload_n hx hb d_JM_maxL_6 rfl (lv_at hl 0 rfl) ?_
    refine lv_goto (tgt := 11) hx hb d_JM_maxL_7 (by decide) ?_
    exact w_lret hc hw (⟨by congr 3; omega, rfl⟩) d_JM_maxL_11
set_option maxHeartbeats 4000000 in
set_option maxRecDepth 100000 in
theorem k_JM_max {l : Launch} {D : va_G} {ad : Nat → Nat} {ca : Nat → ClassId} (σ : St) (a b : Int) (ha : r32 a) (hb2 : r32 b) : Cw l D cl7 (tyX ca) (wX ad ca) y_JM_max c_JM_max 2 (some .int) 0 [.int (zI a), .int (zI b)] σ (RW (.int (zI (max a b))) (σ = ·)) := by
  refine Cw.enterF (by decide +kernel) (Nat.le_of_ble_eq_true rfl) ?_
  intro A p e s m below meth c hc ls hl hw
  have hl : lv_has ls 2 [(0, .int (zI a)), (1, .int (zI b))] := hl
  obtain ⟨hx, hb, hml, hown, hTB, hK, hr, hlk⟩ := id hc
  refine lv_iload_n hx hb d_JM_max_0 rfl (lv_at hl 0 rfl) ?_
  refine lv_iload_n hx hb d_JM_max_1 rfl (lv_at hl 1 rfl) ?_
  refine z_icmp_lt hx hb 9 d_JM_max_2 (by omega) (by omega) (by decide) (fun c2 => ?_) (fun c2 => ?_)
  · refine lv_iload_n hx hb d_JM_max_9 rfl (lv_at hl 1 rfl) ?_
    exact w_iret hc hw (⟨by congr 3; omega, rfl⟩) d_JM_max_10
  · refine lv_iload_n hx hb d_JM_max_5 rfl (lv_at hl 0 rfl) ?_
    refine lv_goto (tgt := 10) hx hb d_JM_max_6 (by decide) ?_
    exact w_iret hc hw (⟨by congr 3; omega, rfl⟩) d_JM_max_10
set_option maxHeartbeats 4000000 in
set_option maxRecDepth 100000 in
theorem k_JM_min {l : Launch} {D : va_G} {ad : Nat → Nat} {ca : Nat → ClassId} (σ : St) (a b : Int) (ha : r32 a) (hb2 : r32 b) : Cw l D cl7 (tyX ca) (wX ad ca) y_JM_min c_JM_min 2 (some .int) 0 [.int (zI a), .int (zI b)] σ (RW (.int (zI (min a b))) (σ = ·)) := by
  refine Cw.enterF (by decide +kernel) (Nat.le_of_ble_eq_true rfl) ?_
  intro A p e s m below meth c hc ls hl hw
  have hl : lv_has ls 2 [(0, .int (zI a)), (1, .int (zI b))] := hl
  obtain ⟨hx, hb, hml, hown, hTB, hK, hr, hlk⟩ := id hc
  refine lv_iload_n hx hb d_JM_min_0 rfl (lv_at hl 0 rfl) ?_
  refine lv_iload_n hx hb d_JM_min_1 rfl (lv_at hl 1 rfl) ?_
  refine z_icmp_gt hx hb 9 d_JM_min_2 (by omega) (by omega) (by decide) (fun c2 => ?_) (fun c2 => ?_)
  · refine lv_iload_n hx hb d_JM_min_9 rfl (lv_at hl 1 rfl) ?_
    exact w_iret hc hw (⟨by congr 3; omega, rfl⟩) d_JM_min_10
  · refine lv_iload_n hx hb d_JM_min_5 rfl (lv_at hl 0 rfl) ?_
    refine lv_goto (tgt := 10) hx hb d_JM_min_6 (by decide) ?_
    exact w_iret hc hw (⟨by congr 3; omega, rfl⟩) d_JM_min_10
set_option maxHeartbeats 4000000 in
set_option maxRecDepth 100000 in
theorem k_X_hasBit {l : Launch} {D : va_G} {ad : Nat → Nat} {ca : Nat → ClassId} (σ : St) (a b : Int) (ha : 0 ≤ a ∧ a < 2147483648) (hb2 : 0 ≤ b ∧ b < 32) : Cw l D cl7 (tyX ca) (wX ad ca) y_X_hasBit c_X_hasBit 2 (some .boolean) 0 [.int (zI a), .int (zI b)] σ (RW (.int (zI (bI (zB a b)))) (σ = ·)) := by
  refine Cw.enter (by decide) (Nat.le_of_ble_eq_true rfl) ?_
  intro A p e s m below meth c hc ls hl hw
  have hl : lv_has ls 2 [(0, .int (zI a)), (1, .int (zI b))] := hl
  obtain ⟨hx, hb, hml, hown, hTB, hK, hr, hlk⟩ := id hc
  refine lv_iload_n hx hb d_X_hasBit_0 rfl (lv_at hl 0 rfl) ?_
  refine lv_iload_n hx hb d_X_hasBit_1 rfl (lv_at hl 1 rfl) ?_
  refine z_ishr hx hb d_X_hasBit_2 (by omega) ?_
  refine z_ic hx hb d_X_hasBit_3 ?_
  refine z_iand hx hb d_X_hasBit_4 (⟨Int.natCast_nonneg _, by decide⟩) ?_
  rw [zAnd1 a b ha.1]
  refine z_if_eq hx hb 12 d_X_hasBit_5 (by have := bI_r (zB a b); omega) (by decide) (fun cz => ?_) (fun cz => ?_)
  · refine z_ic hx hb d_X_hasBit_12 ?_
    exact w_zret hc hw (by omega) (⟨by congr 3; have := bI_01 (zB a b); omega, rfl⟩) d_X_hasBit_13
  · refine z_ic hx hb d_X_hasBit_8 ?_
    refine lv_goto (tgt := 13) hx hb d_X_hasBit_9 (by decide) ?_
    exact w_zret hc hw (by omega) (⟨by congr 3; have := bI_01 (zB a b); omega, rfl⟩) d_X_hasBit_13
set_option maxHeartbeats 4000000 in
set_option maxRecDepth 100000 in
theorem k_X_isWithin {l : Launch} {D : va_G} {ad : Nat → Nat} {ca : Nat → ClassId} (σ : St) (v a b : Int) (hv : r64 v) (ha : r64 a) (hb2 : r64 b) : Cw l D cl7 (tyX ca) (wX ad ca) y_X_isWithin c_X_isWithin 6 (some .boolean) 0 [.long (zL v), .long (zL a), .long (zL b)] σ (RW (.int (zI (bI (a ≤ v ∧ v ≤ b)))) (σ = ·)) := by
  refine Cw.enter (by decide) (Nat.le_of_ble_eq_true rfl) ?_
  intro A p e s m below meth c hc ls hl hw
  have hl : lv_has ls 6 [(0, .long (zL v)), (2, .long (zL a)), (4, .long (zL b))] := hl
  obtain ⟨hx, hb, hml, hown, hTB, hK, hr, hlk⟩ := id hc
  refine lv_lload_n hx hb d_X_isWithin_0 rfl (lv_at hl 0 rfl) ?_
  refine lv_lload_n hx hb d_X_isWithin_1 rfl (lv_at hl 1 rfl) ?_
  refine z_lcmp_lt hx hb 17 d_X_isWithin_2 d_X_isWithin_3 (by omega) (by omega) (by decide) (fun c2 => ?_) (fun c2 => ?_)
  · refine z_ic hx hb d_X_isWithin_17 ?_
    exact w_zret hc hw (by omega) (⟨by first | rw [bI_t (by omega)] | rw [bI_f (by omega)], rfl⟩) d_X_isWithin_18
  · refine lv_lload_n hx hb d_X_isWithin_6 rfl (lv_at hl 0 rfl) ?_
    refine lv_lload hx hb d_X_isWithin_7 (lv_at hl 2 rfl) ?_
    refine z_lcmp_gt hx hb 17 d_X_isWithin_9 d_X_isWithin_10 (by omega) (by omega) (by decide) (fun c9 => ?_) (fun c9 => ?_)
    · refine z_ic hx hb d_X_isWithin_17 ?_
      exact w_zret hc hw (by omega) (⟨by first | rw [bI_t (by omega)] | rw [bI_f (by omega)], rfl⟩) d_X_isWithin_18
    · refine z_ic hx hb d_X_isWithin_13 ?_
      refine lv_goto (tgt := 18) hx hb d_X_isWithin_14 (by decide) ?_
      exact w_zret hc hw (by omega) (⟨by first | rw [bI_t (by omega)] | rw [bI_f (by omega)], rfl⟩) d_X_isWithin_18
set_option maxHeartbeats 4000000 in
set_option maxRecDepth 100000 in
theorem k_B_hasNet {l : Launch} {D : va_G} {ad : Nat → Nat} {ca : Nat → ClassId} (σ : St) (a : Int) (ha : r32 a) (hI : 0 ≤ σ 7 0 ∧ σ 7 0 ≤ 12) : Cw l D cl7 (tyX ca) (wX ad ca) y_B_hasNet c_B_hasNet 2 (some .boolean) 0 [.ref (ad 101), .int (zI a)] σ (RW (.int (zI (bI (0 ≤ a ∧ a < σ 7 0)))) (σ = ·)) := by
  refine Cw.enter (by decide) (Nat.le_of_ble_eq_true rfl) ?_
  intro A p e s m below meth c hc ls hl hw
  have hl : lv_has ls 2 [(0, .ref (ad 101)), (1, .int (zI a))] := hl
  obtain ⟨hx, hb, hml, hown, hTB, hK, hr, hlk⟩ := id hc
  refine lv_iload_n hx hb d_B_hasNet_0 rfl (lv_at hl 1 rfl) ?_
  refine z_if_lt hx hb 16 d_B_hasNet_1 (by omega) (by decide) (fun c1 => ?_) (fun c1 => ?_)
  · refine z_ic hx hb d_B_hasNet_16 ?_
    exact w_zret hc hw (by omega) (⟨by first | rw [bI_t (by omega)] | rw [bI_f (by omega)], rfl⟩) d_B_hasNet_17
  · refine lv_iload_n hx hb d_B_hasNet_4 rfl (lv_at hl 1 rfl) ?_
    refine lv_aload_n hx hb d_B_hasNet_5 rfl (lv_at hl 0 rfl) ?_
    refine gX_B_netCount hc hw lk_B_35 d_B_hasNet_6 ?_
    refine z_icmp_ge hx hb 16 d_B_hasNet_9 (by omega) (by omega) (by decide) (fun c9 => ?_) (fun c9 => ?_)
    · refine z_ic hx hb d_B_hasNet_16 ?_
      exact w_zret hc hw (by omega) (⟨by first | rw [bI_t (by omega)] | rw [bI_f (by omega)], rfl⟩) d_B_hasNet_17
    · refine z_ic hx hb d_B_hasNet_12 ?_
      refine lv_goto (tgt := 17) hx hb d_B_hasNet_13 (by decide) ?_
      exact w_zret hc hw (by omega) (⟨by first | rw [bI_t (by omega)] | rw [bI_f (by omega)], rfl⟩) d_B_hasNet_17
set_option maxHeartbeats 4000000 in
set_option maxRecDepth 100000 in
theorem k_B_hasPoint {l : Launch} {D : va_G} {ad : Nat → Nat} {ca : Nat → ClassId} (σ : St) (a : Int) (ha : r32 a) (hI : 0 ≤ σ 8 0 ∧ σ 8 0 ≤ 36) : Cw l D cl7 (tyX ca) (wX ad ca) y_B_hasPoint c_B_hasPoint 2 (some .boolean) 0 [.ref (ad 101), .int (zI a)] σ (RW (.int (zI (bI (0 ≤ a ∧ a < σ 8 0)))) (σ = ·)) := by
  refine Cw.enter (by decide) (Nat.le_of_ble_eq_true rfl) ?_
  intro A p e s m below meth c hc ls hl hw
  have hl : lv_has ls 2 [(0, .ref (ad 101)), (1, .int (zI a))] := hl
  obtain ⟨hx, hb, hml, hown, hTB, hK, hr, hlk⟩ := id hc
  refine lv_iload_n hx hb d_B_hasPoint_0 rfl (lv_at hl 1 rfl) ?_
  refine z_if_lt hx hb 16 d_B_hasPoint_1 (by omega) (by decide) (fun c1 => ?_) (fun c1 => ?_)
  · refine z_ic hx hb d_B_hasPoint_16 ?_
    exact w_zret hc hw (by omega) (⟨by first | rw [bI_t (by omega)] | rw [bI_f (by omega)], rfl⟩) d_B_hasPoint_17
  · refine lv_iload_n hx hb d_B_hasPoint_4 rfl (lv_at hl 1 rfl) ?_
    refine lv_aload_n hx hb d_B_hasPoint_5 rfl (lv_at hl 0 rfl) ?_
    refine gX_B_pointCount hc hw lk_B_39 d_B_hasPoint_6 ?_
    refine z_icmp_ge hx hb 16 d_B_hasPoint_9 (by omega) (by omega) (by decide) (fun c9 => ?_) (fun c9 => ?_)
    · refine z_ic hx hb d_B_hasPoint_16 ?_
      exact w_zret hc hw (by omega) (⟨by first | rw [bI_t (by omega)] | rw [bI_f (by omega)], rfl⟩) d_B_hasPoint_17
    · refine z_ic hx hb d_B_hasPoint_12 ?_
      refine lv_goto (tgt := 17) hx hb d_B_hasPoint_13 (by decide) ?_
      exact w_zret hc hw (by omega) (⟨by first | rw [bI_t (by omega)] | rw [bI_f (by omega)], rfl⟩) d_B_hasPoint_17
set_option maxHeartbeats 4000000 in
set_option maxRecDepth 100000 in
theorem k_B_addNet {l : Launch} {D : va_G} {ad : Nat → Nat} {ca : Nat → ClassId} (σ : St) (b : Int) (hb2 : b = 0 ∨ b = 1) (hI : 0 ≤ σ 7 0 ∧ σ 7 0 ≤ 12) : Cw l D cl7 (tyX ca) (wX ad ca) y_B_addNet c_B_addNet 2 (some .int) 0 [.ref (ad 101), .int (zI b)] σ (RW (.int (zI (if 12 ≤ σ 7 0 then -1 else σ 7 0))) (bNet σ b = ·)) := by
  refine Cw.enter (by decide) (Nat.le_of_ble_eq_true rfl) ?_
  intro A p e s m below meth c hc ls hl hw
  have hl : lv_has ls 2 [(0, .ref (ad 101)), (1, .int (zI b))] := hl
  obtain ⟨hx, hb, hml, hown, hTB, hK, hr, hlk⟩ := id hc
  refine lv_aload_n hx hb d_B_addNet_0 rfl (lv_at hl 0 rfl) ?_
  refine gX_B_netCount hc hw lk_B_35 d_B_addNet_1 ?_
  refine z_bi hx hb d_B_addNet_4 (by decide) ?_
  refine z_icmp_lt hx hb 11 d_B_addNet_6 (by omega) (by omega) (by decide) (fun c6 => ?_) (fun c6 => ?_)
  · refine lv_aload_n hx hb d_B_addNet_11 rfl (lv_at hl 0 rfl) ?_
    refine gX_B_must hc hw lk_B_9 d_B_addNet_12 ?_
    refine lv_aload_n hx hb d_B_addNet_15 rfl (lv_at hl 0 rfl) ?_
    refine gX_B_netCount hc hw lk_B_35 d_B_addNet_16 ?_
    refine lv_iload_n hx hb d_B_addNet_19 rfl (lv_at hl 1 rfl) ?_
    refine stX_B_must hc hw d_B_addNet_20 (by omega) (by omega) (fun H locs hw => ?_)
    refine lv_aload_n hx hb d_B_addNet_21 rfl (lv_at hl 0 rfl) ?_
    refine lv_dup hx hb d_B_addNet_22 rfl ?_
    refine gX_B_netCount hc hw lk_B_35 d_B_addNet_23 ?_
    refine z_ic hx hb d_B_addNet_26 ?_
    refine z_iadd hx hb d_B_addNet_27 ?_
    refine pX_B_netCount hc hw lk_B_35 d_B_addNet_28 (fun H locs hw => ?_)
    refine lv_aload_n hx hb d_B_addNet_31 rfl (lv_at hl 0 rfl) ?_
    refine gX_B_netCount hc hw lk_B_35 d_B_addNet_32 ?_
    refine z_ic hx hb d_B_addNet_35 ?_
    refine z_isub hx hb d_B_addNet_36 ?_
    exact w_iret hc hw (by unfold bNet; first | (rw [if_pos (by omega), if_pos (by omega)]; exact ⟨rfl, rfl⟩) | (rw [if_neg (by omega), if_neg (by omega)]; exact ⟨by simp [up], by simp [up]⟩)) d_B_addNet_37
  · refine z_ic hx hb d_B_addNet_9 ?_
    exact w_iret hc hw (by unfold bNet; first | (rw [if_pos (by omega), if_pos (by omega)]; exact ⟨rfl, rfl⟩) | (rw [if_neg (by omega), if_neg (by omega)]; exact ⟨by simp [up], by simp [up]⟩)) d_B_addNet_10
set_option maxHeartbeats 4000000 in
set_option maxRecDepth 100000 in
theorem k_B_squareOfWay {l : Launch} {D : va_G} {ad : Nat → Nat} {ca : Nat → ClassId} (σ : St) (a x y : Int) (ha : 0 ≤ a ∧ a < 36) : Cw l D cl7 (tyX ca) (wX ad ca) y_B_squareOfWay c_B_squareOfWay 10 (some .long) 0 [.ref (ad 101), .int (zI a), .long (zL x), .long (zL y)] σ (RW (.long (zL (sqW σ a x y))) (σ = ·)) := by
  refine Cw.enter (by decide) (Nat.le_of_ble_eq_true rfl) ?_
  intro A p e s m below meth c hc ls hl hw
  have hl : lv_has ls 10 [(0, .ref (ad 101)), (1, .int (zI a)), (2, .long (zL x)), (4, .long (zL y))] := hl
  obtain ⟨hx, hb, hml, hown, hTB, hK, hr, hlk⟩ := id hc
  refine lv_aload_n hx hb d_B_squareOfWay_0 rfl (lv_at hl 0 rfl) ?_
  refine gX_B_xs hc hw lk_B_22 d_B_squareOfWay_1 ?_
  refine lv_iload_n hx hb d_B_squareOfWay_4 rfl (lv_at hl 1 rfl) ?_
  refine ldX_B_xs hc hw d_B_squareOfWay_5 (by omega) ?_
  refine lv_lload_n hx hb d_B_squareOfWay_6 rfl (lv_at hl 2 rfl) ?_
  refine z_lsub hx hb d_B_squareOfWay_7 ?_
  refine z_lst hx hb d_B_squareOfWay_8 hl (by decide) (fun x6_8 ex6_8 ls (hl : lv_has ls 10 [(6, .long (zL x6_8)), (0, .ref (ad 101)), (1, .int (zI a)), (2, .long (zL x)), (4, .long (zL y))]) => ?_)
  refine lv_aload_n hx hb d_B_squareOfWay_10 rfl (lv_at hl 1 rfl) ?_
  refine gX_B_ys hc hw lk_B_26 d_B_squareOfWay_11 ?_
  refine lv_iload_n hx hb d_B_squareOfWay_14 rfl (lv_at hl 2 rfl) ?_
  refine ldX_B_ys hc hw d_B_squareOfWay_15 (by omega) ?_
  refine lv_lload hx hb d_B_squareOfWay_16 (lv_at hl 4 rfl) ?_
  refine z_lsub hx hb d_B_squareOfWay_18 ?_
  refine z_lst hx hb d_B_squareOfWay_19 hl (by decide) (fun x8_19 ex8_19 ls (hl : lv_has ls 10 [(8, .long (zL x8_19)), (6, .long (zL x6_8)), (0, .ref (ad 101)), (1, .int (zI a)), (2, .long (zL x)), (4, .long (zL y))]) => ?_)
  refine lv_lload hx hb d_B_squareOfWay_21 (lv_at hl 1 rfl) ?_
  refine lv_lload hx hb d_B_squareOfWay_23 (lv_at hl 1 rfl) ?_
  refine z_lmul hx hb d_B_squareOfWay_25 ?_
  refine lv_lload hx hb d_B_squareOfWay_26 (lv_at hl 0 rfl) ?_
  refine lv_lload hx hb d_B_squareOfWay_28 (lv_at hl 0 rfl) ?_
  refine z_lmul hx hb d_B_squareOfWay_30 ?_
  refine z_ladd hx hb d_B_squareOfWay_31 ?_
  exact w_lret hc hw (by unfold sqW; subst_vars; exact ⟨rfl, rfl⟩) d_B_squareOfWay_32
set_option maxHeartbeats 4000000 in
set_option maxRecDepth 100000 in
theorem k_B_setGap {l : Launch} {D : va_G} {ad : Nat → Nat} {ca : Nat → ClassId} (σ : St) (v : Int) (hv : r64 v) (hI : 0 ≤ σ 9 0 ∧ σ 9 0 ≤ 1000000) : Cw l D cl7 (tyX ca) (wX ad ca) y_B_setGap c_B_setGap 4 (some .boolean) 0 [.ref (ad 101), .long (zL v)] σ (RW (.int (zI (bI (¬ v = σ 9 0)))) (up σ 9 0 v = ·)) := by
  refine Cw.enter (by decide) (Nat.le_of_ble_eq_true rfl) ?_
  intro A p e s m below meth c hc ls hl hw
  have hl : lv_has ls 4 [(0, .ref (ad 101)), (1, .long (zL v))] := hl
  obtain ⟨hx, hb, hml, hown, hTB, hK, hr, hlk⟩ := id hc
  refine lv_lload_n hx hb d_B_setGap_0 rfl (lv_at hl 1 rfl) ?_
  refine lv_aload_n hx hb d_B_setGap_1 rfl (lv_at hl 0 rfl) ?_
  refine gX_B_apart hc hw lk_B_42 d_B_setGap_2 ?_
  refine z_lcmp_eq hx hb 13 d_B_setGap_5 d_B_setGap_6 (by omega) (by omega) (by decide) (fun c5 => ?_) (fun c5 => ?_)
  · refine z_ic hx hb d_B_setGap_13 ?_
    refine z_ist_n hx hb d_B_setGap_14 rfl hl (by decide) (fun x3_14 ex3_14 ls (hl : lv_has ls 4 [(3, .int (zI x3_14)), (0, .ref (ad 101)), (1, .long (zL v))]) => ?_)
    refine lv_aload_n hx hb d_B_setGap_15 rfl (lv_at hl 1 rfl) ?_
    refine lv_lload_n hx hb d_B_setGap_16 rfl (lv_at hl 2 rfl) ?_
    refine pX_B_apart hc hw lk_B_42 d_B_setGap_17 (fun H locs hw => ?_)
    refine lv_iload_n hx hb d_B_setGap_20 rfl (lv_at hl 0 rfl) ?_
    exact w_zret hc hw (by omega) (⟨by subst_vars; first | rw [bI_t (by omega)] | rw [bI_f (by omega)], rfl⟩) d_B_setGap_21
  · refine z_ic hx hb d_B_setGap_9 ?_
    refine lv_goto (tgt := 14) hx hb d_B_setGap_10 (by decide) ?_
    refine z_ist_n hx hb d_B_setGap_14 rfl hl (by decide) (fun x3_14 ex3_14 ls (hl : lv_has ls 4 [(3, .int (zI x3_14)), (0, .ref (ad 101)), (1, .long (zL v))]) => ?_)
    refine lv_aload_n hx hb d_B_setGap_15 rfl (lv_at hl 1 rfl) ?_
    refine lv_lload_n hx hb d_B_setGap_16 rfl (lv_at hl 2 rfl) ?_
    refine pX_B_apart hc hw lk_B_42 d_B_setGap_17 (fun H locs hw => ?_)
    refine lv_iload_n hx hb d_B_setGap_20 rfl (lv_at hl 0 rfl) ?_
    exact w_zret hc hw (by omega) (⟨by subst_vars; first | rw [bI_t (by omega)] | rw [bI_f (by omega)], rfl⟩) d_B_setGap_21
set_option maxHeartbeats 4000000 in
set_option maxRecDepth 100000 in
theorem k_B_setForce {l : Launch} {D : va_G} {ad : Nat → Nat} {ca : Nat → ClassId} (σ : St) (a v : Int) (ha : 0 ≤ a ∧ a < 36) (hv : r64 v) (hI : 0 ≤ σ 6 a ∧ σ 6 a ≤ 1000000) : Cw l D cl7 (tyX ca) (wX ad ca) y_B_setForce c_B_setForce 5 (some .boolean) 0 [.ref (ad 101), .int (zI a), .long (zL v)] σ (RW (.int (zI (bI (¬ v = σ 6 a)))) (up σ 6 a v = ·)) := by
  refine Cw.enter (by decide) (Nat.le_of_ble_eq_true rfl) ?_
  intro A p e s m below meth c hc ls hl hw
  have hl : lv_has ls 5 [(0, .ref (ad 101)), (1, .int (zI a)), (2, .long (zL v))] := hl
  obtain ⟨hx, hb, hml, hown, hTB, hK, hr, hlk⟩ := id hc
  refine lv_lload_n hx hb d_B_setForce_0 rfl (lv_at hl 2 rfl) ?_
  refine lv_aload_n hx hb d_B_setForce_1 rfl (lv_at hl 0 rfl) ?_
  refine gX_B_weights hc hw lk_B_32 d_B_setForce_2 ?_
  refine lv_iload_n hx hb d_B_setForce_5 rfl (lv_at hl 1 rfl) ?_
  refine ldX_B_weights hc hw d_B_setForce_6 (by omega) ?_
  refine z_lcmp_eq hx hb 15 d_B_setForce_7 d_B_setForce_8 (by omega) (by omega) (by decide) (fun c7 => ?_) (fun c7 => ?_)
  · refine z_ic hx hb d_B_setForce_15 ?_
    refine z_ist hx hb d_B_setForce_16 hl (by decide) (fun x4_16 ex4_16 ls (hl : lv_has ls 5 [(4, .int (zI x4_16)), (0, .ref (ad 101)), (1, .int (zI a)), (2, .long (zL v))]) => ?_)
    refine lv_aload_n hx hb d_B_setForce_18 rfl (lv_at hl 1 rfl) ?_
    refine gX_B_weights hc hw lk_B_32 d_B_setForce_19 ?_
    refine lv_iload_n hx hb d_B_setForce_22 rfl (lv_at hl 2 rfl) ?_
    refine lv_lload_n hx hb d_B_setForce_23 rfl (lv_at hl 3 rfl) ?_
    refine stX_B_weights hc hw d_B_setForce_24 (by omega) (fun H locs hw => ?_)
    refine lv_iload hx hb d_B_setForce_25 (lv_at hl 0 rfl) ?_
    exact w_zret hc hw (by omega) (⟨by subst_vars; first | rw [bI_t (by omega)] | rw [bI_f (by omega)], rfl⟩) d_B_setForce_27
  · refine z_ic hx hb d_B_setForce_11 ?_
    refine lv_goto (tgt := 16) hx hb d_B_setForce_12 (by decide) ?_
    refine z_ist hx hb d_B_setForce_16 hl (by decide) (fun x4_16 ex4_16 ls (hl : lv_has ls 5 [(4, .int (zI x4_16)), (0, .ref (ad 101)), (1, .int (zI a)), (2, .long (zL v))]) => ?_)
    refine lv_aload_n hx hb d_B_setForce_18 rfl (lv_at hl 1 rfl) ?_
    refine gX_B_weights hc hw lk_B_32 d_B_setForce_19 ?_
    refine lv_iload_n hx hb d_B_setForce_22 rfl (lv_at hl 2 rfl) ?_
    refine lv_lload_n hx hb d_B_setForce_23 rfl (lv_at hl 3 rfl) ?_
    refine stX_B_weights hc hw d_B_setForce_24 (by omega) (fun H locs hw => ?_)
    refine lv_iload hx hb d_B_setForce_25 (lv_at hl 0 rfl) ?_
    exact w_zret hc hw (by omega) (⟨by subst_vars; first | rw [bI_t (by omega)] | rw [bI_f (by omega)], rfl⟩) d_B_setForce_27
set_option maxHeartbeats 4000000 in
set_option maxRecDepth 100000 in
theorem k_B_canBothBeProbes {l : Launch} {D : va_G} {ad : Nat → Nat} {ca : Nat → ClassId} (σ : St) (a b : Int) (ha : 0 ≤ a ∧ a < 36) (hb2 : 0 ≤ b ∧ b < 36) (hI : IB σ) : Cw l D cl7 (tyX ca) (wX ad ca) y_B_canBothBeProbes c_B_canBothBeProbes 5 (some .boolean) 1 [.ref (ad 101), .int (zI a), .int (zI b)] σ (RW (.int (zI (bI (canB σ a b)))) (σ = ·)) := by
  have hsq := sqW_bd hI a (hI.2.2.2.1 b) (hI.2.2.2.2.1 b)
  have h9 := hI.2.2.1
  have h5a := hI.2.2.2.2.2.1 a
  have h5b := hI.2.2.2.2.2.1 b
  have hll := sq_bd (a := σ 9 0 + σ 5 a + σ 5 b) (n := 1200000) (by omega) (by omega)
  refine Cw.enter (by decide) (Nat.le_of_ble_eq_true rfl) ?_
  intro A p e s m below meth c hc ls hl hw
  have hl : lv_has ls 5 [(0, .ref (ad 101)), (1, .int (zI a)), (2, .int (zI b))] := hl
  obtain ⟨hx, hb, hml, hown, hTB, hK, hr, hlk⟩ := id hc
  refine lv_aload_n hx hb d_B_canBothBeProbes_0 rfl (lv_at hl 0 rfl) ?_
  refine gX_B_apart hc hw lk_B_42 d_B_canBothBeProbes_1 ?_
  refine lv_aload_n hx hb d_B_canBothBeProbes_4 rfl (lv_at hl 0 rfl) ?_
  refine gX_B_radii hc hw lk_B_29 d_B_canBothBeProbes_5 ?_
  refine lv_iload_n hx hb d_B_canBothBeProbes_8 rfl (lv_at hl 1 rfl) ?_
  refine ldX_B_radii hc hw d_B_canBothBeProbes_9 (by omega) ?_
  refine z_ladd hx hb d_B_canBothBeProbes_10 ?_
  refine lv_aload_n hx hb d_B_canBothBeProbes_11 rfl (lv_at hl 0 rfl) ?_
  refine gX_B_radii hc hw lk_B_29 d_B_canBothBeProbes_12 ?_
  refine lv_iload_n hx hb d_B_canBothBeProbes_15 rfl (lv_at hl 2 rfl) ?_
  refine ldX_B_radii hc hw d_B_canBothBeProbes_16 (by omega) ?_
  refine z_ladd hx hb d_B_canBothBeProbes_17 ?_
  refine z_lst_n hx hb d_B_canBothBeProbes_18 rfl hl (by decide) (fun x3_18 ex3_18 ls (hl : lv_has ls 5 [(3, .long (zL x3_18)), (0, .ref (ad 101)), (1, .int (zI a)), (2, .int (zI b))]) => ?_)
  refine lv_aload_n hx hb d_B_canBothBeProbes_19 rfl (lv_at hl 1 rfl) ?_
  refine lv_iload_n hx hb d_B_canBothBeProbes_20 rfl (lv_at hl 2 rfl) ?_
  refine lv_aload_n hx hb d_B_canBothBeProbes_21 rfl (lv_at hl 1 rfl) ?_
  refine gX_B_xs hc hw lk_B_22 d_B_canBothBeProbes_22 ?_
  refine lv_iload_n hx hb d_B_canBothBeProbes_25 rfl (lv_at hl 3 rfl) ?_
  refine ldX_B_xs hc hw d_B_canBothBeProbes_26 (by omega) ?_
  refine lv_aload_n hx hb d_B_canBothBeProbes_27 rfl (lv_at hl 1 rfl) ?_
  refine gX_B_ys hc hw lk_B_26 d_B_canBothBeProbes_28 ?_
  refine lv_iload_n hx hb d_B_canBothBeProbes_31 rfl (lv_at hl 3 rfl) ?_
  refine ldX_B_ys hc hw d_B_canBothBeProbes_32 (by omega) ?_
  refine w_cvR (q0 := 1) hc hw (k_B_squareOfWay _ _ _ _ (by omega)) yw_B_squareOfWay yi_B_squareOfWay lk_B_46 d_B_canBothBeProbes_33 rfl rfl rfl rfl hl.1 (Nat.le_of_ble_eq_true rfl) ⟨Nat.le_of_ble_eq_true rfl, Nat.le_of_ble_eq_true rfl⟩ ⟨Nat.zero_le _, Nat.zero_le _⟩ (fun τ33 H locs hτ33 hw => ?_)
  subst hτ33
  refine lv_lload_n hx hb d_B_canBothBeProbes_36 rfl (lv_at hl 0 rfl) ?_
  refine lv_lload_n hx hb d_B_canBothBeProbes_37 rfl (lv_at hl 0 rfl) ?_
  refine z_lmul hx hb d_B_canBothBeProbes_38 ?_
  subst ex3_18
  refine z_lcmp_lt hx hb 47 d_B_canBothBeProbes_39 d_B_canBothBeProbes_40 (by omega) (by omega) (by decide) (fun c39 => ?_) (fun c39 => ?_)
  · refine z_ic hx hb d_B_canBothBeProbes_47 ?_
    exact w_zret hc hw (by omega) (⟨by first | rw [bI_t (by omega)] | rw [bI_f (by omega)], rfl⟩) d_B_canBothBeProbes_48
  · refine z_ic hx hb d_B_canBothBeProbes_43 ?_
    refine lv_goto (tgt := 48) hx hb d_B_canBothBeProbes_44 (by decide) ?_
    exact w_zret hc hw (by omega) (⟨by first | rw [bI_t (by omega)] | rw [bI_f (by omega)], rfl⟩) d_B_canBothBeProbes_48
set_option maxHeartbeats 4000000 in
set_option maxRecDepth 100000 in
theorem k_B_isBeforeByPlace {l : Launch} {D : va_G} {ad : Nat → Nat} {ca : Nat → ClassId} (σ : St) (a b : Int) (ha : 0 ≤ a ∧ a < 36) (hb2 : 0 ≤ b ∧ b < 36) (hI : IB σ) : Cw l D cl7 (tyX ca) (wX ad ca) y_B_isBeforeByPlace c_B_isBeforeByPlace 3 (some .boolean) 0 [.ref (ad 101), .int (zI a), .int (zI b)] σ (RW (.int (zI (bI (befP σ a b)))) (σ = ·)) := by
  have h3a := hI.2.2.2.1 a
  have h3b := hI.2.2.2.1 b
  have h4a := hI.2.2.2.2.1 a
  have h4b := hI.2.2.2.2.1 b
  refine Cw.enter (by decide) (Nat.le_of_ble_eq_true rfl) ?_
  intro A p e s m below meth c hc ls hl hw
  have hl : lv_has ls 3 [(0, .ref (ad 101)), (1, .int (zI a)), (2, .int (zI b))] := hl
  obtain ⟨hx, hb, hml, hown, hTB, hK, hr, hlk⟩ := id hc
  refine lv_aload_n hx hb d_B_isBeforeByPlace_0 rfl (lv_at hl 0 rfl) ?_
  refine gX_B_xs hc hw lk_B_22 d_B_isBeforeByPlace_1 ?_
  refine lv_iload_n hx hb d_B_isBeforeByPlace_4 rfl (lv_at hl 1 rfl) ?_
  refine ldX_B_xs hc hw d_B_isBeforeByPlace_5 (by omega) ?_
  refine lv_aload_n hx hb d_B_isBeforeByPlace_6 rfl (lv_at hl 0 rfl) ?_
  refine gX_B_xs hc hw lk_B_22 d_B_isBeforeByPlace_7 ?_
  refine lv_iload_n hx hb d_B_isBeforeByPlace_10 rfl (lv_at hl 2 rfl) ?_
  refine ldX_B_xs hc hw d_B_isBeforeByPlace_11 (by omega) ?_
  refine z_lcmp_eq hx hb 38 d_B_isBeforeByPlace_12 d_B_isBeforeByPlace_13 (by omega) (by omega) (by decide) (fun c12 => ?_) (fun c12 => ?_)
  · refine lv_aload_n hx hb d_B_isBeforeByPlace_38 rfl (lv_at hl 0 rfl) ?_
    refine gX_B_ys hc hw lk_B_26 d_B_isBeforeByPlace_39 ?_
    refine lv_iload_n hx hb d_B_isBeforeByPlace_42 rfl (lv_at hl 1 rfl) ?_
    refine ldX_B_ys hc hw d_B_isBeforeByPlace_43 (by omega) ?_
    refine lv_aload_n hx hb d_B_isBeforeByPlace_44 rfl (lv_at hl 0 rfl) ?_
    refine gX_B_ys hc hw lk_B_26 d_B_isBeforeByPlace_45 ?_
    refine lv_iload_n hx hb d_B_isBeforeByPlace_48 rfl (lv_at hl 2 rfl) ?_
    refine ldX_B_ys hc hw d_B_isBeforeByPlace_49 (by omega) ?_
    refine z_lcmp_eq hx hb 78 d_B_isBeforeByPlace_50 d_B_isBeforeByPlace_51 (by omega) (by omega) (by decide) (fun c50 => ?_) (fun c50 => ?_)
    · refine lv_iload_n hx hb d_B_isBeforeByPlace_78 rfl (lv_at hl 1 rfl) ?_
      refine lv_iload_n hx hb d_B_isBeforeByPlace_79 rfl (lv_at hl 2 rfl) ?_
      refine z_icmp_ge hx hb 87 d_B_isBeforeByPlace_80 (by omega) (by omega) (by decide) (fun c80 => ?_) (fun c80 => ?_)
      · refine z_ic hx hb d_B_isBeforeByPlace_87 ?_
        exact w_zret hc hw (by omega) (⟨by first | rw [bI_t (by omega)] | rw [bI_f (by omega)], rfl⟩) d_B_isBeforeByPlace_88
      · refine z_ic hx hb d_B_isBeforeByPlace_83 ?_
        refine lv_goto (tgt := 88) hx hb d_B_isBeforeByPlace_84 (by decide) ?_
        exact w_zret hc hw (by omega) (⟨by first | rw [bI_t (by omega)] | rw [bI_f (by omega)], rfl⟩) d_B_isBeforeByPlace_88
    · refine lv_aload_n hx hb d_B_isBeforeByPlace_54 rfl (lv_at hl 0 rfl) ?_
      refine gX_B_ys hc hw lk_B_26 d_B_isBeforeByPlace_55 ?_
      refine lv_iload_n hx hb d_B_isBeforeByPlace_58 rfl (lv_at hl 1 rfl) ?_
      refine ldX_B_ys hc hw d_B_isBeforeByPlace_59 (by omega) ?_
      refine lv_aload_n hx hb d_B_isBeforeByPlace_60 rfl (lv_at hl 0 rfl) ?_
      refine gX_B_ys hc hw lk_B_26 d_B_isBeforeByPlace_61 ?_
      refine lv_iload_n hx hb d_B_isBeforeByPlace_64 rfl (lv_at hl 2 rfl) ?_
      refine ldX_B_ys hc hw d_B_isBeforeByPlace_65 (by omega) ?_
      refine z_lcmp_ge hx hb 74 d_B_isBeforeByPlace_66 d_B_isBeforeByPlace_67 (by omega) (by omega) (by decide) (fun c66 => ?_) (fun c66 => ?_)
      · refine z_ic hx hb d_B_isBeforeByPlace_74 ?_
        refine lv_goto (tgt := 88) hx hb d_B_isBeforeByPlace_75 (by decide) ?_
        exact w_zret hc hw (by omega) (⟨by first | rw [bI_t (by omega)] | rw [bI_f (by omega)], rfl⟩) d_B_isBeforeByPlace_88
      · refine z_ic hx hb d_B_isBeforeByPlace_70 ?_
        refine lv_goto (tgt := 88) hx hb d_B_isBeforeByPlace_71 (by decide) ?_
        exact w_zret hc hw (by omega) (⟨by first | rw [bI_t (by omega)] | rw [bI_f (by omega)], rfl⟩) d_B_isBeforeByPlace_88
  · refine lv_aload_n hx hb d_B_isBeforeByPlace_16 rfl (lv_at hl 0 rfl) ?_
    refine gX_B_xs hc hw lk_B_22 d_B_isBeforeByPlace_17 ?_
    refine lv_iload_n hx hb d_B_isBeforeByPlace_20 rfl (lv_at hl 1 rfl) ?_
    refine ldX_B_xs hc hw d_B_isBeforeByPlace_21 (by omega) ?_
    refine lv_aload_n hx hb d_B_isBeforeByPlace_22 rfl (lv_at hl 0 rfl) ?_
    refine gX_B_xs hc hw lk_B_22 d_B_isBeforeByPlace_23 ?_
    refine lv_iload_n hx hb d_B_isBeforeByPlace_26 rfl (lv_at hl 2 rfl) ?_
    refine ldX_B_xs hc hw d_B_isBeforeByPlace_27 (by omega) ?_
    refine z_lcmp_ge hx hb 36 d_B_isBeforeByPlace_28 d_B_isBeforeByPlace_29 (by omega) (by omega) (by decide) (fun c28 => ?_) (fun c28 => ?_)
    · refine z_ic hx hb d_B_isBeforeByPlace_36 ?_
      exact w_zret hc hw (by omega) (⟨by first | rw [bI_t (by omega)] | rw [bI_f (by omega)], rfl⟩) d_B_isBeforeByPlace_37
    · refine z_ic hx hb d_B_isBeforeByPlace_32 ?_
      refine lv_goto (tgt := 37) hx hb d_B_isBeforeByPlace_33 (by decide) ?_
      exact w_zret hc hw (by omega) (⟨by first | rw [bI_t (by omega)] | rw [bI_f (by omega)], rfl⟩) d_B_isBeforeByPlace_37
set_option maxHeartbeats 4000000 in
set_option maxRecDepth 100000 in
theorem k_B_countOfMust {l : Launch} {D : va_G} {ad : Nat → Nat} {ca : Nat → ClassId} (σ : St) (hI : IB σ) : Cw l D cl7 (tyX ca) (wX ad ca) y_B_countOfMust c_B_countOfMust 3 (some .int) 0 [.ref (ad 101)] σ (RW (.int (zI (cntM σ (σ 7 0).toNat))) (σ = ·)) := by
  have h7 := hI.1
  refine Cw.enter (by decide) (Nat.le_of_ble_eq_true rfl) ?_
  intro A p e s m below meth c hc ls hl hw
  have hl : lv_has ls 3 [(0, .ref (ad 101))] := hl
  obtain ⟨hx, hb, hml, hown, hTB, hK, hr, hlk⟩ := id hc
  refine z_ic hx hb d_B_countOfMust_0 ?_
  refine z_ist_n hx hb d_B_countOfMust_1 rfl hl (by decide) (fun x1_1 ex1_1 ls (hl : lv_has ls 3 [(1, .int (zI x1_1)), (0, .ref (ad 101))]) => ?_)
  refine z_ic hx hb d_B_countOfMust_2 ?_
  refine z_ist_n hx hb d_B_countOfMust_3 rfl hl (by decide) (fun x2_3 ex2_3 ls (hl : lv_has ls 3 [(2, .int (zI x2_3)), (1, .int (zI x1_1)), (0, .ref (ad 101))]) => ?_)
  have L4 : ∀ (n : Nat) (i : Int) (n1 : Int) (H : Heap) (locs : List Loc), (0 ≤ i ∧ i ≤ σ 7 0) → (n1 = cntM σ i.toNat) → (σ 7 0 - i).toNat < n → Wd D cl7 (wX ad ca) A s.heap σ H locs → ∀ ls : Array Slot, lv_has ls 3 [(2, .int (zI i)), (1, .int (zI n1)), (0, .ref (ad 101))] → W p l e (Rmh 0) s m ([.ref (ad 101)] : List Value).toArray below meth c H locs 0 0 (MQ below (Qw D cl7 (wX ad ca) A (RW (.int (zI (cntM σ (σ 7 0).toNat))) (σ = ·))) ([.ref (ad 101)] : List Value).toArray s 0 0 A) (F0 m 4 ls []) := by
    intro n
    induction n with
    | zero => intro i n1  H locs hi hn hm; exact absurd hm (Nat.not_lt_zero _)
    | succ n ih4 =>
      intro i n1  H locs hi hn hm4 hw ls hl
      have hcb := cntM_bd hI.2.2.2.2.2.2.2.2.2 i.toNat
      have h0i := hI.2.2.2.2.2.2.2.2.2 i
      refine lv_iload_n hx hb d_B_countOfMust_4 rfl (lv_at hl 0 rfl) ?_
      refine lv_aload_n hx hb d_B_countOfMust_5 rfl (lv_at hl 2 rfl) ?_
      refine gX_B_netCount hc hw lk_B_35 d_B_countOfMust_6 ?_
      refine z_icmp_ge hx hb 30 d_B_countOfMust_9 (by omega) (by omega) (by decide) (fun c9 => ?_) (fun c9 => ?_)
      · refine lv_iload_n hx hb d_B_countOfMust_30 rfl (lv_at hl 1 rfl) ?_
        exact w_iret hc hw (⟨by rw [hn, show i = σ 7 0 by omega], rfl⟩) d_B_countOfMust_31
      · refine lv_aload_n hx hb d_B_countOfMust_12 rfl (lv_at hl 2 rfl) ?_
        refine gX_B_must hc hw lk_B_9 d_B_countOfMust_13 ?_
        refine lv_iload_n hx hb d_B_countOfMust_16 rfl (lv_at hl 0 rfl) ?_
        refine ldX_B_must hc hw d_B_countOfMust_17 (by omega) ?_
        refine z_if_eq hx hb 24 d_B_countOfMust_18 (by omega) (by decide) (fun c18 => ?_) (fun c18 => ?_)
        · refine z_iinc (k := 0) hx hb d_B_countOfMust_24 hl rfl (by decide) (fun x2_24 ex2_24 ls (hl : lv_has ls 3 [(2, .int (zI x2_24)), (1, .int (zI n1)), (0, .ref (ad 101))]) => ?_)
          refine lv_goto (tgt := 4) hx hb d_B_countOfMust_27 (by decide) ?_
          exact ih4 x2_24 n1 _ _ (by omega) (by rw [show x2_24.toNat = i.toNat + 1 from (by omega)]; simp only [cntM]; rw [Int.toNat_of_nonneg hi.1]; omega) (by omega) hw ls (lv_sub hl [0, 1, 2] rfl)
        · refine z_iinc (k := 1) hx hb d_B_countOfMust_21 hl rfl (by decide) (fun x1_21 ex1_21 ls (hl : lv_has ls 3 [(1, .int (zI x1_21)), (2, .int (zI i)), (0, .ref (ad 101))]) => ?_)
          refine z_iinc (k := 1) hx hb d_B_countOfMust_24 hl rfl (by decide) (fun x2_24 ex2_24 ls (hl : lv_has ls 3 [(2, .int (zI x2_24)), (1, .int (zI x1_21)), (0, .ref (ad 101))]) => ?_)
          refine lv_goto (tgt := 4) hx hb d_B_countOfMust_27 (by decide) ?_
          exact ih4 x2_24 x1_21 _ _ (by omega) (by rw [show x2_24.toNat = i.toNat + 1 from (by omega)]; simp only [cntM]; rw [Int.toNat_of_nonneg hi.1]; omega) (by omega) hw ls (lv_sub hl [0, 1, 2] rfl)
  exact L4 _ x2_3 x1_1 _ _ (by omega) (by subst_vars; rfl) (Nat.lt_succ_self _) hw ls (lv_sub hl [0, 1, 2] rfl)
set_option maxHeartbeats 4000000 in
set_option maxRecDepth 100000 in
theorem k_B_addPoint {l : Launch} {D : va_G} {ad : Nat → Nat} {ca : Nat → ClassId} (σ : St) (n x y r : Int) (hn : 0 ≤ n ∧ n < 12) (hI : IB σ) : Cw l D cl7 (tyX ca) (wX ad ca) y_B_addPoint c_B_addPoint 9 (some .int) 0 [.ref (ad 101), .int (zI n), .long (zL x), .long (zL y), .long (zL r)] σ (RW (.int (zI (if 3 ≤ σ 1 n ∨ 36 ≤ σ 8 0 then -1 else σ 8 0))) (bPoint σ n x y r = ·)) := by
  have h1n := hI.2.2.2.2.2.2.2.1 n
  have h8 := hI.2.1
  refine Cw.enter (by decide) (Nat.le_of_ble_eq_true rfl) ?_
  intro A p e s m below meth c hc ls hl hw
  have hl : lv_has ls 9 [(0, .ref (ad 101)), (1, .int (zI n)), (2, .long (zL x)), (4, .long (zL y)), (6, .long (zL r))] := hl
  obtain ⟨hx, hb, hml, hown, hTB, hK, hr, hlk⟩ := id hc
  refine lv_aload_n hx hb d_B_addPoint_0 rfl (lv_at hl 0 rfl) ?_
  refine gX_B_sizes hc hw lk_B_15 d_B_addPoint_1 ?_
  refine lv_iload_n hx hb d_B_addPoint_4 rfl (lv_at hl 1 rfl) ?_
  refine ldX_B_sizes hc hw d_B_addPoint_5 (by omega) ?_
  refine z_ic hx hb d_B_addPoint_6 ?_
  refine z_icmp_ge hx hb 19 d_B_addPoint_7 (by omega) (by omega) (by decide) (fun c7 => ?_) (fun c7 => ?_)
  · refine z_ic hx hb d_B_addPoint_19 ?_
    exact w_iret hc hw (by unfold bPoint; first | (rw [if_pos (by omega), if_pos (by omega)]; exact ⟨rfl, rfl⟩) | (rw [if_neg (by omega), if_neg (by omega)]; exact ⟨rfl, rfl⟩)) d_B_addPoint_20
  · refine lv_aload_n hx hb d_B_addPoint_10 rfl (lv_at hl 0 rfl) ?_
    refine gX_B_pointCount hc hw lk_B_39 d_B_addPoint_11 ?_
    refine z_bi hx hb d_B_addPoint_14 (by decide) ?_
    refine z_icmp_lt hx hb 21 d_B_addPoint_16 (by omega) (by omega) (by decide) (fun c16 => ?_) (fun c16 => ?_)
    · refine lv_aload_n hx hb d_B_addPoint_21 rfl (lv_at hl 0 rfl) ?_
      refine gX_B_pointCount hc hw lk_B_39 d_B_addPoint_22 ?_
      refine z_ist hx hb d_B_addPoint_25 hl (by decide) (fun x8_25 ex8_25 ls (hl : lv_has ls 9 [(8, .int (zI x8_25)), (0, .ref (ad 101)), (1, .int (zI n)), (2, .long (zL x)), (4, .long (zL y)), (6, .long (zL r))]) => ?_)
      subst ex8_25
      refine lv_aload_n hx hb d_B_addPoint_27 rfl (lv_at hl 1 rfl) ?_
      refine gX_B_xs hc hw lk_B_22 d_B_addPoint_28 ?_
      refine lv_iload hx hb d_B_addPoint_31 (lv_at hl 0 rfl) ?_
      refine lv_lload_n hx hb d_B_addPoint_33 rfl (lv_at hl 3 rfl) ?_
      refine stX_B_xs hc hw d_B_addPoint_34 (by omega) (fun H locs hw => ?_)
      refine lv_aload_n hx hb d_B_addPoint_35 rfl (lv_at hl 1 rfl) ?_
      refine gX_B_ys hc hw lk_B_26 d_B_addPoint_36 ?_
      refine lv_iload hx hb d_B_addPoint_39 (lv_at hl 0 rfl) ?_
      refine lv_lload hx hb d_B_addPoint_41 (lv_at hl 4 rfl) ?_
      refine stX_B_ys hc hw d_B_addPoint_43 (by omega) (fun H locs hw => ?_)
      refine lv_aload_n hx hb d_B_addPoint_44 rfl (lv_at hl 1 rfl) ?_
      refine gX_B_radii hc hw lk_B_29 d_B_addPoint_45 ?_
      refine lv_iload hx hb d_B_addPoint_48 (lv_at hl 0 rfl) ?_
      refine lv_lload hx hb d_B_addPoint_50 (lv_at hl 5 rfl) ?_
      refine stX_B_radii hc hw d_B_addPoint_52 (by omega) (fun H locs hw => ?_)
      refine lv_aload_n hx hb d_B_addPoint_53 rfl (lv_at hl 1 rfl) ?_
      refine gX_B_pointsOfNets hc hw lk_B_19 d_B_addPoint_54 ?_
      refine lv_iload_n hx hb d_B_addPoint_57 rfl (lv_at hl 2 rfl) ?_
      refine z_ic hx hb d_B_addPoint_58 ?_
      refine z_imul hx hb d_B_addPoint_59 ?_
      refine lv_aload_n hx hb d_B_addPoint_60 rfl (lv_at hl 1 rfl) ?_
      refine gX_B_sizes hc hw lk_B_15 d_B_addPoint_61 ?_
      refine lv_iload_n hx hb d_B_addPoint_64 rfl (lv_at hl 2 rfl) ?_
      refine ldX_B_sizes hc hw d_B_addPoint_65 (by omega) ?_
      refine z_iadd hx hb d_B_addPoint_66 ?_
      refine lv_iload hx hb d_B_addPoint_67 (lv_at hl 0 rfl) ?_
      refine stX_B_pointsOfNets hc hw d_B_addPoint_69 (by simp [up]; omega) (fun H locs hw => ?_)
      refine lv_aload_n hx hb d_B_addPoint_70 rfl (lv_at hl 1 rfl) ?_
      refine gX_B_sizes hc hw lk_B_15 d_B_addPoint_71 ?_
      refine lv_iload_n hx hb d_B_addPoint_74 rfl (lv_at hl 2 rfl) ?_
      refine lv_dup2_11 hx hb d_B_addPoint_75 rfl rfl ?_
      refine ldX_B_sizes hc hw d_B_addPoint_76 (by omega) ?_
      refine z_ic hx hb d_B_addPoint_77 ?_
      refine z_iadd hx hb d_B_addPoint_78 ?_
      refine stX_B_sizes hc hw d_B_addPoint_79 (by omega) (fun H locs hw => ?_)
      refine lv_aload_n hx hb d_B_addPoint_80 rfl (lv_at hl 1 rfl) ?_
      refine lv_dup hx hb d_B_addPoint_81 rfl ?_
      refine gX_B_pointCount hc hw lk_B_39 d_B_addPoint_82 ?_
      refine z_ic hx hb d_B_addPoint_85 ?_
      refine z_iadd hx hb d_B_addPoint_86 ?_
      refine pX_B_pointCount hc hw lk_B_39 d_B_addPoint_87 (fun H locs hw => ?_)
      refine lv_iload hx hb d_B_addPoint_90 (lv_at hl 0 rfl) ?_
      exact w_iret hc hw (by unfold bPoint; first | (rw [if_pos (by omega), if_pos (by omega)]; exact ⟨rfl, rfl⟩) | (rw [if_neg (by omega), if_neg (by omega)]; exact ⟨rfl, rfl⟩)) d_B_addPoint_92
    · refine z_ic hx hb d_B_addPoint_19 ?_
      exact w_iret hc hw (by unfold bPoint; first | (rw [if_pos (by omega), if_pos (by omega)]; exact ⟨rfl, rfl⟩) | (rw [if_neg (by omega), if_neg (by omega)]; exact ⟨rfl, rfl⟩)) d_B_addPoint_20
end
section
/-! lengths; sets; parts; rows -/
section AL
variable {p : Program} {l : Launch} {e : Env} {R : Room} {s : State} {m : MethodId} {args : Array Value} {below : List Frame} {meth : Method} {c : Code} {H : Heap} {locs : List Loc} {cells slots : Nat} {Q : State → Prop}
variable {cc : ByteArray} {pc nL : Nat} {own : String} {ret : Option FieldType} {ls : Array Slot} {rest : List Value} {D : va_G} {ad : Nat → Nat} {ca : Nat → ClassId} {A : Nat → Prop} {σ : St}
theorem alX_F_probes (hc : Cx p s m args c cc nL own meth ret D cl7 (tyX ca)) (hw : Wd D cl7 (wX ad ca) A s.heap σ H locs) (d : decode cc pc = .ok (.arraylength, 1)) (k : W p l e R s m args below meth c H locs cells slots Q (F0 m (pc + 1) ls (.int (zI 8) :: rest))) : W p l e R s m args below meth c H locs cells slots Q (F0 m pc ls (.ref (ad 20) :: rest)) := va_alen (D := D) hc.1 hc.2.1 hc.2.2.2.2.2.1 hw.1 13 7 rfl rfl rfl d k
theorem alX_F_left (hc : Cx p s m args c cc nL own meth ret D cl7 (tyX ca)) (hw : Wd D cl7 (wX ad ca) A s.heap σ H locs) (d : decode cc pc = .ok (.arraylength, 1)) (k : W p l e R s m args below meth c H locs cells slots Q (F0 m (pc + 1) ls (.int (zI 8) :: rest))) : W p l e R s m args below meth c H locs cells slots Q (F0 m pc ls (.ref (ad 21) :: rest)) := va_alen (D := D) hc.1 hc.2.1 hc.2.2.2.2.2.1 hw.1 14 8 rfl rfl rfl d k
theorem alX_F_flown (hc : Cx p s m args c cc nL own meth ret D cl7 (tyX ca)) (hw : Wd D cl7 (wX ad ca) A s.heap σ H locs) (d : decode cc pc = .ok (.arraylength, 1)) (k : W p l e R s m args below meth c H locs cells slots Q (F0 m (pc + 1) ls (.int (zI 8) :: rest))) : W p l e R s m args below meth c H locs cells slots Q (F0 m pc ls (.ref (ad 22) :: rest)) := va_alen (D := D) hc.1 hc.2.1 hc.2.2.2.2.2.1 hw.1 15 9 rfl rfl rfl d k
theorem alX_F_sorted (hc : Cx p s m args c cc nL own meth ret D cl7 (tyX ca)) (hw : Wd D cl7 (wX ad ca) A s.heap σ H locs) (d : decode cc pc = .ok (.arraylength, 1)) (k : W p l e R s m args below meth c H locs cells slots Q (F0 m (pc + 1) ls (.int (zI 8) :: rest))) : W p l e R s m args below meth c H locs cells slots Q (F0 m pc ls (.ref (ad 23) :: rest)) := va_alen (D := D) hc.1 hc.2.1 hc.2.2.2.2.2.1 hw.1 16 10 rfl rfl rfl d k
theorem alX_S_clashes (hc : Cx p s m args c cc nL own meth ret D cl7 (tyX ca)) (hw : Wd D cl7 (wX ad ca) A s.heap σ H locs) (d : decode cc pc = .ok (.arraylength, 1)) (k : W p l e R s m args below meth c H locs cells slots Q (F0 m (pc + 1) ls (.int (zI 24) :: rest))) : W p l e R s m args below meth c H locs cells slots Q (F0 m pc ls (.ref (ad 14) :: rest)) := va_alen (D := D) hc.1 hc.2.1 hc.2.2.2.2.2.1 hw.1 31 25 rfl rfl rfl d k
end AL
def nbF (a k : Int) : Nat → Int → Int → Int
  | 0, _, _ => -1
  | f + 1, net, bf => if zB a net then (if bf = k then net else nbF a k f (net + 1) (bf + 1)) else nbF a k f (net + 1) bf
abbrev nthR (σ : St) (f : Nat) (n k : Int) : Int := if 0 ≤ k ∧ k < n then σ f k else -1
def popN : Nat → Nat → Nat
  | 0, _ => 0
  | k + 1, n => n % 2 + popN k (n / 2)
def popc (a : Int) : Int := ((popN 12 a.toNat : Nat) : Int)
theorem popN_le : ∀ k n, popN k n ≤ k
  | 0, _ => Nat.le_refl 0
  | k + 1, n => by have := popN_le k (n / 2); simp only [popN]; omega
theorem popc_bd (a : Int) : 0 ≤ popc a ∧ popc a ≤ 12 := by have := popN_le 12 a.toNat; unfold popc; omega
def bitC (x : Int32) : Int32 :=
  let a := x - ((x.toUInt32 >>> ((1 : Int32).toUInt32 &&& Int32.toUInt32 31)).toInt32 &&& 1431655765)
  let b := (a &&& 858993459) + ((a.toUInt32 >>> ((2 : Int32).toUInt32 &&& Int32.toUInt32 31)).toInt32 &&& 858993459)
  let c := (b + (b.toUInt32 >>> ((4 : Int32).toUInt32 &&& Int32.toUInt32 31)).toInt32) &&& 252645135
  let d := c + (c.toUInt32 >>> ((8 : Int32).toUInt32 &&& Int32.toUInt32 31)).toInt32
  let e := d + (d.toUInt32 >>> ((16 : Int32).toUInt32 &&& Int32.toUInt32 31)).toInt32
  e &&& 63
def bN1 (n : Nat) : Nat := n - ((n / 2) &&& 1431655765)
def bN2 (n : Nat) : Nat := (n &&& 858993459) + ((n / 4) &&& 858993459)
def bN3 (n : Nat) : Nat := (n + n / 16) &&& 252645135
def bN4 (n : Nat) : Nat := n + n / 256
def bN5 (n : Nat) : Nat := n + n / 65536
def bitOK (n : Nat) : Bool := (bN5 (bN4 (bN3 (bN2 (bN1 n)))) &&& 63) == popN 12 n
theorem bitN_all : (List.range 4096).all bitOK = true := by decide +kernel
theorem bN1_lt {n : Nat} (h : n < 4096) : bN1 n < 4096 := by unfold bN1; omega
theorem bN2_lt {n : Nat} (h : n < 4096) : bN2 n < 8192 := by
  unfold bN2
  have a := Nat.and_le_left (n := n) (m := 858993459)
  have b := Nat.and_le_left (n := n / 4) (m := 858993459)
  omega
theorem bN3_lt {n : Nat} (h : n < 8192) : bN3 n < 16384 := by
  unfold bN3
  have a := Nat.and_le_left (n := n + n / 16) (m := 252645135)
  omega
theorem bN4_lt {n : Nat} (h : n < 16384) : bN4 n < 32768 := by unfold bN4; omega
theorem us_k (k : Nat) (y : Int32) (hs : ((y.toUInt32 &&& Int32.toUInt32 31).toBitVec % 32).toNat = k) {n : Nat} (hn : n < 2 ^ 31) : ((nI n).toUInt32 >>> (y.toUInt32 &&& Int32.toUInt32 31)).toInt32 = nI (n / 2 ^ k) := pk_ushrN (by omega) y k hs
theorem bitC_ok {a : Int} (h : 0 ≤ a ∧ a < 4096) : bitC (zI a) = zI (popc a) := by
  have h9 := List.all_eq_true.mp bitN_all a.toNat (List.mem_range.mpr (by omega))
  unfold bitOK at h9
  rw [zI_pos h.1]
  unfold popc
  have hn : a.toNat < 4096 := by omega
  generalize a.toNat = n at h9 hn ⊢
  have l1 := bN1_lt hn
  have l2 := bN2_lt l1
  have l3 := bN3_lt l2
  have l4 := bN4_lt l3
  have e1 : nI n - (((nI n).toUInt32 >>> ((1 : Int32).toUInt32 &&& Int32.toUInt32 31)).toInt32 &&& 1431655765) = nI (bN1 n) := by
    rw [us_k 1 1 (by decide) (by omega), show (1431655765 : Int32) = nI 1431655765 from rfl, nI_and, pk_sub (by have := Nat.and_le_left (n := n / 2 ^ 1) (m := 1431655765); omega)]
    rfl
  have e2 : (nI (bN1 n) &&& 858993459) + (((nI (bN1 n)).toUInt32 >>> ((2 : Int32).toUInt32 &&& Int32.toUInt32 31)).toInt32 &&& 858993459) = nI (bN2 (bN1 n)) := by
    rw [us_k 2 2 (by decide) (by omega), show (858993459 : Int32) = nI 858993459 from rfl, nI_and, nI_and, nI_add]
    rfl
  have e3 : (nI (bN2 (bN1 n)) + ((nI (bN2 (bN1 n))).toUInt32 >>> ((4 : Int32).toUInt32 &&& Int32.toUInt32 31)).toInt32) &&& 252645135 = nI (bN3 (bN2 (bN1 n))) := by
    rw [us_k 4 4 (by decide) (by omega), show (252645135 : Int32) = nI 252645135 from rfl, nI_add, nI_and]
    rfl
  have e4 : nI (bN3 (bN2 (bN1 n))) + ((nI (bN3 (bN2 (bN1 n)))).toUInt32 >>> ((8 : Int32).toUInt32 &&& Int32.toUInt32 31)).toInt32 = nI (bN4 (bN3 (bN2 (bN1 n)))) := by
    rw [us_k 8 8 (by decide) (by omega), nI_add]
    rfl
  have e5 : nI (bN4 (bN3 (bN2 (bN1 n)))) + ((nI (bN4 (bN3 (bN2 (bN1 n))))).toUInt32 >>> ((16 : Int32).toUInt32 &&& Int32.toUInt32 31)).toInt32 = nI (bN5 (bN4 (bN3 (bN2 (bN1 n))))) := by
    rw [us_k 16 16 (by decide) (by omega), nI_add]
    rfl
  unfold bitC
  dsimp only
  rw [e1, e2, e3, e4, e5, show (63 : Int32) = nI 63 from rfl, nI_and, eq_of_beq h9, zI_nI]
def rAdd (σ : St) (a b : Int) : St := up (up (up σ 40 a (zOr (σ 40 a) ((2 ^ b.toNat : Nat) : Int))) 40 b (zOr (up σ 40 a (zOr (σ 40 a) ((2 ^ b.toNat : Nat) : Int)) 40 b) ((2 ^ a.toNat : Nat) : Int))) 43 0 1
def prOf (a b : Int) : Int := min a b * 12 + max a b
def pInv (e : Nat) (σ : St) (p r : Int) : St := up (up σ (32 + e) p (σ (32 + e) p * r + (if σ 30 p = 0 then 1 else σ (34 + e) p))) (34 + e) p ((if σ 30 p = 0 then 1 else σ (34 + e) p) * r)
def pCnt (σ : St) (p : Int) : St := up σ 30 p (σ 30 p + 1)
def pJoin (σ : St) (a b : Int) : St := up σ 31 a (zOr (σ 31 a) ((2 ^ b.toNat : Nat) : Int))
def pAdd (σ : St) (a b lo hi : Int) : St := if 4 ≤ σ 30 (prOf a b) then σ else pJoin (pJoin (pCnt (pInv 1 (pInv 0 σ (prOf a b) lo) (prOf a b) hi) (prOf a b)) a b) b a
theorem nbF_s (a k : Int) (f : Nat) (net bf : Int) : nbF a k (f + 1) net bf = if zB a net then (if bf = k then net else nbF a k f (net + 1) (bf + 1)) else nbF a k f (net + 1) bf := rfl
def gcdF : Nat → Int → Int → Int
  | 0, g, _ => g
  | f + 1, g, s => if s = 0 then g else gcdF f s (g % s)
theorem gcdF_s (f : Nat) (g s : Int) : gcdF (f + 1) g s = if s = 0 then g else gcdF f s (g % s) := rfl
theorem gcdF_bd : ∀ (f : Nat) (g s : Int), 0 ≤ g → 0 ≤ s → g < 4611686018427387904 → s < 4611686018427387904 → 0 ≤ gcdF f g s ∧ gcdF f g s < 4611686018427387904
  | 0, g, s, h1, h2, h3, h4 => ⟨h1, h3⟩
  | f + 1, g, s, h1, h2, h3, h4 => by
    unfold gcdF
    split
    · exact ⟨h1, h3⟩
    · rename_i q
      have a := Int.emod_nonneg g q
      have b := Int.emod_lt_of_pos g (show 0 < s by omega)
      exact gcdF_bd f s (g % s) h2 a h4 (by omega)
def fillA (σ : St) (f : Nat) (n v : Int) : St := fun g j => if g = f ∧ 0 ≤ j ∧ j < n then v else σ g j
theorem fillA_0 (σ : St) (f : Nat) (v : Int) : fillA σ f 0 v = σ := by
  funext g j
  unfold fillA
  rw [if_neg (by omega)]
theorem fillA_s (σ : St) (f : Nat) (i v : Int) (h : 0 ≤ i) : up (fillA σ f i v) f i v = fillA σ f (i + 1) v := by
  funext g j
  unfold up fillA
  by_cases h1 : g = f
  · by_cases h2 : j = i
    · rw [if_pos ⟨h1, h2⟩, if_pos ⟨h1, by omega, by omega⟩]
    · rw [if_neg (fun q => h2 q.2)]
      by_cases h3 : 0 ≤ j ∧ j < i
      · rw [if_pos ⟨h1, h3⟩, if_pos ⟨h1, by omega, by omega⟩]
      · rw [if_neg (fun q => h3 q.2), if_neg (fun q => h3 (by omega))]
  · rw [if_neg (fun q => h1 q.1), if_neg (fun q => h1 q.1), if_neg (fun q => h1 q.1)]
theorem zOr_bd {a b : Int} {k : Nat} (ha : 0 ≤ a ∧ a < ((2 ^ k : Nat) : Int)) (hb : 0 ≤ b ∧ b < ((2 ^ k : Nat) : Int)) : 0 ≤ zOr a b ∧ zOr a b < ((2 ^ k : Nat) : Int) := by
  unfold zOr
  have := Nat.or_lt_two_pow (x := a.toNat) (y := b.toNat) (n := k) (by omega) (by omega)
  omega
theorem zAnd_bd {a b n : Int} (ha : 0 ≤ a ∧ a < n) : 0 ≤ zAnd a b ∧ zAnd a b < n := by
  unfold zAnd
  have := Nat.and_le_left (n := a.toNat) (m := b.toNat)
  omega
theorem p2_bd {b : Int} {k : Nat} (h : 0 ≤ b ∧ b < k) : 0 ≤ ((2 ^ b.toNat : Nat) : Int) ∧ ((2 ^ b.toNat : Nat) : Int) < ((2 ^ k : Nat) : Int) := by
  have := Nat.pow_lt_pow_right (a := 2) (by decide) (show b.toNat < k by omega)
  exact ⟨Int.natCast_nonneg _, Int.ofNat_lt.mpr this⟩
set_option maxHeartbeats 4000000 in
set_option maxRecDepth 100000 in
theorem k_JI_bitCount {l : Launch} {D : va_G} {ad : Nat → Nat} {ca : Nat → ClassId} (σ : St) (a : Int) (ha : 0 ≤ a ∧ a < 4096) : Cw l D cl7 (tyX ca) (wX ad ca) y_JI_bitCount c_JI_bitCount 1 (some .int) 0 [.int (zI a)] σ (RW (.int (zI (popc a))) (σ = ·)) := by
  refine Cw.enterF (by decide +kernel) (Nat.le_of_ble_eq_true rfl) ?_
  intro A p e s m below meth c hc ls hl hw
  have hl : lv_has ls 1 [(0, .int (zI a))] := hl
  obtain ⟨hx, hb, hml, hown, hTB, hK, hr, hlk⟩ := id hc
  have hq : bitC (zI a) = zI (popc a) := bitC_ok ha
  unfold bitC at hq
  dsimp only at hq
  generalize zI a = x0 at hc hl hq ⊢
  refine lv_iload_n hx hb d_JI_bitCount_0 rfl (lv_at hl 0 rfl) ?_
  refine lv_iload_n hx hb d_JI_bitCount_1 rfl (lv_at hl 0 rfl) ?_
  refine lv_iconst (v := 1) hx hb d_JI_bitCount_2 (by decide) ?_
  refine lv_iushr hx hb d_JI_bitCount_3 rfl ?_
  refine lv_ldcw hx hb hown (hTB.hts _ _ lk_JI_265) d_JI_bitCount_4 ?_
  refine lv_iand hx hb d_JI_bitCount_7 ?_
  refine lv_isub hx hb d_JI_bitCount_8 ?_
  refine lv_topi (fun x1 e1 => ?_)
  refine lv_istore_n (lv' := [(0, .int x1)]) hx hb d_JI_bitCount_9 rfl hl (by decide) rfl (fun ls hl => ?_)
  rw [← e1] at hq
  refine lv_iload_n hx hb d_JI_bitCount_10 rfl (lv_at hl 0 rfl) ?_
  refine lv_ldcw hx hb hown (hTB.hts _ _ lk_JI_266) d_JI_bitCount_11 ?_
  refine lv_iand hx hb d_JI_bitCount_14 ?_
  refine lv_iload_n hx hb d_JI_bitCount_15 rfl (lv_at hl 0 rfl) ?_
  refine lv_iconst (v := 2) hx hb d_JI_bitCount_16 (by decide) ?_
  refine lv_iushr hx hb d_JI_bitCount_17 rfl ?_
  refine lv_ldcw hx hb hown (hTB.hts _ _ lk_JI_266) d_JI_bitCount_18 ?_
  refine lv_iand hx hb d_JI_bitCount_21 ?_
  refine lv_iadd hx hb d_JI_bitCount_22 ?_
  refine lv_topi (fun x2 e2 => ?_)
  refine lv_istore_n (lv' := [(0, .int x2)]) hx hb d_JI_bitCount_23 rfl hl (by decide) rfl (fun ls hl => ?_)
  rw [← e2] at hq
  refine lv_iload_n hx hb d_JI_bitCount_24 rfl (lv_at hl 0 rfl) ?_
  refine lv_iload_n hx hb d_JI_bitCount_25 rfl (lv_at hl 0 rfl) ?_
  refine lv_iconst (v := 4) hx hb d_JI_bitCount_26 (by decide) ?_
  refine lv_iushr hx hb d_JI_bitCount_27 rfl ?_
  refine lv_iadd hx hb d_JI_bitCount_28 ?_
  refine lv_ldcw hx hb hown (hTB.hts _ _ lk_JI_267) d_JI_bitCount_29 ?_
  refine lv_iand hx hb d_JI_bitCount_32 ?_
  refine lv_topi (fun x3 e3 => ?_)
  refine lv_istore_n (lv' := [(0, .int x3)]) hx hb d_JI_bitCount_33 rfl hl (by decide) rfl (fun ls hl => ?_)
  rw [← e3] at hq
  refine lv_iload_n hx hb d_JI_bitCount_34 rfl (lv_at hl 0 rfl) ?_
  refine lv_iload_n hx hb d_JI_bitCount_35 rfl (lv_at hl 0 rfl) ?_
  refine lv_bipush (v := 8) hx hb d_JI_bitCount_36 (by decide) ?_
  refine lv_iushr hx hb d_JI_bitCount_38 rfl ?_
  refine lv_iadd hx hb d_JI_bitCount_39 ?_
  refine lv_topi (fun x4 e4 => ?_)
  refine lv_istore_n (lv' := [(0, .int x4)]) hx hb d_JI_bitCount_40 rfl hl (by decide) rfl (fun ls hl => ?_)
  rw [← e4] at hq
  refine lv_iload_n hx hb d_JI_bitCount_41 rfl (lv_at hl 0 rfl) ?_
  refine lv_iload_n hx hb d_JI_bitCount_42 rfl (lv_at hl 0 rfl) ?_
  refine lv_bipush (v := 16) hx hb d_JI_bitCount_43 (by decide) ?_
  refine lv_iushr hx hb d_JI_bitCount_45 rfl ?_
  refine lv_iadd hx hb d_JI_bitCount_46 ?_
  refine lv_topi (fun x5 e5 => ?_)
  refine lv_istore_n (lv' := [(0, .int x5)]) hx hb d_JI_bitCount_47 rfl hl (by decide) rfl (fun ls hl => ?_)
  rw [← e5] at hq
  refine lv_iload_n hx hb d_JI_bitCount_48 rfl (lv_at hl 0 rfl) ?_
  refine lv_bipush (v := 63) hx hb d_JI_bitCount_49 (by decide) ?_
  refine lv_iand hx hb d_JI_bitCount_51 ?_
  exact w_iret hc hw ⟨by rw [← hq], rfl⟩ d_JI_bitCount_52
end
section
set_option maxHeartbeats 400000 in
set_option maxRecDepth 100000 in
theorem k_X_nth0 {l : Launch} {D : va_G} {ad : Nat → Nat} {ca : Nat → ClassId} (σ : St) (n k : Int) (hn : 0 ≤ n ∧ n ≤ 8) (hk : r32 k) : Cw l D cl7 (tyX ca) (wX ad ca) y_X_nth c_X_nth 3 (some .int) 0 [.ref (ad 20), .int (zI n), .int (zI k)] σ (RW (.int (zI (nthR σ 20 n k))) (σ = ·)) := by
  refine Cw.enter (by decide) (Nat.le_of_ble_eq_true rfl) ?_
  intro A p e s m below meth c hc ls hl hw
  have hl : lv_has ls 3 [(0, .ref (ad 20)), (1, .int (zI n)), (2, .int (zI k))] := hl
  obtain ⟨hx, hb, hml, hown, hTB, hK, hr, hlk⟩ := id hc
  refine lv_iload_n hx hb d_X_nth_0 rfl (lv_at hl 2 rfl) ?_
  refine z_if_lt hx hb 21 d_X_nth_1 (by omega) (by decide) (fun c1 => ?_) (fun c1 => ?_)
  · refine z_ic hx hb d_X_nth_21 ?_
    exact w_iret hc hw (⟨by unfold nthR; first | (exfalso; omega) | rw [if_pos (by omega)] | rw [if_neg (by omega)], rfl⟩) d_X_nth_22
  · refine lv_iload_n hx hb d_X_nth_4 rfl (lv_at hl 2 rfl) ?_
    refine lv_iload_n hx hb d_X_nth_5 rfl (lv_at hl 1 rfl) ?_
    refine z_icmp_ge hx hb 21 d_X_nth_6 (by omega) (by omega) (by decide) (fun c6 => ?_) (fun c6 => ?_)
    · refine z_ic hx hb d_X_nth_21 ?_
      exact w_iret hc hw (⟨by unfold nthR; first | (exfalso; omega) | rw [if_pos (by omega)] | rw [if_neg (by omega)], rfl⟩) d_X_nth_22
    · refine lv_iload_n hx hb d_X_nth_9 rfl (lv_at hl 2 rfl) ?_
      refine lv_aload_n hx hb d_X_nth_10 rfl (lv_at hl 0 rfl) ?_
      refine alX_F_probes hc hw d_X_nth_11 ?_
      refine z_icmp_ge hx hb 21 d_X_nth_12 (by omega) (by omega) (by decide) (fun c12 => ?_) (fun c12 => ?_)
      · refine z_ic hx hb d_X_nth_21 ?_
        exact w_iret hc hw (⟨by unfold nthR; first | (exfalso; omega) | rw [if_pos (by omega)] | rw [if_neg (by omega)], rfl⟩) d_X_nth_22
      · refine lv_aload_n hx hb d_X_nth_15 rfl (lv_at hl 0 rfl) ?_
        refine lv_iload_n hx hb d_X_nth_16 rfl (lv_at hl 2 rfl) ?_
        refine ldX_F_probes hc hw d_X_nth_17 (by omega) ?_
        refine lv_goto (tgt := 22) hx hb d_X_nth_18 (by decide) ?_
        exact w_iret hc hw (⟨by unfold nthR; first | (exfalso; omega) | rw [if_pos (by omega)] | rw [if_neg (by omega)], rfl⟩) d_X_nth_22
set_option maxHeartbeats 400000 in
set_option maxRecDepth 100000 in
theorem k_X_nth1 {l : Launch} {D : va_G} {ad : Nat → Nat} {ca : Nat → ClassId} (σ : St) (n k : Int) (hn : 0 ≤ n ∧ n ≤ 8) (hk : r32 k) : Cw l D cl7 (tyX ca) (wX ad ca) y_X_nth c_X_nth 3 (some .int) 0 [.ref (ad 21), .int (zI n), .int (zI k)] σ (RW (.int (zI (nthR σ 21 n k))) (σ = ·)) := by
  refine Cw.enter (by decide) (Nat.le_of_ble_eq_true rfl) ?_
  intro A p e s m below meth c hc ls hl hw
  have hl : lv_has ls 3 [(0, .ref (ad 21)), (1, .int (zI n)), (2, .int (zI k))] := hl
  obtain ⟨hx, hb, hml, hown, hTB, hK, hr, hlk⟩ := id hc
  refine lv_iload_n hx hb d_X_nth_0 rfl (lv_at hl 2 rfl) ?_
  refine z_if_lt hx hb 21 d_X_nth_1 (by omega) (by decide) (fun c1 => ?_) (fun c1 => ?_)
  · refine z_ic hx hb d_X_nth_21 ?_
    exact w_iret hc hw (⟨by unfold nthR; first | (exfalso; omega) | rw [if_pos (by omega)] | rw [if_neg (by omega)], rfl⟩) d_X_nth_22
  · refine lv_iload_n hx hb d_X_nth_4 rfl (lv_at hl 2 rfl) ?_
    refine lv_iload_n hx hb d_X_nth_5 rfl (lv_at hl 1 rfl) ?_
    refine z_icmp_ge hx hb 21 d_X_nth_6 (by omega) (by omega) (by decide) (fun c6 => ?_) (fun c6 => ?_)
    · refine z_ic hx hb d_X_nth_21 ?_
      exact w_iret hc hw (⟨by unfold nthR; first | (exfalso; omega) | rw [if_pos (by omega)] | rw [if_neg (by omega)], rfl⟩) d_X_nth_22
    · refine lv_iload_n hx hb d_X_nth_9 rfl (lv_at hl 2 rfl) ?_
      refine lv_aload_n hx hb d_X_nth_10 rfl (lv_at hl 0 rfl) ?_
      refine alX_F_left hc hw d_X_nth_11 ?_
      refine z_icmp_ge hx hb 21 d_X_nth_12 (by omega) (by omega) (by decide) (fun c12 => ?_) (fun c12 => ?_)
      · refine z_ic hx hb d_X_nth_21 ?_
        exact w_iret hc hw (⟨by unfold nthR; first | (exfalso; omega) | rw [if_pos (by omega)] | rw [if_neg (by omega)], rfl⟩) d_X_nth_22
      · refine lv_aload_n hx hb d_X_nth_15 rfl (lv_at hl 0 rfl) ?_
        refine lv_iload_n hx hb d_X_nth_16 rfl (lv_at hl 2 rfl) ?_
        refine ldX_F_left hc hw d_X_nth_17 (by omega) ?_
        refine lv_goto (tgt := 22) hx hb d_X_nth_18 (by decide) ?_
        exact w_iret hc hw (⟨by unfold nthR; first | (exfalso; omega) | rw [if_pos (by omega)] | rw [if_neg (by omega)], rfl⟩) d_X_nth_22
set_option maxHeartbeats 400000 in
set_option maxRecDepth 100000 in
theorem k_X_nth2 {l : Launch} {D : va_G} {ad : Nat → Nat} {ca : Nat → ClassId} (σ : St) (n k : Int) (hn : 0 ≤ n ∧ n ≤ 8) (hk : r32 k) : Cw l D cl7 (tyX ca) (wX ad ca) y_X_nth c_X_nth 3 (some .int) 0 [.ref (ad 22), .int (zI n), .int (zI k)] σ (RW (.int (zI (nthR σ 22 n k))) (σ = ·)) := by
  refine Cw.enter (by decide) (Nat.le_of_ble_eq_true rfl) ?_
  intro A p e s m below meth c hc ls hl hw
  have hl : lv_has ls 3 [(0, .ref (ad 22)), (1, .int (zI n)), (2, .int (zI k))] := hl
  obtain ⟨hx, hb, hml, hown, hTB, hK, hr, hlk⟩ := id hc
  refine lv_iload_n hx hb d_X_nth_0 rfl (lv_at hl 2 rfl) ?_
  refine z_if_lt hx hb 21 d_X_nth_1 (by omega) (by decide) (fun c1 => ?_) (fun c1 => ?_)
  · refine z_ic hx hb d_X_nth_21 ?_
    exact w_iret hc hw (⟨by unfold nthR; first | (exfalso; omega) | rw [if_pos (by omega)] | rw [if_neg (by omega)], rfl⟩) d_X_nth_22
  · refine lv_iload_n hx hb d_X_nth_4 rfl (lv_at hl 2 rfl) ?_
    refine lv_iload_n hx hb d_X_nth_5 rfl (lv_at hl 1 rfl) ?_
    refine z_icmp_ge hx hb 21 d_X_nth_6 (by omega) (by omega) (by decide) (fun c6 => ?_) (fun c6 => ?_)
    · refine z_ic hx hb d_X_nth_21 ?_
      exact w_iret hc hw (⟨by unfold nthR; first | (exfalso; omega) | rw [if_pos (by omega)] | rw [if_neg (by omega)], rfl⟩) d_X_nth_22
    · refine lv_iload_n hx hb d_X_nth_9 rfl (lv_at hl 2 rfl) ?_
      refine lv_aload_n hx hb d_X_nth_10 rfl (lv_at hl 0 rfl) ?_
      refine alX_F_flown hc hw d_X_nth_11 ?_
      refine z_icmp_ge hx hb 21 d_X_nth_12 (by omega) (by omega) (by decide) (fun c12 => ?_) (fun c12 => ?_)
      · refine z_ic hx hb d_X_nth_21 ?_
        exact w_iret hc hw (⟨by unfold nthR; first | (exfalso; omega) | rw [if_pos (by omega)] | rw [if_neg (by omega)], rfl⟩) d_X_nth_22
      · refine lv_aload_n hx hb d_X_nth_15 rfl (lv_at hl 0 rfl) ?_
        refine lv_iload_n hx hb d_X_nth_16 rfl (lv_at hl 2 rfl) ?_
        refine ldX_F_flown hc hw d_X_nth_17 (by omega) ?_
        refine lv_goto (tgt := 22) hx hb d_X_nth_18 (by decide) ?_
        exact w_iret hc hw (⟨by unfold nthR; first | (exfalso; omega) | rw [if_pos (by omega)] | rw [if_neg (by omega)], rfl⟩) d_X_nth_22
set_option maxHeartbeats 400000 in
set_option maxRecDepth 100000 in
theorem k_X_nth3 {l : Launch} {D : va_G} {ad : Nat → Nat} {ca : Nat → ClassId} (σ : St) (n k : Int) (hn : 0 ≤ n ∧ n ≤ 8) (hk : r32 k) : Cw l D cl7 (tyX ca) (wX ad ca) y_X_nth c_X_nth 3 (some .int) 0 [.ref (ad 23), .int (zI n), .int (zI k)] σ (RW (.int (zI (nthR σ 23 n k))) (σ = ·)) := by
  refine Cw.enter (by decide) (Nat.le_of_ble_eq_true rfl) ?_
  intro A p e s m below meth c hc ls hl hw
  have hl : lv_has ls 3 [(0, .ref (ad 23)), (1, .int (zI n)), (2, .int (zI k))] := hl
  obtain ⟨hx, hb, hml, hown, hTB, hK, hr, hlk⟩ := id hc
  refine lv_iload_n hx hb d_X_nth_0 rfl (lv_at hl 2 rfl) ?_
  refine z_if_lt hx hb 21 d_X_nth_1 (by omega) (by decide) (fun c1 => ?_) (fun c1 => ?_)
  · refine z_ic hx hb d_X_nth_21 ?_
    exact w_iret hc hw (⟨by unfold nthR; first | (exfalso; omega) | rw [if_pos (by omega)] | rw [if_neg (by omega)], rfl⟩) d_X_nth_22
  · refine lv_iload_n hx hb d_X_nth_4 rfl (lv_at hl 2 rfl) ?_
    refine lv_iload_n hx hb d_X_nth_5 rfl (lv_at hl 1 rfl) ?_
    refine z_icmp_ge hx hb 21 d_X_nth_6 (by omega) (by omega) (by decide) (fun c6 => ?_) (fun c6 => ?_)
    · refine z_ic hx hb d_X_nth_21 ?_
      exact w_iret hc hw (⟨by unfold nthR; first | (exfalso; omega) | rw [if_pos (by omega)] | rw [if_neg (by omega)], rfl⟩) d_X_nth_22
    · refine lv_iload_n hx hb d_X_nth_9 rfl (lv_at hl 2 rfl) ?_
      refine lv_aload_n hx hb d_X_nth_10 rfl (lv_at hl 0 rfl) ?_
      refine alX_F_sorted hc hw d_X_nth_11 ?_
      refine z_icmp_ge hx hb 21 d_X_nth_12 (by omega) (by omega) (by decide) (fun c12 => ?_) (fun c12 => ?_)
      · refine z_ic hx hb d_X_nth_21 ?_
        exact w_iret hc hw (⟨by unfold nthR; first | (exfalso; omega) | rw [if_pos (by omega)] | rw [if_neg (by omega)], rfl⟩) d_X_nth_22
      · refine lv_aload_n hx hb d_X_nth_15 rfl (lv_at hl 0 rfl) ?_
        refine lv_iload_n hx hb d_X_nth_16 rfl (lv_at hl 2 rfl) ?_
        refine ldX_F_sorted hc hw d_X_nth_17 (by omega) ?_
        refine lv_goto (tgt := 22) hx hb d_X_nth_18 (by decide) ?_
        exact w_iret hc hw (⟨by unfold nthR; first | (exfalso; omega) | rw [if_pos (by omega)] | rw [if_neg (by omega)], rfl⟩) d_X_nth_22
set_option maxHeartbeats 400000 in
set_option maxRecDepth 100000 in
theorem k_JA_fill {l : Launch} {D : va_G} {ad : Nat → Nat} {ca : Nat → ClassId} (σ : St) (v : Int) (hv : r32 v) : Cw l D cl7 (tyX ca) (wX ad ca) y_JA_fill c_JA_fill 4 none 0 [.ref (ad 14), .int (zI v)] σ (VW (fillA σ 14 24 v = ·)) := by
  refine Cw.enterF (by decide +kernel) (Nat.le_of_ble_eq_true rfl) ?_
  intro A p e s m below meth c hc ls hl hw
  have hl : lv_has ls 4 [(0, .ref (ad 14)), (1, .int (zI v))] := hl
  obtain ⟨hx, hb, hml, hown, hTB, hK, hr, hlk⟩ := id hc
  refine z_ic hx hb d_JA_fill_0 ?_
  refine z_ist_n hx hb d_JA_fill_1 rfl hl (by decide) (fun x2_1 ex2_1 ls (hl : lv_has ls 4 [(2, .int (zI x2_1)), (0, .ref (ad 14)), (1, .int (zI v))]) => ?_)
  refine lv_aload_n hx hb d_JA_fill_2 rfl (lv_at hl 1 rfl) ?_
  refine alX_S_clashes hc hw d_JA_fill_3 ?_
  refine z_ist_n hx hb d_JA_fill_4 rfl hl (by decide) (fun x3_4 ex3_4 ls (hl : lv_has ls 4 [(3, .int (zI x3_4)), (2, .int (zI x2_1)), (0, .ref (ad 14)), (1, .int (zI v))]) => ?_)
  have L5 : ∀ (n : Nat) (i : Int) (τ : St) (H : Heap) (locs : List Loc), (0 ≤ i ∧ i ≤ 24) → (τ = fillA σ 14 i v) → (24 - i).toNat < n → Wd D cl7 (wX ad ca) A s.heap τ H locs → ∀ ls : Array Slot, lv_has ls 4 [(2, .int (zI i)), (3, .int (zI x3_4)), (0, .ref (ad 14)), (1, .int (zI v))] → W p l e (Rmh 0) s m ([.ref (ad 14), .int (zI v)] : List Value).toArray below meth c H locs 0 0 (MQ below (Qw D cl7 (wX ad ca) A (VW (fillA σ 14 24 v = ·))) ([.ref (ad 14), .int (zI v)] : List Value).toArray s 0 0 A) (F0 m 5 ls []) := by
    intro n
    induction n with
    | zero => intro i τ H locs hi hτ hm; exact absurd hm (Nat.not_lt_zero _)
    | succ n ih5 =>
      intro i τ H locs hi hτ hm5 hw ls hl
      refine lv_iload_n hx hb d_JA_fill_5 rfl (lv_at hl 0 rfl) ?_
      refine lv_iload_n hx hb d_JA_fill_6 rfl (lv_at hl 1 rfl) ?_
      refine z_icmp_ge hx hb 20 d_JA_fill_7 (by omega) (by omega) (by decide) (fun c7 => ?_) (fun c7 => ?_)
      · exact w_vret hc hw (⟨rfl, by rw [hτ, show i = 24 by omega]⟩) d_JA_fill_20
      · refine lv_aload_n hx hb d_JA_fill_10 rfl (lv_at hl 2 rfl) ?_
        refine lv_iload_n hx hb d_JA_fill_11 rfl (lv_at hl 0 rfl) ?_
        refine lv_iload_n hx hb d_JA_fill_12 rfl (lv_at hl 3 rfl) ?_
        refine stX_S_clashes hc hw d_JA_fill_13 (by omega) (fun H locs hw => ?_)
        refine z_iinc (k := 0) hx hb d_JA_fill_14 hl rfl (by decide) (fun x2_14 ex2_14 ls (hl : lv_has ls 4 [(2, .int (zI x2_14)), (3, .int (zI x3_4)), (0, .ref (ad 14)), (1, .int (zI v))]) => ?_)
        refine lv_goto (tgt := 5) hx hb d_JA_fill_17 (by decide) ?_
        exact ih5 x2_14 _ _ _ (by omega) (by rw [hτ, fillA_s σ 14 i v hi.1, ex2_14]) (by omega) hw ls (lv_sub hl [0, 1, 2, 3] rfl)
  exact L5 _ x2_1 _ _ _ (by omega) (by subst_vars; exact (fillA_0 σ 14 v).symm) (Nat.lt_succ_self _) hw ls (lv_sub hl [1, 0, 2, 3] rfl)
set_option maxHeartbeats 400000 in
set_option maxRecDepth 100000 in
theorem k_X_nthBit {l : Launch} {D : va_G} {ad : Nat → Nat} {ca : Nat → ClassId} (σ : St) (a k : Int) (ha : 0 ≤ a ∧ a < 4096) (hk : r32 k) : Cw l D cl7 (tyX ca) (wX ad ca) y_X_nthBit c_X_nthBit 4 (some .int) 1 [.int (zI a), .int (zI k)] σ (RW (.int (zI (nbF a k 12 0 0))) (σ = ·)) := by
  generalize hN0 : nbF a k 12 0 0 = N0
  refine Cw.enter (by decide) (Nat.le_of_ble_eq_true rfl) ?_
  intro A p e s m below meth c hc ls hl hw
  have hl : lv_has ls 4 [(0, .int (zI a)), (1, .int (zI k))] := hl
  obtain ⟨hx, hb, hml, hown, hTB, hK, hr, hlk⟩ := id hc
  refine z_ic hx hb d_X_nthBit_0 ?_
  refine z_ist_n hx hb d_X_nthBit_1 rfl hl (by decide) (fun x2_1 ex2_1 ls (hl : lv_has ls 4 [(2, .int (zI x2_1)), (0, .int (zI a)), (1, .int (zI k))]) => ?_)
  refine z_ic hx hb d_X_nthBit_2 ?_
  refine z_ist_n hx hb d_X_nthBit_3 rfl hl (by decide) (fun x3_3 ex3_3 ls (hl : lv_has ls 4 [(3, .int (zI x3_3)), (2, .int (zI x2_1)), (0, .int (zI a)), (1, .int (zI k))]) => ?_)
  have L4 : ∀ (n : Nat) (net : Int) (bf : Int) (H : Heap) (locs : List Loc), (0 ≤ net ∧ net ≤ 12 ∧ 0 ≤ bf ∧ bf ≤ net) → (N0 = nbF a k (12 - net).toNat net bf) → (12 - net).toNat < n → Wd D cl7 (wX ad ca) A s.heap σ H locs → ∀ ls : Array Slot, lv_has ls 4 [(3, .int (zI net)), (2, .int (zI bf)), (0, .int (zI a)), (1, .int (zI k))] → W p l e (Rmh 1) s m ([.int (zI a), .int (zI k)] : List Value).toArray below meth c H locs 0 0 (MQ below (Qw D cl7 (wX ad ca) A (RW (.int (zI N0)) (σ = ·))) ([.int (zI a), .int (zI k)] : List Value).toArray s 0 0 A) (F0 m 4 ls []) := by
    intro n
    induction n with
    | zero => intro net bf  H locs hi hN hm; exact absurd hm (Nat.not_lt_zero _)
    | succ n ih4 =>
      intro net bf  H locs hi hN hm4 hw ls hl
      refine lv_iload_n hx hb d_X_nthBit_4 rfl (lv_at hl 0 rfl) ?_
      refine z_bi hx hb d_X_nthBit_5 (by decide) ?_
      refine z_icmp_ge hx hb 34 d_X_nthBit_7 (by omega) (by omega) (by decide) (fun c7 => ?_) (fun c7 => ?_)
      · refine z_ic hx hb d_X_nthBit_34 ?_
        exact w_iret hc hw (⟨by rw [hN, show (12 - net).toNat = 0 by omega]; rfl, rfl⟩) d_X_nthBit_35
      · have q : (12 - net).toNat = (12 - (net + 1)).toNat + 1 := by omega
        rw [q, nbF_s] at hN
        refine lv_iload_n hx hb d_X_nthBit_10 rfl (lv_at hl 2 rfl) ?_
        refine lv_iload_n hx hb d_X_nthBit_11 rfl (lv_at hl 0 rfl) ?_
        refine w_csR hc hw (k_X_hasBit _ _ _ (by omega) (by omega)) yw_X_hasBit yi_X_hasBit lk_X_203 d_X_nthBit_12 rfl rfl hl.1 (Nat.le_of_ble_eq_true rfl) ⟨Nat.le_of_ble_eq_true rfl, Nat.le_of_ble_eq_true rfl⟩ ⟨Nat.zero_le _, Nat.zero_le _⟩ (fun τ12 H locs hτ12 hw => ?_)
        subst hτ12
        refine z_ifb_eq hx hb 28 d_X_nthBit_15 (by decide) (fun c15 => ?_) (fun c15 => ?_)
        · refine z_iinc (k := 0) hx hb d_X_nthBit_28 hl rfl (by decide) (fun x3_28 ex3_28 ls (hl : lv_has ls 4 [(3, .int (zI x3_28)), (2, .int (zI bf)), (0, .int (zI a)), (1, .int (zI k))]) => ?_)
          refine lv_goto (tgt := 4) hx hb d_X_nthBit_31 (by decide) ?_
          exact ih4 x3_28 bf _ _ (by omega) (by rw [hN, show (12 - x3_28).toNat = (12 - (net + 1)).toNat from (by omega), ex3_28]; first | (rw [if_neg c15]; done) | (rw [if_pos c15, if_neg c20, ex2_25])) (by omega) hw ls (lv_sub hl [0, 1, 2, 3] rfl)
        · refine lv_iload_n hx hb d_X_nthBit_18 rfl (lv_at hl 1 rfl) ?_
          refine lv_iload_n hx hb d_X_nthBit_19 rfl (lv_at hl 3 rfl) ?_
          refine z_icmp_ne hx hb 25 d_X_nthBit_20 (by omega) (by omega) (by decide) (fun c20 => ?_) (fun c20 => ?_)
          · refine z_iinc (k := 1) hx hb d_X_nthBit_25 hl rfl (by decide) (fun x2_25 ex2_25 ls (hl : lv_has ls 4 [(2, .int (zI x2_25)), (3, .int (zI net)), (0, .int (zI a)), (1, .int (zI k))]) => ?_)
            refine z_iinc (k := 1) hx hb d_X_nthBit_28 hl rfl (by decide) (fun x3_28 ex3_28 ls (hl : lv_has ls 4 [(3, .int (zI x3_28)), (2, .int (zI x2_25)), (0, .int (zI a)), (1, .int (zI k))]) => ?_)
            refine lv_goto (tgt := 4) hx hb d_X_nthBit_31 (by decide) ?_
            exact ih4 x3_28 x2_25 _ _ (by omega) (by rw [hN, show (12 - x3_28).toNat = (12 - (net + 1)).toNat from (by omega), ex3_28]; first | (rw [if_neg c15]; done) | (rw [if_pos c15, if_neg c20, ex2_25])) (by omega) hw ls (lv_sub hl [0, 1, 2, 3] rfl)
          · refine lv_iload_n hx hb d_X_nthBit_23 rfl (lv_at hl 0 rfl) ?_
            exact w_iret hc hw (⟨by rw [hN, if_pos c15, if_pos c20], rfl⟩) d_X_nthBit_24
  exact L4 _ x3_3 x2_1 _ _ (by omega) (by rw [ex3_3, ex2_1, show ((12 : Int) - 0).toNat = 12 from (by decide)]; exact hN0.symm) (Nat.lt_succ_self _) hw ls (lv_sub hl [0, 1, 2, 3] rfl)
set_option maxHeartbeats 400000 in
set_option maxRecDepth 100000 in
theorem k_R_countOf {l : Launch} {D : va_G} {ad : Nat → Nat} {ca : Nat → ClassId} (σ : St) (n : Int) (hn : 0 ≤ n ∧ n < 12) (hO : ∀ i, 0 ≤ σ 40 i ∧ σ 40 i < 4096) : Cw l D cl7 (tyX ca) (wX ad ca) y_R_countOf c_R_countOf 2 (some .int) 1 [.ref (ad 104), .int (zI n)] σ (RW (.int (zI (popc (σ 40 n)))) (σ = ·)) := by
  refine Cw.enter (by decide) (Nat.le_of_ble_eq_true rfl) ?_
  intro A p e s m below meth c hc ls hl hw
  have hl : lv_has ls 2 [(0, .ref (ad 104)), (1, .int (zI n))] := hl
  obtain ⟨hx, hb, hml, hown, hTB, hK, hr, hlk⟩ := id hc
  refine lv_aload_n hx hb d_R_countOf_0 rfl (lv_at hl 0 rfl) ?_
  refine gX_R_others hc hw lk_R_9 d_R_countOf_1 ?_
  refine lv_iload_n hx hb d_R_countOf_4 rfl (lv_at hl 1 rfl) ?_
  refine ldX_R_others hc hw d_R_countOf_5 (by omega) ?_
  refine w_csR hc hw (k_JI_bitCount _ _ (hO n)) yw_JI_bitCount yi_JI_bitCount lk_R_23 d_R_countOf_6 rfl rfl hl.1 (Nat.le_of_ble_eq_true rfl) ⟨Nat.le_of_ble_eq_true rfl, Nat.le_of_ble_eq_true rfl⟩ ⟨Nat.zero_le _, Nat.zero_le _⟩ (fun τ6 H locs hτ6 hw => ?_)
  subst hτ6
  exact w_iret hc hw (⟨rfl, rfl⟩) d_R_countOf_9
set_option maxHeartbeats 400000 in
set_option maxRecDepth 100000 in
theorem k_R_add {l : Launch} {D : va_G} {ad : Nat → Nat} {ca : Nat → ClassId} (σ : St) (a b : Int) (ha : 0 ≤ a ∧ a < 12) (hb2 : 0 ≤ b ∧ b < 12) (hO : ∀ i, 0 ≤ σ 40 i ∧ σ 40 i < 4096) : Cw l D cl7 (tyX ca) (wX ad ca) y_R_add c_R_add 3 (some .boolean) 1 [.ref (ad 104), .int (zI a), .int (zI b)] σ (RW (.int (zI (bI (¬ zB (σ 40 a) b)))) ((if zB (σ 40 a) b then σ else rAdd σ a b) = ·)) := by
  have hOa := hO a
  have hOb := hO b
  have hpa := p2_bd (k := 12) ha
  have hpb := p2_bd (k := 12) hb2
  refine Cw.enter (by decide) (Nat.le_of_ble_eq_true rfl) ?_
  intro A p e s m below meth c hc ls hl hw
  have hl : lv_has ls 3 [(0, .ref (ad 104)), (1, .int (zI a)), (2, .int (zI b))] := hl
  obtain ⟨hx, hb, hml, hown, hTB, hK, hr, hlk⟩ := id hc
  refine lv_aload_n hx hb d_R_add_0 rfl (lv_at hl 0 rfl) ?_
  refine gX_R_others hc hw lk_R_9 d_R_add_1 ?_
  refine lv_iload_n hx hb d_R_add_4 rfl (lv_at hl 1 rfl) ?_
  refine ldX_R_others hc hw d_R_add_5 (by omega) ?_
  refine lv_iload_n hx hb d_R_add_6 rfl (lv_at hl 2 rfl) ?_
  refine w_csNR hc hw (k_X_hasBit _ _ _ (by omega) (by omega)) yw_X_hasBit yi_X_hasBit lk_R_15 d_R_add_7 rfl rfl hl.1 (Nat.le_of_ble_eq_true rfl) ⟨Nat.le_of_ble_eq_true rfl, Nat.le_of_ble_eq_true rfl⟩ ⟨Nat.zero_le _, Nat.zero_le _⟩ (fun τ7 H locs hτ7 hw => ?_)
  subst hτ7
  refine z_ifb_eq hx hb 15 d_R_add_10 (by decide) (fun c10 => ?_) (fun c10 => ?_)
  · refine lv_aload_n hx hb d_R_add_15 rfl (lv_at hl 0 rfl) ?_
    refine gX_R_others hc hw lk_R_9 d_R_add_16 ?_
    refine lv_iload_n hx hb d_R_add_19 rfl (lv_at hl 1 rfl) ?_
    refine lv_dup2_11 hx hb d_R_add_20 rfl rfl ?_
    refine ldX_R_others hc hw d_R_add_21 (by omega) ?_
    refine z_ic hx hb d_R_add_22 ?_
    refine lv_iload_n hx hb d_R_add_23 rfl (lv_at hl 2 rfl) ?_
    refine z_shl1 hx hb d_R_add_24 (by omega) ?_
    refine z_ior hx hb d_R_add_25 (⟨hOa.1, hpb.1⟩) ?_
    refine stX_R_others hc hw d_R_add_26 (by omega) (fun H locs hw => ?_)
    refine lv_aload_n hx hb d_R_add_27 rfl (lv_at hl 0 rfl) ?_
    refine gX_R_others hc hw lk_R_9 d_R_add_28 ?_
    refine lv_iload_n hx hb d_R_add_31 rfl (lv_at hl 2 rfl) ?_
    refine lv_dup2_11 hx hb d_R_add_32 rfl rfl ?_
    refine ldX_R_others hc hw d_R_add_33 (by omega) ?_
    refine z_ic hx hb d_R_add_34 ?_
    refine lv_iload_n hx hb d_R_add_35 rfl (lv_at hl 1 rfl) ?_
    refine z_shl1 hx hb d_R_add_36 (by omega) ?_
    refine z_ior hx hb d_R_add_37 (⟨by unfold up; split; exact (zOr_bd (k := 12) hOa hpb).1; exact hOb.1, hpa.1⟩) ?_
    refine stX_R_others hc hw d_R_add_38 (by omega) (fun H locs hw => ?_)
    refine lv_aload_n hx hb d_R_add_39 rfl (lv_at hl 0 rfl) ?_
    refine z_ic hx hb d_R_add_40 ?_
    refine pX_R_isStale hc hw lk_R_19 d_R_add_41 (by omega) (fun H locs hw => ?_)
    refine z_ic hx hb d_R_add_44 ?_
    exact w_zret hc hw (by omega) (⟨by rw [bI_t c10], if_neg c10⟩) d_R_add_45
  · refine z_ic hx hb d_R_add_13 ?_
    exact w_zret hc hw (by omega) (⟨by rw [bI_f (fun q => q c10)], if_pos c10⟩) d_R_add_14
set_option maxHeartbeats 400000 in
set_option maxRecDepth 100000 in
theorem k_P_pairOf {l : Launch} {D : va_G} {ad : Nat → Nat} {ca : Nat → ClassId} (σ : St) (a b : Int) (ha : 0 ≤ a ∧ a < 12) (hb2 : 0 ≤ b ∧ b < 12) : Cw l D cl7 (tyX ca) (wX ad ca) y_P_pairOf c_P_pairOf 2 (some .int) 1 [.int (zI a), .int (zI b)] σ (RW (.int (zI (prOf a b))) (σ = ·)) := by
  refine Cw.enter (by decide) (Nat.le_of_ble_eq_true rfl) ?_
  intro A p e s m below meth c hc ls hl hw
  have hl : lv_has ls 2 [(0, .int (zI a)), (1, .int (zI b))] := hl
  obtain ⟨hx, hb, hml, hown, hTB, hK, hr, hlk⟩ := id hc
  refine lv_iload_n hx hb d_P_pairOf_0 rfl (lv_at hl 0 rfl) ?_
  refine lv_iload_n hx hb d_P_pairOf_1 rfl (lv_at hl 1 rfl) ?_
  refine w_csR hc hw (k_JM_min _ _ _ (by omega) (by omega)) yw_JM_min yi_JM_min lk_P_47 d_P_pairOf_2 rfl rfl hl.1 (Nat.le_of_ble_eq_true rfl) ⟨Nat.le_of_ble_eq_true rfl, Nat.le_of_ble_eq_true rfl⟩ ⟨Nat.zero_le _, Nat.zero_le _⟩ (fun τ2 H locs hτ2 hw => ?_)
  subst hτ2
  refine z_bi hx hb d_P_pairOf_5 (by decide) ?_
  refine z_imul hx hb d_P_pairOf_7 ?_
  refine lv_iload_n hx hb d_P_pairOf_8 rfl (lv_at hl 0 rfl) ?_
  refine lv_iload_n hx hb d_P_pairOf_9 rfl (lv_at hl 1 rfl) ?_
  refine w_csR hc hw (k_JM_max _ _ _ (by omega) (by omega)) yw_JM_max yi_JM_max lk_P_50 d_P_pairOf_10 rfl rfl hl.1 (Nat.le_of_ble_eq_true rfl) ⟨Nat.le_of_ble_eq_true rfl, Nat.le_of_ble_eq_true rfl⟩ ⟨Nat.zero_le _, Nat.zero_le _⟩ (fun τ10 H locs hτ10 hw => ?_)
  subst hτ10
  refine z_iadd hx hb d_P_pairOf_13 ?_
  exact w_iret hc hw (⟨rfl, rfl⟩) d_P_pairOf_14
set_option maxHeartbeats 400000 in
set_option maxRecDepth 100000 in
theorem k_P_addInverse0 {l : Launch} {D : va_G} {ad : Nat → Nat} {ca : Nat → ClassId} (σ : St) (pp r : Int) (hp : 0 ≤ pp ∧ pp < 144) (hC : ∀ i, 0 ≤ σ 30 i ∧ σ 30 i ≤ 4) : Cw l D cl7 (tyX ca) (wX ad ca) y_P_addInverse c_P_addInverse 7 none 0 [.ref (ad 103), .int (zI 0), .int (zI pp), .long (zL r)] σ (VW (pInv 0 σ pp r = ·)) := by
  have hCp := hC pp
  refine Cw.enter (by decide) (Nat.le_of_ble_eq_true rfl) ?_
  intro A p e s m below meth c hc ls hl hw
  have hl : lv_has ls 7 [(0, .ref (ad 103)), (1, .int (zI 0)), (2, .int (zI pp)), (3, .long (zL r))] := hl
  obtain ⟨hx, hb, hml, hown, hTB, hK, hr, hlk⟩ := id hc
  refine lv_aload_n hx hb d_P_addInverse_0 rfl (lv_at hl 0 rfl) ?_
  refine gX_P_counts hc hw lk_P_11 d_P_addInverse_1 ?_
  refine lv_iload_n hx hb d_P_addInverse_4 rfl (lv_at hl 2 rfl) ?_
  refine ldX_P_counts hc hw d_P_addInverse_5 (by omega) ?_
  refine z_if_ne hx hb 13 d_P_addInverse_6 (by omega) (by decide) (fun c6 => ?_) (fun c6 => ?_)
  · refine lv_aload_n hx hb d_P_addInverse_13 rfl (lv_at hl 0 rfl) ?_
    refine gX_P_below hc hw lk_P_23 d_P_addInverse_14 ?_
    refine lv_iload_n hx hb d_P_addInverse_17 rfl (lv_at hl 1 rfl) ?_
    refine laX_P_below0 hc hw d_P_addInverse_18 ?_
    refine lv_iload_n hx hb d_P_addInverse_19 rfl (lv_at hl 2 rfl) ?_
    refine ldX_P_below0 hc hw d_P_addInverse_20 (by omega) ?_
    refine z_lst hx hb d_P_addInverse_21 hl (by decide) (fun x5_21 ex5_21 ls (hl : lv_has ls 7 [(5, .long (zL x5_21)), (0, .ref (ad 103)), (1, .int (zI 0)), (2, .int (zI pp)), (3, .long (zL r))]) => ?_)
    subst ex5_21
    refine lv_aload_n hx hb d_P_addInverse_23 rfl (lv_at hl 1 rfl) ?_
    refine gX_P_above hc hw lk_P_20 d_P_addInverse_24 ?_
    refine lv_iload_n hx hb d_P_addInverse_27 rfl (lv_at hl 2 rfl) ?_
    refine laX_P_above0 hc hw d_P_addInverse_28 ?_
    refine lv_iload_n hx hb d_P_addInverse_29 rfl (lv_at hl 3 rfl) ?_
    refine lv_aload_n hx hb d_P_addInverse_30 rfl (lv_at hl 1 rfl) ?_
    refine gX_P_above hc hw lk_P_20 d_P_addInverse_31 ?_
    refine lv_iload_n hx hb d_P_addInverse_34 rfl (lv_at hl 2 rfl) ?_
    refine laX_P_above0 hc hw d_P_addInverse_35 ?_
    refine lv_iload_n hx hb d_P_addInverse_36 rfl (lv_at hl 3 rfl) ?_
    refine ldX_P_above0 hc hw d_P_addInverse_37 (by omega) ?_
    refine lv_lload_n hx hb d_P_addInverse_38 rfl (lv_at hl 4 rfl) ?_
    refine z_lmul hx hb d_P_addInverse_39 ?_
    refine lv_lload hx hb d_P_addInverse_40 (lv_at hl 0 rfl) ?_
    refine z_ladd hx hb d_P_addInverse_42 ?_
    refine stX_P_above0 hc hw d_P_addInverse_43 (by omega) (fun H locs hw => ?_)
    refine lv_aload_n hx hb d_P_addInverse_44 rfl (lv_at hl 1 rfl) ?_
    refine gX_P_below hc hw lk_P_23 d_P_addInverse_45 ?_
    refine lv_iload_n hx hb d_P_addInverse_48 rfl (lv_at hl 2 rfl) ?_
    refine laX_P_below0 hc hw d_P_addInverse_49 ?_
    refine lv_iload_n hx hb d_P_addInverse_50 rfl (lv_at hl 3 rfl) ?_
    refine lv_lload hx hb d_P_addInverse_51 (lv_at hl 0 rfl) ?_
    refine lv_lload_n hx hb d_P_addInverse_53 rfl (lv_at hl 4 rfl) ?_
    refine z_lmul hx hb d_P_addInverse_54 ?_
    refine stX_P_below0 hc hw d_P_addInverse_55 (by omega) (fun H locs hw => ?_)
    exact w_vret hc hw (⟨rfl, by unfold pInv; simp [c6]⟩) d_P_addInverse_56
  · refine z_lc1 hx hb d_P_addInverse_9 ?_
    refine lv_goto (tgt := 21) hx hb d_P_addInverse_10 (by decide) ?_
    refine z_lst hx hb d_P_addInverse_21 hl (by decide) (fun x5_21 ex5_21 ls (hl : lv_has ls 7 [(5, .long (zL x5_21)), (0, .ref (ad 103)), (1, .int (zI 0)), (2, .int (zI pp)), (3, .long (zL r))]) => ?_)
    subst ex5_21
    refine lv_aload_n hx hb d_P_addInverse_23 rfl (lv_at hl 1 rfl) ?_
    refine gX_P_above hc hw lk_P_20 d_P_addInverse_24 ?_
    refine lv_iload_n hx hb d_P_addInverse_27 rfl (lv_at hl 2 rfl) ?_
    refine laX_P_above0 hc hw d_P_addInverse_28 ?_
    refine lv_iload_n hx hb d_P_addInverse_29 rfl (lv_at hl 3 rfl) ?_
    refine lv_aload_n hx hb d_P_addInverse_30 rfl (lv_at hl 1 rfl) ?_
    refine gX_P_above hc hw lk_P_20 d_P_addInverse_31 ?_
    refine lv_iload_n hx hb d_P_addInverse_34 rfl (lv_at hl 2 rfl) ?_
    refine laX_P_above0 hc hw d_P_addInverse_35 ?_
    refine lv_iload_n hx hb d_P_addInverse_36 rfl (lv_at hl 3 rfl) ?_
    refine ldX_P_above0 hc hw d_P_addInverse_37 (by omega) ?_
    refine lv_lload_n hx hb d_P_addInverse_38 rfl (lv_at hl 4 rfl) ?_
    refine z_lmul hx hb d_P_addInverse_39 ?_
    refine lv_lload hx hb d_P_addInverse_40 (lv_at hl 0 rfl) ?_
    refine z_ladd hx hb d_P_addInverse_42 ?_
    refine stX_P_above0 hc hw d_P_addInverse_43 (by omega) (fun H locs hw => ?_)
    refine lv_aload_n hx hb d_P_addInverse_44 rfl (lv_at hl 1 rfl) ?_
    refine gX_P_below hc hw lk_P_23 d_P_addInverse_45 ?_
    refine lv_iload_n hx hb d_P_addInverse_48 rfl (lv_at hl 2 rfl) ?_
    refine laX_P_below0 hc hw d_P_addInverse_49 ?_
    refine lv_iload_n hx hb d_P_addInverse_50 rfl (lv_at hl 3 rfl) ?_
    refine lv_lload hx hb d_P_addInverse_51 (lv_at hl 0 rfl) ?_
    refine lv_lload_n hx hb d_P_addInverse_53 rfl (lv_at hl 4 rfl) ?_
    refine z_lmul hx hb d_P_addInverse_54 ?_
    refine stX_P_below0 hc hw d_P_addInverse_55 (by omega) (fun H locs hw => ?_)
    exact w_vret hc hw (⟨rfl, by unfold pInv; simp [c6]⟩) d_P_addInverse_56
set_option maxHeartbeats 400000 in
set_option maxRecDepth 100000 in
theorem k_P_addInverse1 {l : Launch} {D : va_G} {ad : Nat → Nat} {ca : Nat → ClassId} (σ : St) (pp r : Int) (hp : 0 ≤ pp ∧ pp < 144) (hC : ∀ i, 0 ≤ σ 30 i ∧ σ 30 i ≤ 4) : Cw l D cl7 (tyX ca) (wX ad ca) y_P_addInverse c_P_addInverse 7 none 0 [.ref (ad 103), .int (zI 1), .int (zI pp), .long (zL r)] σ (VW (pInv 1 σ pp r = ·)) := by
  have hCp := hC pp
  refine Cw.enter (by decide) (Nat.le_of_ble_eq_true rfl) ?_
  intro A p e s m below meth c hc ls hl hw
  have hl : lv_has ls 7 [(0, .ref (ad 103)), (1, .int (zI 1)), (2, .int (zI pp)), (3, .long (zL r))] := hl
  obtain ⟨hx, hb, hml, hown, hTB, hK, hr, hlk⟩ := id hc
  refine lv_aload_n hx hb d_P_addInverse_0 rfl (lv_at hl 0 rfl) ?_
  refine gX_P_counts hc hw lk_P_11 d_P_addInverse_1 ?_
  refine lv_iload_n hx hb d_P_addInverse_4 rfl (lv_at hl 2 rfl) ?_
  refine ldX_P_counts hc hw d_P_addInverse_5 (by omega) ?_
  refine z_if_ne hx hb 13 d_P_addInverse_6 (by omega) (by decide) (fun c6 => ?_) (fun c6 => ?_)
  · refine lv_aload_n hx hb d_P_addInverse_13 rfl (lv_at hl 0 rfl) ?_
    refine gX_P_below hc hw lk_P_23 d_P_addInverse_14 ?_
    refine lv_iload_n hx hb d_P_addInverse_17 rfl (lv_at hl 1 rfl) ?_
    refine laX_P_below1 hc hw d_P_addInverse_18 ?_
    refine lv_iload_n hx hb d_P_addInverse_19 rfl (lv_at hl 2 rfl) ?_
    refine ldX_P_below1 hc hw d_P_addInverse_20 (by omega) ?_
    refine z_lst hx hb d_P_addInverse_21 hl (by decide) (fun x5_21 ex5_21 ls (hl : lv_has ls 7 [(5, .long (zL x5_21)), (0, .ref (ad 103)), (1, .int (zI 1)), (2, .int (zI pp)), (3, .long (zL r))]) => ?_)
    subst ex5_21
    refine lv_aload_n hx hb d_P_addInverse_23 rfl (lv_at hl 1 rfl) ?_
    refine gX_P_above hc hw lk_P_20 d_P_addInverse_24 ?_
    refine lv_iload_n hx hb d_P_addInverse_27 rfl (lv_at hl 2 rfl) ?_
    refine laX_P_above1 hc hw d_P_addInverse_28 ?_
    refine lv_iload_n hx hb d_P_addInverse_29 rfl (lv_at hl 3 rfl) ?_
    refine lv_aload_n hx hb d_P_addInverse_30 rfl (lv_at hl 1 rfl) ?_
    refine gX_P_above hc hw lk_P_20 d_P_addInverse_31 ?_
    refine lv_iload_n hx hb d_P_addInverse_34 rfl (lv_at hl 2 rfl) ?_
    refine laX_P_above1 hc hw d_P_addInverse_35 ?_
    refine lv_iload_n hx hb d_P_addInverse_36 rfl (lv_at hl 3 rfl) ?_
    refine ldX_P_above1 hc hw d_P_addInverse_37 (by omega) ?_
    refine lv_lload_n hx hb d_P_addInverse_38 rfl (lv_at hl 4 rfl) ?_
    refine z_lmul hx hb d_P_addInverse_39 ?_
    refine lv_lload hx hb d_P_addInverse_40 (lv_at hl 0 rfl) ?_
    refine z_ladd hx hb d_P_addInverse_42 ?_
    refine stX_P_above1 hc hw d_P_addInverse_43 (by omega) (fun H locs hw => ?_)
    refine lv_aload_n hx hb d_P_addInverse_44 rfl (lv_at hl 1 rfl) ?_
    refine gX_P_below hc hw lk_P_23 d_P_addInverse_45 ?_
    refine lv_iload_n hx hb d_P_addInverse_48 rfl (lv_at hl 2 rfl) ?_
    refine laX_P_below1 hc hw d_P_addInverse_49 ?_
    refine lv_iload_n hx hb d_P_addInverse_50 rfl (lv_at hl 3 rfl) ?_
    refine lv_lload hx hb d_P_addInverse_51 (lv_at hl 0 rfl) ?_
    refine lv_lload_n hx hb d_P_addInverse_53 rfl (lv_at hl 4 rfl) ?_
    refine z_lmul hx hb d_P_addInverse_54 ?_
    refine stX_P_below1 hc hw d_P_addInverse_55 (by omega) (fun H locs hw => ?_)
    exact w_vret hc hw (⟨rfl, by unfold pInv; simp [c6]⟩) d_P_addInverse_56
  · refine z_lc1 hx hb d_P_addInverse_9 ?_
    refine lv_goto (tgt := 21) hx hb d_P_addInverse_10 (by decide) ?_
    refine z_lst hx hb d_P_addInverse_21 hl (by decide) (fun x5_21 ex5_21 ls (hl : lv_has ls 7 [(5, .long (zL x5_21)), (0, .ref (ad 103)), (1, .int (zI 1)), (2, .int (zI pp)), (3, .long (zL r))]) => ?_)
    subst ex5_21
    refine lv_aload_n hx hb d_P_addInverse_23 rfl (lv_at hl 1 rfl) ?_
    refine gX_P_above hc hw lk_P_20 d_P_addInverse_24 ?_
    refine lv_iload_n hx hb d_P_addInverse_27 rfl (lv_at hl 2 rfl) ?_
    refine laX_P_above1 hc hw d_P_addInverse_28 ?_
    refine lv_iload_n hx hb d_P_addInverse_29 rfl (lv_at hl 3 rfl) ?_
    refine lv_aload_n hx hb d_P_addInverse_30 rfl (lv_at hl 1 rfl) ?_
    refine gX_P_above hc hw lk_P_20 d_P_addInverse_31 ?_
    refine lv_iload_n hx hb d_P_addInverse_34 rfl (lv_at hl 2 rfl) ?_
    refine laX_P_above1 hc hw d_P_addInverse_35 ?_
    refine lv_iload_n hx hb d_P_addInverse_36 rfl (lv_at hl 3 rfl) ?_
    refine ldX_P_above1 hc hw d_P_addInverse_37 (by omega) ?_
    refine lv_lload_n hx hb d_P_addInverse_38 rfl (lv_at hl 4 rfl) ?_
    refine z_lmul hx hb d_P_addInverse_39 ?_
    refine lv_lload hx hb d_P_addInverse_40 (lv_at hl 0 rfl) ?_
    refine z_ladd hx hb d_P_addInverse_42 ?_
    refine stX_P_above1 hc hw d_P_addInverse_43 (by omega) (fun H locs hw => ?_)
    refine lv_aload_n hx hb d_P_addInverse_44 rfl (lv_at hl 1 rfl) ?_
    refine gX_P_below hc hw lk_P_23 d_P_addInverse_45 ?_
    refine lv_iload_n hx hb d_P_addInverse_48 rfl (lv_at hl 2 rfl) ?_
    refine laX_P_below1 hc hw d_P_addInverse_49 ?_
    refine lv_iload_n hx hb d_P_addInverse_50 rfl (lv_at hl 3 rfl) ?_
    refine lv_lload hx hb d_P_addInverse_51 (lv_at hl 0 rfl) ?_
    refine lv_lload_n hx hb d_P_addInverse_53 rfl (lv_at hl 4 rfl) ?_
    refine z_lmul hx hb d_P_addInverse_54 ?_
    refine stX_P_below1 hc hw d_P_addInverse_55 (by omega) (fun H locs hw => ?_)
    exact w_vret hc hw (⟨rfl, by unfold pInv; simp [c6]⟩) d_P_addInverse_56
set_option maxHeartbeats 400000 in
set_option maxRecDepth 100000 in
theorem k_P_areBetween {l : Launch} {D : va_G} {ad : Nat → Nat} {ca : Nat → ClassId} (σ : St) (a b : Int) (ha : 0 ≤ a ∧ a < 12) (hb2 : 0 ≤ b ∧ b < 12) (hJ : ∀ i, 0 ≤ σ 31 i ∧ σ 31 i < 4096) : Cw l D cl7 (tyX ca) (wX ad ca) y_P_areBetween c_P_areBetween 3 (some .boolean) 1 [.ref (ad 103), .int (zI a), .int (zI b)] σ (RW (.int (zI (bI (zB (σ 31 a) b)))) (σ = ·)) := by
  refine Cw.enter (by decide) (Nat.le_of_ble_eq_true rfl) ?_
  intro A p e s m below meth c hc ls hl hw
  have hl : lv_has ls 3 [(0, .ref (ad 103)), (1, .int (zI a)), (2, .int (zI b))] := hl
  obtain ⟨hx, hb, hml, hown, hTB, hK, hr, hlk⟩ := id hc
  refine lv_aload_n hx hb d_P_areBetween_0 rfl (lv_at hl 0 rfl) ?_
  refine gX_P_joined hc hw lk_P_15 d_P_areBetween_1 ?_
  refine lv_iload_n hx hb d_P_areBetween_4 rfl (lv_at hl 1 rfl) ?_
  refine ldX_P_joined hc hw d_P_areBetween_5 (by omega) ?_
  refine lv_iload_n hx hb d_P_areBetween_6 rfl (lv_at hl 2 rfl) ?_
  refine w_csNR hc hw (k_X_hasBit _ _ _ (by have := hJ a; omega) (by omega)) yw_X_hasBit yi_X_hasBit lk_P_34 d_P_areBetween_7 rfl rfl hl.1 (Nat.le_of_ble_eq_true rfl) ⟨Nat.le_of_ble_eq_true rfl, Nat.le_of_ble_eq_true rfl⟩ ⟨Nat.zero_le _, Nat.zero_le _⟩ (fun τ7 H locs hτ7 hw => ?_)
  subst hτ7
  exact w_zret hc hw (bI_01 _) (⟨rfl, rfl⟩) d_P_areBetween_10
set_option maxHeartbeats 400000 in
set_option maxRecDepth 100000 in
theorem k_P_joinedToBoth {l : Launch} {D : va_G} {ad : Nat → Nat} {ca : Nat → ClassId} (σ : St) (a b : Int) (ha : 0 ≤ a ∧ a < 12) (hb2 : 0 ≤ b ∧ b < 12) (hJ : ∀ i, 0 ≤ σ 31 i ∧ σ 31 i < 4096) : Cw l D cl7 (tyX ca) (wX ad ca) y_P_joinedToBoth c_P_joinedToBoth 3 (some .int) 0 [.ref (ad 103), .int (zI a), .int (zI b)] σ (RW (.int (zI (zAnd (σ 31 a) (σ 31 b)))) (σ = ·)) := by
  refine Cw.enter (by decide) (Nat.le_of_ble_eq_true rfl) ?_
  intro A p e s m below meth c hc ls hl hw
  have hl : lv_has ls 3 [(0, .ref (ad 103)), (1, .int (zI a)), (2, .int (zI b))] := hl
  obtain ⟨hx, hb, hml, hown, hTB, hK, hr, hlk⟩ := id hc
  refine lv_aload_n hx hb d_P_joinedToBoth_0 rfl (lv_at hl 0 rfl) ?_
  refine gX_P_joined hc hw lk_P_15 d_P_joinedToBoth_1 ?_
  refine lv_iload_n hx hb d_P_joinedToBoth_4 rfl (lv_at hl 1 rfl) ?_
  refine ldX_P_joined hc hw d_P_joinedToBoth_5 (by omega) ?_
  refine lv_aload_n hx hb d_P_joinedToBoth_6 rfl (lv_at hl 0 rfl) ?_
  refine gX_P_joined hc hw lk_P_15 d_P_joinedToBoth_7 ?_
  refine lv_iload_n hx hb d_P_joinedToBoth_10 rfl (lv_at hl 2 rfl) ?_
  refine ldX_P_joined hc hw d_P_joinedToBoth_11 (by omega) ?_
  refine z_iand hx hb d_P_joinedToBoth_12 (⟨(hJ a).1, (hJ b).1⟩) ?_
  exact w_iret hc hw (⟨rfl, rfl⟩) d_P_joinedToBoth_13
set_option maxHeartbeats 400000 in
set_option maxRecDepth 100000 in
theorem k_P_commonDivisor {l : Launch} {D : va_G} {ad : Nat → Nat} {ca : Nat → ClassId} (σ : St) (a b : Int) (ha : 0 ≤ a ∧ a < 4611686018427387904) (hb2 : 0 ≤ b ∧ b < 4611686018427387904) : Cw l D cl7 (tyX ca) (wX ad ca) y_P_commonDivisor c_P_commonDivisor 11 (some .long) 0 [.long (zL a), .long (zL b)] σ (RW (.long (zL (gcdF 200 a b))) (σ = ·)) := by
  generalize hN0 : gcdF 200 a b = N0
  refine Cw.enter (by decide) (Nat.le_of_ble_eq_true rfl) ?_
  intro A p e s m below meth c hc ls hl hw
  have hl : lv_has ls 11 [(0, .long (zL a)), (2, .long (zL b))] := hl
  obtain ⟨hx, hb, hml, hown, hTB, hK, hr, hlk⟩ := id hc
  refine lv_lload_n hx hb d_P_commonDivisor_0 rfl (lv_at hl 0 rfl) ?_
  refine z_lst hx hb d_P_commonDivisor_1 hl (by decide) (fun x4_1 ex4_1 ls (hl : lv_has ls 11 [(4, .long (zL x4_1)), (0, .long (zL a)), (2, .long (zL b))]) => ?_)
  refine lv_lload_n hx hb d_P_commonDivisor_3 rfl (lv_at hl 2 rfl) ?_
  refine z_lst hx hb d_P_commonDivisor_4 hl (by decide) (fun x6_4 ex6_4 ls (hl : lv_has ls 11 [(6, .long (zL x6_4)), (4, .long (zL x4_1)), (0, .long (zL a)), (2, .long (zL b))]) => ?_)
  refine z_ic hx hb d_P_commonDivisor_6 ?_
  refine z_ist hx hb d_P_commonDivisor_7 hl (by decide) (fun x8_7 ex8_7 ls (hl : lv_has ls 11 [(8, .int (zI x8_7)), (6, .long (zL x6_4)), (4, .long (zL x4_1)), (0, .long (zL a)), (2, .long (zL b))]) => ?_)
  have L9 : ∀ (n : Nat) (i : Int) (g : Int) (t : Int) (H : Heap) (locs : List Loc), (0 ≤ i ∧ i ≤ 200) → (0 ≤ g ∧ g < 4611686018427387904) → (0 ≤ t ∧ t < 4611686018427387904) → (N0 = gcdF (200 - i).toNat g t) → (200 - i).toNat < n → Wd D cl7 (wX ad ca) A s.heap σ H locs → ∀ ls : Array Slot, lv_has ls 11 [(8, .int (zI i)), (4, .long (zL g)), (6, .long (zL t)), (0, .long (zL a)), (2, .long (zL b))] → W p l e (Rmh 0) s m ([.long (zL a), .long (zL b)] : List Value).toArray below meth c H locs 0 0 (MQ below (Qw D cl7 (wX ad ca) A (RW (.long (zL N0)) (σ = ·))) ([.long (zL a), .long (zL b)] : List Value).toArray s 0 0 A) (F0 m 9 ls []) := by
    intro n
    induction n with
    | zero => intro i g t  H locs hi hg ht hN hm; exact absurd hm (Nat.not_lt_zero _)
    | succ n ih9 =>
      intro i g t  H locs hi hg ht hN hm9 hw ls hl
      refine lv_iload hx hb d_P_commonDivisor_9 (lv_at hl 0 rfl) ?_
      refine z_si hx hb d_P_commonDivisor_11 (by decide) ?_
      refine z_icmp_ge hx hb 45 d_P_commonDivisor_14 (by omega) (by omega) (by decide) (fun c14 => ?_) (fun c14 => ?_)
      · refine lv_lload hx hb d_P_commonDivisor_45 (lv_at hl 1 rfl) ?_
        exact w_lret hc hw (⟨by rw [hN]; first | (rw [if_pos c20]) | (rw [show (200 - i).toNat = 0 by omega]; rfl), rfl⟩) d_P_commonDivisor_47
      · have q : (200 - i).toNat = (200 - (i + 1)).toNat + 1 := by omega
        rw [q, gcdF_s] at hN
        refine lv_lload hx hb d_P_commonDivisor_17 (lv_at hl 2 rfl) ?_
        refine z_lc0 hx hb d_P_commonDivisor_19 ?_
        refine z_lcmp_eq hx hb 45 d_P_commonDivisor_20 d_P_commonDivisor_21 (by omega) (by omega) (by decide) (fun c20 => ?_) (fun c20 => ?_)
        · refine lv_lload hx hb d_P_commonDivisor_45 (lv_at hl 1 rfl) ?_
          exact w_lret hc hw (⟨by rw [hN]; first | (rw [if_pos c20]) | (rw [show (200 - i).toNat = 0 by omega]; rfl), rfl⟩) d_P_commonDivisor_47
        · refine lv_lload hx hb d_P_commonDivisor_24 (lv_at hl 1 rfl) ?_
          refine lv_lload hx hb d_P_commonDivisor_26 (lv_at hl 2 rfl) ?_
          refine z_lrem hx hb d_P_commonDivisor_28 (by omega) ?_
          refine z_lst hx hb d_P_commonDivisor_29 hl (by decide) (fun x9_29 ex9_29 ls (hl : lv_has ls 11 [(9, .long (zL x9_29)), (8, .int (zI i)), (4, .long (zL g)), (6, .long (zL t)), (0, .long (zL a)), (2, .long (zL b))]) => ?_)
          refine lv_lload hx hb d_P_commonDivisor_31 (lv_at hl 3 rfl) ?_
          refine z_lst hx hb d_P_commonDivisor_33 hl (by decide) (fun x4_33 ex4_33 ls (hl : lv_has ls 11 [(4, .long (zL x4_33)), (9, .long (zL x9_29)), (8, .int (zI i)), (6, .long (zL t)), (0, .long (zL a)), (2, .long (zL b))]) => ?_)
          refine lv_lload hx hb d_P_commonDivisor_35 (lv_at hl 1 rfl) ?_
          refine z_lst hx hb d_P_commonDivisor_37 hl (by decide) (fun x6_37 ex6_37 ls (hl : lv_has ls 11 [(6, .long (zL x6_37)), (4, .long (zL x4_33)), (9, .long (zL x9_29)), (8, .int (zI i)), (0, .long (zL a)), (2, .long (zL b))]) => ?_)
          refine z_iinc (k := 3) hx hb d_P_commonDivisor_39 hl rfl (by decide) (fun x8_39 ex8_39 ls (hl : lv_has ls 11 [(8, .int (zI x8_39)), (6, .long (zL x6_37)), (4, .long (zL x4_33)), (9, .long (zL x9_29)), (0, .long (zL a)), (2, .long (zL b))]) => ?_)
          refine lv_goto (tgt := 9) hx hb d_P_commonDivisor_42 (by decide) ?_
          exact ih9 x8_39 x4_33 x6_37 _ _ (by omega) (by omega) (by rw [ex6_37, ex9_29]; exact ⟨Int.emod_nonneg _ c20, by have := Int.emod_lt_of_pos g (show 0 < t by omega); omega⟩) (by rw [hN, show (200 - x8_39).toNat = (200 - (i + 1)).toNat from (by omega), if_neg c20, ex4_33, ex6_37, ex9_29]) (by omega) hw ls (lv_sub hl [0, 2, 1, 4, 5] rfl)
  exact L9 _ x8_7 x4_1 x6_4 _ _ (by omega) (by omega) (by omega) (by rw [ex8_7, ex4_1, ex6_4, show ((200 : Int) - 0).toNat = 200 from (by decide)]; exact hN0.symm) (Nat.lt_succ_self _) hw ls (lv_sub hl [0, 2, 1, 3, 4] rfl)
set_option maxHeartbeats 400000 in
set_option maxRecDepth 100000 in
theorem k_P_add {l : Launch} {D : va_G} {ad : Nat → Nat} {ca : Nat → ClassId} (σ : St) (a b lo hi : Int) (ha : 0 ≤ a ∧ a < 12) (hb2 : 0 ≤ b ∧ b < 12) (hC : ∀ i, 0 ≤ σ 30 i ∧ σ 30 i ≤ 4) (hJ : ∀ i, 0 ≤ σ 31 i ∧ σ 31 i < 4096) : Cw l D cl7 (tyX ca) (wX ad ca) y_P_add c_P_add 8 (some .boolean) 2 [.ref (ad 103), .int (zI a), .int (zI b), .long (zL lo), .long (zL hi)] σ (RW (.int (zI (bI (σ 30 (prOf a b) < 4)))) (pAdd σ a b lo hi = ·)) := by
  have hpr : 0 ≤ prOf a b ∧ prOf a b < 144 := by unfold prOf; omega
  have hCp := hC (prOf a b)
  have hJa := hJ a
  have hJb := hJ b
  have hpa := p2_bd (k := 12) ha
  have hpb := p2_bd (k := 12) hb2
  refine Cw.enter (by decide) (Nat.le_of_ble_eq_true rfl) ?_
  intro A p e s m below meth c hc ls hl hw
  have hl : lv_has ls 8 [(0, .ref (ad 103)), (1, .int (zI a)), (2, .int (zI b)), (3, .long (zL lo)), (5, .long (zL hi))] := hl
  obtain ⟨hx, hb, hml, hown, hTB, hK, hr, hlk⟩ := id hc
  refine lv_iload_n hx hb d_P_add_0 rfl (lv_at hl 1 rfl) ?_
  refine lv_iload_n hx hb d_P_add_1 rfl (lv_at hl 2 rfl) ?_
  refine w_csR hc hw (k_P_pairOf _ _ _ ha hb2) yw_P_pairOf yi_P_pairOf lk_P_26 d_P_add_2 rfl rfl hl.1 (Nat.le_of_ble_eq_true rfl) ⟨Nat.le_of_ble_eq_true rfl, Nat.le_of_ble_eq_true rfl⟩ ⟨Nat.zero_le _, Nat.zero_le _⟩ (fun τ2 H locs hτ2 hw => ?_)
  subst hτ2
  refine z_ist hx hb d_P_add_5 hl (by decide) (fun x7_5 ex7_5 ls (hl : lv_has ls 8 [(7, .int (zI x7_5)), (0, .ref (ad 103)), (1, .int (zI a)), (2, .int (zI b)), (3, .long (zL lo)), (5, .long (zL hi))]) => ?_)
  subst ex7_5
  refine lv_aload_n hx hb d_P_add_7 rfl (lv_at hl 1 rfl) ?_
  refine gX_P_counts hc hw lk_P_11 d_P_add_8 ?_
  refine lv_iload hx hb d_P_add_11 (lv_at hl 0 rfl) ?_
  refine ldX_P_counts hc hw d_P_add_13 (by omega) ?_
  refine z_ic hx hb d_P_add_14 ?_
  refine z_icmp_lt hx hb 20 d_P_add_15 (by omega) (by omega) (by decide) (fun c15 => ?_) (fun c15 => ?_)
  · refine lv_aload_n hx hb d_P_add_20 rfl (lv_at hl 1 rfl) ?_
    refine z_ic hx hb d_P_add_21 ?_
    refine lv_iload hx hb d_P_add_22 (lv_at hl 0 rfl) ?_
    refine lv_lload_n hx hb d_P_add_24 rfl (lv_at hl 4 rfl) ?_
    refine w_cvV (q0 := 3) hc hw (k_P_addInverse0 _ _ _ hpr hC) yw_P_addInverse yi_P_addInverse lk_P_30 d_P_add_25 rfl rfl rfl rfl hl.1 (Nat.le_of_ble_eq_true rfl) ⟨Nat.le_of_ble_eq_true rfl, Nat.le_of_ble_eq_true rfl⟩ ⟨Nat.zero_le _, Nat.zero_le _⟩ (fun τ25 H locs hτ25 hw => ?_)
    subst hτ25
    refine lv_aload_n hx hb d_P_add_28 rfl (lv_at hl 1 rfl) ?_
    refine z_ic hx hb d_P_add_29 ?_
    refine lv_iload hx hb d_P_add_30 (lv_at hl 0 rfl) ?_
    refine lv_lload hx hb d_P_add_32 (lv_at hl 5 rfl) ?_
    refine w_cvV (q0 := 3) hc hw (k_P_addInverse1 _ _ _ hpr hC) yw_P_addInverse yi_P_addInverse lk_P_30 d_P_add_34 rfl rfl rfl rfl hl.1 (Nat.le_of_ble_eq_true rfl) ⟨Nat.le_of_ble_eq_true rfl, Nat.le_of_ble_eq_true rfl⟩ ⟨Nat.zero_le _, Nat.zero_le _⟩ (fun τ34 H locs hτ34 hw => ?_)
    subst hτ34
    refine lv_aload_n hx hb d_P_add_37 rfl (lv_at hl 1 rfl) ?_
    refine gX_P_counts hc hw lk_P_11 d_P_add_38 ?_
    refine lv_iload hx hb d_P_add_41 (lv_at hl 0 rfl) ?_
    refine lv_dup2_11 hx hb d_P_add_43 rfl rfl ?_
    refine ldX_P_counts hc hw d_P_add_44 (by omega) ?_
    refine z_ic hx hb d_P_add_45 ?_
    refine z_iadd hx hb d_P_add_46 ?_
    refine stX_P_counts hc hw d_P_add_47 (by omega) (fun H locs hw => ?_)
    refine lv_aload_n hx hb d_P_add_48 rfl (lv_at hl 1 rfl) ?_
    refine gX_P_joined hc hw lk_P_15 d_P_add_49 ?_
    refine lv_iload_n hx hb d_P_add_52 rfl (lv_at hl 2 rfl) ?_
    refine lv_dup2_11 hx hb d_P_add_53 rfl rfl ?_
    refine ldX_P_joined hc hw d_P_add_54 (by omega) ?_
    refine z_ic hx hb d_P_add_55 ?_
    refine lv_iload_n hx hb d_P_add_56 rfl (lv_at hl 3 rfl) ?_
    refine z_shl1 hx hb d_P_add_57 (by omega) ?_
    refine z_ior hx hb d_P_add_58 (⟨hJa.1, hpb.1⟩) ?_
    refine stX_P_joined hc hw d_P_add_59 (by omega) (fun H locs hw => ?_)
    refine lv_aload_n hx hb d_P_add_60 rfl (lv_at hl 1 rfl) ?_
    refine gX_P_joined hc hw lk_P_15 d_P_add_61 ?_
    refine lv_iload_n hx hb d_P_add_64 rfl (lv_at hl 3 rfl) ?_
    refine lv_dup2_11 hx hb d_P_add_65 rfl rfl ?_
    refine ldX_P_joined hc hw d_P_add_66 (by omega) ?_
    refine z_ic hx hb d_P_add_67 ?_
    refine lv_iload_n hx hb d_P_add_68 rfl (lv_at hl 2 rfl) ?_
    refine z_shl1 hx hb d_P_add_69 (by omega) ?_
    refine z_ior hx hb d_P_add_70 (⟨by show 0 ≤ up (pCnt (pInv 1 (pInv 0 σ (prOf a b) lo) (prOf a b) hi) (prOf a b)) 31 a (zOr (σ 31 a) ((2 ^ b.toNat : Nat) : Int)) 31 b; unfold up; split; exact (zOr_bd (k := 12) hJa hpb).1; exact hJb.1, hpa.1⟩) ?_
    refine stX_P_joined hc hw d_P_add_71 (by omega) (fun H locs hw => ?_)
    refine z_ic hx hb d_P_add_72 ?_
    exact w_zret hc hw (by omega) (⟨by rw [bI_t (by omega)], by unfold pAdd; rw [if_neg (by omega)]; rfl⟩) d_P_add_73
  · refine z_ic hx hb d_P_add_18 ?_
    exact w_zret hc hw (by omega) (⟨by rw [bI_f (by omega)], by unfold pAdd; rw [if_pos (by omega)]⟩) d_P_add_19
set_option maxHeartbeats 400000 in
set_option maxRecDepth 100000 in
theorem k_P_termOfSpan00 {l : Launch} {D : va_G} {ad : Nat → Nat} {ca : Nat → ClassId} (σ : St) (a b : Int) (ha : 0 ≤ a ∧ a < 12) (hb2 : 0 ≤ b ∧ b < 12) (h1 : 0 ≤ σ 34 (prOf a b) ∧ σ 34 (prOf a b) < 4611686018427387904) (h2 : 0 ≤ σ 32 (prOf a b) ∧ σ 32 (prOf a b) < 4611686018427387904) : Cw l D cl7 (tyX ca) (wX ad ca) y_P_termOfSpan c_P_termOfSpan 12 (some .long) 2 [.ref (ad 103), .int (zI a), .int (zI b), .int (zI 0), .int (zI 0)] σ (RW (.long (zL (σ 34 (prOf a b) / max 1 (gcdF 200 (σ 34 (prOf a b)) (σ 32 (prOf a b)))))) (σ = ·)) := by
  have hpr : 0 ≤ prOf a b ∧ prOf a b < 144 := by unfold prOf; omega
  have hg := gcdF_bd 200 _ _ h1.1 h2.1 h1.2 h2.2
  refine Cw.enter (by decide) (Nat.le_of_ble_eq_true rfl) ?_
  intro A p e s m below meth c hc ls hl hw
  have hl : lv_has ls 12 [(0, .ref (ad 103)), (1, .int (zI a)), (2, .int (zI b)), (3, .int (zI 0)), (4, .int (zI 0))] := hl
  obtain ⟨hx, hb, hml, hown, hTB, hK, hr, hlk⟩ := id hc
  refine lv_iload_n hx hb d_P_termOfSpan_0 rfl (lv_at hl 1 rfl) ?_
  refine lv_iload_n hx hb d_P_termOfSpan_1 rfl (lv_at hl 2 rfl) ?_
  refine w_csR hc hw (k_P_pairOf _ _ _ ha hb2) yw_P_pairOf yi_P_pairOf lk_P_26 d_P_termOfSpan_2 rfl rfl hl.1 (Nat.le_of_ble_eq_true rfl) ⟨Nat.le_of_ble_eq_true rfl, Nat.le_of_ble_eq_true rfl⟩ ⟨Nat.zero_le _, Nat.zero_le _⟩ (fun τ2 H locs hτ2 hw => ?_)
  subst hτ2
  refine z_ist hx hb d_P_termOfSpan_5 hl (by decide) (fun x5_5 ex5_5 ls (hl : lv_has ls 12 [(5, .int (zI x5_5)), (0, .ref (ad 103)), (1, .int (zI a)), (2, .int (zI b)), (3, .int (zI 0)), (4, .int (zI 0))]) => ?_)
  subst ex5_5
  refine lv_aload_n hx hb d_P_termOfSpan_7 rfl (lv_at hl 1 rfl) ?_
  refine gX_P_below hc hw lk_P_23 d_P_termOfSpan_8 ?_
  refine lv_iload_n hx hb d_P_termOfSpan_11 rfl (lv_at hl 4 rfl) ?_
  refine laX_P_below0 hc hw d_P_termOfSpan_12 ?_
  refine lv_iload hx hb d_P_termOfSpan_13 (lv_at hl 0 rfl) ?_
  refine ldX_P_below0 hc hw d_P_termOfSpan_15 (by omega) ?_
  refine z_lst hx hb d_P_termOfSpan_16 hl (by decide) (fun x6_16 ex6_16 ls (hl : lv_has ls 12 [(6, .long (zL x6_16)), (5, .int (zI (prOf a b))), (0, .ref (ad 103)), (1, .int (zI a)), (2, .int (zI b)), (3, .int (zI 0)), (4, .int (zI 0))]) => ?_)
  subst ex6_16
  refine lv_aload_n hx hb d_P_termOfSpan_18 rfl (lv_at hl 2 rfl) ?_
  refine gX_P_above hc hw lk_P_20 d_P_termOfSpan_19 ?_
  refine lv_iload_n hx hb d_P_termOfSpan_22 rfl (lv_at hl 5 rfl) ?_
  refine laX_P_above0 hc hw d_P_termOfSpan_23 ?_
  refine lv_iload hx hb d_P_termOfSpan_24 (lv_at hl 1 rfl) ?_
  refine ldX_P_above0 hc hw d_P_termOfSpan_26 (by omega) ?_
  refine z_lst hx hb d_P_termOfSpan_27 hl (by decide) (fun x8_27 ex8_27 ls (hl : lv_has ls 12 [(8, .long (zL x8_27)), (6, .long (zL (σ 34 (prOf a b)))), (5, .int (zI (prOf a b))), (0, .ref (ad 103)), (1, .int (zI a)), (2, .int (zI b)), (3, .int (zI 0)), (4, .int (zI 0))]) => ?_)
  subst ex8_27
  refine z_lc1 hx hb d_P_termOfSpan_29 ?_
  refine lv_lload hx hb d_P_termOfSpan_30 (lv_at hl 1 rfl) ?_
  refine lv_lload hx hb d_P_termOfSpan_32 (lv_at hl 0 rfl) ?_
  refine w_csR hc hw (k_P_commonDivisor _ _ _ h1 h2) yw_P_commonDivisor yi_P_commonDivisor lk_P_38 d_P_termOfSpan_34 rfl rfl hl.1 (Nat.le_of_ble_eq_true rfl) ⟨Nat.le_of_ble_eq_true rfl, Nat.le_of_ble_eq_true rfl⟩ ⟨Nat.zero_le _, Nat.zero_le _⟩ (fun τ34 H locs hτ34 hw => ?_)
  subst hτ34
  refine w_csR hc hw (k_JM_maxL _ _ _ (by omega) (by omega)) yw_JM_maxL yi_JM_maxL lk_P_42 d_P_termOfSpan_37 rfl rfl hl.1 (Nat.le_of_ble_eq_true rfl) ⟨Nat.le_of_ble_eq_true rfl, Nat.le_of_ble_eq_true rfl⟩ ⟨Nat.zero_le _, Nat.zero_le _⟩ (fun τ37 H locs hτ37 hw => ?_)
  subst hτ37
  refine z_lst hx hb d_P_termOfSpan_40 hl (by decide) (fun x10_40 ex10_40 ls (hl : lv_has ls 12 [(10, .long (zL x10_40)), (8, .long (zL (σ 32 (prOf a b)))), (6, .long (zL (σ 34 (prOf a b)))), (5, .int (zI (prOf a b))), (0, .ref (ad 103)), (1, .int (zI a)), (2, .int (zI b)), (3, .int (zI 0)), (4, .int (zI 0))]) => ?_)
  subst ex10_40
  refine lv_iload hx hb d_P_termOfSpan_42 (lv_at hl 8 rfl) ?_
  refine z_if_ne hx hb 52 d_P_termOfSpan_44 (by omega) (by decide) (fun c44 => ?_) (fun c44 => ?_)
  · exact absurd c44 (by decide)
  · refine lv_lload hx hb d_P_termOfSpan_47 (lv_at hl 2 rfl) ?_
    refine lv_goto (tgt := 54) hx hb d_P_termOfSpan_49 (by decide) ?_
    refine lv_lload hx hb d_P_termOfSpan_54 (lv_at hl 0 rfl) ?_
    refine z_ldiv hx hb d_P_termOfSpan_56 (by omega) ?_
    exact w_lret hc hw (⟨rfl, rfl⟩) d_P_termOfSpan_57
set_option maxHeartbeats 400000 in
set_option maxRecDepth 100000 in
theorem k_P_termOfSpan01 {l : Launch} {D : va_G} {ad : Nat → Nat} {ca : Nat → ClassId} (σ : St) (a b : Int) (ha : 0 ≤ a ∧ a < 12) (hb2 : 0 ≤ b ∧ b < 12) (h1 : 0 ≤ σ 34 (prOf a b) ∧ σ 34 (prOf a b) < 4611686018427387904) (h2 : 0 ≤ σ 32 (prOf a b) ∧ σ 32 (prOf a b) < 4611686018427387904) : Cw l D cl7 (tyX ca) (wX ad ca) y_P_termOfSpan c_P_termOfSpan 12 (some .long) 2 [.ref (ad 103), .int (zI a), .int (zI b), .int (zI 0), .int (zI 1)] σ (RW (.long (zL (σ 32 (prOf a b) / max 1 (gcdF 200 (σ 34 (prOf a b)) (σ 32 (prOf a b)))))) (σ = ·)) := by
  have hpr : 0 ≤ prOf a b ∧ prOf a b < 144 := by unfold prOf; omega
  have hg := gcdF_bd 200 _ _ h1.1 h2.1 h1.2 h2.2
  refine Cw.enter (by decide) (Nat.le_of_ble_eq_true rfl) ?_
  intro A p e s m below meth c hc ls hl hw
  have hl : lv_has ls 12 [(0, .ref (ad 103)), (1, .int (zI a)), (2, .int (zI b)), (3, .int (zI 0)), (4, .int (zI 1))] := hl
  obtain ⟨hx, hb, hml, hown, hTB, hK, hr, hlk⟩ := id hc
  refine lv_iload_n hx hb d_P_termOfSpan_0 rfl (lv_at hl 1 rfl) ?_
  refine lv_iload_n hx hb d_P_termOfSpan_1 rfl (lv_at hl 2 rfl) ?_
  refine w_csR hc hw (k_P_pairOf _ _ _ ha hb2) yw_P_pairOf yi_P_pairOf lk_P_26 d_P_termOfSpan_2 rfl rfl hl.1 (Nat.le_of_ble_eq_true rfl) ⟨Nat.le_of_ble_eq_true rfl, Nat.le_of_ble_eq_true rfl⟩ ⟨Nat.zero_le _, Nat.zero_le _⟩ (fun τ2 H locs hτ2 hw => ?_)
  subst hτ2
  refine z_ist hx hb d_P_termOfSpan_5 hl (by decide) (fun x5_5 ex5_5 ls (hl : lv_has ls 12 [(5, .int (zI x5_5)), (0, .ref (ad 103)), (1, .int (zI a)), (2, .int (zI b)), (3, .int (zI 0)), (4, .int (zI 1))]) => ?_)
  subst ex5_5
  refine lv_aload_n hx hb d_P_termOfSpan_7 rfl (lv_at hl 1 rfl) ?_
  refine gX_P_below hc hw lk_P_23 d_P_termOfSpan_8 ?_
  refine lv_iload_n hx hb d_P_termOfSpan_11 rfl (lv_at hl 4 rfl) ?_
  refine laX_P_below0 hc hw d_P_termOfSpan_12 ?_
  refine lv_iload hx hb d_P_termOfSpan_13 (lv_at hl 0 rfl) ?_
  refine ldX_P_below0 hc hw d_P_termOfSpan_15 (by omega) ?_
  refine z_lst hx hb d_P_termOfSpan_16 hl (by decide) (fun x6_16 ex6_16 ls (hl : lv_has ls 12 [(6, .long (zL x6_16)), (5, .int (zI (prOf a b))), (0, .ref (ad 103)), (1, .int (zI a)), (2, .int (zI b)), (3, .int (zI 0)), (4, .int (zI 1))]) => ?_)
  subst ex6_16
  refine lv_aload_n hx hb d_P_termOfSpan_18 rfl (lv_at hl 2 rfl) ?_
  refine gX_P_above hc hw lk_P_20 d_P_termOfSpan_19 ?_
  refine lv_iload_n hx hb d_P_termOfSpan_22 rfl (lv_at hl 5 rfl) ?_
  refine laX_P_above0 hc hw d_P_termOfSpan_23 ?_
  refine lv_iload hx hb d_P_termOfSpan_24 (lv_at hl 1 rfl) ?_
  refine ldX_P_above0 hc hw d_P_termOfSpan_26 (by omega) ?_
  refine z_lst hx hb d_P_termOfSpan_27 hl (by decide) (fun x8_27 ex8_27 ls (hl : lv_has ls 12 [(8, .long (zL x8_27)), (6, .long (zL (σ 34 (prOf a b)))), (5, .int (zI (prOf a b))), (0, .ref (ad 103)), (1, .int (zI a)), (2, .int (zI b)), (3, .int (zI 0)), (4, .int (zI 1))]) => ?_)
  subst ex8_27
  refine z_lc1 hx hb d_P_termOfSpan_29 ?_
  refine lv_lload hx hb d_P_termOfSpan_30 (lv_at hl 1 rfl) ?_
  refine lv_lload hx hb d_P_termOfSpan_32 (lv_at hl 0 rfl) ?_
  refine w_csR hc hw (k_P_commonDivisor _ _ _ h1 h2) yw_P_commonDivisor yi_P_commonDivisor lk_P_38 d_P_termOfSpan_34 rfl rfl hl.1 (Nat.le_of_ble_eq_true rfl) ⟨Nat.le_of_ble_eq_true rfl, Nat.le_of_ble_eq_true rfl⟩ ⟨Nat.zero_le _, Nat.zero_le _⟩ (fun τ34 H locs hτ34 hw => ?_)
  subst hτ34
  refine w_csR hc hw (k_JM_maxL _ _ _ (by omega) (by omega)) yw_JM_maxL yi_JM_maxL lk_P_42 d_P_termOfSpan_37 rfl rfl hl.1 (Nat.le_of_ble_eq_true rfl) ⟨Nat.le_of_ble_eq_true rfl, Nat.le_of_ble_eq_true rfl⟩ ⟨Nat.zero_le _, Nat.zero_le _⟩ (fun τ37 H locs hτ37 hw => ?_)
  subst hτ37
  refine z_lst hx hb d_P_termOfSpan_40 hl (by decide) (fun x10_40 ex10_40 ls (hl : lv_has ls 12 [(10, .long (zL x10_40)), (8, .long (zL (σ 32 (prOf a b)))), (6, .long (zL (σ 34 (prOf a b)))), (5, .int (zI (prOf a b))), (0, .ref (ad 103)), (1, .int (zI a)), (2, .int (zI b)), (3, .int (zI 0)), (4, .int (zI 1))]) => ?_)
  subst ex10_40
  refine lv_iload hx hb d_P_termOfSpan_42 (lv_at hl 8 rfl) ?_
  refine z_if_ne hx hb 52 d_P_termOfSpan_44 (by omega) (by decide) (fun c44 => ?_) (fun c44 => ?_)
  · refine lv_lload hx hb d_P_termOfSpan_52 (lv_at hl 1 rfl) ?_
    refine lv_lload hx hb d_P_termOfSpan_54 (lv_at hl 0 rfl) ?_
    refine z_ldiv hx hb d_P_termOfSpan_56 (by omega) ?_
    exact w_lret hc hw (⟨rfl, rfl⟩) d_P_termOfSpan_57
  · exact absurd c44 (by decide)
set_option maxHeartbeats 400000 in
set_option maxRecDepth 100000 in
theorem k_P_termOfSpan10 {l : Launch} {D : va_G} {ad : Nat → Nat} {ca : Nat → ClassId} (σ : St) (a b : Int) (ha : 0 ≤ a ∧ a < 12) (hb2 : 0 ≤ b ∧ b < 12) (h1 : 0 ≤ σ 35 (prOf a b) ∧ σ 35 (prOf a b) < 4611686018427387904) (h2 : 0 ≤ σ 33 (prOf a b) ∧ σ 33 (prOf a b) < 4611686018427387904) : Cw l D cl7 (tyX ca) (wX ad ca) y_P_termOfSpan c_P_termOfSpan 12 (some .long) 2 [.ref (ad 103), .int (zI a), .int (zI b), .int (zI 1), .int (zI 0)] σ (RW (.long (zL (σ 35 (prOf a b) / max 1 (gcdF 200 (σ 35 (prOf a b)) (σ 33 (prOf a b)))))) (σ = ·)) := by
  have hpr : 0 ≤ prOf a b ∧ prOf a b < 144 := by unfold prOf; omega
  have hg := gcdF_bd 200 _ _ h1.1 h2.1 h1.2 h2.2
  refine Cw.enter (by decide) (Nat.le_of_ble_eq_true rfl) ?_
  intro A p e s m below meth c hc ls hl hw
  have hl : lv_has ls 12 [(0, .ref (ad 103)), (1, .int (zI a)), (2, .int (zI b)), (3, .int (zI 1)), (4, .int (zI 0))] := hl
  obtain ⟨hx, hb, hml, hown, hTB, hK, hr, hlk⟩ := id hc
  refine lv_iload_n hx hb d_P_termOfSpan_0 rfl (lv_at hl 1 rfl) ?_
  refine lv_iload_n hx hb d_P_termOfSpan_1 rfl (lv_at hl 2 rfl) ?_
  refine w_csR hc hw (k_P_pairOf _ _ _ ha hb2) yw_P_pairOf yi_P_pairOf lk_P_26 d_P_termOfSpan_2 rfl rfl hl.1 (Nat.le_of_ble_eq_true rfl) ⟨Nat.le_of_ble_eq_true rfl, Nat.le_of_ble_eq_true rfl⟩ ⟨Nat.zero_le _, Nat.zero_le _⟩ (fun τ2 H locs hτ2 hw => ?_)
  subst hτ2
  refine z_ist hx hb d_P_termOfSpan_5 hl (by decide) (fun x5_5 ex5_5 ls (hl : lv_has ls 12 [(5, .int (zI x5_5)), (0, .ref (ad 103)), (1, .int (zI a)), (2, .int (zI b)), (3, .int (zI 1)), (4, .int (zI 0))]) => ?_)
  subst ex5_5
  refine lv_aload_n hx hb d_P_termOfSpan_7 rfl (lv_at hl 1 rfl) ?_
  refine gX_P_below hc hw lk_P_23 d_P_termOfSpan_8 ?_
  refine lv_iload_n hx hb d_P_termOfSpan_11 rfl (lv_at hl 4 rfl) ?_
  refine laX_P_below1 hc hw d_P_termOfSpan_12 ?_
  refine lv_iload hx hb d_P_termOfSpan_13 (lv_at hl 0 rfl) ?_
  refine ldX_P_below1 hc hw d_P_termOfSpan_15 (by omega) ?_
  refine z_lst hx hb d_P_termOfSpan_16 hl (by decide) (fun x6_16 ex6_16 ls (hl : lv_has ls 12 [(6, .long (zL x6_16)), (5, .int (zI (prOf a b))), (0, .ref (ad 103)), (1, .int (zI a)), (2, .int (zI b)), (3, .int (zI 1)), (4, .int (zI 0))]) => ?_)
  subst ex6_16
  refine lv_aload_n hx hb d_P_termOfSpan_18 rfl (lv_at hl 2 rfl) ?_
  refine gX_P_above hc hw lk_P_20 d_P_termOfSpan_19 ?_
  refine lv_iload_n hx hb d_P_termOfSpan_22 rfl (lv_at hl 5 rfl) ?_
  refine laX_P_above1 hc hw d_P_termOfSpan_23 ?_
  refine lv_iload hx hb d_P_termOfSpan_24 (lv_at hl 1 rfl) ?_
  refine ldX_P_above1 hc hw d_P_termOfSpan_26 (by omega) ?_
  refine z_lst hx hb d_P_termOfSpan_27 hl (by decide) (fun x8_27 ex8_27 ls (hl : lv_has ls 12 [(8, .long (zL x8_27)), (6, .long (zL (σ 35 (prOf a b)))), (5, .int (zI (prOf a b))), (0, .ref (ad 103)), (1, .int (zI a)), (2, .int (zI b)), (3, .int (zI 1)), (4, .int (zI 0))]) => ?_)
  subst ex8_27
  refine z_lc1 hx hb d_P_termOfSpan_29 ?_
  refine lv_lload hx hb d_P_termOfSpan_30 (lv_at hl 1 rfl) ?_
  refine lv_lload hx hb d_P_termOfSpan_32 (lv_at hl 0 rfl) ?_
  refine w_csR hc hw (k_P_commonDivisor _ _ _ h1 h2) yw_P_commonDivisor yi_P_commonDivisor lk_P_38 d_P_termOfSpan_34 rfl rfl hl.1 (Nat.le_of_ble_eq_true rfl) ⟨Nat.le_of_ble_eq_true rfl, Nat.le_of_ble_eq_true rfl⟩ ⟨Nat.zero_le _, Nat.zero_le _⟩ (fun τ34 H locs hτ34 hw => ?_)
  subst hτ34
  refine w_csR hc hw (k_JM_maxL _ _ _ (by omega) (by omega)) yw_JM_maxL yi_JM_maxL lk_P_42 d_P_termOfSpan_37 rfl rfl hl.1 (Nat.le_of_ble_eq_true rfl) ⟨Nat.le_of_ble_eq_true rfl, Nat.le_of_ble_eq_true rfl⟩ ⟨Nat.zero_le _, Nat.zero_le _⟩ (fun τ37 H locs hτ37 hw => ?_)
  subst hτ37
  refine z_lst hx hb d_P_termOfSpan_40 hl (by decide) (fun x10_40 ex10_40 ls (hl : lv_has ls 12 [(10, .long (zL x10_40)), (8, .long (zL (σ 33 (prOf a b)))), (6, .long (zL (σ 35 (prOf a b)))), (5, .int (zI (prOf a b))), (0, .ref (ad 103)), (1, .int (zI a)), (2, .int (zI b)), (3, .int (zI 1)), (4, .int (zI 0))]) => ?_)
  subst ex10_40
  refine lv_iload hx hb d_P_termOfSpan_42 (lv_at hl 8 rfl) ?_
  refine z_if_ne hx hb 52 d_P_termOfSpan_44 (by omega) (by decide) (fun c44 => ?_) (fun c44 => ?_)
  · exact absurd c44 (by decide)
  · refine lv_lload hx hb d_P_termOfSpan_47 (lv_at hl 2 rfl) ?_
    refine lv_goto (tgt := 54) hx hb d_P_termOfSpan_49 (by decide) ?_
    refine lv_lload hx hb d_P_termOfSpan_54 (lv_at hl 0 rfl) ?_
    refine z_ldiv hx hb d_P_termOfSpan_56 (by omega) ?_
    exact w_lret hc hw (⟨rfl, rfl⟩) d_P_termOfSpan_57
set_option maxHeartbeats 400000 in
set_option maxRecDepth 100000 in
theorem k_P_termOfSpan11 {l : Launch} {D : va_G} {ad : Nat → Nat} {ca : Nat → ClassId} (σ : St) (a b : Int) (ha : 0 ≤ a ∧ a < 12) (hb2 : 0 ≤ b ∧ b < 12) (h1 : 0 ≤ σ 35 (prOf a b) ∧ σ 35 (prOf a b) < 4611686018427387904) (h2 : 0 ≤ σ 33 (prOf a b) ∧ σ 33 (prOf a b) < 4611686018427387904) : Cw l D cl7 (tyX ca) (wX ad ca) y_P_termOfSpan c_P_termOfSpan 12 (some .long) 2 [.ref (ad 103), .int (zI a), .int (zI b), .int (zI 1), .int (zI 1)] σ (RW (.long (zL (σ 33 (prOf a b) / max 1 (gcdF 200 (σ 35 (prOf a b)) (σ 33 (prOf a b)))))) (σ = ·)) := by
  have hpr : 0 ≤ prOf a b ∧ prOf a b < 144 := by unfold prOf; omega
  have hg := gcdF_bd 200 _ _ h1.1 h2.1 h1.2 h2.2
  refine Cw.enter (by decide) (Nat.le_of_ble_eq_true rfl) ?_
  intro A p e s m below meth c hc ls hl hw
  have hl : lv_has ls 12 [(0, .ref (ad 103)), (1, .int (zI a)), (2, .int (zI b)), (3, .int (zI 1)), (4, .int (zI 1))] := hl
  obtain ⟨hx, hb, hml, hown, hTB, hK, hr, hlk⟩ := id hc
  refine lv_iload_n hx hb d_P_termOfSpan_0 rfl (lv_at hl 1 rfl) ?_
  refine lv_iload_n hx hb d_P_termOfSpan_1 rfl (lv_at hl 2 rfl) ?_
  refine w_csR hc hw (k_P_pairOf _ _ _ ha hb2) yw_P_pairOf yi_P_pairOf lk_P_26 d_P_termOfSpan_2 rfl rfl hl.1 (Nat.le_of_ble_eq_true rfl) ⟨Nat.le_of_ble_eq_true rfl, Nat.le_of_ble_eq_true rfl⟩ ⟨Nat.zero_le _, Nat.zero_le _⟩ (fun τ2 H locs hτ2 hw => ?_)
  subst hτ2
  refine z_ist hx hb d_P_termOfSpan_5 hl (by decide) (fun x5_5 ex5_5 ls (hl : lv_has ls 12 [(5, .int (zI x5_5)), (0, .ref (ad 103)), (1, .int (zI a)), (2, .int (zI b)), (3, .int (zI 1)), (4, .int (zI 1))]) => ?_)
  subst ex5_5
  refine lv_aload_n hx hb d_P_termOfSpan_7 rfl (lv_at hl 1 rfl) ?_
  refine gX_P_below hc hw lk_P_23 d_P_termOfSpan_8 ?_
  refine lv_iload_n hx hb d_P_termOfSpan_11 rfl (lv_at hl 4 rfl) ?_
  refine laX_P_below1 hc hw d_P_termOfSpan_12 ?_
  refine lv_iload hx hb d_P_termOfSpan_13 (lv_at hl 0 rfl) ?_
  refine ldX_P_below1 hc hw d_P_termOfSpan_15 (by omega) ?_
  refine z_lst hx hb d_P_termOfSpan_16 hl (by decide) (fun x6_16 ex6_16 ls (hl : lv_has ls 12 [(6, .long (zL x6_16)), (5, .int (zI (prOf a b))), (0, .ref (ad 103)), (1, .int (zI a)), (2, .int (zI b)), (3, .int (zI 1)), (4, .int (zI 1))]) => ?_)
  subst ex6_16
  refine lv_aload_n hx hb d_P_termOfSpan_18 rfl (lv_at hl 2 rfl) ?_
  refine gX_P_above hc hw lk_P_20 d_P_termOfSpan_19 ?_
  refine lv_iload_n hx hb d_P_termOfSpan_22 rfl (lv_at hl 5 rfl) ?_
  refine laX_P_above1 hc hw d_P_termOfSpan_23 ?_
  refine lv_iload hx hb d_P_termOfSpan_24 (lv_at hl 1 rfl) ?_
  refine ldX_P_above1 hc hw d_P_termOfSpan_26 (by omega) ?_
  refine z_lst hx hb d_P_termOfSpan_27 hl (by decide) (fun x8_27 ex8_27 ls (hl : lv_has ls 12 [(8, .long (zL x8_27)), (6, .long (zL (σ 35 (prOf a b)))), (5, .int (zI (prOf a b))), (0, .ref (ad 103)), (1, .int (zI a)), (2, .int (zI b)), (3, .int (zI 1)), (4, .int (zI 1))]) => ?_)
  subst ex8_27
  refine z_lc1 hx hb d_P_termOfSpan_29 ?_
  refine lv_lload hx hb d_P_termOfSpan_30 (lv_at hl 1 rfl) ?_
  refine lv_lload hx hb d_P_termOfSpan_32 (lv_at hl 0 rfl) ?_
  refine w_csR hc hw (k_P_commonDivisor _ _ _ h1 h2) yw_P_commonDivisor yi_P_commonDivisor lk_P_38 d_P_termOfSpan_34 rfl rfl hl.1 (Nat.le_of_ble_eq_true rfl) ⟨Nat.le_of_ble_eq_true rfl, Nat.le_of_ble_eq_true rfl⟩ ⟨Nat.zero_le _, Nat.zero_le _⟩ (fun τ34 H locs hτ34 hw => ?_)
  subst hτ34
  refine w_csR hc hw (k_JM_maxL _ _ _ (by omega) (by omega)) yw_JM_maxL yi_JM_maxL lk_P_42 d_P_termOfSpan_37 rfl rfl hl.1 (Nat.le_of_ble_eq_true rfl) ⟨Nat.le_of_ble_eq_true rfl, Nat.le_of_ble_eq_true rfl⟩ ⟨Nat.zero_le _, Nat.zero_le _⟩ (fun τ37 H locs hτ37 hw => ?_)
  subst hτ37
  refine z_lst hx hb d_P_termOfSpan_40 hl (by decide) (fun x10_40 ex10_40 ls (hl : lv_has ls 12 [(10, .long (zL x10_40)), (8, .long (zL (σ 33 (prOf a b)))), (6, .long (zL (σ 35 (prOf a b)))), (5, .int (zI (prOf a b))), (0, .ref (ad 103)), (1, .int (zI a)), (2, .int (zI b)), (3, .int (zI 1)), (4, .int (zI 1))]) => ?_)
  subst ex10_40
  refine lv_iload hx hb d_P_termOfSpan_42 (lv_at hl 8 rfl) ?_
  refine z_if_ne hx hb 52 d_P_termOfSpan_44 (by omega) (by decide) (fun c44 => ?_) (fun c44 => ?_)
  · refine lv_lload hx hb d_P_termOfSpan_52 (lv_at hl 1 rfl) ?_
    refine lv_lload hx hb d_P_termOfSpan_54 (lv_at hl 0 rfl) ?_
    refine z_ldiv hx hb d_P_termOfSpan_56 (by omega) ?_
    exact w_lret hc hw (⟨rfl, rfl⟩) d_P_termOfSpan_57
  · exact absurd c44 (by decide)
end
section
/-! the fixture -/
section ZC
variable {p : Program} {l : Launch} {e : Env} {R : Room} {s : State} {m : MethodId} {args : Array Value} {below : List Frame} {meth : Method} {c : Code} {H : Heap} {locs : List Loc} {cells slots : Nat} {Q : State → Prop}
variable {cc : ByteArray} {pc : Nat} {ls : Array Slot} {rest : List Value} {a : Int}
theorem z_i2c (hx : p.tables.exec = Jvm.exec) (hb : c.code = cc) (d : decode cc pc = .ok (.i2c, 1)) (h : 0 ≤ a ∧ a < 65536) (k : W p l e R s m args below meth c H locs cells slots Q (F0 m (pc + 1) ls (.int (zI a) :: rest))) : W p l e R s m args below meth c H locs cells slots Q (F0 m pc ls (.int (zI a) :: rest)) := lv_i2c hx hb d (lg_i2c_word (by rw [zI_t ⟨by omega, by omega⟩]; omega) (by rw [zI_t ⟨by omega, by omega⟩]; omega)) k
end ZC
def ltrA (σ : St) (i : Int) : Int := if i < σ 27 0 ∧ i < 176 then σ 24 i else -1
/-- the sum of the forces of the first n probes -/
def sumF (σ : St) : Nat → Int
  | 0 => 0
  | n + 1 => sumF σ n + σ 6 (σ 20 n)
/-- the state when the first n nets looked at are sorted into probes and those left out -/
def tk (σ : St) : Nat → St
  | 0 => up (up σ 25 0 0) 26 0 0
  | n + 1 => if tk σ n 16 n = -1 then up (up (tk σ n) 21 (tk σ n 26 0) (tk σ n 10 n)) 26 0 (tk σ n 26 0 + 1) else up (up (tk σ n) 20 (tk σ n 25 0) (tk σ n 16 n)) 25 0 (tk σ n 25 0 + 1)
theorem tk_o (σ : St) (n g : Nat) (h : g ≠ 20 ∧ g ≠ 21 ∧ g ≠ 25 ∧ g ≠ 26) : tk σ n g = σ g := by
  induction n with
  | zero => unfold tk; rw [up_f _ _ _ h.2.2.2, up_f _ _ _ h.2.2.1]
  | succ n ih =>
    unfold tk
    split
    · rw [up_f _ _ _ h.2.2.2, up_f _ _ _ h.2.1, ih]
    · rw [up_f _ _ _ h.2.2.1, up_f _ _ _ h.1, ih]
theorem tk_bd (σ : St) (n : Nat) : 0 ≤ tk σ n 25 0 ∧ 0 ≤ tk σ n 26 0 ∧ tk σ n 25 0 + tk σ n 26 0 = n := by
  induction n with
  | zero => simp [tk, up]
  | succ n ih =>
    unfold tk
    split
    · simp only [up_s, up_o _ _ _ _ (show (25 : Nat) ≠ 26 by decide), up_o _ _ _ _ (show (25 : Nat) ≠ 21 by decide)]; omega
    · simp only [up_s, up_o _ _ _ _ (show (26 : Nat) ≠ 25 by decide), up_o _ _ _ _ (show (26 : Nat) ≠ 20 by decide)]; omega
/-- the place of the nearest, from the place i on, f of them -/
def pnF (σ : St) (x y : Int) : Nat → Int → Int → Int
  | 0, _, fd => fd
  | f + 1, i, fd => pnF σ x y f (i + 1) (if sqW σ (σ 22 i) x y < sqW σ (σ 22 fd) x y ∨ (sqW σ (σ 22 i) x y = sqW σ (σ 22 fd) x y ∧ σ 22 i < σ 22 fd) then i else fd)
theorem pnF_s (σ : St) (x y : Int) (f : Nat) (i fd : Int) : pnF σ x y (f + 1) i fd = pnF σ x y f (i + 1) (if sqW σ (σ 22 i) x y < sqW σ (σ 22 fd) x y ∨ (sqW σ (σ 22 i) x y = sqW σ (σ 22 fd) x y ∧ σ 22 i < σ 22 fd) then i else fd) := rfl
theorem pnF_bd (σ : St) (x y : Int) : ∀ (f : Nat) (i fd lo : Int), lo ≤ fd → fd < i → lo ≤ pnF σ x y f i fd ∧ pnF σ x y f i fd < i + f
  | 0, i, fd, lo, h1, h2 => by unfold pnF; omega
  | f + 1, i, fd, lo, h1, h2 => by
    unfold pnF
    split
    · have := pnF_bd σ x y f (i + 1) i lo (by omega) (by omega); omega
    · have := pnF_bd σ x y f (i + 1) fd lo (by omega) (by omega); omega
/-- a letter is written -/
def wl (σ : St) (ch : Int) : St := if σ 27 0 < 176 then up (up σ 24 (σ 27 0) ch) 27 0 (σ 27 0 + 1) else σ
theorem wl_o (σ : St) (ch : Int) (g : Nat) (h : g ≠ 24 ∧ g ≠ 27) : wl σ ch g = σ g := by
  unfold wl; split
  · rw [up_f _ _ _ h.2, up_f _ _ _ h.1]
  · rfl
theorem wl_bd {σ : St} (ch : Int) (h : 0 ≤ σ 27 0 ∧ σ 27 0 ≤ 176) : 0 ≤ wl σ ch 27 0 ∧ wl σ ch 27 0 ≤ 176 := by
  unfold wl; split
  · rw [up_s]; omega
  · exact h
def unF : Nat → Int → Int → Int
  | 0, u, _ => u
  | f + 1, u, r => if u * 10 ≤ r then unF f (u * 10) r else u
theorem unF_s (f : Nat) (u r : Int) : unF (f + 1) u r = if u * 10 ≤ r then unF f (u * 10) r else u := rfl
theorem unF_bd : ∀ (f : Nat) (u r : Int), 1 ≤ u → u ≤ 10000000 → r ≤ 10000000 → 1 ≤ unF f u r ∧ unF f u r ≤ 10000000
  | 0, u, r, h1, h2, h3 => ⟨h1, h2⟩
  | f + 1, u, r, h1, h2, h3 => by
    unfold unF; split
    · exact unF_bd f (u * 10) r (by omega) (by omega) h3
    · exact ⟨h1, h2⟩
def wnF : Nat → St → Int → Int → St
  | 0, σ, _, _ => σ
  | f + 1, σ, r, u => if 0 < u then wnF f (wl σ (48 + r / u % 10)) r (u / 10) else σ
theorem wnF_s (f : Nat) (σ : St) (r u : Int) : wnF (f + 1) σ r u = if 0 < u then wnF f (wl σ (48 + r / u % 10)) r (u / 10) else σ := rfl
def wn (σ : St) (z : Int) : St := wnF 7 (if z < 0 then wl σ 45 else σ) ((z.natAbs : Nat) : Int) (unF 6 1 ((z.natAbs : Nat) : Int))
theorem wnF_o : ∀ (f : Nat) (σ : St) (r u : Int) (g : Nat), g ≠ 24 ∧ g ≠ 27 → wnF f σ r u g = σ g
  | 0, σ, r, u, g, h => rfl
  | f + 1, σ, r, u, g, h => by
    unfold wnF; split
    · rw [wnF_o f _ r _ g h, wl_o _ _ _ h]
    · rfl
theorem wnF_bd : ∀ (f : Nat) (σ : St) (r u : Int), 0 ≤ σ 27 0 ∧ σ 27 0 ≤ 176 → 0 ≤ wnF f σ r u 27 0 ∧ wnF f σ r u 27 0 ≤ 176
  | 0, σ, r, u, h => h
  | f + 1, σ, r, u, h => by
    unfold wnF; split
    · exact wnF_bd f _ r _ (wl_bd _ h)
    · exact h
theorem wn_o (σ : St) (z : Int) (g : Nat) (h : g ≠ 24 ∧ g ≠ 27) : wn σ z g = σ g := by
  unfold wn; rw [wnF_o _ _ _ _ _ h]; split
  · exact wl_o _ _ _ h
  · rfl
theorem wn_bd {σ : St} (z : Int) (h : 0 ≤ σ 27 0 ∧ σ 27 0 ≤ 176) : 0 ≤ wn σ z 27 0 ∧ wn σ z 27 0 ≤ 176 := by
  unfold wn; apply wnF_bd; split
  · exact wl_bd _ h
  · exact h
/-- a line of the text -/
def wLine (σ : St) (q : Int) : St := wl (wn (wl (wn (wl (wn (wl σ 112) q) 32) (σ 3 q)) 32) (σ 4 q)) 10
theorem wLine_o (σ : St) (q : Int) (g : Nat) (h : g ≠ 24 ∧ g ≠ 27) : wLine σ q g = σ g := by
  unfold wLine; rw [wl_o _ _ _ h, wn_o _ _ _ h, wl_o _ _ _ h, wn_o _ _ _ h, wl_o _ _ _ h, wn_o _ _ _ h, wl_o _ _ _ h]
theorem wLine_bd {σ : St} (q : Int) (h : 0 ≤ σ 27 0 ∧ σ 27 0 ≤ 176) : 0 ≤ wLine σ q 27 0 ∧ wLine σ q 27 0 ≤ 176 := by
  unfold wLine; exact wl_bd _ (wn_bd _ (wl_bd _ (wn_bd _ (wl_bd _ (wn_bd _ (wl_bd _ h))))))
/-- the text of the first n of the sorted -/
def wtF (σ : St) : Nat → St
  | 0 => up σ 27 0 0
  | n + 1 => wLine (wtF σ n) (wtF σ n 23 n)
theorem wtF_o (σ : St) (n g : Nat) (h : g ≠ 24 ∧ g ≠ 27) : wtF σ n g = σ g := by
  induction n with
  | zero => exact up_f _ _ _ h.2
  | succ n ih => unfold wtF; rw [wLine_o _ _ _ h, ih]
theorem wtF_bd (σ : St) (n : Nat) : 0 ≤ wtF σ n 27 0 ∧ wtF σ n 27 0 ≤ 176 := by
  induction n with
  | zero => unfold wtF; rw [up_s]; omega
  | succ n ih => unfold wtF; exact wLine_bd _ ih
end
section
set_option maxHeartbeats 400000 in
set_option maxRecDepth 100000 in
theorem k_F_letterAt {l : Launch} {D : va_G} {ad : Nat → Nat} {ca : Nat → ClassId} (σ : St) (i : Int) (h0 : 0 ≤ i ∧ i < 2147483648) (hL : 0 ≤ σ 27 0 ∧ σ 27 0 ≤ 176) : Cw l D cl7 (tyX ca) (wX ad ca) y_F_letterAt c_F_letterAt 2 (some .int) 0 [.ref (ad 102), .int (zI i)] σ (RW (.int (zI (ltrA σ i))) (σ = ·)) := by
  refine Cw.enter (by decide) (Nat.le_of_ble_eq_true rfl) ?_
  intro A p e s m below meth c hc ls hl hw
  have hl : lv_has ls 2 [(0, .ref (ad 102)), (1, .int (zI i))] := hl
  obtain ⟨hx, hb, hml, hown, hTB, hK, hr, hlk⟩ := id hc
  refine lv_iload_n hx hb d_F_letterAt_0 rfl (lv_at hl 1 rfl) ?_
  refine lv_aload_n hx hb d_F_letterAt_1 rfl (lv_at hl 0 rfl) ?_
  refine gX_F_length hc hw lk_F_65 d_F_letterAt_2 ?_
  refine z_icmp_ge hx hb 15 d_F_letterAt_5 (by omega) (by omega) (by decide) (fun c5 => ?_) (fun c5 => ?_)
  · refine z_ic hx hb d_F_letterAt_15 ?_
    exact w_iret hc hw (⟨by unfold ltrA; first | (exfalso; omega) | rw [if_pos (by omega)] | rw [if_neg (by omega)], rfl⟩) d_F_letterAt_16
  · refine lv_iload_n hx hb d_F_letterAt_8 rfl (lv_at hl 1 rfl) ?_
    refine z_si hx hb d_F_letterAt_9 (by decide) ?_
    refine z_icmp_lt hx hb 17 d_F_letterAt_12 (by omega) (by omega) (by decide) (fun c12 => ?_) (fun c12 => ?_)
    · refine lv_aload_n hx hb d_F_letterAt_17 rfl (lv_at hl 0 rfl) ?_
      refine gX_F_letters hc hw lk_F_24 d_F_letterAt_18 ?_
      refine lv_iload_n hx hb d_F_letterAt_21 rfl (lv_at hl 1 rfl) ?_
      refine ldX_F_letters hc hw d_F_letterAt_22 (by omega) ?_
      exact w_iret hc hw (⟨by unfold ltrA; first | (exfalso; omega) | rw [if_pos (by omega)] | rw [if_neg (by omega)], rfl⟩) d_F_letterAt_23
    · refine z_ic hx hb d_F_letterAt_15 ?_
      exact w_iret hc hw (⟨by unfold ltrA; first | (exfalso; omega) | rw [if_pos (by omega)] | rw [if_neg (by omega)], rfl⟩) d_F_letterAt_16
set_option maxHeartbeats 400000 in
set_option maxRecDepth 100000 in
theorem k_F_sumOfForces {l : Launch} {D : va_G} {ad : Nat → Nat} {ca : Nat → ClassId} (σ : St) (hn : 0 ≤ σ 25 0 ∧ σ 25 0 ≤ 8) (hP : ∀ i, 0 ≤ i → i < σ 25 0 → 0 ≤ σ 20 i ∧ σ 20 i < 36) : Cw l D cl7 (tyX ca) (wX ad ca) y_F_sumOfForces c_F_sumOfForces 5 (some .long) 0 [.ref (ad 102), .ref (ad 101)] σ (RW (.long (zL (sumF σ (σ 25 0).toNat))) (σ = ·)) := by
  refine Cw.enter (by decide) (Nat.le_of_ble_eq_true rfl) ?_
  intro A p e s m below meth c hc ls hl hw
  have hl : lv_has ls 5 [(0, .ref (ad 102)), (1, .ref (ad 101))] := hl
  obtain ⟨hx, hb, hml, hown, hTB, hK, hr, hlk⟩ := id hc
  refine z_lc0 hx hb d_F_sumOfForces_0 ?_
  refine z_lst_n hx hb d_F_sumOfForces_1 rfl hl (by decide) (fun x2_1 ex2_1 ls (hl : lv_has ls 5 [(2, .long (zL x2_1)), (0, .ref (ad 102)), (1, .ref (ad 101))]) => ?_)
  refine z_ic hx hb d_F_sumOfForces_2 ?_
  refine z_ist hx hb d_F_sumOfForces_3 hl (by decide) (fun x4_3 ex4_3 ls (hl : lv_has ls 5 [(4, .int (zI x4_3)), (2, .long (zL x2_1)), (0, .ref (ad 102)), (1, .ref (ad 101))]) => ?_)
  have L5 : ∀ (n : Nat) (i : Int) (t : Int) (H : Heap) (locs : List Loc), (0 ≤ i ∧ i ≤ σ 25 0) → (t = sumF σ i.toNat) → (σ 25 0 - i).toNat < n → Wd D cl7 (wX ad ca) A s.heap σ H locs → ∀ ls : Array Slot, lv_has ls 5 [(4, .int (zI i)), (2, .long (zL t)), (0, .ref (ad 102)), (1, .ref (ad 101))] → W p l e (Rmh 0) s m ([.ref (ad 102), .ref (ad 101)] : List Value).toArray below meth c H locs 0 0 (MQ below (Qw D cl7 (wX ad ca) A (RW (.long (zL (sumF σ (σ 25 0).toNat))) (σ = ·))) ([.ref (ad 102), .ref (ad 101)] : List Value).toArray s 0 0 A) (F0 m 5 ls []) := by
    intro n
    induction n with
    | zero => intro i t  H locs hi ht hm; exact absurd hm (Nat.not_lt_zero _)
    | succ n ih5 =>
      intro i t  H locs hi ht hm5 hw ls hl
      refine lv_iload hx hb d_F_sumOfForces_5 (lv_at hl 0 rfl) ?_
      refine lv_aload_n hx hb d_F_sumOfForces_7 rfl (lv_at hl 2 rfl) ?_
      refine gX_F_probeCount hc hw lk_F_58 d_F_sumOfForces_8 ?_
      refine z_icmp_ge hx hb 35 d_F_sumOfForces_11 (by omega) (by omega) (by decide) (fun c11 => ?_) (fun c11 => ?_)
      · refine lv_lload_n hx hb d_F_sumOfForces_35 rfl (lv_at hl 1 rfl) ?_
        exact w_lret hc hw (⟨by rw [ht, show i = σ 25 0 by omega], rfl⟩) d_F_sumOfForces_36
      · refine lv_lload_n hx hb d_F_sumOfForces_14 rfl (lv_at hl 1 rfl) ?_
        refine lv_aload_n hx hb d_F_sumOfForces_15 rfl (lv_at hl 3 rfl) ?_
        refine gnX_B_weights hc hw lk_F_61 d_F_sumOfForces_16 ?_
        refine lv_aload_n hx hb d_F_sumOfForces_19 rfl (lv_at hl 2 rfl) ?_
        refine gX_F_probes hc hw lk_F_9 d_F_sumOfForces_20 ?_
        refine lv_iload hx hb d_F_sumOfForces_23 (lv_at hl 0 rfl) ?_
        refine ldX_F_probes hc hw d_F_sumOfForces_25 (by omega) ?_
        refine ldX_B_weights hc hw d_F_sumOfForces_26 (hP i hi.1 c11) ?_
        refine z_ladd hx hb d_F_sumOfForces_27 ?_
        refine z_lst_n hx hb d_F_sumOfForces_28 rfl hl (by decide) (fun x2_28 ex2_28 ls (hl : lv_has ls 5 [(2, .long (zL x2_28)), (4, .int (zI i)), (0, .ref (ad 102)), (1, .ref (ad 101))]) => ?_)
        refine z_iinc (k := 1) hx hb d_F_sumOfForces_29 hl rfl (by decide) (fun x4_29 ex4_29 ls (hl : lv_has ls 5 [(4, .int (zI x4_29)), (2, .long (zL x2_28)), (0, .ref (ad 102)), (1, .ref (ad 101))]) => ?_)
        refine lv_goto (tgt := 5) hx hb d_F_sumOfForces_32 (by decide) ?_
        exact ih5 x4_29 x2_28 _ _ (by omega) (by rw [ex2_28, ht, show x4_29.toNat = i.toNat + 1 from (by omega)]; simp only [sumF]; rw [Int.toNat_of_nonneg hi.1]) (by omega) hw ls (lv_sub hl [0, 1, 2, 3] rfl)
  exact L5 _ x4_3 x2_1 _ _ (by omega) (by rw [ex2_1, ex4_3]; rfl) (Nat.lt_succ_self _) hw ls (lv_sub hl [0, 1, 2, 3] rfl)
set_option maxHeartbeats 400000 in
set_option maxRecDepth 100000 in
theorem k_F_takeProbes {l : Launch} {D : va_G} {ad : Nat → Nat} {ca : Nat → ClassId} (σ : St) (hn : 0 ≤ σ 17 0 ∧ σ 17 0 ≤ 8) (hB : ∀ i, 0 ≤ i → i < σ 17 0 → r32 (σ 16 i)) : Cw l D cl7 (tyX ca) (wX ad ca) y_F_takeProbes c_F_takeProbes 3 none 0 [.ref (ad 102), .ref (ad 105)] σ (VW (tk σ (σ 17 0).toNat = ·)) := by
  refine Cw.enter (by decide) (Nat.le_of_ble_eq_true rfl) ?_
  intro A p e s m below meth c hc ls hl hw
  have hl : lv_has ls 3 [(0, .ref (ad 102)), (1, .ref (ad 105))] := hl
  obtain ⟨hx, hb, hml, hown, hTB, hK, hr, hlk⟩ := id hc
  refine lv_aload_n hx hb d_F_takeProbes_0 rfl (lv_at hl 0 rfl) ?_
  refine z_ic hx hb d_F_takeProbes_1 ?_
  refine pX_F_probeCount hc hw lk_F_58 d_F_takeProbes_2 (fun H locs hw => ?_)
  refine lv_aload_n hx hb d_F_takeProbes_5 rfl (lv_at hl 0 rfl) ?_
  refine z_ic hx hb d_F_takeProbes_6 ?_
  refine pX_F_leftCount hc hw lk_F_68 d_F_takeProbes_7 (fun H locs hw => ?_)
  refine z_ic hx hb d_F_takeProbes_10 ?_
  refine z_ist_n hx hb d_F_takeProbes_11 rfl hl (by decide) (fun x2_11 ex2_11 ls (hl : lv_has ls 3 [(2, .int (zI x2_11)), (0, .ref (ad 102)), (1, .ref (ad 105))]) => ?_)
  have L12 : ∀ (n : Nat) (i : Int) (τ : St) (H : Heap) (locs : List Loc), (0 ≤ i ∧ i ≤ σ 17 0) → (τ = tk σ i.toNat) → (σ 17 0 - i).toNat < n → Wd D cl7 (wX ad ca) A s.heap τ H locs → ∀ ls : Array Slot, lv_has ls 3 [(2, .int (zI i)), (0, .ref (ad 102)), (1, .ref (ad 105))] → W p l e (Rmh 0) s m ([.ref (ad 102), .ref (ad 105)] : List Value).toArray below meth c H locs 0 0 (MQ below (Qw D cl7 (wX ad ca) A (VW (tk σ (σ 17 0).toNat = ·))) ([.ref (ad 102), .ref (ad 105)] : List Value).toArray s 0 0 A) (F0 m 12 ls []) := by
    intro n
    induction n with
    | zero => intro i τ H locs hi hτ hm; exact absurd hm (Nat.not_lt_zero _)
    | succ n ih12 =>
      intro i τ H locs hi hτ hm12 hw ls hl
      subst hτ
      have ei : ((i.toNat : Nat) : Int) = i := Int.toNat_of_nonneg hi.1
      have e17 : tk σ i.toNat 17 0 = σ 17 0 := by rw [tk_o σ _ 17 (by decide)]
      have e16 : tk σ i.toNat 16 i = σ 16 i := by rw [tk_o σ _ 16 (by decide)]
      have hbd := tk_bd σ i.toNat
      refine lv_iload_n hx hb d_F_takeProbes_12 rfl (lv_at hl 0 rfl) ?_
      refine lv_aload_n hx hb d_F_takeProbes_13 rfl (lv_at hl 2 rfl) ?_
      refine gnX_S_looked hc hw lk_F_28 d_F_takeProbes_14 ?_
      refine z_icmp_ge hx hb 89 d_F_takeProbes_17 (by omega) (by omega) (by decide) (fun c17 => ?_) (fun c17 => ?_)
      · exact w_vret hc hw (⟨rfl, by rw [show i = σ 17 0 by omega]⟩) d_F_takeProbes_89
      · have hb16 := hB i hi.1 (by omega)
        refine lv_aload_n hx hb d_F_takeProbes_20 rfl (lv_at hl 2 rfl) ?_
        refine gnX_S_best hc hw lk_F_71 d_F_takeProbes_21 ?_
        refine lv_iload_n hx hb d_F_takeProbes_24 rfl (lv_at hl 0 rfl) ?_
        refine ldX_S_best hc hw d_F_takeProbes_25 (by omega) ?_
        refine z_ic hx hb d_F_takeProbes_26 ?_
        refine z_icmp_ne hx hb 58 d_F_takeProbes_27 (by omega) (by omega) (by decide) (fun c27 => ?_) (fun c27 => ?_)
        · refine lv_aload_n hx hb d_F_takeProbes_58 rfl (lv_at hl 1 rfl) ?_
          refine gX_F_probes hc hw lk_F_9 d_F_takeProbes_59 ?_
          refine lv_aload_n hx hb d_F_takeProbes_62 rfl (lv_at hl 1 rfl) ?_
          refine gX_F_probeCount hc hw lk_F_58 d_F_takeProbes_63 ?_
          refine lv_aload_n hx hb d_F_takeProbes_66 rfl (lv_at hl 2 rfl) ?_
          refine gnX_S_best hc hw lk_F_71 d_F_takeProbes_67 ?_
          refine lv_iload_n hx hb d_F_takeProbes_70 rfl (lv_at hl 0 rfl) ?_
          refine ldX_S_best hc hw d_F_takeProbes_71 (by omega) ?_
          refine stX_F_probes hc hw d_F_takeProbes_72 (by omega) (fun H locs hw => ?_)
          refine lv_aload_n hx hb d_F_takeProbes_73 rfl (lv_at hl 1 rfl) ?_
          refine lv_dup hx hb d_F_takeProbes_74 rfl ?_
          refine gX_F_probeCount hc hw lk_F_58 d_F_takeProbes_75 ?_
          refine z_ic hx hb d_F_takeProbes_78 ?_
          refine z_iadd hx hb d_F_takeProbes_79 ?_
          refine pX_F_probeCount hc hw lk_F_58 d_F_takeProbes_80 (fun H locs hw => ?_)
          refine z_iinc (k := 0) hx hb d_F_takeProbes_83 hl rfl (by decide) (fun x2_83 ex2_83 ls (hl : lv_has ls 3 [(2, .int (zI x2_83)), (0, .ref (ad 102)), (1, .ref (ad 105))]) => ?_)
          refine lv_goto (tgt := 12) hx hb d_F_takeProbes_86 (by decide) ?_
          exact ih12 x2_83 _ _ _ (by omega) (by rw [show x2_83.toNat = i.toNat + 1 from (by omega)]; simp only [tk, ei]; first | (rw [if_pos c27]; rfl) | (rw [if_neg c27]; rfl)) (by omega) hw ls (lv_sub hl [0, 1, 2] rfl)
        · refine lv_aload_n hx hb d_F_takeProbes_30 rfl (lv_at hl 1 rfl) ?_
          refine gX_F_left hc hw lk_F_15 d_F_takeProbes_31 ?_
          refine lv_aload_n hx hb d_F_takeProbes_34 rfl (lv_at hl 1 rfl) ?_
          refine gX_F_leftCount hc hw lk_F_68 d_F_takeProbes_35 ?_
          refine lv_aload_n hx hb d_F_takeProbes_38 rfl (lv_at hl 2 rfl) ?_
          refine gnX_S_nets hc hw lk_F_74 d_F_takeProbes_39 ?_
          refine lv_iload_n hx hb d_F_takeProbes_42 rfl (lv_at hl 0 rfl) ?_
          refine ldX_S_nets hc hw d_F_takeProbes_43 (by omega) ?_
          refine stX_F_left hc hw d_F_takeProbes_44 (by omega) (fun H locs hw => ?_)
          refine lv_aload_n hx hb d_F_takeProbes_45 rfl (lv_at hl 1 rfl) ?_
          refine lv_dup hx hb d_F_takeProbes_46 rfl ?_
          refine gX_F_leftCount hc hw lk_F_68 d_F_takeProbes_47 ?_
          refine z_ic hx hb d_F_takeProbes_50 ?_
          refine z_iadd hx hb d_F_takeProbes_51 ?_
          refine pX_F_leftCount hc hw lk_F_68 d_F_takeProbes_52 (fun H locs hw => ?_)
          refine lv_goto (tgt := 83) hx hb d_F_takeProbes_55 (by decide) ?_
          refine z_iinc (k := 0) hx hb d_F_takeProbes_83 hl rfl (by decide) (fun x2_83 ex2_83 ls (hl : lv_has ls 3 [(2, .int (zI x2_83)), (0, .ref (ad 102)), (1, .ref (ad 105))]) => ?_)
          refine lv_goto (tgt := 12) hx hb d_F_takeProbes_86 (by decide) ?_
          exact ih12 x2_83 _ _ _ (by omega) (by rw [show x2_83.toNat = i.toNat + 1 from (by omega)]; simp only [tk, ei]; first | (rw [if_pos c27]; rfl) | (rw [if_neg c27]; rfl)) (by omega) hw ls (lv_sub hl [0, 1, 2] rfl)
  exact L12 _ x2_11 _ _ _ (by omega) (by rw [ex2_11]; rfl) (Nat.lt_succ_self _) hw ls (lv_sub hl [0, 1, 2] rfl)
set_option maxHeartbeats 400000 in
set_option maxRecDepth 100000 in
theorem k_F_placeOfNearest {l : Launch} {D : va_G} {ad : Nat → Nat} {ca : Nat → ClassId} (σ : St) (fr x y : Int) (hI : IB σ) (hn : 0 ≤ σ 25 0 ∧ σ 25 0 ≤ 8) (hfr : 0 ≤ fr ∧ fr < σ 25 0) (hP : ∀ i, 0 ≤ i → i < σ 25 0 → 0 ≤ σ 22 i ∧ σ 22 i < 36) (hx2 : -1000000 ≤ x ∧ x ≤ 1000000) (hy2 : -1000000 ≤ y ∧ y ≤ 1000000) : Cw l D cl7 (tyX ca) (wX ad ca) y_F_placeOfNearest c_F_placeOfNearest 13 (some .int) 1 [.ref (ad 102), .ref (ad 101), .int (zI fr), .long (zL x), .long (zL y)] σ (RW (.int (zI (pnF σ x y (σ 25 0 - (fr + 1)).toNat (fr + 1) fr))) (σ = ·)) := by
  generalize hN0 : pnF σ x y (σ 25 0 - (fr + 1)).toNat (fr + 1) fr = N0
  refine Cw.enter (by decide) (Nat.le_of_ble_eq_true rfl) ?_
  intro A p e s m below meth c hc ls hl hw
  have hl : lv_has ls 13 [(0, .ref (ad 102)), (1, .ref (ad 101)), (2, .int (zI fr)), (3, .long (zL x)), (5, .long (zL y))] := hl
  obtain ⟨hx, hb, hml, hown, hTB, hK, hr, hlk⟩ := id hc
  refine lv_iload_n hx hb d_F_placeOfNearest_0 rfl (lv_at hl 2 rfl) ?_
  refine z_ist hx hb d_F_placeOfNearest_1 hl (by decide) (fun x7_1 ex7_1 ls (hl : lv_has ls 13 [(7, .int (zI x7_1)), (0, .ref (ad 102)), (1, .ref (ad 101)), (2, .int (zI fr)), (3, .long (zL x)), (5, .long (zL y))]) => ?_)
  refine lv_iload_n hx hb d_F_placeOfNearest_3 rfl (lv_at hl 3 rfl) ?_
  refine z_ic hx hb d_F_placeOfNearest_4 ?_
  refine z_iadd hx hb d_F_placeOfNearest_5 ?_
  refine z_ist hx hb d_F_placeOfNearest_6 hl (by decide) (fun x8_6 ex8_6 ls (hl : lv_has ls 13 [(8, .int (zI x8_6)), (7, .int (zI x7_1)), (0, .ref (ad 102)), (1, .ref (ad 101)), (2, .int (zI fr)), (3, .long (zL x)), (5, .long (zL y))]) => ?_)
  have L8 : ∀ (n : Nat) (i : Int) (fd : Int) (H : Heap) (locs : List Loc), (fr < i ∧ i ≤ σ 25 0) → (fr ≤ fd ∧ fd < i) → (N0 = pnF σ x y (σ 25 0 - i).toNat i fd) → (σ 25 0 - i).toNat < n → Wd D cl7 (wX ad ca) A s.heap σ H locs → ∀ ls : Array Slot, lv_has ls 13 [(8, .int (zI i)), (7, .int (zI fd)), (0, .ref (ad 102)), (1, .ref (ad 101)), (2, .int (zI fr)), (3, .long (zL x)), (5, .long (zL y))] → W p l e (Rmh 1) s m ([.ref (ad 102), .ref (ad 101), .int (zI fr), .long (zL x), .long (zL y)] : List Value).toArray below meth c H locs 0 0 (MQ below (Qw D cl7 (wX ad ca) A (RW (.int (zI N0)) (σ = ·))) ([.ref (ad 102), .ref (ad 101), .int (zI fr), .long (zL x), .long (zL y)] : List Value).toArray s 0 0 A) (F0 m 8 ls []) := by
    intro n
    induction n with
    | zero => intro i fd  H locs hi hf hN hm; exact absurd hm (Nat.not_lt_zero _)
    | succ n ih8 =>
      intro i fd  H locs hi hf hN hm8 hw ls hl
      have hPf := hP fd (by omega) (by omega)
      have hq2 := sqW_bd hI (σ 22 fd) hx2 hy2
      refine lv_iload hx hb d_F_placeOfNearest_8 (lv_at hl 0 rfl) ?_
      refine lv_aload_n hx hb d_F_placeOfNearest_10 rfl (lv_at hl 2 rfl) ?_
      refine gX_F_probeCount hc hw lk_F_58 d_F_placeOfNearest_11 ?_
      refine z_icmp_ge hx hb 92 d_F_placeOfNearest_14 (by omega) (by omega) (by decide) (fun c14 => ?_) (fun c14 => ?_)
      · refine lv_iload hx hb d_F_placeOfNearest_92 (lv_at hl 1 rfl) ?_
        exact w_iret hc hw (⟨by rw [hN, show (σ 25 0 - i).toNat = 0 by omega]; rfl, rfl⟩) d_F_placeOfNearest_94
      · have hPi := hP i (by omega) (by omega)
        have hq1 := sqW_bd hI (σ 22 i) hx2 hy2
        have q : (σ 25 0 - i).toNat = (σ 25 0 - (i + 1)).toNat + 1 := by omega
        rw [q, pnF_s] at hN
        refine lv_aload_n hx hb d_F_placeOfNearest_17 rfl (lv_at hl 3 rfl) ?_
        refine lv_aload_n hx hb d_F_placeOfNearest_18 rfl (lv_at hl 2 rfl) ?_
        refine gX_F_flown hc hw lk_F_18 d_F_placeOfNearest_19 ?_
        refine lv_iload hx hb d_F_placeOfNearest_22 (lv_at hl 0 rfl) ?_
        refine ldX_F_flown hc hw d_F_placeOfNearest_24 (by omega) ?_
        refine lv_lload_n hx hb d_F_placeOfNearest_25 rfl (lv_at hl 5 rfl) ?_
        refine lv_lload hx hb d_F_placeOfNearest_26 (lv_at hl 6 rfl) ?_
        refine w_cvR (q0 := 1) hc hw (k_B_squareOfWay _ _ _ _ (by omega)) yw_B_squareOfWay yi_B_squareOfWay lk_F_107 d_F_placeOfNearest_28 rfl rfl rfl rfl hl.1 (Nat.le_of_ble_eq_true rfl) ⟨Nat.le_of_ble_eq_true rfl, Nat.le_of_ble_eq_true rfl⟩ ⟨Nat.zero_le _, Nat.zero_le _⟩ (fun τ28 H locs hτ28 hw => ?_)
        subst hτ28
        refine z_lst hx hb d_F_placeOfNearest_31 hl (by decide) (fun x9_31 ex9_31 ls (hl : lv_has ls 13 [(9, .long (zL x9_31)), (8, .int (zI i)), (7, .int (zI fd)), (0, .ref (ad 102)), (1, .ref (ad 101)), (2, .int (zI fr)), (3, .long (zL x)), (5, .long (zL y))]) => ?_)
        refine lv_aload_n hx hb d_F_placeOfNearest_33 rfl (lv_at hl 4 rfl) ?_
        refine lv_aload_n hx hb d_F_placeOfNearest_34 rfl (lv_at hl 3 rfl) ?_
        refine gX_F_flown hc hw lk_F_18 d_F_placeOfNearest_35 ?_
        refine lv_iload hx hb d_F_placeOfNearest_38 (lv_at hl 2 rfl) ?_
        refine ldX_F_flown hc hw d_F_placeOfNearest_40 (by omega) ?_
        refine lv_lload_n hx hb d_F_placeOfNearest_41 rfl (lv_at hl 6 rfl) ?_
        refine lv_lload hx hb d_F_placeOfNearest_42 (lv_at hl 7 rfl) ?_
        refine w_cvR (q0 := 1) hc hw (k_B_squareOfWay _ _ _ _ (by omega)) yw_B_squareOfWay yi_B_squareOfWay lk_F_107 d_F_placeOfNearest_44 rfl rfl rfl rfl hl.1 (Nat.le_of_ble_eq_true rfl) ⟨Nat.le_of_ble_eq_true rfl, Nat.le_of_ble_eq_true rfl⟩ ⟨Nat.zero_le _, Nat.zero_le _⟩ (fun τ44 H locs hτ44 hw => ?_)
        subst hτ44
        refine z_lst hx hb d_F_placeOfNearest_47 hl (by decide) (fun x11_47 ex11_47 ls (hl : lv_has ls 13 [(11, .long (zL x11_47)), (9, .long (zL x9_31)), (8, .int (zI i)), (7, .int (zI fd)), (0, .ref (ad 102)), (1, .ref (ad 101)), (2, .int (zI fr)), (3, .long (zL x)), (5, .long (zL y))]) => ?_)
        refine lv_lload hx hb d_F_placeOfNearest_49 (lv_at hl 1 rfl) ?_
        refine lv_lload hx hb d_F_placeOfNearest_51 (lv_at hl 0 rfl) ?_
        refine z_lcmp_lt hx hb 82 d_F_placeOfNearest_53 d_F_placeOfNearest_54 (by omega) (by omega) (by decide) (fun c53 => ?_) (fun c53 => ?_)
        · refine lv_iload hx hb d_F_placeOfNearest_82 (lv_at hl 2 rfl) ?_
          refine z_ist hx hb d_F_placeOfNearest_84 hl (by decide) (fun x7_84 ex7_84 ls (hl : lv_has ls 13 [(7, .int (zI x7_84)), (11, .long (zL x11_47)), (9, .long (zL x9_31)), (8, .int (zI i)), (0, .ref (ad 102)), (1, .ref (ad 101)), (2, .int (zI fr)), (3, .long (zL x)), (5, .long (zL y))]) => ?_)
          refine z_iinc (k := 3) hx hb d_F_placeOfNearest_86 hl rfl (by decide) (fun x8_86 ex8_86 ls (hl : lv_has ls 13 [(8, .int (zI x8_86)), (7, .int (zI x7_84)), (11, .long (zL x11_47)), (9, .long (zL x9_31)), (0, .ref (ad 102)), (1, .ref (ad 101)), (2, .int (zI fr)), (3, .long (zL x)), (5, .long (zL y))]) => ?_)
          refine lv_goto (tgt := 8) hx hb d_F_placeOfNearest_89 (by decide) ?_
          exact ih8 x8_86 x7_84 _ _ (by omega) (by omega) (by rw [hN, ex8_86]; first | (rw [if_pos (by omega), ex7_84]) | (rw [if_neg (by omega)])) (by omega) hw ls (lv_sub hl [0, 1, 4, 5, 6, 7, 8] rfl)
        · refine lv_lload hx hb d_F_placeOfNearest_57 (lv_at hl 1 rfl) ?_
          refine lv_lload hx hb d_F_placeOfNearest_59 (lv_at hl 0 rfl) ?_
          refine z_lcmp_ne hx hb 86 d_F_placeOfNearest_61 d_F_placeOfNearest_62 (by omega) (by omega) (by decide) (fun c61 => ?_) (fun c61 => ?_)
          · refine z_iinc (k := 2) hx hb d_F_placeOfNearest_86 hl rfl (by decide) (fun x8_86 ex8_86 ls (hl : lv_has ls 13 [(8, .int (zI x8_86)), (11, .long (zL x11_47)), (9, .long (zL x9_31)), (7, .int (zI fd)), (0, .ref (ad 102)), (1, .ref (ad 101)), (2, .int (zI fr)), (3, .long (zL x)), (5, .long (zL y))]) => ?_)
            refine lv_goto (tgt := 8) hx hb d_F_placeOfNearest_89 (by decide) ?_
            exact ih8 x8_86 fd _ _ (by omega) (by omega) (by rw [hN, ex8_86]; first | (rw [if_pos (by omega), ex7_84]) | (rw [if_neg (by omega)])) (by omega) hw ls (lv_sub hl [0, 3, 4, 5, 6, 7, 8] rfl)
          · refine lv_aload_n hx hb d_F_placeOfNearest_65 rfl (lv_at hl 4 rfl) ?_
            refine gX_F_flown hc hw lk_F_18 d_F_placeOfNearest_66 ?_
            refine lv_iload hx hb d_F_placeOfNearest_69 (lv_at hl 2 rfl) ?_
            refine ldX_F_flown hc hw d_F_placeOfNearest_71 (by omega) ?_
            refine lv_aload_n hx hb d_F_placeOfNearest_72 rfl (lv_at hl 4 rfl) ?_
            refine gX_F_flown hc hw lk_F_18 d_F_placeOfNearest_73 ?_
            refine lv_iload hx hb d_F_placeOfNearest_76 (lv_at hl 3 rfl) ?_
            refine ldX_F_flown hc hw d_F_placeOfNearest_78 (by omega) ?_
            refine z_icmp_ge hx hb 86 d_F_placeOfNearest_79 (by omega) (by omega) (by decide) (fun c79 => ?_) (fun c79 => ?_)
            · refine z_iinc (k := 2) hx hb d_F_placeOfNearest_86 hl rfl (by decide) (fun x8_86 ex8_86 ls (hl : lv_has ls 13 [(8, .int (zI x8_86)), (11, .long (zL x11_47)), (9, .long (zL x9_31)), (7, .int (zI fd)), (0, .ref (ad 102)), (1, .ref (ad 101)), (2, .int (zI fr)), (3, .long (zL x)), (5, .long (zL y))]) => ?_)
              refine lv_goto (tgt := 8) hx hb d_F_placeOfNearest_89 (by decide) ?_
              exact ih8 x8_86 fd _ _ (by omega) (by omega) (by rw [hN, ex8_86]; first | (rw [if_pos (by omega), ex7_84]) | (rw [if_neg (by omega)])) (by omega) hw ls (lv_sub hl [0, 3, 4, 5, 6, 7, 8] rfl)
            · refine lv_iload hx hb d_F_placeOfNearest_82 (lv_at hl 2 rfl) ?_
              refine z_ist hx hb d_F_placeOfNearest_84 hl (by decide) (fun x7_84 ex7_84 ls (hl : lv_has ls 13 [(7, .int (zI x7_84)), (11, .long (zL x11_47)), (9, .long (zL x9_31)), (8, .int (zI i)), (0, .ref (ad 102)), (1, .ref (ad 101)), (2, .int (zI fr)), (3, .long (zL x)), (5, .long (zL y))]) => ?_)
              refine z_iinc (k := 3) hx hb d_F_placeOfNearest_86 hl rfl (by decide) (fun x8_86 ex8_86 ls (hl : lv_has ls 13 [(8, .int (zI x8_86)), (7, .int (zI x7_84)), (11, .long (zL x11_47)), (9, .long (zL x9_31)), (0, .ref (ad 102)), (1, .ref (ad 101)), (2, .int (zI fr)), (3, .long (zL x)), (5, .long (zL y))]) => ?_)
              refine lv_goto (tgt := 8) hx hb d_F_placeOfNearest_89 (by decide) ?_
              exact ih8 x8_86 x7_84 _ _ (by omega) (by omega) (by rw [hN, ex8_86]; first | (rw [if_pos (by omega), ex7_84]) | (rw [if_neg (by omega)])) (by omega) hw ls (lv_sub hl [0, 1, 4, 5, 6, 7, 8] rfl)
  exact L8 _ x8_6 x7_1 _ _ (by omega) (by omega) (by rw [ex8_6, ex7_1]; exact hN0.symm) (Nat.lt_succ_self _) hw ls (lv_sub hl [0, 1, 2, 3, 4, 5, 6] rfl)
set_option maxHeartbeats 400000 in
set_option maxRecDepth 100000 in
theorem k_F_writeLetter {l : Launch} {D : va_G} {ad : Nat → Nat} {ca : Nat → ClassId} (σ : St) (ch : Int) (hc2 : 0 ≤ ch ∧ ch < 65536) (hL : 0 ≤ σ 27 0 ∧ σ 27 0 ≤ 176) : Cw l D cl7 (tyX ca) (wX ad ca) y_F_writeLetter c_F_writeLetter 2 none 0 [.ref (ad 102), .int (zI ch)] σ (VW (wl σ ch = ·)) := by
  refine Cw.enter (by decide) (Nat.le_of_ble_eq_true rfl) ?_
  intro A p e s m below meth c hc ls hl hw
  have hl : lv_has ls 2 [(0, .ref (ad 102)), (1, .int (zI ch))] := hl
  obtain ⟨hx, hb, hml, hown, hTB, hK, hr, hlk⟩ := id hc
  refine lv_aload_n hx hb d_F_writeLetter_0 rfl (lv_at hl 0 rfl) ?_
  refine gX_F_length hc hw lk_F_65 d_F_writeLetter_1 ?_
  refine z_si hx hb d_F_writeLetter_4 (by decide) ?_
  refine z_icmp_ge hx hb 30 d_F_writeLetter_7 (by omega) (by omega) (by decide) (fun c7 => ?_) (fun c7 => ?_)
  · exact w_vret hc hw (⟨rfl, by unfold wl; first | (rw [if_neg (by omega)]; done) | (rw [if_pos (by omega)]; rfl)⟩) d_F_writeLetter_30
  · refine lv_aload_n hx hb d_F_writeLetter_10 rfl (lv_at hl 0 rfl) ?_
    refine gX_F_letters hc hw lk_F_24 d_F_writeLetter_11 ?_
    refine lv_aload_n hx hb d_F_writeLetter_14 rfl (lv_at hl 0 rfl) ?_
    refine gX_F_length hc hw lk_F_65 d_F_writeLetter_15 ?_
    refine lv_iload_n hx hb d_F_writeLetter_18 rfl (lv_at hl 1 rfl) ?_
    refine stX_F_letters hc hw d_F_writeLetter_19 (by omega) (by omega) (fun H locs hw => ?_)
    refine lv_aload_n hx hb d_F_writeLetter_20 rfl (lv_at hl 0 rfl) ?_
    refine lv_dup hx hb d_F_writeLetter_21 rfl ?_
    refine gX_F_length hc hw lk_F_65 d_F_writeLetter_22 ?_
    refine z_ic hx hb d_F_writeLetter_25 ?_
    refine z_iadd hx hb d_F_writeLetter_26 ?_
    refine pX_F_length hc hw lk_F_65 d_F_writeLetter_27 (fun H locs hw => ?_)
    exact w_vret hc hw (⟨rfl, by unfold wl; first | (rw [if_neg (by omega)]; done) | (rw [if_pos (by omega)]; rfl)⟩) d_F_writeLetter_30
set_option maxHeartbeats 400000 in
set_option maxRecDepth 100000 in
theorem k_F_writeNumber {l : Launch} {D : va_G} {ad : Nat → Nat} {ca : Nat → ClassId} (σ : St) (z : Int) (hz : -1000000 ≤ z ∧ z ≤ 1000000) (hL : 0 ≤ σ 27 0 ∧ σ 27 0 ≤ 176) : Cw l D cl7 (tyX ca) (wX ad ca) y_F_writeNumber c_F_writeNumber 8 none 1 [.ref (ad 102), .long (zL z)] σ (VW (wn σ z = ·)) := by
  have hnz : ((z.natAbs : Nat) : Int) ≤ 1000000 := by omega
  have hnz0 : 0 ≤ ((z.natAbs : Nat) : Int) := Int.natCast_nonneg _
  have hwl := wl_bd 45 hL
  obtain ⟨U0, hU0⟩ : ∃ u, u = unF 6 1 ((z.natAbs : Nat) : Int) := ⟨_, rfl⟩
  refine Cw.enter (by decide) (Nat.le_of_ble_eq_true rfl) ?_
  intro A p e s m below meth c hc ls hl hw
  have hl : lv_has ls 8 [(0, .ref (ad 102)), (1, .long (zL z))] := hl
  obtain ⟨hx, hb, hml, hown, hTB, hK, hr, hlk⟩ := id hc
  refine lv_lload_n hx hb d_F_writeNumber_0 rfl (lv_at hl 1 rfl) ?_
  refine z_lc0 hx hb d_F_writeNumber_1 ?_
  refine z_lcmp_ge hx hb 12 d_F_writeNumber_2 d_F_writeNumber_3 (by omega) (by omega) (by decide) (fun c2 => ?_) (fun c2 => ?_)
  · refine lv_lload_n hx hb d_F_writeNumber_12 rfl (lv_at hl 1 rfl) ?_
    refine w_csR hc hw (k_JM_absL _ _ (by omega)) yw_JM_absL yi_JM_absL lk_F_94 d_F_writeNumber_13 rfl rfl hl.1 (Nat.le_of_ble_eq_true rfl) ⟨Nat.le_of_ble_eq_true rfl, Nat.le_of_ble_eq_true rfl⟩ ⟨Nat.zero_le _, Nat.zero_le _⟩ (fun τ13 H locs hτ13 hw => ?_)
    subst hτ13
    refine z_lst_n hx hb d_F_writeNumber_16 rfl hl (by decide) (fun x3_16 ex3_16 ls (hl : lv_has ls 8 [(3, .long (zL x3_16)), (0, .ref (ad 102)), (1, .long (zL z))]) => ?_)
    subst ex3_16
    refine z_lc1 hx hb d_F_writeNumber_17 ?_
    refine z_lst hx hb d_F_writeNumber_18 hl (by decide) (fun x5_18 ex5_18 ls (hl : lv_has ls 8 [(5, .long (zL x5_18)), (3, .long (zL ((z.natAbs : Nat) : Int))), (0, .ref (ad 102)), (1, .long (zL z))]) => ?_)
    refine z_ic hx hb d_F_writeNumber_20 ?_
    refine z_ist hx hb d_F_writeNumber_21 hl (by decide) (fun x7_21 ex7_21 ls (hl : lv_has ls 8 [(7, .int (zI x7_21)), (5, .long (zL x5_18)), (3, .long (zL ((z.natAbs : Nat) : Int))), (0, .ref (ad 102)), (1, .long (zL z))]) => ?_)
    have L23 : ∀ (n : Nat) (i : Int) (u : Int) (ρ : St) (H : Heap) (locs : List Loc), (1 ≤ i ∧ i ≤ 7) → (1 ≤ u ∧ u ≤ 10000000) → (U0 = unF (7 - i).toNat u ((z.natAbs : Nat) : Int)) → (ρ = (if z < 0 then wl σ 45 else σ)) → (7 - i).toNat < n → Wd D cl7 (wX ad ca) A s.heap ρ H locs → ∀ ls : Array Slot, lv_has ls 8 [(7, .int (zI i)), (5, .long (zL u)), (3, .long (zL ((z.natAbs : Nat) : Int))), (0, .ref (ad 102)), (1, .long (zL z))] → W p l e (Rmh 1) s m ([.ref (ad 102), .long (zL z)] : List Value).toArray below meth c H locs 0 0 (MQ below (Qw D cl7 (wX ad ca) A (VW (wn σ z = ·))) ([.ref (ad 102), .long (zL z)] : List Value).toArray s 0 0 A) (F0 m 23 ls []) := by
      intro n
      induction n with
      | zero => intro i u ρ H locs hi hu hN hρ hm; exact absurd hm (Nat.not_lt_zero _)
      | succ n ih23 =>
        intro i u ρ H locs hi hu hN hρ hm23 hw ls hl
        refine lv_iload hx hb d_F_writeNumber_23 (lv_at hl 0 rfl) ?_
        refine z_bi hx hb d_F_writeNumber_25 (by decide) ?_
        refine z_icmp_ge hx hb 55 d_F_writeNumber_27 (by omega) (by omega) (by decide) (fun c27 => ?_) (fun c27 => ?_)
        · have hU : U0 = u := by first | (rw [hN, show (7 - i).toNat = 0 by omega]; rfl) | (rw [hN, if_neg (by omega)])
          refine z_ic hx hb d_F_writeNumber_55 ?_
          refine z_ist hx hb d_F_writeNumber_56 hl (by decide) (fun x7_56 ex7_56 ls (hl : lv_has ls 8 [(7, .int (zI x7_56)), (5, .long (zL u)), (3, .long (zL ((z.natAbs : Nat) : Int))), (0, .ref (ad 102)), (1, .long (zL z))]) => ?_)
          have L58 : ∀ (n : Nat) (j : Int) (v : Int) (τ : St) (H : Heap) (locs : List Loc), (0 ≤ j ∧ j ≤ 7) → (0 ≤ v ∧ v ≤ 10000000) → (wn σ z = wnF (7 - j).toNat τ ((z.natAbs : Nat) : Int) v) → (0 ≤ τ 27 0 ∧ τ 27 0 ≤ 176) → (7 - j).toNat < n → Wd D cl7 (wX ad ca) A s.heap τ H locs → ∀ ls : Array Slot, lv_has ls 8 [(7, .int (zI j)), (5, .long (zL v)), (3, .long (zL ((z.natAbs : Nat) : Int))), (0, .ref (ad 102)), (1, .long (zL z))] → W p l e (Rmh 1) s m ([.ref (ad 102), .long (zL z)] : List Value).toArray below meth c H locs 0 0 (MQ below (Qw D cl7 (wX ad ca) A (VW (wn σ z = ·))) ([.ref (ad 102), .long (zL z)] : List Value).toArray s 0 0 A) (F0 m 58 ls []) := by
            intro n
            induction n with
            | zero => intro j v τ H locs hj hv hτ hτL hm; exact absurd hm (Nat.not_lt_zero _)
            | succ n ih58 =>
              intro j v τ H locs hj hv hτ hτL hm58 hw ls hl
              refine lv_iload hx hb d_F_writeNumber_58 (lv_at hl 0 rfl) ?_
              refine z_bi hx hb d_F_writeNumber_60 (by decide) ?_
              refine z_icmp_ge hx hb 104 d_F_writeNumber_62 (by omega) (by omega) (by decide) (fun c62 => ?_) (fun c62 => ?_)
              · exact w_vret hc hw (⟨rfl, by rw [hτ]; first | (rw [if_neg (by omega)]; done) | (rw [show (7 - j).toNat = 0 by omega]; rfl)⟩) d_F_writeNumber_104
              · have q : (7 - j).toNat = (7 - (j + 1)).toNat + 1 := by omega
                rw [q, wnF_s] at hτ
                have hdq : 0 ≤ ((z.natAbs : Nat) : Int) / v := Int.ediv_nonneg hnz0 hv.1
                refine lv_lload hx hb d_F_writeNumber_65 (lv_at hl 1 rfl) ?_
                refine z_lc0 hx hb d_F_writeNumber_67 ?_
                refine z_lcmp_le hx hb 104 d_F_writeNumber_68 d_F_writeNumber_69 (by omega) (by omega) (by decide) (fun c68 => ?_) (fun c68 => ?_)
                · exact w_vret hc hw (⟨rfl, by rw [hτ]; first | (rw [if_neg (by omega)]; done) | (rw [show (7 - j).toNat = 0 by omega]; rfl)⟩) d_F_writeNumber_104
                · refine lv_aload_n hx hb d_F_writeNumber_72 rfl (lv_at hl 3 rfl) ?_
                  refine z_ldc2 (n := 48) hc lk_F_125 d_F_writeNumber_73 (by decide) ?_
                  refine lv_lload_n hx hb d_F_writeNumber_76 rfl (lv_at hl 2 rfl) ?_
                  refine lv_lload hx hb d_F_writeNumber_77 (lv_at hl 1 rfl) ?_
                  refine z_ldiv hx hb d_F_writeNumber_79 (⟨⟨hnz0, by omega⟩, by omega, by omega⟩) ?_
                  refine z_ldc2 (n := 10) hc lk_F_123 d_F_writeNumber_80 (by decide) ?_
                  refine z_lrem hx hb d_F_writeNumber_83 (⟨⟨hdq, by have := Int.ediv_le_self v hnz0; omega⟩, by decide, by decide⟩) ?_
                  refine z_ladd hx hb d_F_writeNumber_84 ?_
                  refine z_l2i hx hb d_F_writeNumber_85 ?_
                  refine z_i2c hx hb d_F_writeNumber_86 (by have := Int.emod_nonneg (((z.natAbs : Nat) : Int) / v) (show (10 : Int) ≠ 0 by decide); have := Int.emod_lt_of_pos (((z.natAbs : Nat) : Int) / v) (show (0 : Int) < 10 by decide); omega) ?_
                  refine w_cvV (q0 := 2) hc hw (k_F_writeLetter _ _ (by have := Int.emod_nonneg (((z.natAbs : Nat) : Int) / v) (show (10 : Int) ≠ 0 by decide); have := Int.emod_lt_of_pos (((z.natAbs : Nat) : Int) / v) (show (0 : Int) < 10 by decide); omega) hτL) yw_F_writeLetter yi_F_writeLetter lk_F_115 d_F_writeNumber_87 rfl rfl rfl rfl hl.1 (Nat.le_of_ble_eq_true rfl) ⟨Nat.le_of_ble_eq_true rfl, Nat.le_of_ble_eq_true rfl⟩ ⟨Nat.zero_le _, Nat.zero_le _⟩ (fun τ87 H locs hτ87 hw => ?_)
                  subst hτ87
                  refine lv_lload hx hb d_F_writeNumber_90 (lv_at hl 1 rfl) ?_
                  refine z_ldc2 (n := 10) hc lk_F_123 d_F_writeNumber_92 (by decide) ?_
                  refine z_ldiv hx hb d_F_writeNumber_95 (by omega) ?_
                  refine z_lst hx hb d_F_writeNumber_96 hl (by decide) (fun x5_96 ex5_96 ls (hl : lv_has ls 8 [(5, .long (zL x5_96)), (7, .int (zI j)), (3, .long (zL ((z.natAbs : Nat) : Int))), (0, .ref (ad 102)), (1, .long (zL z))]) => ?_)
                  refine z_iinc (k := 1) hx hb d_F_writeNumber_98 hl rfl (by decide) (fun x7_98 ex7_98 ls (hl : lv_has ls 8 [(7, .int (zI x7_98)), (5, .long (zL x5_96)), (3, .long (zL ((z.natAbs : Nat) : Int))), (0, .ref (ad 102)), (1, .long (zL z))]) => ?_)
                  refine lv_goto (tgt := 58) hx hb d_F_writeNumber_101 (by decide) ?_
                  exact ih58 x7_98 x5_96 _ _ _ (by omega) (by rw [ex5_96]; omega) (by rw [hτ, if_pos c68, ex7_98, ex5_96]) (wl_bd _ hτL) (by omega) hw ls (lv_sub hl [0, 1, 2, 3, 4] rfl)
          exact L58 _ x7_56 u _ _ _ (by omega) (by omega) (by rw [ex7_56, show ((7 : Int) - 0).toNat = 7 from (by decide), ← hU, hU0, hρ]; rfl) (by rw [hρ]; first | (rw [if_pos (by omega)]; exact hwl) | (rw [if_neg (by omega)]; exact hL)) (Nat.lt_succ_self _) hw ls (lv_sub hl [0, 1, 2, 3, 4] rfl)
        · have q : (7 - i).toNat = (7 - (i + 1)).toNat + 1 := by omega
          rw [q, unF_s] at hN
          refine lv_lload hx hb d_F_writeNumber_30 (lv_at hl 1 rfl) ?_
          refine z_ldc2 (n := 10) hc lk_F_123 d_F_writeNumber_32 (by decide) ?_
          refine z_lmul hx hb d_F_writeNumber_35 ?_
          refine lv_lload_n hx hb d_F_writeNumber_36 rfl (lv_at hl 2 rfl) ?_
          refine z_lcmp_gt hx hb 55 d_F_writeNumber_37 d_F_writeNumber_38 (by omega) (by omega) (by decide) (fun c37 => ?_) (fun c37 => ?_)
          · have hU : U0 = u := by first | (rw [hN, show (7 - i).toNat = 0 by omega]; rfl) | (rw [hN, if_neg (by omega)])
            refine z_ic hx hb d_F_writeNumber_55 ?_
            refine z_ist hx hb d_F_writeNumber_56 hl (by decide) (fun x7_56 ex7_56 ls (hl : lv_has ls 8 [(7, .int (zI x7_56)), (5, .long (zL u)), (3, .long (zL ((z.natAbs : Nat) : Int))), (0, .ref (ad 102)), (1, .long (zL z))]) => ?_)
            have L58 : ∀ (n : Nat) (j : Int) (v : Int) (τ : St) (H : Heap) (locs : List Loc), (0 ≤ j ∧ j ≤ 7) → (0 ≤ v ∧ v ≤ 10000000) → (wn σ z = wnF (7 - j).toNat τ ((z.natAbs : Nat) : Int) v) → (0 ≤ τ 27 0 ∧ τ 27 0 ≤ 176) → (7 - j).toNat < n → Wd D cl7 (wX ad ca) A s.heap τ H locs → ∀ ls : Array Slot, lv_has ls 8 [(7, .int (zI j)), (5, .long (zL v)), (3, .long (zL ((z.natAbs : Nat) : Int))), (0, .ref (ad 102)), (1, .long (zL z))] → W p l e (Rmh 1) s m ([.ref (ad 102), .long (zL z)] : List Value).toArray below meth c H locs 0 0 (MQ below (Qw D cl7 (wX ad ca) A (VW (wn σ z = ·))) ([.ref (ad 102), .long (zL z)] : List Value).toArray s 0 0 A) (F0 m 58 ls []) := by
              intro n
              induction n with
              | zero => intro j v τ H locs hj hv hτ hτL hm; exact absurd hm (Nat.not_lt_zero _)
              | succ n ih58 =>
                intro j v τ H locs hj hv hτ hτL hm58 hw ls hl
                refine lv_iload hx hb d_F_writeNumber_58 (lv_at hl 0 rfl) ?_
                refine z_bi hx hb d_F_writeNumber_60 (by decide) ?_
                refine z_icmp_ge hx hb 104 d_F_writeNumber_62 (by omega) (by omega) (by decide) (fun c62 => ?_) (fun c62 => ?_)
                · exact w_vret hc hw (⟨rfl, by rw [hτ]; first | (rw [if_neg (by omega)]; done) | (rw [show (7 - j).toNat = 0 by omega]; rfl)⟩) d_F_writeNumber_104
                · have q : (7 - j).toNat = (7 - (j + 1)).toNat + 1 := by omega
                  rw [q, wnF_s] at hτ
                  have hdq : 0 ≤ ((z.natAbs : Nat) : Int) / v := Int.ediv_nonneg hnz0 hv.1
                  refine lv_lload hx hb d_F_writeNumber_65 (lv_at hl 1 rfl) ?_
                  refine z_lc0 hx hb d_F_writeNumber_67 ?_
                  refine z_lcmp_le hx hb 104 d_F_writeNumber_68 d_F_writeNumber_69 (by omega) (by omega) (by decide) (fun c68 => ?_) (fun c68 => ?_)
                  · exact w_vret hc hw (⟨rfl, by rw [hτ]; first | (rw [if_neg (by omega)]; done) | (rw [show (7 - j).toNat = 0 by omega]; rfl)⟩) d_F_writeNumber_104
                  · refine lv_aload_n hx hb d_F_writeNumber_72 rfl (lv_at hl 3 rfl) ?_
                    refine z_ldc2 (n := 48) hc lk_F_125 d_F_writeNumber_73 (by decide) ?_
                    refine lv_lload_n hx hb d_F_writeNumber_76 rfl (lv_at hl 2 rfl) ?_
                    refine lv_lload hx hb d_F_writeNumber_77 (lv_at hl 1 rfl) ?_
                    refine z_ldiv hx hb d_F_writeNumber_79 (⟨⟨hnz0, by omega⟩, by omega, by omega⟩) ?_
                    refine z_ldc2 (n := 10) hc lk_F_123 d_F_writeNumber_80 (by decide) ?_
                    refine z_lrem hx hb d_F_writeNumber_83 (⟨⟨hdq, by have := Int.ediv_le_self v hnz0; omega⟩, by decide, by decide⟩) ?_
                    refine z_ladd hx hb d_F_writeNumber_84 ?_
                    refine z_l2i hx hb d_F_writeNumber_85 ?_
                    refine z_i2c hx hb d_F_writeNumber_86 (by have := Int.emod_nonneg (((z.natAbs : Nat) : Int) / v) (show (10 : Int) ≠ 0 by decide); have := Int.emod_lt_of_pos (((z.natAbs : Nat) : Int) / v) (show (0 : Int) < 10 by decide); omega) ?_
                    refine w_cvV (q0 := 2) hc hw (k_F_writeLetter _ _ (by have := Int.emod_nonneg (((z.natAbs : Nat) : Int) / v) (show (10 : Int) ≠ 0 by decide); have := Int.emod_lt_of_pos (((z.natAbs : Nat) : Int) / v) (show (0 : Int) < 10 by decide); omega) hτL) yw_F_writeLetter yi_F_writeLetter lk_F_115 d_F_writeNumber_87 rfl rfl rfl rfl hl.1 (Nat.le_of_ble_eq_true rfl) ⟨Nat.le_of_ble_eq_true rfl, Nat.le_of_ble_eq_true rfl⟩ ⟨Nat.zero_le _, Nat.zero_le _⟩ (fun τ87 H locs hτ87 hw => ?_)
                    subst hτ87
                    refine lv_lload hx hb d_F_writeNumber_90 (lv_at hl 1 rfl) ?_
                    refine z_ldc2 (n := 10) hc lk_F_123 d_F_writeNumber_92 (by decide) ?_
                    refine z_ldiv hx hb d_F_writeNumber_95 (by omega) ?_
                    refine z_lst hx hb d_F_writeNumber_96 hl (by decide) (fun x5_96 ex5_96 ls (hl : lv_has ls 8 [(5, .long (zL x5_96)), (7, .int (zI j)), (3, .long (zL ((z.natAbs : Nat) : Int))), (0, .ref (ad 102)), (1, .long (zL z))]) => ?_)
                    refine z_iinc (k := 1) hx hb d_F_writeNumber_98 hl rfl (by decide) (fun x7_98 ex7_98 ls (hl : lv_has ls 8 [(7, .int (zI x7_98)), (5, .long (zL x5_96)), (3, .long (zL ((z.natAbs : Nat) : Int))), (0, .ref (ad 102)), (1, .long (zL z))]) => ?_)
                    refine lv_goto (tgt := 58) hx hb d_F_writeNumber_101 (by decide) ?_
                    exact ih58 x7_98 x5_96 _ _ _ (by omega) (by rw [ex5_96]; omega) (by rw [hτ, if_pos c68, ex7_98, ex5_96]) (wl_bd _ hτL) (by omega) hw ls (lv_sub hl [0, 1, 2, 3, 4] rfl)
            exact L58 _ x7_56 u _ _ _ (by omega) (by omega) (by rw [ex7_56, show ((7 : Int) - 0).toNat = 7 from (by decide), ← hU, hU0, hρ]; rfl) (by rw [hρ]; first | (rw [if_pos (by omega)]; exact hwl) | (rw [if_neg (by omega)]; exact hL)) (Nat.lt_succ_self _) hw ls (lv_sub hl [0, 1, 2, 3, 4] rfl)
          · refine lv_lload hx hb d_F_writeNumber_41 (lv_at hl 1 rfl) ?_
            refine z_ldc2 (n := 10) hc lk_F_123 d_F_writeNumber_43 (by decide) ?_
            refine z_lmul hx hb d_F_writeNumber_46 ?_
            refine z_lst hx hb d_F_writeNumber_47 hl (by decide) (fun x5_47 ex5_47 ls (hl : lv_has ls 8 [(5, .long (zL x5_47)), (7, .int (zI i)), (3, .long (zL ((z.natAbs : Nat) : Int))), (0, .ref (ad 102)), (1, .long (zL z))]) => ?_)
            refine z_iinc (k := 1) hx hb d_F_writeNumber_49 hl rfl (by decide) (fun x7_49 ex7_49 ls (hl : lv_has ls 8 [(7, .int (zI x7_49)), (5, .long (zL x5_47)), (3, .long (zL ((z.natAbs : Nat) : Int))), (0, .ref (ad 102)), (1, .long (zL z))]) => ?_)
            refine lv_goto (tgt := 23) hx hb d_F_writeNumber_52 (by decide) ?_
            exact ih23 x7_49 x5_47 _ _ _ (by omega) (by omega) (by rw [hN, if_pos (by omega), ex7_49, ex5_47]) (hρ) (by omega) hw ls (lv_sub hl [0, 1, 2, 3, 4] rfl)
    exact L23 _ x7_21 x5_18 _ _ _ (by omega) (by omega) (by rw [ex7_21, ex5_18, show ((7 : Int) - 1).toNat = 6 from (by decide)]; exact hU0) (by first | (rw [if_pos (by omega)]; done) | (rw [if_neg (by omega)]; done)) (Nat.lt_succ_self _) hw ls (lv_sub hl [0, 1, 2, 3, 4] rfl)
  · refine lv_aload_n hx hb d_F_writeNumber_6 rfl (lv_at hl 0 rfl) ?_
    refine z_bi hx hb d_F_writeNumber_7 (by decide) ?_
    refine w_cvV (q0 := 2) hc hw (k_F_writeLetter _ _ (by decide) hL) yw_F_writeLetter yi_F_writeLetter lk_F_115 d_F_writeNumber_9 rfl rfl rfl rfl hl.1 (Nat.le_of_ble_eq_true rfl) ⟨Nat.le_of_ble_eq_true rfl, Nat.le_of_ble_eq_true rfl⟩ ⟨Nat.zero_le _, Nat.zero_le _⟩ (fun τ9 H locs hτ9 hw => ?_)
    subst hτ9
    refine lv_lload_n hx hb d_F_writeNumber_12 rfl (lv_at hl 1 rfl) ?_
    refine w_csR hc hw (k_JM_absL _ _ (by omega)) yw_JM_absL yi_JM_absL lk_F_94 d_F_writeNumber_13 rfl rfl hl.1 (Nat.le_of_ble_eq_true rfl) ⟨Nat.le_of_ble_eq_true rfl, Nat.le_of_ble_eq_true rfl⟩ ⟨Nat.zero_le _, Nat.zero_le _⟩ (fun τ13 H locs hτ13 hw => ?_)
    subst hτ13
    refine z_lst_n hx hb d_F_writeNumber_16 rfl hl (by decide) (fun x3_16 ex3_16 ls (hl : lv_has ls 8 [(3, .long (zL x3_16)), (0, .ref (ad 102)), (1, .long (zL z))]) => ?_)
    subst ex3_16
    refine z_lc1 hx hb d_F_writeNumber_17 ?_
    refine z_lst hx hb d_F_writeNumber_18 hl (by decide) (fun x5_18 ex5_18 ls (hl : lv_has ls 8 [(5, .long (zL x5_18)), (3, .long (zL ((z.natAbs : Nat) : Int))), (0, .ref (ad 102)), (1, .long (zL z))]) => ?_)
    refine z_ic hx hb d_F_writeNumber_20 ?_
    refine z_ist hx hb d_F_writeNumber_21 hl (by decide) (fun x7_21 ex7_21 ls (hl : lv_has ls 8 [(7, .int (zI x7_21)), (5, .long (zL x5_18)), (3, .long (zL ((z.natAbs : Nat) : Int))), (0, .ref (ad 102)), (1, .long (zL z))]) => ?_)
    have L23 : ∀ (n : Nat) (i : Int) (u : Int) (ρ : St) (H : Heap) (locs : List Loc), (1 ≤ i ∧ i ≤ 7) → (1 ≤ u ∧ u ≤ 10000000) → (U0 = unF (7 - i).toNat u ((z.natAbs : Nat) : Int)) → (ρ = (if z < 0 then wl σ 45 else σ)) → (7 - i).toNat < n → Wd D cl7 (wX ad ca) A s.heap ρ H locs → ∀ ls : Array Slot, lv_has ls 8 [(7, .int (zI i)), (5, .long (zL u)), (3, .long (zL ((z.natAbs : Nat) : Int))), (0, .ref (ad 102)), (1, .long (zL z))] → W p l e (Rmh 1) s m ([.ref (ad 102), .long (zL z)] : List Value).toArray below meth c H locs 0 0 (MQ below (Qw D cl7 (wX ad ca) A (VW (wn σ z = ·))) ([.ref (ad 102), .long (zL z)] : List Value).toArray s 0 0 A) (F0 m 23 ls []) := by
      intro n
      induction n with
      | zero => intro i u ρ H locs hi hu hN hρ hm; exact absurd hm (Nat.not_lt_zero _)
      | succ n ih23 =>
        intro i u ρ H locs hi hu hN hρ hm23 hw ls hl
        refine lv_iload hx hb d_F_writeNumber_23 (lv_at hl 0 rfl) ?_
        refine z_bi hx hb d_F_writeNumber_25 (by decide) ?_
        refine z_icmp_ge hx hb 55 d_F_writeNumber_27 (by omega) (by omega) (by decide) (fun c27 => ?_) (fun c27 => ?_)
        · have hU : U0 = u := by first | (rw [hN, show (7 - i).toNat = 0 by omega]; rfl) | (rw [hN, if_neg (by omega)])
          refine z_ic hx hb d_F_writeNumber_55 ?_
          refine z_ist hx hb d_F_writeNumber_56 hl (by decide) (fun x7_56 ex7_56 ls (hl : lv_has ls 8 [(7, .int (zI x7_56)), (5, .long (zL u)), (3, .long (zL ((z.natAbs : Nat) : Int))), (0, .ref (ad 102)), (1, .long (zL z))]) => ?_)
          have L58 : ∀ (n : Nat) (j : Int) (v : Int) (τ : St) (H : Heap) (locs : List Loc), (0 ≤ j ∧ j ≤ 7) → (0 ≤ v ∧ v ≤ 10000000) → (wn σ z = wnF (7 - j).toNat τ ((z.natAbs : Nat) : Int) v) → (0 ≤ τ 27 0 ∧ τ 27 0 ≤ 176) → (7 - j).toNat < n → Wd D cl7 (wX ad ca) A s.heap τ H locs → ∀ ls : Array Slot, lv_has ls 8 [(7, .int (zI j)), (5, .long (zL v)), (3, .long (zL ((z.natAbs : Nat) : Int))), (0, .ref (ad 102)), (1, .long (zL z))] → W p l e (Rmh 1) s m ([.ref (ad 102), .long (zL z)] : List Value).toArray below meth c H locs 0 0 (MQ below (Qw D cl7 (wX ad ca) A (VW (wn σ z = ·))) ([.ref (ad 102), .long (zL z)] : List Value).toArray s 0 0 A) (F0 m 58 ls []) := by
            intro n
            induction n with
            | zero => intro j v τ H locs hj hv hτ hτL hm; exact absurd hm (Nat.not_lt_zero _)
            | succ n ih58 =>
              intro j v τ H locs hj hv hτ hτL hm58 hw ls hl
              refine lv_iload hx hb d_F_writeNumber_58 (lv_at hl 0 rfl) ?_
              refine z_bi hx hb d_F_writeNumber_60 (by decide) ?_
              refine z_icmp_ge hx hb 104 d_F_writeNumber_62 (by omega) (by omega) (by decide) (fun c62 => ?_) (fun c62 => ?_)
              · exact w_vret hc hw (⟨rfl, by rw [hτ]; first | (rw [if_neg (by omega)]; done) | (rw [show (7 - j).toNat = 0 by omega]; rfl)⟩) d_F_writeNumber_104
              · have q : (7 - j).toNat = (7 - (j + 1)).toNat + 1 := by omega
                rw [q, wnF_s] at hτ
                have hdq : 0 ≤ ((z.natAbs : Nat) : Int) / v := Int.ediv_nonneg hnz0 hv.1
                refine lv_lload hx hb d_F_writeNumber_65 (lv_at hl 1 rfl) ?_
                refine z_lc0 hx hb d_F_writeNumber_67 ?_
                refine z_lcmp_le hx hb 104 d_F_writeNumber_68 d_F_writeNumber_69 (by omega) (by omega) (by decide) (fun c68 => ?_) (fun c68 => ?_)
                · exact w_vret hc hw (⟨rfl, by rw [hτ]; first | (rw [if_neg (by omega)]; done) | (rw [show (7 - j).toNat = 0 by omega]; rfl)⟩) d_F_writeNumber_104
                · refine lv_aload_n hx hb d_F_writeNumber_72 rfl (lv_at hl 3 rfl) ?_
                  refine z_ldc2 (n := 48) hc lk_F_125 d_F_writeNumber_73 (by decide) ?_
                  refine lv_lload_n hx hb d_F_writeNumber_76 rfl (lv_at hl 2 rfl) ?_
                  refine lv_lload hx hb d_F_writeNumber_77 (lv_at hl 1 rfl) ?_
                  refine z_ldiv hx hb d_F_writeNumber_79 (⟨⟨hnz0, by omega⟩, by omega, by omega⟩) ?_
                  refine z_ldc2 (n := 10) hc lk_F_123 d_F_writeNumber_80 (by decide) ?_
                  refine z_lrem hx hb d_F_writeNumber_83 (⟨⟨hdq, by have := Int.ediv_le_self v hnz0; omega⟩, by decide, by decide⟩) ?_
                  refine z_ladd hx hb d_F_writeNumber_84 ?_
                  refine z_l2i hx hb d_F_writeNumber_85 ?_
                  refine z_i2c hx hb d_F_writeNumber_86 (by have := Int.emod_nonneg (((z.natAbs : Nat) : Int) / v) (show (10 : Int) ≠ 0 by decide); have := Int.emod_lt_of_pos (((z.natAbs : Nat) : Int) / v) (show (0 : Int) < 10 by decide); omega) ?_
                  refine w_cvV (q0 := 2) hc hw (k_F_writeLetter _ _ (by have := Int.emod_nonneg (((z.natAbs : Nat) : Int) / v) (show (10 : Int) ≠ 0 by decide); have := Int.emod_lt_of_pos (((z.natAbs : Nat) : Int) / v) (show (0 : Int) < 10 by decide); omega) hτL) yw_F_writeLetter yi_F_writeLetter lk_F_115 d_F_writeNumber_87 rfl rfl rfl rfl hl.1 (Nat.le_of_ble_eq_true rfl) ⟨Nat.le_of_ble_eq_true rfl, Nat.le_of_ble_eq_true rfl⟩ ⟨Nat.zero_le _, Nat.zero_le _⟩ (fun τ87 H locs hτ87 hw => ?_)
                  subst hτ87
                  refine lv_lload hx hb d_F_writeNumber_90 (lv_at hl 1 rfl) ?_
                  refine z_ldc2 (n := 10) hc lk_F_123 d_F_writeNumber_92 (by decide) ?_
                  refine z_ldiv hx hb d_F_writeNumber_95 (by omega) ?_
                  refine z_lst hx hb d_F_writeNumber_96 hl (by decide) (fun x5_96 ex5_96 ls (hl : lv_has ls 8 [(5, .long (zL x5_96)), (7, .int (zI j)), (3, .long (zL ((z.natAbs : Nat) : Int))), (0, .ref (ad 102)), (1, .long (zL z))]) => ?_)
                  refine z_iinc (k := 1) hx hb d_F_writeNumber_98 hl rfl (by decide) (fun x7_98 ex7_98 ls (hl : lv_has ls 8 [(7, .int (zI x7_98)), (5, .long (zL x5_96)), (3, .long (zL ((z.natAbs : Nat) : Int))), (0, .ref (ad 102)), (1, .long (zL z))]) => ?_)
                  refine lv_goto (tgt := 58) hx hb d_F_writeNumber_101 (by decide) ?_
                  exact ih58 x7_98 x5_96 _ _ _ (by omega) (by rw [ex5_96]; omega) (by rw [hτ, if_pos c68, ex7_98, ex5_96]) (wl_bd _ hτL) (by omega) hw ls (lv_sub hl [0, 1, 2, 3, 4] rfl)
          exact L58 _ x7_56 u _ _ _ (by omega) (by omega) (by rw [ex7_56, show ((7 : Int) - 0).toNat = 7 from (by decide), ← hU, hU0, hρ]; rfl) (by rw [hρ]; first | (rw [if_pos (by omega)]; exact hwl) | (rw [if_neg (by omega)]; exact hL)) (Nat.lt_succ_self _) hw ls (lv_sub hl [0, 1, 2, 3, 4] rfl)
        · have q : (7 - i).toNat = (7 - (i + 1)).toNat + 1 := by omega
          rw [q, unF_s] at hN
          refine lv_lload hx hb d_F_writeNumber_30 (lv_at hl 1 rfl) ?_
          refine z_ldc2 (n := 10) hc lk_F_123 d_F_writeNumber_32 (by decide) ?_
          refine z_lmul hx hb d_F_writeNumber_35 ?_
          refine lv_lload_n hx hb d_F_writeNumber_36 rfl (lv_at hl 2 rfl) ?_
          refine z_lcmp_gt hx hb 55 d_F_writeNumber_37 d_F_writeNumber_38 (by omega) (by omega) (by decide) (fun c37 => ?_) (fun c37 => ?_)
          · have hU : U0 = u := by first | (rw [hN, show (7 - i).toNat = 0 by omega]; rfl) | (rw [hN, if_neg (by omega)])
            refine z_ic hx hb d_F_writeNumber_55 ?_
            refine z_ist hx hb d_F_writeNumber_56 hl (by decide) (fun x7_56 ex7_56 ls (hl : lv_has ls 8 [(7, .int (zI x7_56)), (5, .long (zL u)), (3, .long (zL ((z.natAbs : Nat) : Int))), (0, .ref (ad 102)), (1, .long (zL z))]) => ?_)
            have L58 : ∀ (n : Nat) (j : Int) (v : Int) (τ : St) (H : Heap) (locs : List Loc), (0 ≤ j ∧ j ≤ 7) → (0 ≤ v ∧ v ≤ 10000000) → (wn σ z = wnF (7 - j).toNat τ ((z.natAbs : Nat) : Int) v) → (0 ≤ τ 27 0 ∧ τ 27 0 ≤ 176) → (7 - j).toNat < n → Wd D cl7 (wX ad ca) A s.heap τ H locs → ∀ ls : Array Slot, lv_has ls 8 [(7, .int (zI j)), (5, .long (zL v)), (3, .long (zL ((z.natAbs : Nat) : Int))), (0, .ref (ad 102)), (1, .long (zL z))] → W p l e (Rmh 1) s m ([.ref (ad 102), .long (zL z)] : List Value).toArray below meth c H locs 0 0 (MQ below (Qw D cl7 (wX ad ca) A (VW (wn σ z = ·))) ([.ref (ad 102), .long (zL z)] : List Value).toArray s 0 0 A) (F0 m 58 ls []) := by
              intro n
              induction n with
              | zero => intro j v τ H locs hj hv hτ hτL hm; exact absurd hm (Nat.not_lt_zero _)
              | succ n ih58 =>
                intro j v τ H locs hj hv hτ hτL hm58 hw ls hl
                refine lv_iload hx hb d_F_writeNumber_58 (lv_at hl 0 rfl) ?_
                refine z_bi hx hb d_F_writeNumber_60 (by decide) ?_
                refine z_icmp_ge hx hb 104 d_F_writeNumber_62 (by omega) (by omega) (by decide) (fun c62 => ?_) (fun c62 => ?_)
                · exact w_vret hc hw (⟨rfl, by rw [hτ]; first | (rw [if_neg (by omega)]; done) | (rw [show (7 - j).toNat = 0 by omega]; rfl)⟩) d_F_writeNumber_104
                · have q : (7 - j).toNat = (7 - (j + 1)).toNat + 1 := by omega
                  rw [q, wnF_s] at hτ
                  have hdq : 0 ≤ ((z.natAbs : Nat) : Int) / v := Int.ediv_nonneg hnz0 hv.1
                  refine lv_lload hx hb d_F_writeNumber_65 (lv_at hl 1 rfl) ?_
                  refine z_lc0 hx hb d_F_writeNumber_67 ?_
                  refine z_lcmp_le hx hb 104 d_F_writeNumber_68 d_F_writeNumber_69 (by omega) (by omega) (by decide) (fun c68 => ?_) (fun c68 => ?_)
                  · exact w_vret hc hw (⟨rfl, by rw [hτ]; first | (rw [if_neg (by omega)]; done) | (rw [show (7 - j).toNat = 0 by omega]; rfl)⟩) d_F_writeNumber_104
                  · refine lv_aload_n hx hb d_F_writeNumber_72 rfl (lv_at hl 3 rfl) ?_
                    refine z_ldc2 (n := 48) hc lk_F_125 d_F_writeNumber_73 (by decide) ?_
                    refine lv_lload_n hx hb d_F_writeNumber_76 rfl (lv_at hl 2 rfl) ?_
                    refine lv_lload hx hb d_F_writeNumber_77 (lv_at hl 1 rfl) ?_
                    refine z_ldiv hx hb d_F_writeNumber_79 (⟨⟨hnz0, by omega⟩, by omega, by omega⟩) ?_
                    refine z_ldc2 (n := 10) hc lk_F_123 d_F_writeNumber_80 (by decide) ?_
                    refine z_lrem hx hb d_F_writeNumber_83 (⟨⟨hdq, by have := Int.ediv_le_self v hnz0; omega⟩, by decide, by decide⟩) ?_
                    refine z_ladd hx hb d_F_writeNumber_84 ?_
                    refine z_l2i hx hb d_F_writeNumber_85 ?_
                    refine z_i2c hx hb d_F_writeNumber_86 (by have := Int.emod_nonneg (((z.natAbs : Nat) : Int) / v) (show (10 : Int) ≠ 0 by decide); have := Int.emod_lt_of_pos (((z.natAbs : Nat) : Int) / v) (show (0 : Int) < 10 by decide); omega) ?_
                    refine w_cvV (q0 := 2) hc hw (k_F_writeLetter _ _ (by have := Int.emod_nonneg (((z.natAbs : Nat) : Int) / v) (show (10 : Int) ≠ 0 by decide); have := Int.emod_lt_of_pos (((z.natAbs : Nat) : Int) / v) (show (0 : Int) < 10 by decide); omega) hτL) yw_F_writeLetter yi_F_writeLetter lk_F_115 d_F_writeNumber_87 rfl rfl rfl rfl hl.1 (Nat.le_of_ble_eq_true rfl) ⟨Nat.le_of_ble_eq_true rfl, Nat.le_of_ble_eq_true rfl⟩ ⟨Nat.zero_le _, Nat.zero_le _⟩ (fun τ87 H locs hτ87 hw => ?_)
                    subst hτ87
                    refine lv_lload hx hb d_F_writeNumber_90 (lv_at hl 1 rfl) ?_
                    refine z_ldc2 (n := 10) hc lk_F_123 d_F_writeNumber_92 (by decide) ?_
                    refine z_ldiv hx hb d_F_writeNumber_95 (by omega) ?_
                    refine z_lst hx hb d_F_writeNumber_96 hl (by decide) (fun x5_96 ex5_96 ls (hl : lv_has ls 8 [(5, .long (zL x5_96)), (7, .int (zI j)), (3, .long (zL ((z.natAbs : Nat) : Int))), (0, .ref (ad 102)), (1, .long (zL z))]) => ?_)
                    refine z_iinc (k := 1) hx hb d_F_writeNumber_98 hl rfl (by decide) (fun x7_98 ex7_98 ls (hl : lv_has ls 8 [(7, .int (zI x7_98)), (5, .long (zL x5_96)), (3, .long (zL ((z.natAbs : Nat) : Int))), (0, .ref (ad 102)), (1, .long (zL z))]) => ?_)
                    refine lv_goto (tgt := 58) hx hb d_F_writeNumber_101 (by decide) ?_
                    exact ih58 x7_98 x5_96 _ _ _ (by omega) (by rw [ex5_96]; omega) (by rw [hτ, if_pos c68, ex7_98, ex5_96]) (wl_bd _ hτL) (by omega) hw ls (lv_sub hl [0, 1, 2, 3, 4] rfl)
            exact L58 _ x7_56 u _ _ _ (by omega) (by omega) (by rw [ex7_56, show ((7 : Int) - 0).toNat = 7 from (by decide), ← hU, hU0, hρ]; rfl) (by rw [hρ]; first | (rw [if_pos (by omega)]; exact hwl) | (rw [if_neg (by omega)]; exact hL)) (Nat.lt_succ_self _) hw ls (lv_sub hl [0, 1, 2, 3, 4] rfl)
          · refine lv_lload hx hb d_F_writeNumber_41 (lv_at hl 1 rfl) ?_
            refine z_ldc2 (n := 10) hc lk_F_123 d_F_writeNumber_43 (by decide) ?_
            refine z_lmul hx hb d_F_writeNumber_46 ?_
            refine z_lst hx hb d_F_writeNumber_47 hl (by decide) (fun x5_47 ex5_47 ls (hl : lv_has ls 8 [(5, .long (zL x5_47)), (7, .int (zI i)), (3, .long (zL ((z.natAbs : Nat) : Int))), (0, .ref (ad 102)), (1, .long (zL z))]) => ?_)
            refine z_iinc (k := 1) hx hb d_F_writeNumber_49 hl rfl (by decide) (fun x7_49 ex7_49 ls (hl : lv_has ls 8 [(7, .int (zI x7_49)), (5, .long (zL x5_47)), (3, .long (zL ((z.natAbs : Nat) : Int))), (0, .ref (ad 102)), (1, .long (zL z))]) => ?_)
            refine lv_goto (tgt := 23) hx hb d_F_writeNumber_52 (by decide) ?_
            exact ih23 x7_49 x5_47 _ _ _ (by omega) (by omega) (by rw [hN, if_pos (by omega), ex7_49, ex5_47]) (hρ) (by omega) hw ls (lv_sub hl [0, 1, 2, 3, 4] rfl)
    exact L23 _ x7_21 x5_18 _ _ _ (by omega) (by omega) (by rw [ex7_21, ex5_18, show ((7 : Int) - 1).toNat = 6 from (by decide)]; exact hU0) (by first | (rw [if_pos (by omega)]; done) | (rw [if_neg (by omega)]; done)) (Nat.lt_succ_self _) hw ls (lv_sub hl [0, 1, 2, 3, 4] rfl)
set_option maxHeartbeats 400000 in
set_option maxRecDepth 100000 in
theorem k_F_writeText {l : Launch} {D : va_G} {ad : Nat → Nat} {ca : Nat → ClassId} (σ : St) (hI : IB σ) (hn : 0 ≤ σ 25 0 ∧ σ 25 0 ≤ 8) (hP : ∀ i, 0 ≤ i → i < σ 25 0 → 0 ≤ σ 23 i ∧ σ 23 i < 36) : Cw l D cl7 (tyX ca) (wX ad ca) y_F_writeText c_F_writeText 4 none 2 [.ref (ad 102), .ref (ad 101)] σ (VW (wtF σ (σ 25 0).toNat = ·)) := by
  refine Cw.enter (by decide) (Nat.le_of_ble_eq_true rfl) ?_
  intro A p e s m below meth c hc ls hl hw
  have hl : lv_has ls 4 [(0, .ref (ad 102)), (1, .ref (ad 101))] := hl
  obtain ⟨hx, hb, hml, hown, hTB, hK, hr, hlk⟩ := id hc
  refine lv_aload_n hx hb d_F_writeText_0 rfl (lv_at hl 0 rfl) ?_
  refine z_ic hx hb d_F_writeText_1 ?_
  refine pX_F_length hc hw lk_F_65 d_F_writeText_2 (fun H locs hw => ?_)
  refine z_ic hx hb d_F_writeText_5 ?_
  refine z_ist_n hx hb d_F_writeText_6 rfl hl (by decide) (fun x2_6 ex2_6 ls (hl : lv_has ls 4 [(2, .int (zI x2_6)), (0, .ref (ad 102)), (1, .ref (ad 101))]) => ?_)
  have L7 : ∀ (n : Nat) (i : Int) (τ : St) (H : Heap) (locs : List Loc), (0 ≤ i ∧ i ≤ σ 25 0) → (τ = wtF σ i.toNat) → (σ 25 0 - i).toNat < n → Wd D cl7 (wX ad ca) A s.heap τ H locs → ∀ ls : Array Slot, lv_has ls 4 [(2, .int (zI i)), (0, .ref (ad 102)), (1, .ref (ad 101))] → W p l e (Rmh 2) s m ([.ref (ad 102), .ref (ad 101)] : List Value).toArray below meth c H locs 0 0 (MQ below (Qw D cl7 (wX ad ca) A (VW (wtF σ (σ 25 0).toNat = ·))) ([.ref (ad 102), .ref (ad 101)] : List Value).toArray s 0 0 A) (F0 m 7 ls []) := by
    intro n
    induction n with
    | zero => intro i τ H locs hi hτ hm; exact absurd hm (Nat.not_lt_zero _)
    | succ n ih7 =>
      intro i τ H locs hi hτ hm7 hw ls hl
      subst hτ
      have ei : ((i.toNat : Nat) : Int) = i := Int.toNat_of_nonneg hi.1
      have e25 : wtF σ i.toNat 25 0 = σ 25 0 := by rw [wtF_o σ _ 25 (by decide)]
      have e23 : wtF σ i.toNat 23 i = σ 23 i := by rw [wtF_o σ _ 23 (by decide)]
      have hb0 := wtF_bd σ i.toNat
      have hb1 := wl_bd 112 hb0
      have hb2 := wn_bd (wtF σ i.toNat 23 i) hb1
      have hb3 := wl_bd 32 hb2
      have hb4 := wn_bd (wtF σ i.toNat 3 (wtF σ i.toNat 23 i)) hb3
      have hb5 := wl_bd 32 hb4
      have hb6 := wn_bd (wtF σ i.toNat 4 (wtF σ i.toNat 23 i)) hb5
      refine lv_iload_n hx hb d_F_writeText_7 rfl (lv_at hl 0 rfl) ?_
      refine lv_aload_n hx hb d_F_writeText_8 rfl (lv_at hl 1 rfl) ?_
      refine gX_F_probeCount hc hw lk_F_58 d_F_writeText_9 ?_
      refine z_icmp_ge hx hb 78 d_F_writeText_12 (by omega) (by omega) (by decide) (fun c12 => ?_) (fun c12 => ?_)
      · exact w_vret hc hw (⟨rfl, by rw [show i = σ 25 0 by omega]⟩) d_F_writeText_78
      · have hPi := hP i hi.1 (by omega)
        refine lv_aload_n hx hb d_F_writeText_15 rfl (lv_at hl 1 rfl) ?_
        refine gX_F_sorted hc hw lk_F_21 d_F_writeText_16 ?_
        refine lv_iload_n hx hb d_F_writeText_19 rfl (lv_at hl 0 rfl) ?_
        refine ldX_F_sorted hc hw d_F_writeText_20 (by omega) ?_
        refine z_ist_n hx hb d_F_writeText_21 rfl hl (by decide) (fun x3_21 ex3_21 ls (hl : lv_has ls 4 [(3, .int (zI x3_21)), (2, .int (zI i)), (0, .ref (ad 102)), (1, .ref (ad 101))]) => ?_)
        subst ex3_21
        refine lv_aload_n hx hb d_F_writeText_22 rfl (lv_at hl 2 rfl) ?_
        refine z_bi hx hb d_F_writeText_23 (by decide) ?_
        refine w_cvV (q0 := 2) hc hw (k_F_writeLetter _ _ (by decide) hb0) yw_F_writeLetter yi_F_writeLetter lk_F_115 d_F_writeText_25 rfl rfl rfl rfl hl.1 (Nat.le_of_ble_eq_true rfl) ⟨Nat.le_of_ble_eq_true rfl, Nat.le_of_ble_eq_true rfl⟩ ⟨Nat.zero_le _, Nat.zero_le _⟩ (fun τ25 H locs hτ25 hw => ?_)
        subst hτ25
        refine lv_aload_n hx hb d_F_writeText_28 rfl (lv_at hl 2 rfl) ?_
        refine lv_iload_n hx hb d_F_writeText_29 rfl (lv_at hl 0 rfl) ?_
        refine z_i2l hx hb d_F_writeText_30 (by omega) ?_
        refine w_cvV (q0 := 2) hc hw (k_F_writeNumber _ _ (by omega) hb1) yw_F_writeNumber yi_F_writeNumber lk_F_119 d_F_writeText_31 rfl rfl rfl rfl hl.1 (Nat.le_of_ble_eq_true rfl) ⟨Nat.le_of_ble_eq_true rfl, Nat.le_of_ble_eq_true rfl⟩ ⟨Nat.zero_le _, Nat.zero_le _⟩ (fun τ31 H locs hτ31 hw => ?_)
        subst hτ31
        refine lv_aload_n hx hb d_F_writeText_34 rfl (lv_at hl 2 rfl) ?_
        refine z_bi hx hb d_F_writeText_35 (by decide) ?_
        refine w_cvV (q0 := 2) hc hw (k_F_writeLetter _ _ (by decide) hb2) yw_F_writeLetter yi_F_writeLetter lk_F_115 d_F_writeText_37 rfl rfl rfl rfl hl.1 (Nat.le_of_ble_eq_true rfl) ⟨Nat.le_of_ble_eq_true rfl, Nat.le_of_ble_eq_true rfl⟩ ⟨Nat.zero_le _, Nat.zero_le _⟩ (fun τ37 H locs hτ37 hw => ?_)
        subst hτ37
        refine lv_aload_n hx hb d_F_writeText_40 rfl (lv_at hl 2 rfl) ?_
        refine lv_aload_n hx hb d_F_writeText_41 rfl (lv_at hl 3 rfl) ?_
        refine gnX_B_xs hc hw lk_F_91 d_F_writeText_42 ?_
        refine lv_iload_n hx hb d_F_writeText_45 rfl (lv_at hl 0 rfl) ?_
        refine ldX_B_xs hc hw d_F_writeText_46 (by omega) ?_
        have ex3 : ∀ j, (wl (wn (wl (wtF σ i.toNat) 112) (wtF σ i.toNat 23 i)) 32) 3 j = σ 3 j := fun j => by rw [wl_o _ _ _ (by decide), wn_o _ _ _ (by decide), wl_o _ _ _ (by decide), wtF_o σ _ 3 (by decide)]
        rw [show wl (wn (wl (wtF σ i.toNat) 112) (wtF σ i.toNat 23 i)) 32 3 = wtF σ i.toNat 3 from by rw [wl_o _ _ _ (by decide), wn_o _ _ _ (by decide), wl_o _ _ _ (by decide)]]
        refine w_cvV (q0 := 2) hc hw (k_F_writeNumber _ _ (by have := hI.2.2.2.1 (wtF σ i.toNat 23 i); rw [wtF_o σ _ 3 (by decide)]; omega) hb3) yw_F_writeNumber yi_F_writeNumber lk_F_119 d_F_writeText_47 rfl rfl rfl rfl hl.1 (Nat.le_of_ble_eq_true rfl) ⟨Nat.le_of_ble_eq_true rfl, Nat.le_of_ble_eq_true rfl⟩ ⟨Nat.zero_le _, Nat.zero_le _⟩ (fun τ47 H locs hτ47 hw => ?_)
        subst hτ47
        refine lv_aload_n hx hb d_F_writeText_50 rfl (lv_at hl 2 rfl) ?_
        refine z_bi hx hb d_F_writeText_51 (by decide) ?_
        refine w_cvV (q0 := 2) hc hw (k_F_writeLetter _ _ (by decide) hb4) yw_F_writeLetter yi_F_writeLetter lk_F_115 d_F_writeText_53 rfl rfl rfl rfl hl.1 (Nat.le_of_ble_eq_true rfl) ⟨Nat.le_of_ble_eq_true rfl, Nat.le_of_ble_eq_true rfl⟩ ⟨Nat.zero_le _, Nat.zero_le _⟩ (fun τ53 H locs hτ53 hw => ?_)
        subst hτ53
        refine lv_aload_n hx hb d_F_writeText_56 rfl (lv_at hl 2 rfl) ?_
        refine lv_aload_n hx hb d_F_writeText_57 rfl (lv_at hl 3 rfl) ?_
        refine gnX_B_ys hc hw lk_F_100 d_F_writeText_58 ?_
        refine lv_iload_n hx hb d_F_writeText_61 rfl (lv_at hl 0 rfl) ?_
        refine ldX_B_ys hc hw d_F_writeText_62 (by omega) ?_
        rw [show wl (wn (wl (wn (wl (wtF σ i.toNat) 112) (wtF σ i.toNat 23 i)) 32) (wtF σ i.toNat 3 (wtF σ i.toNat 23 i))) 32 4 = wtF σ i.toNat 4 from by rw [wl_o _ _ _ (by decide), wn_o _ _ _ (by decide), wl_o _ _ _ (by decide), wn_o _ _ _ (by decide), wl_o _ _ _ (by decide)]]
        refine w_cvV (q0 := 2) hc hw (k_F_writeNumber _ _ (by have := hI.2.2.2.2.1 (wtF σ i.toNat 23 i); rw [wtF_o σ _ 4 (by decide)]; omega) hb5) yw_F_writeNumber yi_F_writeNumber lk_F_119 d_F_writeText_63 rfl rfl rfl rfl hl.1 (Nat.le_of_ble_eq_true rfl) ⟨Nat.le_of_ble_eq_true rfl, Nat.le_of_ble_eq_true rfl⟩ ⟨Nat.zero_le _, Nat.zero_le _⟩ (fun τ63 H locs hτ63 hw => ?_)
        subst hτ63
        refine lv_aload_n hx hb d_F_writeText_66 rfl (lv_at hl 2 rfl) ?_
        refine z_bi hx hb d_F_writeText_67 (by decide) ?_
        refine w_cvV (q0 := 2) hc hw (k_F_writeLetter _ _ (by decide) hb6) yw_F_writeLetter yi_F_writeLetter lk_F_115 d_F_writeText_69 rfl rfl rfl rfl hl.1 (Nat.le_of_ble_eq_true rfl) ⟨Nat.le_of_ble_eq_true rfl, Nat.le_of_ble_eq_true rfl⟩ ⟨Nat.zero_le _, Nat.zero_le _⟩ (fun τ69 H locs hτ69 hw => ?_)
        subst hτ69
        refine z_iinc (k := 1) hx hb d_F_writeText_72 hl rfl (by decide) (fun x2_72 ex2_72 ls (hl : lv_has ls 4 [(2, .int (zI x2_72)), (3, .int (zI (wtF σ i.toNat 23 i))), (0, .ref (ad 102)), (1, .ref (ad 101))]) => ?_)
        refine lv_goto (tgt := 7) hx hb d_F_writeText_75 (by decide) ?_
        exact ih7 x2_72 _ _ _ (by omega) (by rw [show x2_72.toNat = i.toNat + 1 from (by omega)]; simp only [wtF, ei]; rfl) (by omega) hw ls (lv_sub hl [0, 2, 3] rfl)
  exact L7 _ x2_6 _ _ _ (by omega) (by rw [ex2_6]; rfl) (Nat.lt_succ_self _) hw ls (lv_sub hl [0, 1, 2] rfl)
end
section
/-! the fixture: copies, the flight, the order, all of it -/
theorem ac_s : Cond.static arraycopyName ∈ lw_gd := gd_at 463 (by decide +kernel) (by decide +kernel)
theorem ac_n : Cond.native arraycopyName ∈ lw_gd := gd_at 464 (by decide +kernel) (by decide +kernel)
theorem ac_i : Cond.initialized "java/lang/System" ∈ lw_gd := gd_at 14 (by decide +kernel) (by decide +kernel)
theorem lk_S_109 : Cond.methodLink "ProbeChoice$Search" 109 arraycopyName ∈ lw_gd := gd_at 462 (by decide +kernel) (by decide +kernel)
theorem lk_F_77 : Cond.methodLink "ProbeChoice$Fixture" 77 arraycopyName ∈ lw_gd := gd_at 481 (by decide +kernel) (by decide +kernel)
def cpS (σ : St) (f t : Nat) (n : Int) : St := fun g j => if g = t ∧ 0 ≤ j ∧ j < n then σ f j else σ g j
theorem cpS_o (σ : St) (f t : Nat) (n : Int) {g : Nat} (h : g ≠ t) : cpS σ f t n g = σ g := by
  funext j; unfold cpS; rw [if_neg (fun q => h q.1)]
theorem cpS_i (σ : St) (f t : Nat) (n : Int) {j : Int} (h0 : 0 ≤ j) (h : j < n) : cpS σ f t n t j = σ f j := by
  unfold cpS; rw [if_pos ⟨rfl, h0, h⟩]
theorem cpy_z {σ : St} {f t : Nat} {n : Int} (h : 0 ≤ n) (h2 : n < 2147483648) : va_cpy (fun k : Nat => zI (σ f k)) (fun k : Nat => zI (σ t k)) (zI 0).toNatClampNeg (zI 0).toNatClampNeg (zI n).toNatClampNeg = fun k : Nat => zI (cpS σ f t n t k) := by
  have e0 : (zI 0).toNatClampNeg = 0 := rfl
  rw [e0, zI_cl h h2]
  funext k
  unfold va_cpy cpS
  by_cases q : (k : Int) < n
  · rw [if_pos (by omega), if_pos ⟨rfl, by omega, q⟩]
    show zI (σ f ((0 + (k - 0) : Nat) : Int)) = _
    rw [Nat.zero_add, Nat.sub_zero]
  · rw [if_neg (by omega), if_neg (fun z => q z.2.2)]
section CP
variable {p : Program} {l : Launch} {e : Env} {R : Room} {s : State} {m : MethodId} {args : Array Value} {below : List Frame} {meth : Method} {c : Code} {H : Heap} {locs : List Loc} {cells slots : Nat} {Q : State → Prop}
variable {cc : ByteArray} {pc nL : Nat} {own : String} {ret : Option FieldType} {ls : Array Slot} {rest : List Value} {D : va_G} {ad : Nat → Nat} {ca : Nat → ClassId} {A : Nat → Prop} {σ : St}
theorem cpX_20_22 (hc : Cx p s m args c cc nL own meth ret D cl7 (tyX ca)) (hw : Wd D cl7 (wX ad ca) A s.heap σ H locs) (hl : ls.size = nL) {index : Nat} {n : Int} (lk : Cond.methodLink own index arraycopyName ∈ lw_gd) (d : decode cc pc = .ok (.invokestatic index, 3)) (hn : 0 ≤ n ∧ n ≤ 8) (hf : 1 ≤ R.frames) (hlo : (rest.map fun v => v.category).sum + (nativeFrameWords "java/lang/System" "arraycopy" 5 + 11) ≤ R.locals) (k : ∀ (H1 : Heap) (locs1 : List Loc), Wd D cl7 (wX ad ca) A s.heap (cpS σ 20 22 n) H1 locs1 → W p l e R s m args below meth c H1 locs1 cells slots Q (F0 m (pc + 3) ls rest)) : W p l e R s m args below meth c H locs cells slots Q (F0 m pc ls (.int (zI n) :: .int (zI 0) :: .ref (ad 22) :: .int (zI 0) :: .ref (ad 20) :: rest)) := by
  obtain ⟨hx, hb, hml, hown, hTB, hK, -, -⟩ := hc
  refine va_copyi (D := D) hx hb (hml.trans hl.symm) hown (hTB.hts args _ lk) (hTB.hts args _ ac_n) (hTB.hts args _ ac_s) (hTB.hts args _ ac_i) hK hw.1 hw.2.1 hw.2.2 13 15 7 9 rfl rfl rfl rfl rfl (by decide) (by decide) (fun q => by have := (zI_lt0 (a := n) ⟨by omega, by omega⟩).mp q; omega) (by rw [zI_cl hn.1 (by omega), show (zI 0).toNatClampNeg = 0 from rfl]; omega) (by rw [zI_cl hn.1 (by omega), show (zI 0).toNatClampNeg = 0 from rfl]; omega) (fun _ _ => rfl) hf hlo d (fun H1 locs1 hP hD hS => ?_)
  rw [cpy_z hn.1 (by omega)] at hP hD
  refine k H1 locs1 ⟨?_, ?_, hS⟩
  · exact hP
  · exact hD
theorem cpX_15_16 (hc : Cx p s m args c cc nL own meth ret D cl7 (tyX ca)) (hw : Wd D cl7 (wX ad ca) A s.heap σ H locs) (hl : ls.size = nL) {index : Nat} {n : Int} (lk : Cond.methodLink own index arraycopyName ∈ lw_gd) (d : decode cc pc = .ok (.invokestatic index, 3)) (hn : 0 ≤ n ∧ n ≤ 8) (hf : 1 ≤ R.frames) (hlo : (rest.map fun v => v.category).sum + (nativeFrameWords "java/lang/System" "arraycopy" 5 + 11) ≤ R.locals) (k : ∀ (H1 : Heap) (locs1 : List Loc), Wd D cl7 (wX ad ca) A s.heap (cpS σ 15 16 n) H1 locs1 → W p l e R s m args below meth c H1 locs1 cells slots Q (F0 m (pc + 3) ls rest)) : W p l e R s m args below meth c H locs cells slots Q (F0 m pc ls (.int (zI n) :: .int (zI 0) :: .ref (ad 16) :: .int (zI 0) :: .ref (ad 15) :: rest)) := by
  obtain ⟨hx, hb, hml, hown, hTB, hK, -, -⟩ := hc
  refine va_copyi (D := D) hx hb (hml.trans hl.symm) hown (hTB.hts args _ lk) (hTB.hts args _ ac_n) (hTB.hts args _ ac_s) (hTB.hts args _ ac_i) hK hw.1 hw.2.1 hw.2.2 32 33 26 27 rfl rfl rfl rfl rfl (by decide) (by decide) (fun q => by have := (zI_lt0 (a := n) ⟨by omega, by omega⟩).mp q; omega) (by rw [zI_cl hn.1 (by omega), show (zI 0).toNatClampNeg = 0 from rfl]; omega) (by rw [zI_cl hn.1 (by omega), show (zI 0).toNatClampNeg = 0 from rfl]; omega) (fun _ _ => rfl) hf hlo d (fun H1 locs1 hP hD hS => ?_)
  rw [cpy_z hn.1 (by omega)] at hP hD
  refine k H1 locs1 ⟨?_, ?_, hS⟩
  · exact hP
  · exact hD
end CP
theorem IB_of {σ τ : St} (h : ∀ g, g < 10 → τ g = σ g) (hI : IB σ) : IB τ := by
  unfold IB at *
  rw [h 0 (by decide), h 1 (by decide), h 2 (by decide), h 3 (by decide), h 4 (by decide), h 5 (by decide), h 6 (by decide), h 7 (by decide), h 8 (by decide), h 9 (by decide)]
  exact hI
/-- one flight: the state, the place -/
def pfN (cnt : Int) (t : St × Int × Int) (n : Int) : St × Int × Int :=
  (up (up (up t.1 22 (pnF t.1 t.2.1 t.2.2 (cnt - (n + 1)).toNat (n + 1) n) (t.1 22 n)) 22 n (t.1 22 (pnF t.1 t.2.1 t.2.2 (cnt - (n + 1)).toNat (n + 1) n))) 28 0
     (t.1 28 0 + max ((t.1 3 (t.1 22 (pnF t.1 t.2.1 t.2.2 (cnt - (n + 1)).toNat (n + 1) n)) - t.2.1).natAbs : Int) ((t.1 4 (t.1 22 (pnF t.1 t.2.1 t.2.2 (cnt - (n + 1)).toNat (n + 1) n)) - t.2.2).natAbs : Int)),
   t.1 3 (t.1 22 (pnF t.1 t.2.1 t.2.2 (cnt - (n + 1)).toNat (n + 1) n)), t.1 4 (t.1 22 (pnF t.1 t.2.1 t.2.2 (cnt - (n + 1)).toNat (n + 1) n)))
def pf (σ : St) : Nat → St × Int × Int
  | 0 => (up (cpS σ 20 22 (σ 25 0)) 28 0 0, 0, 0)
  | n + 1 => pfN (σ 25 0) (pf σ n) n
theorem pf_s (σ : St) (n : Nat) : pf σ (n + 1) = pfN (σ 25 0) (pf σ n) n := rfl
/-- the point q goes into the sorted at or before a -/
def insF (q : Int) : Nat → St → St
  | 0, τ => up τ 23 0 q
  | a + 1, τ => if befP τ q (τ 23 a) then insF q a (up τ 23 ((a : Int) + 1) (τ 23 a)) else up τ 23 ((a : Int) + 1) q
theorem insF_s (q : Int) (a : Nat) (τ : St) : insF q (a + 1) τ = if befP τ q (τ 23 a) then insF q a (up τ 23 ((a : Int) + 1) (τ 23 a)) else up τ 23 ((a : Int) + 1) q := rfl
def so (σ : St) : Nat → St
  | 0 => σ
  | n + 1 => insF (so σ n 20 n) n (so σ n)
theorem insF_o (q : Int) : ∀ (a : Nat) (τ : St) (g : Nat), g ≠ 23 → insF q a τ g = τ g
  | 0, τ, g, h => up_f _ _ _ h
  | a + 1, τ, g, h => by
    unfold insF; split
    · rw [insF_o q a _ g h, up_f _ _ _ h]
    · exact up_f _ _ _ h
theorem so_o (σ : St) (n g : Nat) (h : g ≠ 23) : so σ n g = σ g := by
  induction n with
  | zero => rfl
  | succ n ih => unfold so; rw [insF_o _ _ _ _ h, ih]
theorem tk_pr {σ : St} (n : Nat) (hB : ∀ i, 0 ≤ i → i < (n : Int) → σ 16 i = -1 ∨ (0 ≤ σ 16 i ∧ σ 16 i < 36)) : ∀ j, 0 ≤ j → j < tk σ n 25 0 → 0 ≤ tk σ n 20 j ∧ tk σ n 20 j < 36 := by
  induction n with
  | zero => intro j h0 h1; have : tk σ 0 25 0 = 0 := by simp [tk, up]
            omega
  | succ n ih =>
    have ih := ih (fun i h0 h1 => hB i h0 (by omega))
    have hbn := hB n (by omega) (by omega)
    have e16 : tk σ n 16 n = σ 16 n := by rw [tk_o σ n 16 (by decide)]
    intro j h0 h1
    unfold tk at h1 ⊢
    split at h1
    · rename_i hc
      rw [if_pos hc, up_o _ _ _ _ (by decide), up_o _ _ _ _ (by decide)]
      rw [up_o _ _ _ _ (by decide), up_o _ _ _ _ (by decide)] at h1
      exact ih j h0 h1
    · rename_i hc
      rw [if_neg hc, up_o _ _ _ _ (by decide)]
      rw [up_s] at h1
      by_cases q : j = tk σ n 25 0
      · rw [q, up_s]; omega
      · rw [up_n _ _ _ q]; exact ih j h0 (by omega)
theorem pf_o (σ : St) (n g : Nat) (h : g ≠ 22 ∧ g ≠ 28) : (pf σ n).1 g = σ g := by
  induction n with
  | zero => show up (cpS σ 20 22 (σ 25 0)) 28 0 0 g = _; rw [up_f _ _ _ h.2, cpS_o _ _ _ _ h.1]
  | succ n ih => rw [pf_s]; unfold pfN; show up (up (up _ 22 _ _) 22 _ _) 28 0 _ g = _; rw [up_f _ _ _ h.2, up_f _ _ _ h.1, up_f _ _ _ h.1, ih]
theorem insF_in (q : Int) (hq : 0 ≤ q ∧ q < 36) : ∀ (a : Nat) (τ : St), (∀ j, 0 ≤ j → j < (a : Int) → 0 ≤ τ 23 j ∧ τ 23 j < 36) → ∀ j, 0 ≤ j → j ≤ (a : Int) → 0 ≤ insF q a τ 23 j ∧ insF q a τ 23 j < 36
  | 0, τ, h, j, h0, h1 => by have : j = 0 := by omega
                             subst this; unfold insF; rw [up_s]; exact hq
  | a + 1, τ, h, j, h0, h1 => by
    unfold insF
    split
    · by_cases z : j ≤ (a : Int)
      · exact insF_in q hq a _ (fun i h2 h3 => by rw [up_n _ _ _ (by omega)]; exact h i h2 (by omega)) j h0 z
      · have e : j = (a : Int) + 1 := by omega
        subst e
        have : ∀ (b : Nat) (τ : St) (i : Int), (b : Int) < i → insF q b τ 23 i = τ 23 i := by
          intro b
          induction b with
          | zero => intro τ i hi; unfold insF; exact up_n _ _ _ (by omega)
          | succ b ih => intro τ i hi; unfold insF; split
                         · rw [ih _ _ (by omega), up_n _ _ _ (by omega)]
                         · exact up_n _ _ _ (by omega)
        rw [this a _ _ (by omega), up_s]
        exact h a (by omega) (by omega)
    · by_cases z : j = (a : Int) + 1
      · rw [z, up_s]; exact hq
      · rw [up_n _ _ _ z]; exact h j h0 (by omega)
theorem so_in {σ : St} (n : Nat) (hP : ∀ i, 0 ≤ i → i < (n : Int) → 0 ≤ σ 20 i ∧ σ 20 i < 36) : ∀ j, 0 ≤ j → j < (n : Int) → 0 ≤ so σ n 23 j ∧ so σ n 23 j < 36 := by
  induction n with
  | zero => intro j h0 h1; omega
  | succ n ih =>
    intro j h0 h1
    unfold so
    refine insF_in _ (by rw [so_o σ n 20 (by decide)]; exact hP n (by omega) (by omega)) n _ (ih (fun i a b => hP i a (by omega))) j h0 (by omega)
def fB1 (σ : St) : St := up σ 29 0 (bI (σ 17 0 = cntM σ (σ 7 0).toNat))
def fB2 (σ : St) : St := tk (fB1 σ) (σ 17 0).toNat
def fB3 (σ : St) : St := (pf (fB2 σ) (fB2 σ 25 0).toNat).1
def fB4 (σ : St) : St := so (fB3 σ) (fB3 σ 25 0).toNat
/-- the fixture is built -/
def fB (σ : St) : St := wtF (fB4 σ) (fB4 σ 25 0).toNat
end
section
set_option maxHeartbeats 400000 in
set_option maxRecDepth 100000 in
theorem k_F_planFlight {l : Launch} {D : va_G} {ad : Nat → Nat} {ca : Nat → ClassId} (σ : St) (hI : IB σ) (hn : 0 ≤ σ 25 0 ∧ σ 25 0 ≤ 8) (hP : ∀ i, 0 ≤ i → i < σ 25 0 → 0 ≤ σ 20 i ∧ σ 20 i < 36) : Cw l D cl7 (tyX ca) (wX ad ca) y_F_planFlight c_F_planFlight 9 none 2 [.ref (ad 102), .ref (ad 101)] σ (VW ((pf σ (σ 25 0).toNat).1 = ·)) := by
  refine Cw.enter (by decide) (Nat.le_of_ble_eq_true rfl) ?_
  intro A p e s m below meth c hc ls hl hw
  have hl : lv_has ls 9 [(0, .ref (ad 102)), (1, .ref (ad 101))] := hl
  obtain ⟨hx, hb, hml, hown, hTB, hK, hr, hlk⟩ := id hc
  refine lv_aload_n hx hb d_F_planFlight_0 rfl (lv_at hl 0 rfl) ?_
  refine gX_F_probes hc hw lk_F_9 d_F_planFlight_1 ?_
  refine z_ic hx hb d_F_planFlight_4 ?_
  refine lv_aload_n hx hb d_F_planFlight_5 rfl (lv_at hl 0 rfl) ?_
  refine gX_F_flown hc hw lk_F_18 d_F_planFlight_6 ?_
  refine z_ic hx hb d_F_planFlight_9 ?_
  refine lv_aload_n hx hb d_F_planFlight_10 rfl (lv_at hl 0 rfl) ?_
  refine gX_F_probeCount hc hw lk_F_58 d_F_planFlight_11 ?_
  refine cpX_20_22 hc hw hl.1 lk_F_77 d_F_planFlight_14 (by omega) (Nat.le_of_ble_eq_true rfl) (Nat.le_of_ble_eq_true rfl) (fun H locs hw => ?_)
  refine lv_aload_n hx hb d_F_planFlight_17 rfl (lv_at hl 0 rfl) ?_
  refine z_lc0 hx hb d_F_planFlight_18 ?_
  refine pX_F_flightTime hc hw lk_F_83 d_F_planFlight_19 (fun H locs hw => ?_)
  refine z_lc0 hx hb d_F_planFlight_22 ?_
  refine z_lst_n hx hb d_F_planFlight_23 rfl hl (by decide) (fun x2_23 ex2_23 ls (hl : lv_has ls 9 [(2, .long (zL x2_23)), (0, .ref (ad 102)), (1, .ref (ad 101))]) => ?_)
  refine z_lc0 hx hb d_F_planFlight_24 ?_
  refine z_lst hx hb d_F_planFlight_25 hl (by decide) (fun x4_25 ex4_25 ls (hl : lv_has ls 9 [(4, .long (zL x4_25)), (2, .long (zL x2_23)), (0, .ref (ad 102)), (1, .ref (ad 101))]) => ?_)
  refine z_ic hx hb d_F_planFlight_27 ?_
  refine z_ist hx hb d_F_planFlight_28 hl (by decide) (fun x6_28 ex6_28 ls (hl : lv_has ls 9 [(6, .int (zI x6_28)), (4, .long (zL x4_25)), (2, .long (zL x2_23)), (0, .ref (ad 102)), (1, .ref (ad 101))]) => ?_)
  have L30 : ∀ (n : Nat) (i : Int) (x : Int) (y : Int) (τ : St) (H : Heap) (locs : List Loc), (0 ≤ i ∧ i ≤ σ 25 0) → ((τ, x, y) = pf σ i.toNat) → (-1000000 ≤ x ∧ x ≤ 1000000) → (-1000000 ≤ y ∧ y ≤ 1000000) → (∀ j, 0 ≤ j → j < σ 25 0 → 0 ≤ τ 22 j ∧ τ 22 j < 36) → (∀ g, g ≠ 22 → g ≠ 28 → τ g = σ g) → (σ 25 0 - i).toNat < n → Wd D cl7 (wX ad ca) A s.heap τ H locs → ∀ ls : Array Slot, lv_has ls 9 [(6, .int (zI i)), (2, .long (zL x)), (4, .long (zL y)), (0, .ref (ad 102)), (1, .ref (ad 101))] → W p l e (Rmh 2) s m ([.ref (ad 102), .ref (ad 101)] : List Value).toArray below meth c H locs 0 0 (MQ below (Qw D cl7 (wX ad ca) A (VW ((pf σ (σ 25 0).toNat).1 = ·))) ([.ref (ad 102), .ref (ad 101)] : List Value).toArray s 0 0 A) (F0 m 30 ls []) := by
    intro n
    induction n with
    | zero => intro i x y τ H locs hi hτ hx2 hy2 hF ho hm; exact absurd hm (Nat.not_lt_zero _)
    | succ n ih30 =>
      intro i x y τ H locs hi hτ hx2 hy2 hF ho hm30 hw ls hl
      have ei : ((i.toNat : Nat) : Int) = i := Int.toNat_of_nonneg hi.1
      have e25 : τ 25 0 = σ 25 0 := by rw [ho 25 (by decide) (by decide)]
      have hIτ : IB τ := IB_of (fun g hg => ho g (by omega) (by omega)) hI
      refine lv_iload hx hb d_F_planFlight_30 (lv_at hl 0 rfl) ?_
      refine lv_aload_n hx hb d_F_planFlight_32 rfl (lv_at hl 3 rfl) ?_
      refine gX_F_probeCount hc hw lk_F_58 d_F_planFlight_33 ?_
      refine z_icmp_ge hx hb 143 d_F_planFlight_36 (by omega) (by omega) (by decide) (fun c36 => ?_) (fun c36 => ?_)
      · exact w_vret hc hw (⟨rfl, by rw [show σ 25 0 = i by omega, ← hτ]⟩) d_F_planFlight_143
      · refine lv_aload_n hx hb d_F_planFlight_39 rfl (lv_at hl 3 rfl) ?_
        refine lv_aload_n hx hb d_F_planFlight_40 rfl (lv_at hl 4 rfl) ?_
        refine lv_iload hx hb d_F_planFlight_41 (lv_at hl 0 rfl) ?_
        refine lv_lload_n hx hb d_F_planFlight_43 rfl (lv_at hl 1 rfl) ?_
        refine lv_lload hx hb d_F_planFlight_44 (lv_at hl 2 rfl) ?_
        refine w_cvR (q0 := 2) hc hw (k_F_placeOfNearest _ _ _ _ hIτ (by omega) (by omega) (fun j h0 h1 => hF j h0 (by omega)) hx2 hy2) yw_F_placeOfNearest yi_F_placeOfNearest lk_F_87 d_F_planFlight_46 rfl rfl rfl rfl hl.1 (Nat.le_of_ble_eq_true rfl) ⟨Nat.le_of_ble_eq_true rfl, Nat.le_of_ble_eq_true rfl⟩ ⟨Nat.zero_le _, Nat.zero_le _⟩ (fun τ46 H locs hτ46 hw => ?_)
        subst hτ46
        refine z_ist hx hb d_F_planFlight_49 hl (by decide) (fun x7_49 ex7_49 ls (hl : lv_has ls 9 [(7, .int (zI x7_49)), (6, .int (zI i)), (2, .long (zL x)), (4, .long (zL y)), (0, .ref (ad 102)), (1, .ref (ad 101))]) => ?_)
        rw [e25] at ex7_49
        subst ex7_49
        have hpn := pnF_bd τ x y (σ 25 0 - (i + 1)).toNat (i + 1) i i (by omega) (by omega)
        have hq8 := hF (pnF τ x y (σ 25 0 - (i + 1)).toNat (i + 1) i) (by omega) (by omega)
        refine lv_aload_n hx hb d_F_planFlight_51 rfl (lv_at hl 4 rfl) ?_
        refine gX_F_flown hc hw lk_F_18 d_F_planFlight_52 ?_
        refine lv_iload hx hb d_F_planFlight_55 (lv_at hl 0 rfl) ?_
        refine ldX_F_flown hc hw d_F_planFlight_57 (by omega) ?_
        refine z_ist hx hb d_F_planFlight_58 hl (by decide) (fun x8_58 ex8_58 ls (hl : lv_has ls 9 [(8, .int (zI x8_58)), (7, .int (zI (pnF τ x y (σ 25 0 - (i + 1)).toNat (i + 1) i))), (6, .int (zI i)), (2, .long (zL x)), (4, .long (zL y)), (0, .ref (ad 102)), (1, .ref (ad 101))]) => ?_)
        subst ex8_58
        refine lv_aload_n hx hb d_F_planFlight_60 rfl (lv_at hl 5 rfl) ?_
        refine gX_F_flown hc hw lk_F_18 d_F_planFlight_61 ?_
        refine lv_iload hx hb d_F_planFlight_64 (lv_at hl 1 rfl) ?_
        refine lv_aload_n hx hb d_F_planFlight_66 rfl (lv_at hl 5 rfl) ?_
        refine gX_F_flown hc hw lk_F_18 d_F_planFlight_67 ?_
        refine lv_iload hx hb d_F_planFlight_70 (lv_at hl 2 rfl) ?_
        refine ldX_F_flown hc hw d_F_planFlight_72 (by omega) ?_
        refine stX_F_flown hc hw d_F_planFlight_73 (by omega) (fun H locs hw => ?_)
        refine lv_aload_n hx hb d_F_planFlight_74 rfl (lv_at hl 5 rfl) ?_
        refine gX_F_flown hc hw lk_F_18 d_F_planFlight_75 ?_
        refine lv_iload hx hb d_F_planFlight_78 (lv_at hl 2 rfl) ?_
        refine lv_iload hx hb d_F_planFlight_80 (lv_at hl 0 rfl) ?_
        refine stX_F_flown hc hw d_F_planFlight_82 (by omega) (fun H locs hw => ?_)
        refine lv_aload_n hx hb d_F_planFlight_83 rfl (lv_at hl 5 rfl) ?_
        refine lv_dup hx hb d_F_planFlight_84 rfl ?_
        refine gX_F_flightTime hc hw lk_F_83 d_F_planFlight_85 ?_
        refine lv_aload_n hx hb d_F_planFlight_88 rfl (lv_at hl 6 rfl) ?_
        refine gnX_B_xs hc hw lk_F_91 d_F_planFlight_89 ?_
        refine lv_iload hx hb d_F_planFlight_92 (lv_at hl 0 rfl) ?_
        refine ldX_B_xs hc hw d_F_planFlight_94 (by omega) ?_
        refine lv_lload_n hx hb d_F_planFlight_95 rfl (lv_at hl 3 rfl) ?_
        refine z_lsub hx hb d_F_planFlight_96 ?_
        refine w_csR hc hw (k_JM_absL _ _ (by have a1 := hIτ.2.2.2.1 (τ 22 (pnF τ x y (σ 25 0 - (i + 1)).toNat (i + 1) i)); have a2 := hIτ.2.2.2.2.1 (τ 22 (pnF τ x y (σ 25 0 - (i + 1)).toNat (i + 1) i)); first | (show r64 (τ 3 (τ 22 (pnF τ x y (σ 25 0 - (i + 1)).toNat (i + 1) i)) - x); omega) | (show r64 (τ 4 (τ 22 (pnF τ x y (σ 25 0 - (i + 1)).toNat (i + 1) i)) - y); omega))) yw_JM_absL yi_JM_absL lk_F_94 d_F_planFlight_97 rfl rfl hl.1 (Nat.le_of_ble_eq_true rfl) ⟨Nat.le_of_ble_eq_true rfl, Nat.le_of_ble_eq_true rfl⟩ ⟨Nat.zero_le _, Nat.zero_le _⟩ (fun τ97 H locs hτ97 hw => ?_)
        subst hτ97
        refine lv_aload_n hx hb d_F_planFlight_100 rfl (lv_at hl 6 rfl) ?_
        refine gnX_B_ys hc hw lk_F_100 d_F_planFlight_101 ?_
        refine lv_iload hx hb d_F_planFlight_104 (lv_at hl 0 rfl) ?_
        refine ldX_B_ys hc hw d_F_planFlight_106 (by omega) ?_
        refine lv_lload hx hb d_F_planFlight_107 (lv_at hl 4 rfl) ?_
        refine z_lsub hx hb d_F_planFlight_109 ?_
        refine w_csR hc hw (k_JM_absL _ _ (by have a1 := hIτ.2.2.2.1 (τ 22 (pnF τ x y (σ 25 0 - (i + 1)).toNat (i + 1) i)); have a2 := hIτ.2.2.2.2.1 (τ 22 (pnF τ x y (σ 25 0 - (i + 1)).toNat (i + 1) i)); first | (show r64 (τ 3 (τ 22 (pnF τ x y (σ 25 0 - (i + 1)).toNat (i + 1) i)) - x); omega) | (show r64 (τ 4 (τ 22 (pnF τ x y (σ 25 0 - (i + 1)).toNat (i + 1) i)) - y); omega))) yw_JM_absL yi_JM_absL lk_F_94 d_F_planFlight_110 rfl rfl hl.1 (Nat.le_of_ble_eq_true rfl) ⟨Nat.le_of_ble_eq_true rfl, Nat.le_of_ble_eq_true rfl⟩ ⟨Nat.zero_le _, Nat.zero_le _⟩ (fun τ110 H locs hτ110 hw => ?_)
        subst hτ110
        refine w_csR hc hw (k_JM_maxL _ _ _ (by have a1 := hIτ.2.2.2.1 (τ 22 (pnF τ x y (σ 25 0 - (i + 1)).toNat (i + 1) i)); show r64 (((τ 3 (τ 22 (pnF τ x y (σ 25 0 - (i + 1)).toNat (i + 1) i)) - x).natAbs : Nat) : Int); omega) (by have a2 := hIτ.2.2.2.2.1 (τ 22 (pnF τ x y (σ 25 0 - (i + 1)).toNat (i + 1) i)); show r64 (((τ 4 (τ 22 (pnF τ x y (σ 25 0 - (i + 1)).toNat (i + 1) i)) - y).natAbs : Nat) : Int); omega)) yw_JM_maxL yi_JM_maxL lk_F_103 d_F_planFlight_113 rfl rfl hl.1 (Nat.le_of_ble_eq_true rfl) ⟨Nat.le_of_ble_eq_true rfl, Nat.le_of_ble_eq_true rfl⟩ ⟨Nat.zero_le _, Nat.zero_le _⟩ (fun τ113 H locs hτ113 hw => ?_)
        subst hτ113
        refine z_ladd hx hb d_F_planFlight_116 ?_
        refine pX_F_flightTime hc hw lk_F_83 d_F_planFlight_117 (fun H locs hw => ?_)
        refine lv_aload_n hx hb d_F_planFlight_120 rfl (lv_at hl 6 rfl) ?_
        refine gnX_B_xs hc hw lk_F_91 d_F_planFlight_121 ?_
        refine lv_iload hx hb d_F_planFlight_124 (lv_at hl 0 rfl) ?_
        refine ldX_B_xs hc hw d_F_planFlight_126 (by omega) ?_
        refine z_lst_n hx hb d_F_planFlight_127 rfl hl (by decide) (fun x2_127 ex2_127 ls (hl : lv_has ls 9 [(2, .long (zL x2_127)), (8, .int (zI (τ 22 (pnF τ x y (σ 25 0 - (i + 1)).toNat (i + 1) i)))), (7, .int (zI (pnF τ x y (σ 25 0 - (i + 1)).toNat (i + 1) i))), (6, .int (zI i)), (4, .long (zL y)), (0, .ref (ad 102)), (1, .ref (ad 101))]) => ?_)
        refine lv_aload_n hx hb d_F_planFlight_128 rfl (lv_at hl 6 rfl) ?_
        refine gnX_B_ys hc hw lk_F_100 d_F_planFlight_129 ?_
        refine lv_iload hx hb d_F_planFlight_132 (lv_at hl 1 rfl) ?_
        refine ldX_B_ys hc hw d_F_planFlight_134 (by omega) ?_
        refine z_lst hx hb d_F_planFlight_135 hl (by decide) (fun x4_135 ex4_135 ls (hl : lv_has ls 9 [(4, .long (zL x4_135)), (2, .long (zL x2_127)), (8, .int (zI (τ 22 (pnF τ x y (σ 25 0 - (i + 1)).toNat (i + 1) i)))), (7, .int (zI (pnF τ x y (σ 25 0 - (i + 1)).toNat (i + 1) i))), (6, .int (zI i)), (0, .ref (ad 102)), (1, .ref (ad 101))]) => ?_)
        refine z_iinc (k := 4) hx hb d_F_planFlight_137 hl rfl (by decide) (fun x6_137 ex6_137 ls (hl : lv_has ls 9 [(6, .int (zI x6_137)), (4, .long (zL x4_135)), (2, .long (zL x2_127)), (8, .int (zI (τ 22 (pnF τ x y (σ 25 0 - (i + 1)).toNat (i + 1) i)))), (7, .int (zI (pnF τ x y (σ 25 0 - (i + 1)).toNat (i + 1) i))), (0, .ref (ad 102)), (1, .ref (ad 101))]) => ?_)
        refine lv_goto (tgt := 30) hx hb d_F_planFlight_140 (by decide) ?_
        exact ih30 x6_137 x2_127 x4_135 _ _ _ (by omega) (by rw [show x6_137.toNat = i.toNat + 1 from (by omega), pf_s, ← hτ, ei]; subst ex2_127 ex4_135; rfl) (by rw [ex2_127]; exact hIτ.2.2.2.1 _) (by rw [ex4_135]; exact hIτ.2.2.2.2.1 _) (fun j h0 h1 => by rw [up_o _ _ _ _ (by decide)]; unfold up; split; exact hq8; split; exact hF i hi.1 (by omega); exact hF j h0 h1) (fun g h0 h1 => by rw [up_f _ _ _ h1, up_f _ _ _ h0, up_f _ _ _ h0]; exact ho g h0 h1) (by omega) hw ls (lv_sub hl [0, 2, 1, 5, 6] rfl)
  exact L30 _ x6_28 x2_23 x4_25 _ _ _ (by omega) (by rw [ex6_28, ex2_23, ex4_25]; rfl) (by omega) (by omega) (fun j h0 h1 => by rw [up_o _ _ _ _ (by decide), cpS_i _ _ _ _ h0 h1]; exact hP j h0 h1) (fun g h0 h1 => by rw [up_f _ _ _ h1, cpS_o _ _ _ _ h0]) (Nat.lt_succ_self _) hw ls (lv_sub hl [0, 2, 1, 3, 4] rfl)
set_option maxHeartbeats 400000 in
set_option maxRecDepth 100000 in
theorem k_F_sortByPlace {l : Launch} {D : va_G} {ad : Nat → Nat} {ca : Nat → ClassId} (σ : St) (hI : IB σ) (hn : 0 ≤ σ 25 0 ∧ σ 25 0 ≤ 8) (hP : ∀ i, 0 ≤ i → i < σ 25 0 → 0 ≤ σ 20 i ∧ σ 20 i < 36) : Cw l D cl7 (tyX ca) (wX ad ca) y_F_sortByPlace c_F_sortByPlace 4 none 1 [.ref (ad 102), .ref (ad 101)] σ (VW (so σ (σ 25 0).toNat = ·)) := by
  refine Cw.enter (by decide) (Nat.le_of_ble_eq_true rfl) ?_
  intro A p e s m below meth c hc ls hl hw
  have hl : lv_has ls 4 [(0, .ref (ad 102)), (1, .ref (ad 101))] := hl
  obtain ⟨hx, hb, hml, hown, hTB, hK, hr, hlk⟩ := id hc
  refine z_ic hx hb d_F_sortByPlace_0 ?_
  refine z_ist_n hx hb d_F_sortByPlace_1 rfl hl (by decide) (fun x2_1 ex2_1 ls (hl : lv_has ls 4 [(2, .int (zI x2_1)), (0, .ref (ad 102)), (1, .ref (ad 101))]) => ?_)
  have L2 : ∀ (n : Nat) (i : Int) (τ : St) (H : Heap) (locs : List Loc), (0 ≤ i ∧ i ≤ σ 25 0) → (τ = so σ i.toNat) → (∀ j, 0 ≤ j → j < i → 0 ≤ τ 23 j ∧ τ 23 j < 36) → (σ 25 0 - i).toNat < n → Wd D cl7 (wX ad ca) A s.heap τ H locs → ∀ ls : Array Slot, lv_has ls 4 [(2, .int (zI i)), (0, .ref (ad 102)), (1, .ref (ad 101))] → W p l e (Rmh 1) s m ([.ref (ad 102), .ref (ad 101)] : List Value).toArray below meth c H locs 0 0 (MQ below (Qw D cl7 (wX ad ca) A (VW (so σ (σ 25 0).toNat = ·))) ([.ref (ad 102), .ref (ad 101)] : List Value).toArray s 0 0 A) (F0 m 2 ls []) := by
    intro n
    induction n with
    | zero => intro i τ H locs hi hτ hF hm; exact absurd hm (Nat.not_lt_zero _)
    | succ n ih2 =>
      intro i τ H locs hi hτ hF hm2 hw ls hl
      have ei : ((i.toNat : Nat) : Int) = i := Int.toNat_of_nonneg hi.1
      have ho : ∀ g, g ≠ 23 → τ g = σ g := fun g h => by rw [hτ]; exact so_o σ _ g h
      have e25 : τ 25 0 = σ 25 0 := by rw [ho 25 (by decide)]
      refine lv_iload_n hx hb d_F_sortByPlace_2 rfl (lv_at hl 0 rfl) ?_
      refine lv_aload_n hx hb d_F_sortByPlace_3 rfl (lv_at hl 1 rfl) ?_
      refine gX_F_probeCount hc hw lk_F_58 d_F_sortByPlace_4 ?_
      refine z_icmp_ge hx hb 75 d_F_sortByPlace_7 (by omega) (by omega) (by decide) (fun c7 => ?_) (fun c7 => ?_)
      · exact w_vret hc hw (⟨rfl, by rw [hτ, show i = σ 25 0 by omega]⟩) d_F_sortByPlace_75
      · refine lv_iload_n hx hb d_F_sortByPlace_10 rfl (lv_at hl 0 rfl) ?_
        refine z_ist_n hx hb d_F_sortByPlace_11 rfl hl (by decide) (fun x3_11 ex3_11 ls (hl : lv_has ls 4 [(3, .int (zI x3_11)), (2, .int (zI i)), (0, .ref (ad 102)), (1, .ref (ad 101))]) => ?_)
        have L12 : ∀ (n : Nat) (k : Int) (ρ : St) (H : Heap) (locs : List Loc), (0 ≤ k ∧ k ≤ i) → (insF (τ 20 i) i.toNat τ = insF (τ 20 i) k.toNat ρ) → (∀ g, g ≠ 23 → ρ g = τ g) → (∀ j, 0 ≤ j → j ≤ i → j ≠ k → 0 ≤ ρ 23 j ∧ ρ 23 j < 36) → (k).toNat < n → Wd D cl7 (wX ad ca) A s.heap ρ H locs → ∀ ls : Array Slot, lv_has ls 4 [(3, .int (zI k)), (2, .int (zI i)), (0, .ref (ad 102)), (1, .ref (ad 101))] → W p l e (Rmh 1) s m ([.ref (ad 102), .ref (ad 101)] : List Value).toArray below meth c H locs 0 0 (MQ below (Qw D cl7 (wX ad ca) A (VW (so σ (σ 25 0).toNat = ·))) ([.ref (ad 102), .ref (ad 101)] : List Value).toArray s 0 0 A) (F0 m 12 ls []) := by
          intro n
          induction n with
          | zero => intro k ρ H locs hk hN hoρ hG hm; exact absurd hm (Nat.not_lt_zero _)
          | succ n ih12 =>
            intro k ρ H locs hk hN hoρ hG hm12 hw ls hl
            have e20 : ρ 20 i = τ 20 i := by rw [hoρ 20 (by decide)]
            have hIρ : IB ρ := IB_of (fun g hg => by rw [hoρ g (by omega), ho g (by omega)]) hI
            have hPi : 0 ≤ τ 20 i ∧ τ 20 i < 36 := by rw [ho 20 (by decide)]; exact hP i hi.1 (by omega)
            refine lv_iload_n hx hb d_F_sortByPlace_12 rfl (lv_at hl 0 rfl) ?_
            refine z_if_le hx hb 57 d_F_sortByPlace_13 (by omega) (by decide) (fun c13 => ?_) (fun c13 => ?_)
            · refine lv_aload_n hx hb d_F_sortByPlace_57 rfl (lv_at hl 2 rfl) ?_
              refine gX_F_sorted hc hw lk_F_21 d_F_sortByPlace_58 ?_
              refine lv_iload_n hx hb d_F_sortByPlace_61 rfl (lv_at hl 0 rfl) ?_
              refine lv_aload_n hx hb d_F_sortByPlace_62 rfl (lv_at hl 2 rfl) ?_
              refine gX_F_probes hc hw lk_F_9 d_F_sortByPlace_63 ?_
              refine lv_iload_n hx hb d_F_sortByPlace_66 rfl (lv_at hl 1 rfl) ?_
              refine ldX_F_probes hc hw d_F_sortByPlace_67 (by omega) ?_
              refine stX_F_sorted hc hw d_F_sortByPlace_68 (by omega) (fun H locs hw => ?_)
              refine z_iinc (k := 1) hx hb d_F_sortByPlace_69 hl rfl (by decide) (fun x2_69 ex2_69 ls (hl : lv_has ls 4 [(2, .int (zI x2_69)), (3, .int (zI k)), (0, .ref (ad 102)), (1, .ref (ad 101))]) => ?_)
              refine lv_goto (tgt := 2) hx hb d_F_sortByPlace_72 (by decide) ?_
              exact ih2 x2_69 _ _ _ (by omega) (by rw [show x2_69.toNat = i.toNat + 1 from (by omega)]; simp only [so, ei]; rw [← hτ, hN]; first | (rw [show k.toNat = 0 by omega, show k = 0 by omega, e20]; rfl) | (rw [← e20, if_neg c34, ek]; done)) (fun j h0 h1 => by unfold up; split; rw [e20]; exact hPi; rename_i hq; exact hG j h0 (by omega) (fun q => hq ⟨rfl, q⟩)) (by omega) hw ls (lv_sub hl [0, 2, 3] rfl)
            · have q : k.toNat = (k - 1).toNat + 1 := by omega
              have ek : k - 1 + 1 = k := by omega
              have ek1 : (((k - 1).toNat : Nat) : Int) = k - 1 := by omega
              rw [q, insF_s, ek1] at hN
              refine lv_aload_n hx hb d_F_sortByPlace_16 rfl (lv_at hl 3 rfl) ?_
              refine lv_aload_n hx hb d_F_sortByPlace_17 rfl (lv_at hl 2 rfl) ?_
              refine gX_F_probes hc hw lk_F_9 d_F_sortByPlace_18 ?_
              refine lv_iload_n hx hb d_F_sortByPlace_21 rfl (lv_at hl 1 rfl) ?_
              refine ldX_F_probes hc hw d_F_sortByPlace_22 (by omega) ?_
              refine lv_aload_n hx hb d_F_sortByPlace_23 rfl (lv_at hl 2 rfl) ?_
              refine gX_F_sorted hc hw lk_F_21 d_F_sortByPlace_24 ?_
              refine lv_iload_n hx hb d_F_sortByPlace_27 rfl (lv_at hl 0 rfl) ?_
              refine z_ic hx hb d_F_sortByPlace_28 ?_
              refine z_isub hx hb d_F_sortByPlace_29 ?_
              refine ldX_F_sorted hc hw d_F_sortByPlace_30 (by omega) ?_
              refine w_cvR (q0 := 1) hc hw (k_B_isBeforeByPlace _ _ _ (by rw [e20]; exact hPi) (hG (k - 1) (by omega) (by omega) (by omega)) hIρ) yw_B_isBeforeByPlace yi_B_isBeforeByPlace lk_F_111 d_F_sortByPlace_31 rfl rfl rfl rfl hl.1 (Nat.le_of_ble_eq_true rfl) ⟨Nat.le_of_ble_eq_true rfl, Nat.le_of_ble_eq_true rfl⟩ ⟨Nat.zero_le _, Nat.zero_le _⟩ (fun τ31 H locs hτ31 hw => ?_)
              subst hτ31
              refine z_ifb_eq hx hb 57 d_F_sortByPlace_34 (by decide) (fun c34 => ?_) (fun c34 => ?_)
              · refine lv_aload_n hx hb d_F_sortByPlace_57 rfl (lv_at hl 2 rfl) ?_
                refine gX_F_sorted hc hw lk_F_21 d_F_sortByPlace_58 ?_
                refine lv_iload_n hx hb d_F_sortByPlace_61 rfl (lv_at hl 0 rfl) ?_
                refine lv_aload_n hx hb d_F_sortByPlace_62 rfl (lv_at hl 2 rfl) ?_
                refine gX_F_probes hc hw lk_F_9 d_F_sortByPlace_63 ?_
                refine lv_iload_n hx hb d_F_sortByPlace_66 rfl (lv_at hl 1 rfl) ?_
                refine ldX_F_probes hc hw d_F_sortByPlace_67 (by omega) ?_
                refine stX_F_sorted hc hw d_F_sortByPlace_68 (by omega) (fun H locs hw => ?_)
                refine z_iinc (k := 1) hx hb d_F_sortByPlace_69 hl rfl (by decide) (fun x2_69 ex2_69 ls (hl : lv_has ls 4 [(2, .int (zI x2_69)), (3, .int (zI k)), (0, .ref (ad 102)), (1, .ref (ad 101))]) => ?_)
                refine lv_goto (tgt := 2) hx hb d_F_sortByPlace_72 (by decide) ?_
                exact ih2 x2_69 _ _ _ (by omega) (by rw [show x2_69.toNat = i.toNat + 1 from (by omega)]; simp only [so, ei]; rw [← hτ, hN]; first | (rw [show k.toNat = 0 by omega, show k = 0 by omega, e20]; rfl) | (rw [← e20, if_neg c34, ek]; done)) (fun j h0 h1 => by unfold up; split; rw [e20]; exact hPi; rename_i hq; exact hG j h0 (by omega) (fun q => hq ⟨rfl, q⟩)) (by omega) hw ls (lv_sub hl [0, 2, 3] rfl)
              · refine lv_aload_n hx hb d_F_sortByPlace_37 rfl (lv_at hl 2 rfl) ?_
                refine gX_F_sorted hc hw lk_F_21 d_F_sortByPlace_38 ?_
                refine lv_iload_n hx hb d_F_sortByPlace_41 rfl (lv_at hl 0 rfl) ?_
                refine lv_aload_n hx hb d_F_sortByPlace_42 rfl (lv_at hl 2 rfl) ?_
                refine gX_F_sorted hc hw lk_F_21 d_F_sortByPlace_43 ?_
                refine lv_iload_n hx hb d_F_sortByPlace_46 rfl (lv_at hl 0 rfl) ?_
                refine z_ic hx hb d_F_sortByPlace_47 ?_
                refine z_isub hx hb d_F_sortByPlace_48 ?_
                refine ldX_F_sorted hc hw d_F_sortByPlace_49 (by omega) ?_
                refine stX_F_sorted hc hw d_F_sortByPlace_50 (by omega) (fun H locs hw => ?_)
                refine z_iinc (k := 0) hx hb d_F_sortByPlace_51 hl rfl (by decide) (fun x3_51 ex3_51 ls (hl : lv_has ls 4 [(3, .int (zI x3_51)), (2, .int (zI i)), (0, .ref (ad 102)), (1, .ref (ad 101))]) => ?_)
                refine lv_goto (tgt := 12) hx hb d_F_sortByPlace_54 (by decide) ?_
                exact ih12 x3_51 _ _ _ (by omega) (by rw [hN, if_pos (by rw [← e20]; exact c34), show x3_51.toNat = (k - 1).toNat from (by omega), ek]) (fun g h => by rw [up_f _ _ _ h]; exact hoρ g h) (fun j h0 h1 h2 => by unfold up; split; exact hG (k - 1) (by omega) (by omega) (by omega); rename_i hq; exact hG j h0 h1 (fun q => hq ⟨rfl, q⟩)) (by omega) hw ls (lv_sub hl [0, 1, 2, 3] rfl)
        exact L12 _ x3_11 _ _ _ (by omega) (by rw [ex3_11]) (fun g h => rfl) (fun j h0 h1 h2 => hF j h0 (by omega)) (Nat.lt_succ_self _) hw ls (lv_sub hl [0, 1, 2, 3] rfl)
  exact L2 _ x2_1 _ _ _ (by omega) (by rw [ex2_1]; rfl) (fun j h0 h1 => by omega) (Nat.lt_succ_self _) hw ls (lv_sub hl [0, 1, 2] rfl)
set_option maxHeartbeats 400000 in
set_option maxRecDepth 100000 in
theorem k_F_build {l : Launch} {D : va_G} {ad : Nat → Nat} {ca : Nat → ClassId} (σ : St) (hI : IB σ) (hn : 0 ≤ σ 17 0 ∧ σ 17 0 ≤ 8) (hB : ∀ i, 0 ≤ i → i < σ 17 0 → σ 16 i = -1 ∨ (0 ≤ σ 16 i ∧ σ 16 i < 36)) : Cw l D cl7 (tyX ca) (wX ad ca) y_F_build c_F_build 3 none 3 [.ref (ad 102), .ref (ad 101), .ref (ad 105)] σ (VW (fB σ = ·)) := by
  have hm := cntM_bd hI.2.2.2.2.2.2.2.2.2 (σ 7 0).toNat
  have h7 := hI.1
  have u17 : ∀ v, up σ 29 0 v 17 0 = σ 17 0 := fun v => up_o _ _ _ _ (by decide)
  have u16 : ∀ v i, up σ 29 0 v 16 i = σ 16 i := fun v i => up_o _ _ _ _ (by decide)
  have hI1 : IB (fB1 σ) := IB_of (fun g hg => up_f _ _ _ (by omega)) hI
  have hI2 : IB (fB2 σ) := IB_of (fun g hg => tk_o _ _ g (by omega)) hI1
  have hbd2 := tk_bd (fB1 σ) (σ 17 0).toNat
  have hn2 : 0 ≤ fB2 σ 25 0 ∧ fB2 σ 25 0 ≤ 8 := by unfold fB2; omega
  have hP2 : ∀ j, 0 ≤ j → j < fB2 σ 25 0 → 0 ≤ fB2 σ 20 j ∧ fB2 σ 20 j < 36 := tk_pr (σ := fB1 σ) (σ 17 0).toNat (fun i h0 h1 => by unfold fB1; rw [u16]; exact hB i h0 (by omega))
  have o3 : ∀ g, g ≠ 22 ∧ g ≠ 28 → fB3 σ g = fB2 σ g := fun g h => pf_o _ _ g h
  have hI3 : IB (fB3 σ) := IB_of (fun g hg => o3 g (by omega)) hI2
  have o4 : ∀ g, g ≠ 23 → fB4 σ g = fB3 σ g := fun g h => so_o _ _ g h
  have hI4 : IB (fB4 σ) := IB_of (fun g hg => o4 g (by omega)) hI3
  have e253 : fB3 σ 25 0 = fB2 σ 25 0 := by rw [o3 25 (by decide)]
  have e254 : fB4 σ 25 0 = fB2 σ 25 0 := by rw [o4 25 (by decide), e253]
  have hP3 : ∀ j, 0 ≤ j → j < fB3 σ 25 0 → 0 ≤ fB3 σ 20 j ∧ fB3 σ 20 j < 36 := fun j h0 h1 => by rw [o3 20 (by decide)]; exact hP2 j h0 (by omega)
  have hP4 : ∀ j, 0 ≤ j → j < fB4 σ 25 0 → 0 ≤ fB4 σ 23 j ∧ fB4 σ 23 j < 36 := fun j h0 h1 => so_in (σ := fB3 σ) (fB3 σ 25 0).toNat (fun i a b => hP3 i a (by omega)) j h0 (by omega)
  refine Cw.enter (by decide) (Nat.le_of_ble_eq_true rfl) ?_
  intro A p e s m below meth c hc ls hl hw
  have hl : lv_has ls 3 [(0, .ref (ad 102)), (1, .ref (ad 101)), (2, .ref (ad 105))] := hl
  obtain ⟨hx, hb, hml, hown, hTB, hK, hr, hlk⟩ := id hc
  refine lv_aload_n hx hb d_F_build_0 rfl (lv_at hl 0 rfl) ?_
  refine lv_aload_n hx hb d_F_build_1 rfl (lv_at hl 2 rfl) ?_
  refine gnX_S_looked hc hw lk_F_28 d_F_build_2 ?_
  refine lv_aload_n hx hb d_F_build_5 rfl (lv_at hl 1 rfl) ?_
  refine w_cvR (q0 := 1) hc hw (k_B_countOfMust _ hI) yw_B_countOfMust yi_B_countOfMust lk_F_34 d_F_build_6 rfl rfl rfl rfl hl.1 (Nat.le_of_ble_eq_true rfl) ⟨Nat.le_of_ble_eq_true rfl, Nat.le_of_ble_eq_true rfl⟩ ⟨Nat.zero_le _, Nat.zero_le _⟩ (fun τ6 H locs hτ6 hw => ?_)
  subst hτ6
  refine z_icmp_ne hx hb 16 d_F_build_9 (by omega) (by omega) (by decide) (fun c9 => ?_) (fun c9 => ?_)
  · refine z_ic hx hb d_F_build_16 ?_
    refine pX_F_sawAll hc hw lk_F_40 d_F_build_17 (by omega) (fun H locs hw => ?_)
    have hw : Wd D cl7 (wX ad ca) A s.heap (fB1 σ) H locs := by unfold fB1; first | (rw [bI_t (by omega)]; exact hw) | (rw [bI_f (by omega)]; exact hw)
    refine lv_aload_n hx hb d_F_build_20 rfl (lv_at hl 0 rfl) ?_
    refine lv_aload_n hx hb d_F_build_21 rfl (lv_at hl 2 rfl) ?_
    refine w_cvV (q0 := 2) hc hw (k_F_takeProbes (fB1 σ) (by unfold fB1; rw [u17]; exact hn) (fun i h0 h1 => by unfold fB1 at h1 ⊢; rw [u17] at h1; rw [u16]; have := hB i h0 h1; omega)) yw_F_takeProbes yi_F_takeProbes lk_F_44 d_F_build_22 rfl rfl rfl rfl hl.1 (Nat.le_of_ble_eq_true rfl) ⟨Nat.le_of_ble_eq_true rfl, Nat.le_of_ble_eq_true rfl⟩ ⟨Nat.zero_le _, Nat.zero_le _⟩ (fun τ22 H locs hτ22 hw => ?_)
    have eτ : fB2 σ = τ22 := by unfold fB2; rw [← hτ22]; unfold fB1; rw [u17]
    subst eτ
    refine lv_aload_n hx hb d_F_build_25 rfl (lv_at hl 0 rfl) ?_
    refine lv_aload_n hx hb d_F_build_26 rfl (lv_at hl 1 rfl) ?_
    refine w_cvV (q0 := 2) hc hw (k_F_planFlight _ hI2 hn2 hP2) yw_F_planFlight yi_F_planFlight lk_F_48 d_F_build_27 rfl rfl rfl rfl hl.1 (Nat.le_of_ble_eq_true rfl) ⟨Nat.le_of_ble_eq_true rfl, Nat.le_of_ble_eq_true rfl⟩ ⟨Nat.zero_le _, Nat.zero_le _⟩ (fun τ27 H locs hτ27 hw => ?_)
    have hw : Wd D cl7 (wX ad ca) A s.heap (fB3 σ) H locs := by rw [← hτ27] at hw; exact hw
    refine lv_aload_n hx hb d_F_build_30 rfl (lv_at hl 0 rfl) ?_
    refine lv_aload_n hx hb d_F_build_31 rfl (lv_at hl 1 rfl) ?_
    refine w_cvV (q0 := 2) hc hw (k_F_sortByPlace _ hI3 (by omega) hP3) yw_F_sortByPlace yi_F_sortByPlace lk_F_52 d_F_build_32 rfl rfl rfl rfl hl.1 (Nat.le_of_ble_eq_true rfl) ⟨Nat.le_of_ble_eq_true rfl, Nat.le_of_ble_eq_true rfl⟩ ⟨Nat.zero_le _, Nat.zero_le _⟩ (fun τ32 H locs hτ32 hw => ?_)
    have hw : Wd D cl7 (wX ad ca) A s.heap (fB4 σ) H locs := by rw [← hτ32] at hw; exact hw
    refine lv_aload_n hx hb d_F_build_35 rfl (lv_at hl 0 rfl) ?_
    refine lv_aload_n hx hb d_F_build_36 rfl (lv_at hl 1 rfl) ?_
    refine w_cvV (q0 := 2) hc hw (k_F_writeText _ hI4 (by omega) hP4) yw_F_writeText yi_F_writeText lk_F_55 d_F_build_37 rfl rfl rfl rfl hl.1 (Nat.le_of_ble_eq_true rfl) ⟨Nat.le_of_ble_eq_true rfl, Nat.le_of_ble_eq_true rfl⟩ ⟨Nat.zero_le _, Nat.zero_le _⟩ (fun τ37 H locs hτ37 hw => ?_)
    have hw : Wd D cl7 (wX ad ca) A s.heap (fB σ) H locs := by rw [← hτ37] at hw; exact hw
    exact w_vret hc hw (⟨rfl, rfl⟩) d_F_build_40
  · refine z_ic hx hb d_F_build_12 ?_
    refine lv_goto (tgt := 17) hx hb d_F_build_13 (by decide) ?_
    refine pX_F_sawAll hc hw lk_F_40 d_F_build_17 (by omega) (fun H locs hw => ?_)
    have hw : Wd D cl7 (wX ad ca) A s.heap (fB1 σ) H locs := by unfold fB1; first | (rw [bI_t (by omega)]; exact hw) | (rw [bI_f (by omega)]; exact hw)
    refine lv_aload_n hx hb d_F_build_20 rfl (lv_at hl 0 rfl) ?_
    refine lv_aload_n hx hb d_F_build_21 rfl (lv_at hl 2 rfl) ?_
    refine w_cvV (q0 := 2) hc hw (k_F_takeProbes (fB1 σ) (by unfold fB1; rw [u17]; exact hn) (fun i h0 h1 => by unfold fB1 at h1 ⊢; rw [u17] at h1; rw [u16]; have := hB i h0 h1; omega)) yw_F_takeProbes yi_F_takeProbes lk_F_44 d_F_build_22 rfl rfl rfl rfl hl.1 (Nat.le_of_ble_eq_true rfl) ⟨Nat.le_of_ble_eq_true rfl, Nat.le_of_ble_eq_true rfl⟩ ⟨Nat.zero_le _, Nat.zero_le _⟩ (fun τ22 H locs hτ22 hw => ?_)
    have eτ : fB2 σ = τ22 := by unfold fB2; rw [← hτ22]; unfold fB1; rw [u17]
    subst eτ
    refine lv_aload_n hx hb d_F_build_25 rfl (lv_at hl 0 rfl) ?_
    refine lv_aload_n hx hb d_F_build_26 rfl (lv_at hl 1 rfl) ?_
    refine w_cvV (q0 := 2) hc hw (k_F_planFlight _ hI2 hn2 hP2) yw_F_planFlight yi_F_planFlight lk_F_48 d_F_build_27 rfl rfl rfl rfl hl.1 (Nat.le_of_ble_eq_true rfl) ⟨Nat.le_of_ble_eq_true rfl, Nat.le_of_ble_eq_true rfl⟩ ⟨Nat.zero_le _, Nat.zero_le _⟩ (fun τ27 H locs hτ27 hw => ?_)
    have hw : Wd D cl7 (wX ad ca) A s.heap (fB3 σ) H locs := by rw [← hτ27] at hw; exact hw
    refine lv_aload_n hx hb d_F_build_30 rfl (lv_at hl 0 rfl) ?_
    refine lv_aload_n hx hb d_F_build_31 rfl (lv_at hl 1 rfl) ?_
    refine w_cvV (q0 := 2) hc hw (k_F_sortByPlace _ hI3 (by omega) hP3) yw_F_sortByPlace yi_F_sortByPlace lk_F_52 d_F_build_32 rfl rfl rfl rfl hl.1 (Nat.le_of_ble_eq_true rfl) ⟨Nat.le_of_ble_eq_true rfl, Nat.le_of_ble_eq_true rfl⟩ ⟨Nat.zero_le _, Nat.zero_le _⟩ (fun τ32 H locs hτ32 hw => ?_)
    have hw : Wd D cl7 (wX ad ca) A s.heap (fB4 σ) H locs := by rw [← hτ32] at hw; exact hw
    refine lv_aload_n hx hb d_F_build_35 rfl (lv_at hl 0 rfl) ?_
    refine lv_aload_n hx hb d_F_build_36 rfl (lv_at hl 1 rfl) ?_
    refine w_cvV (q0 := 2) hc hw (k_F_writeText _ hI4 (by omega) hP4) yw_F_writeText yi_F_writeText lk_F_55 d_F_build_37 rfl rfl rfl rfl hl.1 (Nat.le_of_ble_eq_true rfl) ⟨Nat.le_of_ble_eq_true rfl, Nat.le_of_ble_eq_true rfl⟩ ⟨Nat.zero_le _, Nat.zero_le _⟩ (fun τ37 H locs hτ37 hw => ?_)
    have hw : Wd D cl7 (wX ad ca) A s.heap (fB σ) H locs := by rw [← hτ37] at hw; exact hw
    exact w_vret hc hw (⟨rfl, rfl⟩) d_F_build_40
end
section
/-! the search -/
def IS (σ : St) : Prop := (0 ≤ σ 17 0 ∧ σ 17 0 ≤ 8) ∧ (∀ i, 0 ≤ σ 11 i ∧ σ 11 i ≤ 3) ∧ (∀ i, 0 ≤ σ 12 i ∧ σ 12 i ≤ 35) ∧ (∀ i, 0 ≤ σ 13 i ∧ σ 13 i ≤ 8000001) ∧ (∀ i, 0 ≤ σ 14 i ∧ σ 14 i < 16777216)
theorem IS_of {σ τ : St} (h : ∀ g, (g = 11 ∨ g = 12 ∨ g = 13 ∨ g = 14 ∨ g = 17) → τ g = σ g) (hI : IS σ) : IS τ := by
  unfold IS at *
  rw [h 11 (by decide), h 12 (by decide), h 13 (by decide), h 14 (by decide), h 17 (by decide)]
  exact hI
/-- the best free slot among the next f, from t on -/
def bsF (σ : St) (bl : Int) : Nat → Int → Int → Int
  | 0, _, fd => fd
  | f + 1, t, fd => bsF σ bl f (t + 1) (if ¬ zB bl t ∧ (fd = -1 ∨ σ 13 fd < σ 13 t) then t else fd)
theorem bsF_s (σ : St) (bl : Int) (f : Nat) (t fd : Int) : bsF σ bl (f + 1) t fd = bsF σ bl f (t + 1) (if ¬ zB bl t ∧ (fd = -1 ∨ σ 13 fd < σ 13 t) then t else fd) := rfl
def bs (σ : St) (i bl : Int) : Int := bsF σ bl (σ 11 i).toNat (i * 3) (-1)
theorem bsF_bd (σ : St) (bl : Int) : ∀ (f : Nat) (t fd lo : Int), lo ≤ t → (fd = -1 ∨ (lo ≤ fd ∧ fd < t)) → bsF σ bl f t fd = -1 ∨ (lo ≤ bsF σ bl f t fd ∧ bsF σ bl f t fd < t + f)
  | 0, t, fd, lo, h0, h => by unfold bsF; omega
  | f + 1, t, fd, lo, h0, h => by
    unfold bsF
    split
    · have := bsF_bd σ bl f (t + 1) t lo (by omega) (by omega); omega
    · have := bsF_bd σ bl f (t + 1) fd lo (by omega) (by omega); omega
theorem bs_bd {σ : St} (hS : IS σ) (i bl : Int) (hi : 0 ≤ i ∧ i < 8) : bs σ i bl = -1 ∨ (i * 3 ≤ bs σ i bl ∧ bs σ i bl < i * 3 + σ 11 i) := by
  have h := hS.2.1 i
  have := bsF_bd σ bl (σ 11 i).toNat (i * 3) (-1) (i * 3) (by omega) (by omega)
  unfold bs; omega
def mwF (σ : St) (bl : Int) : Nat → Int → Int → Int
  | 0, _, t => t
  | f + 1, k, t => mwF σ bl f (k + 1) (if bs σ k bl = -1 then t else t + σ 13 (bs σ k bl))
theorem mwF_s (σ : St) (bl : Int) (f : Nat) (k t : Int) : mwF σ bl (f + 1) k t = mwF σ bl f (k + 1) (if bs σ k bl = -1 then t else t + σ 13 (bs σ k bl)) := rfl
def mw (σ : St) (d bl : Int) : Int := mwF σ bl (σ 17 0 - d).toNat d 0
theorem mwF_bd {σ : St} (hS : IS σ) (bl : Int) : ∀ (f : Nat) (k t : Int), t ≤ mwF σ bl f k t ∧ mwF σ bl f k t ≤ t + f * 8000001
  | 0, k, t => by unfold mwF; omega
  | f + 1, k, t => by
    unfold mwF
    have h13 := hS.2.2.2.1 (bs σ k bl)
    split
    · have := mwF_bd hS bl f (k + 1) t; omega
    · have := mwF_bd hS bl f (k + 1) (t + σ 13 (bs σ k bl)); omega
def wpF (σ : St) : Nat → Int → Int → Int → Int
  | 0, _, t, _ => t
  | f + 1, i, t, bl => if bs σ i bl = -1 then wpF σ f (i + 1) t bl else wpF σ f (i + 1) (t + σ 13 (bs σ i bl)) (zOr bl (σ 14 (bs σ i bl)))
theorem wpF_s (σ : St) (f : Nat) (i t bl : Int) : wpF σ (f + 1) i t bl = if bs σ i bl = -1 then wpF σ f (i + 1) t bl else wpF σ f (i + 1) (t + σ 13 (bs σ i bl)) (zOr bl (σ 14 (bs σ i bl))) := rfl
def wp0 (σ : St) : Int := wpF σ (σ 17 0).toNat 0 0 0
theorem wpF_bd {σ : St} (hS : IS σ) : ∀ (f : Nat) (i t bl : Int), t ≤ wpF σ f i t bl ∧ wpF σ f i t bl ≤ t + f * 8000001
  | 0, i, t, bl => by unfold wpF; omega
  | f + 1, i, t, bl => by
    unfold wpF
    have h13 := hS.2.2.2.1 (bs σ i bl)
    split
    · have := wpF_bd hS f (i + 1) t bl; omega
    · have := wpF_bd hS f (i + 1) (t + σ 13 (bs σ i bl)) (zOr bl (σ 14 (bs σ i bl))); omega
def kp (σ : St) (w : Int) : St := cpS (up σ 18 0 w) 15 16 8
def mcN (t : Int) : Nat → Int → St → St
  | 0, _, σ => σ
  | n + 1, u, σ => mcN t n (u + 1) (if canB σ (σ 12 t) (σ 12 u) then σ else up σ 14 t (zOr (σ 14 t) ((2 ^ u.toNat : Nat) : Int)))
theorem mcN_s (t : Int) (n : Nat) (u : Int) (σ : St) : mcN t (n + 1) u σ = mcN t n (u + 1) (if canB σ (σ 12 t) (σ 12 u) then σ else up σ 14 t (zOr (σ 14 t) ((2 ^ u.toNat : Nat) : Int))) := rfl
def mcA (t : Int) : Nat → Int → St → St
  | 0, _, σ => σ
  | n + 1, k, σ => mcA t n (k + 1) (mcN t (σ 11 k).toNat (k * 3) σ)
theorem mcA_s (t : Int) (n : Nat) (k : Int) (σ : St) : mcA t (n + 1) k σ = mcA t n (k + 1) (mcN t (σ 11 k).toNat (k * 3) σ) := rfl
def mcB (i : Int) : Nat → Int → St → St
  | 0, _, σ => σ
  | n + 1, t, σ => mcB i n (t + 1) (mcA t (σ 17 0 - (i + 1)).toNat (i + 1) σ)
theorem mcB_s (i : Int) (n : Nat) (t : Int) (σ : St) : mcB i (n + 1) t σ = mcB i n (t + 1) (mcA t (σ 17 0 - (i + 1)).toNat (i + 1) σ) := rfl
def mcC : Nat → Int → St → St
  | 0, _, σ => σ
  | n + 1, i, σ => mcC n (i + 1) (mcB i (σ 11 i).toNat (i * 3) σ)
theorem mcC_s (n : Nat) (i : Int) (σ : St) : mcC (n + 1) i σ = mcC n (i + 1) (mcB i (σ 11 i).toNat (i * 3) σ) := rfl
def mkC (σ : St) : St := mcC (σ 17 0).toNat 0 (fillA σ 14 24 0)
def lnP (n : Int) : Nat → Int → St → St
  | 0, _, σ => σ
  | f + 1, j, σ => lnP n f (j + 1) (up (up σ 12 (σ 17 0 * 3 + j) (σ 2 (n * 3 + j))) 13 (σ 17 0 * 3 + j) (8000001 - σ 6 (σ 2 (n * 3 + j))))
theorem lnP_s (n : Int) (f : Nat) (j : Int) (σ : St) : lnP n (f + 1) j σ = lnP n f (j + 1) (up (up σ 12 (σ 17 0 * 3 + j) (σ 2 (n * 3 + j))) 13 (σ 17 0 * 3 + j) (8000001 - σ 6 (σ 2 (n * 3 + j)))) := rfl
def lnI (σ : St) : St := up σ 17 0 (σ 17 0 + 1)
def lnB (σ : St) (n : Int) : St := lnI (lnP n (σ 1 n).toNat 0 (up (up σ 10 (σ 17 0) n) 11 (σ 17 0) (σ 1 n)))
def lnF (mo : Int) : Nat → Int → St → St
  | 0, _, σ => σ
  | f + 1, n, σ => lnF mo f (n + 1) (if ¬ σ 0 n = 0 ∧ σ 17 0 < mo ∧ σ 17 0 < 8 then lnB σ n else σ)
theorem lnF_s (mo : Int) (f : Nat) (n : Int) (σ : St) : lnF mo (f + 1) n σ = lnF mo f (n + 1) (if ¬ σ 0 n = 0 ∧ σ 17 0 < mo ∧ σ 17 0 < 8 then lnB σ n else σ) := rfl
def lkN (σ : St) (mo : Int) : St := lnF mo (σ 7 0).toNat 0 (up σ 17 0 0)
end
section
set_option maxHeartbeats 400000 in
set_option maxRecDepth 100000 in
theorem k_S_endOf {l : Launch} {D : va_G} {ad : Nat → Nat} {ca : Nat → ClassId} (σ : St) (i : Int) (hi : 0 ≤ i ∧ i < 8) : Cw l D cl7 (tyX ca) (wX ad ca) y_S_endOf c_S_endOf 2 (some .int) 0 [.ref (ad 105), .int (zI i)] σ (RW (.int (zI (i * 3 + σ 11 i))) (σ = ·)) := by
  refine Cw.enter (by decide) (Nat.le_of_ble_eq_true rfl) ?_
  intro A p e s m below meth c hc ls hl hw
  have hl : lv_has ls 2 [(0, .ref (ad 105)), (1, .int (zI i))] := hl
  obtain ⟨hx, hb, hml, hown, hTB, hK, hr, hlk⟩ := id hc
  refine lv_iload_n hx hb d_S_endOf_0 rfl (lv_at hl 1 rfl) ?_
  refine z_ic hx hb d_S_endOf_1 ?_
  refine z_imul hx hb d_S_endOf_2 ?_
  refine lv_aload_n hx hb d_S_endOf_3 rfl (lv_at hl 0 rfl) ?_
  refine gX_S_sizes hc hw lk_S_15 d_S_endOf_4 ?_
  refine lv_iload_n hx hb d_S_endOf_7 rfl (lv_at hl 1 rfl) ?_
  refine ldX_S_sizes hc hw d_S_endOf_8 (by omega) ?_
  refine z_iadd hx hb d_S_endOf_9 ?_
  exact w_iret hc hw (⟨rfl, rfl⟩) d_S_endOf_10
end
section
set_option maxHeartbeats 400000 in
set_option maxRecDepth 100000 in
theorem k_S_bestSlot {l : Launch} {D : va_G} {ad : Nat → Nat} {ca : Nat → ClassId} (σ : St) (i bl : Int) (hi : 0 ≤ i ∧ i < 8) (hbl : 0 ≤ bl ∧ bl < 16777216) (hS : IS σ) : Cw l D cl7 (tyX ca) (wX ad ca) y_S_bestSlot c_S_bestSlot 5 (some .int) 1 [.ref (ad 105), .int (zI i), .int (zI bl)] σ (RW (.int (zI (bs σ i bl))) (σ = ·)) := by
  have h11 := hS.2.1 i
  refine Cw.enter (by decide) (Nat.le_of_ble_eq_true rfl) ?_
  intro A p e s m below meth c hc ls hl hw
  have hl : lv_has ls 5 [(0, .ref (ad 105)), (1, .int (zI i)), (2, .int (zI bl))] := hl
  obtain ⟨hx, hb, hml, hown, hTB, hK, hr, hlk⟩ := id hc
  refine z_ic hx hb d_S_bestSlot_0 ?_
  refine z_ist_n hx hb d_S_bestSlot_1 rfl hl (by decide) (fun x3_1 ex3_1 ls (hl : lv_has ls 5 [(3, .int (zI x3_1)), (0, .ref (ad 105)), (1, .int (zI i)), (2, .int (zI bl))]) => ?_)
  refine lv_iload_n hx hb d_S_bestSlot_2 rfl (lv_at hl 2 rfl) ?_
  refine z_ic hx hb d_S_bestSlot_3 ?_
  refine z_imul hx hb d_S_bestSlot_4 ?_
  refine z_ist hx hb d_S_bestSlot_5 hl (by decide) (fun x4_5 ex4_5 ls (hl : lv_has ls 5 [(4, .int (zI x4_5)), (3, .int (zI x3_1)), (0, .ref (ad 105)), (1, .int (zI i)), (2, .int (zI bl))]) => ?_)
  have L7 : ∀ (n : Nat) (t : Int) (fd : Int) (H : Heap) (locs : List Loc), (i * 3 ≤ t ∧ t ≤ i * 3 + σ 11 i) → (fd = -1 ∨ (i * 3 ≤ fd ∧ fd < t)) → (bs σ i bl = bsF σ bl (i * 3 + σ 11 i - t).toNat t fd) → (i * 3 + σ 11 i - t).toNat < n → Wd D cl7 (wX ad ca) A s.heap σ H locs → ∀ ls : Array Slot, lv_has ls 5 [(4, .int (zI t)), (3, .int (zI fd)), (0, .ref (ad 105)), (1, .int (zI i)), (2, .int (zI bl))] → W p l e (Rmh 1) s m ([.ref (ad 105), .int (zI i), .int (zI bl)] : List Value).toArray below meth c H locs 0 0 (MQ below (Qw D cl7 (wX ad ca) A (RW (.int (zI (bs σ i bl))) (σ = ·))) ([.ref (ad 105), .int (zI i), .int (zI bl)] : List Value).toArray s 0 0 A) (F0 m 7 ls []) := by
    intro n
    induction n with
    | zero => intro t fd  H locs ht hf hN hm; exact absurd hm (Nat.not_lt_zero _)
    | succ n ih7 =>
      intro t fd  H locs ht hf hN hm7 hw ls hl
      refine lv_iload hx hb d_S_bestSlot_7 (lv_at hl 0 rfl) ?_
      refine lv_aload_n hx hb d_S_bestSlot_9 rfl (lv_at hl 2 rfl) ?_
      refine lv_iload_n hx hb d_S_bestSlot_10 rfl (lv_at hl 3 rfl) ?_
      refine w_cvR (q0 := 5) hc hw (k_S_endOf _ _ (by omega)) yw_S_endOf yi_S_endOf lk_S_82 d_S_bestSlot_11 rfl rfl rfl rfl hl.1 (Nat.le_of_ble_eq_true rfl) ⟨Nat.le_of_ble_eq_true rfl, Nat.le_of_ble_eq_true rfl⟩ ⟨Nat.zero_le _, Nat.zero_le _⟩ (fun τ11 H locs hτ11 hw => ?_)
      subst hτ11
      refine z_icmp_ge hx hb 57 d_S_bestSlot_14 (by omega) (by omega) (by decide) (fun c14 => ?_) (fun c14 => ?_)
      · refine lv_iload_n hx hb d_S_bestSlot_57 rfl (lv_at hl 1 rfl) ?_
        exact w_iret hc hw (⟨by rw [hN, show (i * 3 + σ 11 i - t).toNat = 0 by omega]; rfl, rfl⟩) d_S_bestSlot_58
      · have q : (i * 3 + σ 11 i - t).toNat = (i * 3 + σ 11 i - (t + 1)).toNat + 1 := by omega
        rw [q, bsF_s] at hN
        have h13t := hS.2.2.2.1 t
        have h13f := hS.2.2.2.1 fd
        refine lv_iload_n hx hb d_S_bestSlot_17 rfl (lv_at hl 4 rfl) ?_
        refine lv_iload hx hb d_S_bestSlot_18 (lv_at hl 0 rfl) ?_
        refine w_csNR hc hw (k_X_hasBit _ _ _ (by omega) (by omega)) yw_X_hasBit yi_X_hasBit lk_S_98 d_S_bestSlot_20 rfl rfl hl.1 (Nat.le_of_ble_eq_true rfl) ⟨Nat.le_of_ble_eq_true rfl, Nat.le_of_ble_eq_true rfl⟩ ⟨Nat.zero_le _, Nat.zero_le _⟩ (fun τ20 H locs hτ20 hw => ?_)
        subst hτ20
        refine z_ifb_ne hx hb 51 d_S_bestSlot_23 (by decide) (fun c23 => ?_) (fun c23 => ?_)
        · refine z_iinc (k := 0) hx hb d_S_bestSlot_51 hl rfl (by decide) (fun x4_51 ex4_51 ls (hl : lv_has ls 5 [(4, .int (zI x4_51)), (3, .int (zI fd)), (0, .ref (ad 105)), (1, .int (zI i)), (2, .int (zI bl))]) => ?_)
          refine lv_goto (tgt := 7) hx hb d_S_bestSlot_54 (by decide) ?_
          exact ih7 x4_51 fd _ _ (by omega) (by omega) (by rw [hN, ex4_51]; first | (rw [if_neg (fun q => q.1 c23)]; done) | (rw [if_pos ⟨c23, by omega⟩, ex3_50]; done) | (rw [if_neg (fun q => by omega)]; done)) (by omega) hw ls (lv_sub hl [0, 1, 2, 3, 4] rfl)
        · refine lv_iload_n hx hb d_S_bestSlot_26 rfl (lv_at hl 1 rfl) ?_
          refine z_ic hx hb d_S_bestSlot_27 ?_
          refine z_icmp_eq hx hb 48 d_S_bestSlot_28 (by omega) (by omega) (by decide) (fun c28 => ?_) (fun c28 => ?_)
          · refine lv_iload hx hb d_S_bestSlot_48 (lv_at hl 0 rfl) ?_
            refine z_ist_n hx hb d_S_bestSlot_50 rfl hl (by decide) (fun x3_50 ex3_50 ls (hl : lv_has ls 5 [(3, .int (zI x3_50)), (4, .int (zI t)), (0, .ref (ad 105)), (1, .int (zI i)), (2, .int (zI bl))]) => ?_)
            refine z_iinc (k := 1) hx hb d_S_bestSlot_51 hl rfl (by decide) (fun x4_51 ex4_51 ls (hl : lv_has ls 5 [(4, .int (zI x4_51)), (3, .int (zI x3_50)), (0, .ref (ad 105)), (1, .int (zI i)), (2, .int (zI bl))]) => ?_)
            refine lv_goto (tgt := 7) hx hb d_S_bestSlot_54 (by decide) ?_
            exact ih7 x4_51 x3_50 _ _ (by omega) (by omega) (by rw [hN, ex4_51]; first | (rw [if_neg (fun q => q.1 c23)]; done) | (rw [if_pos ⟨c23, by omega⟩, ex3_50]; done) | (rw [if_neg (fun q => by omega)]; done)) (by omega) hw ls (lv_sub hl [0, 1, 2, 3, 4] rfl)
          · refine lv_aload_n hx hb d_S_bestSlot_31 rfl (lv_at hl 2 rfl) ?_
            refine gX_S_worths hc hw lk_S_21 d_S_bestSlot_32 ?_
            refine lv_iload hx hb d_S_bestSlot_35 (lv_at hl 0 rfl) ?_
            refine ldX_S_worths hc hw d_S_bestSlot_37 (by omega) ?_
            refine lv_aload_n hx hb d_S_bestSlot_38 rfl (lv_at hl 2 rfl) ?_
            refine gX_S_worths hc hw lk_S_21 d_S_bestSlot_39 ?_
            refine lv_iload_n hx hb d_S_bestSlot_42 rfl (lv_at hl 1 rfl) ?_
            refine ldX_S_worths hc hw d_S_bestSlot_43 (by omega) ?_
            refine z_lcmp_le hx hb 51 d_S_bestSlot_44 d_S_bestSlot_45 (by omega) (by omega) (by decide) (fun c44 => ?_) (fun c44 => ?_)
            · refine z_iinc (k := 0) hx hb d_S_bestSlot_51 hl rfl (by decide) (fun x4_51 ex4_51 ls (hl : lv_has ls 5 [(4, .int (zI x4_51)), (3, .int (zI fd)), (0, .ref (ad 105)), (1, .int (zI i)), (2, .int (zI bl))]) => ?_)
              refine lv_goto (tgt := 7) hx hb d_S_bestSlot_54 (by decide) ?_
              exact ih7 x4_51 fd _ _ (by omega) (by omega) (by rw [hN, ex4_51]; first | (rw [if_neg (fun q => q.1 c23)]; done) | (rw [if_pos ⟨c23, by omega⟩, ex3_50]; done) | (rw [if_neg (fun q => by omega)]; done)) (by omega) hw ls (lv_sub hl [0, 1, 2, 3, 4] rfl)
            · refine lv_iload hx hb d_S_bestSlot_48 (lv_at hl 0 rfl) ?_
              refine z_ist_n hx hb d_S_bestSlot_50 rfl hl (by decide) (fun x3_50 ex3_50 ls (hl : lv_has ls 5 [(3, .int (zI x3_50)), (4, .int (zI t)), (0, .ref (ad 105)), (1, .int (zI i)), (2, .int (zI bl))]) => ?_)
              refine z_iinc (k := 1) hx hb d_S_bestSlot_51 hl rfl (by decide) (fun x4_51 ex4_51 ls (hl : lv_has ls 5 [(4, .int (zI x4_51)), (3, .int (zI x3_50)), (0, .ref (ad 105)), (1, .int (zI i)), (2, .int (zI bl))]) => ?_)
              refine lv_goto (tgt := 7) hx hb d_S_bestSlot_54 (by decide) ?_
              exact ih7 x4_51 x3_50 _ _ (by omega) (by omega) (by rw [hN, ex4_51]; first | (rw [if_neg (fun q => q.1 c23)]; done) | (rw [if_pos ⟨c23, by omega⟩, ex3_50]; done) | (rw [if_neg (fun q => by omega)]; done)) (by omega) hw ls (lv_sub hl [0, 1, 2, 3, 4] rfl)
  exact L7 _ x4_5 x3_1 _ _ (by omega) (by omega) (by rw [ex4_5, ex3_1, show (i * 3 + σ 11 i - i * 3).toNat = (σ 11 i).toNat from (by omega)]; rfl) (Nat.lt_succ_self _) hw ls (lv_sub hl [0, 1, 2, 3, 4] rfl)
end
section
set_option maxHeartbeats 400000 in
set_option maxRecDepth 100000 in
theorem k_S_mostWorthFrom {l : Launch} {D : va_G} {ad : Nat → Nat} {ca : Nat → ClassId} (σ : St) (d bl : Int) (hd : 0 ≤ d ∧ d ≤ 8) (hbl : 0 ≤ bl ∧ bl < 16777216) (hS : IS σ) : Cw l D cl7 (tyX ca) (wX ad ca) y_S_mostWorthFrom c_S_mostWorthFrom 7 (some .long) 2 [.ref (ad 105), .int (zI d), .int (zI bl)] σ (RW (.long (zL (mw σ d bl))) (σ = ·)) := by
  have h17 := hS.1
  refine Cw.enter (by decide) (Nat.le_of_ble_eq_true rfl) ?_
  intro A p e s m below meth c hc ls hl hw
  have hl : lv_has ls 7 [(0, .ref (ad 105)), (1, .int (zI d)), (2, .int (zI bl))] := hl
  obtain ⟨hx, hb, hml, hown, hTB, hK, hr, hlk⟩ := id hc
  refine z_lc0 hx hb d_S_mostWorthFrom_0 ?_
  refine z_lst_n hx hb d_S_mostWorthFrom_1 rfl hl (by decide) (fun x3_1 ex3_1 ls (hl : lv_has ls 7 [(3, .long (zL x3_1)), (0, .ref (ad 105)), (1, .int (zI d)), (2, .int (zI bl))]) => ?_)
  refine lv_iload_n hx hb d_S_mostWorthFrom_2 rfl (lv_at hl 2 rfl) ?_
  refine z_ist hx hb d_S_mostWorthFrom_3 hl (by decide) (fun x5_3 ex5_3 ls (hl : lv_has ls 7 [(5, .int (zI x5_3)), (3, .long (zL x3_1)), (0, .ref (ad 105)), (1, .int (zI d)), (2, .int (zI bl))]) => ?_)
  have L5 : ∀ (n : Nat) (k : Int) (t : Int) (H : Heap) (locs : List Loc), (d ≤ k ∧ (k ≤ σ 17 0 ∨ k = d)) → (mw σ d bl = mwF σ bl (σ 17 0 - k).toNat k t) → (σ 17 0 - k).toNat < n → Wd D cl7 (wX ad ca) A s.heap σ H locs → ∀ ls : Array Slot, lv_has ls 7 [(5, .int (zI k)), (3, .long (zL t)), (0, .ref (ad 105)), (1, .int (zI d)), (2, .int (zI bl))] → W p l e (Rmh 2) s m ([.ref (ad 105), .int (zI d), .int (zI bl)] : List Value).toArray below meth c H locs 0 0 (MQ below (Qw D cl7 (wX ad ca) A (RW (.long (zL (mw σ d bl))) (σ = ·))) ([.ref (ad 105), .int (zI d), .int (zI bl)] : List Value).toArray s 0 0 A) (F0 m 5 ls []) := by
    intro n
    induction n with
    | zero => intro k t  H locs hk hN hm; exact absurd hm (Nat.not_lt_zero _)
    | succ n ih5 =>
      intro k t  H locs hk hN hm5 hw ls hl
      refine lv_iload hx hb d_S_mostWorthFrom_5 (lv_at hl 0 rfl) ?_
      refine lv_aload_n hx hb d_S_mostWorthFrom_7 rfl (lv_at hl 2 rfl) ?_
      refine gX_S_looked hc hw lk_S_54 d_S_mostWorthFrom_8 ?_
      refine z_icmp_ge hx hb 45 d_S_mostWorthFrom_11 (by omega) (by omega) (by decide) (fun c11 => ?_) (fun c11 => ?_)
      · refine lv_lload_n hx hb d_S_mostWorthFrom_45 rfl (lv_at hl 1 rfl) ?_
        exact w_lret hc hw (⟨by rw [hN, show (σ 17 0 - k).toNat = 0 by omega]; rfl, rfl⟩) d_S_mostWorthFrom_46
      · have q : (σ 17 0 - k).toNat = (σ 17 0 - (k + 1)).toNat + 1 := by omega
        rw [q, mwF_s] at hN
        have hbb := bs_bd hS k bl (by omega)
        have h11 := hS.2.1 k
        refine lv_aload_n hx hb d_S_mostWorthFrom_14 rfl (lv_at hl 2 rfl) ?_
        refine lv_iload hx hb d_S_mostWorthFrom_15 (lv_at hl 0 rfl) ?_
        refine lv_iload_n hx hb d_S_mostWorthFrom_17 rfl (lv_at hl 4 rfl) ?_
        refine w_cvR (q0 := 5) hc hw (k_S_bestSlot _ _ _ (by omega) hbl hS) yw_S_bestSlot yi_S_bestSlot lk_S_94 d_S_mostWorthFrom_18 rfl rfl rfl rfl hl.1 (Nat.le_of_ble_eq_true rfl) ⟨Nat.le_of_ble_eq_true rfl, Nat.le_of_ble_eq_true rfl⟩ ⟨Nat.zero_le _, Nat.zero_le _⟩ (fun τ18 H locs hτ18 hw => ?_)
        subst hτ18
        refine z_ist hx hb d_S_mostWorthFrom_21 hl (by decide) (fun x6_21 ex6_21 ls (hl : lv_has ls 7 [(6, .int (zI x6_21)), (5, .int (zI k)), (3, .long (zL t)), (0, .ref (ad 105)), (1, .int (zI d)), (2, .int (zI bl))]) => ?_)
        refine lv_iload hx hb d_S_mostWorthFrom_23 (lv_at hl 0 rfl) ?_
        refine z_ic hx hb d_S_mostWorthFrom_25 ?_
        refine z_icmp_eq hx hb 39 d_S_mostWorthFrom_26 (by omega) (by omega) (by decide) (fun c26 => ?_) (fun c26 => ?_)
        · refine z_iinc (k := 1) hx hb d_S_mostWorthFrom_39 hl rfl (by decide) (fun x5_39 ex5_39 ls (hl : lv_has ls 7 [(5, .int (zI x5_39)), (6, .int (zI x6_21)), (3, .long (zL t)), (0, .ref (ad 105)), (1, .int (zI d)), (2, .int (zI bl))]) => ?_)
          refine lv_goto (tgt := 5) hx hb d_S_mostWorthFrom_42 (by decide) ?_
          exact ih5 x5_39 t _ _ (by omega) (by rw [hN, ex5_39]; first | (rw [if_pos (by omega)]; done) | (rw [if_neg (by omega), ex3_38, ex6_21])) (by omega) hw ls (lv_sub hl [0, 2, 3, 4, 5] rfl)
        · refine lv_lload_n hx hb d_S_mostWorthFrom_29 rfl (lv_at hl 2 rfl) ?_
          refine lv_aload_n hx hb d_S_mostWorthFrom_30 rfl (lv_at hl 3 rfl) ?_
          refine gX_S_worths hc hw lk_S_21 d_S_mostWorthFrom_31 ?_
          refine lv_iload hx hb d_S_mostWorthFrom_34 (lv_at hl 0 rfl) ?_
          refine ldX_S_worths hc hw d_S_mostWorthFrom_36 (by omega) ?_
          refine z_ladd hx hb d_S_mostWorthFrom_37 ?_
          refine z_lst_n hx hb d_S_mostWorthFrom_38 rfl hl (by decide) (fun x3_38 ex3_38 ls (hl : lv_has ls 7 [(3, .long (zL x3_38)), (6, .int (zI x6_21)), (5, .int (zI k)), (0, .ref (ad 105)), (1, .int (zI d)), (2, .int (zI bl))]) => ?_)
          refine z_iinc (k := 2) hx hb d_S_mostWorthFrom_39 hl rfl (by decide) (fun x5_39 ex5_39 ls (hl : lv_has ls 7 [(5, .int (zI x5_39)), (3, .long (zL x3_38)), (6, .int (zI x6_21)), (0, .ref (ad 105)), (1, .int (zI d)), (2, .int (zI bl))]) => ?_)
          refine lv_goto (tgt := 5) hx hb d_S_mostWorthFrom_42 (by decide) ?_
          exact ih5 x5_39 x3_38 _ _ (by omega) (by rw [hN, ex5_39]; first | (rw [if_pos (by omega)]; done) | (rw [if_neg (by omega), ex3_38, ex6_21])) (by omega) hw ls (lv_sub hl [0, 1, 3, 4, 5] rfl)
  exact L5 _ x5_3 x3_1 _ _ (by omega) (by rw [ex5_3, ex3_1]; rfl) (Nat.lt_succ_self _) hw ls (lv_sub hl [0, 1, 2, 3, 4] rfl)
end
section
set_option maxHeartbeats 400000 in
set_option maxRecDepth 100000 in
theorem k_S_worthOfPlainChoice {l : Launch} {D : va_G} {ad : Nat → Nat} {ca : Nat → ClassId} (σ : St) (hS : IS σ) : Cw l D cl7 (tyX ca) (wX ad ca) y_S_worthOfPlainChoice c_S_worthOfPlainChoice 6 (some .long) 2 [.ref (ad 105)] σ (RW (.long (zL (wp0 σ))) (σ = ·)) := by
  have h17 := hS.1
  refine Cw.enter (by decide) (Nat.le_of_ble_eq_true rfl) ?_
  intro A p e s m below meth c hc ls hl hw
  have hl : lv_has ls 6 [(0, .ref (ad 105))] := hl
  obtain ⟨hx, hb, hml, hown, hTB, hK, hr, hlk⟩ := id hc
  refine z_lc0 hx hb d_S_worthOfPlainChoice_0 ?_
  refine z_lst_n hx hb d_S_worthOfPlainChoice_1 rfl hl (by decide) (fun x1_1 ex1_1 ls (hl : lv_has ls 6 [(1, .long (zL x1_1)), (0, .ref (ad 105))]) => ?_)
  refine z_ic hx hb d_S_worthOfPlainChoice_2 ?_
  refine z_ist_n hx hb d_S_worthOfPlainChoice_3 rfl hl (by decide) (fun x3_3 ex3_3 ls (hl : lv_has ls 6 [(3, .int (zI x3_3)), (1, .long (zL x1_1)), (0, .ref (ad 105))]) => ?_)
  refine z_ic hx hb d_S_worthOfPlainChoice_4 ?_
  refine z_ist hx hb d_S_worthOfPlainChoice_5 hl (by decide) (fun x4_5 ex4_5 ls (hl : lv_has ls 6 [(4, .int (zI x4_5)), (3, .int (zI x3_3)), (1, .long (zL x1_1)), (0, .ref (ad 105))]) => ?_)
  have L7 : ∀ (n : Nat) (k : Int) (t : Int) (bl : Int) (H : Heap) (locs : List Loc), (0 ≤ k ∧ k ≤ σ 17 0) → (0 ≤ bl ∧ bl < 16777216) → (wp0 σ = wpF σ (σ 17 0 - k).toNat k t bl) → (σ 17 0 - k).toNat < n → Wd D cl7 (wX ad ca) A s.heap σ H locs → ∀ ls : Array Slot, lv_has ls 6 [(4, .int (zI k)), (1, .long (zL t)), (3, .int (zI bl)), (0, .ref (ad 105))] → W p l e (Rmh 2) s m ([.ref (ad 105)] : List Value).toArray below meth c H locs 0 0 (MQ below (Qw D cl7 (wX ad ca) A (RW (.long (zL (wp0 σ))) (σ = ·))) ([.ref (ad 105)] : List Value).toArray s 0 0 A) (F0 m 7 ls []) := by
    intro n
    induction n with
    | zero => intro k t bl  H locs hk hbl hN hm; exact absurd hm (Nat.not_lt_zero _)
    | succ n ih7 =>
      intro k t bl  H locs hk hbl hN hm7 hw ls hl
      refine lv_iload hx hb d_S_worthOfPlainChoice_7 (lv_at hl 0 rfl) ?_
      refine lv_aload_n hx hb d_S_worthOfPlainChoice_9 rfl (lv_at hl 3 rfl) ?_
      refine gX_S_looked hc hw lk_S_54 d_S_worthOfPlainChoice_10 ?_
      refine z_icmp_ge hx hb 57 d_S_worthOfPlainChoice_13 (by omega) (by omega) (by decide) (fun c13 => ?_) (fun c13 => ?_)
      · refine lv_lload_n hx hb d_S_worthOfPlainChoice_57 rfl (lv_at hl 1 rfl) ?_
        exact w_lret hc hw (⟨by rw [hN, show (σ 17 0 - k).toNat = 0 by omega]; rfl, rfl⟩) d_S_worthOfPlainChoice_58
      · have q : (σ 17 0 - k).toNat = (σ 17 0 - (k + 1)).toNat + 1 := by omega
        rw [q, wpF_s] at hN
        have hbb := bs_bd hS k bl (by omega)
        have h11 := hS.2.1 k
        refine lv_aload_n hx hb d_S_worthOfPlainChoice_16 rfl (lv_at hl 3 rfl) ?_
        refine lv_iload hx hb d_S_worthOfPlainChoice_17 (lv_at hl 0 rfl) ?_
        refine lv_iload_n hx hb d_S_worthOfPlainChoice_19 rfl (lv_at hl 2 rfl) ?_
        refine w_cvR (q0 := 5) hc hw (k_S_bestSlot _ _ _ (by omega) hbl hS) yw_S_bestSlot yi_S_bestSlot lk_S_94 d_S_worthOfPlainChoice_20 rfl rfl rfl rfl hl.1 (Nat.le_of_ble_eq_true rfl) ⟨Nat.le_of_ble_eq_true rfl, Nat.le_of_ble_eq_true rfl⟩ ⟨Nat.zero_le _, Nat.zero_le _⟩ (fun τ20 H locs hτ20 hw => ?_)
        subst hτ20
        refine z_ist hx hb d_S_worthOfPlainChoice_23 hl (by decide) (fun x5_23 ex5_23 ls (hl : lv_has ls 6 [(5, .int (zI x5_23)), (4, .int (zI k)), (1, .long (zL t)), (3, .int (zI bl)), (0, .ref (ad 105))]) => ?_)
        refine lv_iload hx hb d_S_worthOfPlainChoice_25 (lv_at hl 0 rfl) ?_
        refine z_ic hx hb d_S_worthOfPlainChoice_27 ?_
        refine z_icmp_eq hx hb 51 d_S_worthOfPlainChoice_28 (by omega) (by omega) (by decide) (fun c28 => ?_) (fun c28 => ?_)
        · refine z_iinc (k := 1) hx hb d_S_worthOfPlainChoice_51 hl rfl (by decide) (fun x4_51 ex4_51 ls (hl : lv_has ls 6 [(4, .int (zI x4_51)), (5, .int (zI x5_23)), (1, .long (zL t)), (3, .int (zI bl)), (0, .ref (ad 105))]) => ?_)
          refine lv_goto (tgt := 7) hx hb d_S_worthOfPlainChoice_54 (by decide) ?_
          exact ih7 x4_51 t bl _ _ (by omega) (by first | exact hbl | (rw [ex3_50, ex5_23]; exact zOr_bd (k := 24) hbl (hS.2.2.2.2 _))) (by rw [hN, ex4_51]; first | (rw [if_pos (by omega)]; done) | (rw [if_neg (by omega), ex1_40, ex3_50, ex5_23])) (by omega) hw ls (lv_sub hl [0, 2, 3, 4] rfl)
        · refine lv_lload_n hx hb d_S_worthOfPlainChoice_31 rfl (lv_at hl 2 rfl) ?_
          refine lv_aload_n hx hb d_S_worthOfPlainChoice_32 rfl (lv_at hl 4 rfl) ?_
          refine gX_S_worths hc hw lk_S_21 d_S_worthOfPlainChoice_33 ?_
          refine lv_iload hx hb d_S_worthOfPlainChoice_36 (lv_at hl 0 rfl) ?_
          refine ldX_S_worths hc hw d_S_worthOfPlainChoice_38 (by omega) ?_
          refine z_ladd hx hb d_S_worthOfPlainChoice_39 ?_
          refine z_lst_n hx hb d_S_worthOfPlainChoice_40 rfl hl (by decide) (fun x1_40 ex1_40 ls (hl : lv_has ls 6 [(1, .long (zL x1_40)), (5, .int (zI x5_23)), (4, .int (zI k)), (3, .int (zI bl)), (0, .ref (ad 105))]) => ?_)
          refine lv_iload_n hx hb d_S_worthOfPlainChoice_41 rfl (lv_at hl 3 rfl) ?_
          refine lv_aload_n hx hb d_S_worthOfPlainChoice_42 rfl (lv_at hl 4 rfl) ?_
          refine gX_S_clashes hc hw lk_S_25 d_S_worthOfPlainChoice_43 ?_
          refine lv_iload hx hb d_S_worthOfPlainChoice_46 (lv_at hl 1 rfl) ?_
          refine ldX_S_clashes hc hw d_S_worthOfPlainChoice_48 (by omega) ?_
          refine z_ior hx hb d_S_worthOfPlainChoice_49 (⟨hbl.1, (hS.2.2.2.2 _).1⟩) ?_
          refine z_ist_n hx hb d_S_worthOfPlainChoice_50 rfl hl (by decide) (fun x3_50 ex3_50 ls (hl : lv_has ls 6 [(3, .int (zI x3_50)), (1, .long (zL x1_40)), (5, .int (zI x5_23)), (4, .int (zI k)), (0, .ref (ad 105))]) => ?_)
          refine z_iinc (k := 3) hx hb d_S_worthOfPlainChoice_51 hl rfl (by decide) (fun x4_51 ex4_51 ls (hl : lv_has ls 6 [(4, .int (zI x4_51)), (3, .int (zI x3_50)), (1, .long (zL x1_40)), (5, .int (zI x5_23)), (0, .ref (ad 105))]) => ?_)
          refine lv_goto (tgt := 7) hx hb d_S_worthOfPlainChoice_54 (by decide) ?_
          exact ih7 x4_51 x1_40 x3_50 _ _ (by omega) (by first | exact hbl | (rw [ex3_50, ex5_23]; exact zOr_bd (k := 24) hbl (hS.2.2.2.2 _))) (by rw [hN, ex4_51]; first | (rw [if_pos (by omega)]; done) | (rw [if_neg (by omega), ex1_40, ex3_50, ex5_23])) (by omega) hw ls (lv_sub hl [0, 2, 1, 4] rfl)
  exact L7 _ x4_5 x1_1 x3_3 _ _ (by omega) (by omega) (by rw [ex4_5, ex1_1, ex3_3, show (σ 17 0 - 0).toNat = (σ 17 0).toNat from (by omega)]; rfl) (Nat.lt_succ_self _) hw ls (lv_sub hl [0, 2, 1, 3] rfl)
end
section
set_option maxHeartbeats 400000 in
set_option maxRecDepth 100000 in
theorem k_S_keep {l : Launch} {D : va_G} {ad : Nat → Nat} {ca : Nat → ClassId} (σ : St) (w : Int) : Cw l D cl7 (tyX ca) (wX ad ca) y_S_keep c_S_keep 3 none 1 [.ref (ad 105), .long (zL w)] σ (VW (kp σ w = ·)) := by
  refine Cw.enter (by decide) (Nat.le_of_ble_eq_true rfl) ?_
  intro A p e s m below meth c hc ls hl hw
  have hl : lv_has ls 3 [(0, .ref (ad 105)), (1, .long (zL w))] := hl
  obtain ⟨hx, hb, hml, hown, hTB, hK, hr, hlk⟩ := id hc
  refine lv_aload_n hx hb d_S_keep_0 rfl (lv_at hl 0 rfl) ?_
  refine lv_lload_n hx hb d_S_keep_1 rfl (lv_at hl 1 rfl) ?_
  refine pX_S_bestWorth hc hw lk_S_46 d_S_keep_2 (fun H locs hw => ?_)
  refine lv_aload_n hx hb d_S_keep_5 rfl (lv_at hl 0 rfl) ?_
  refine gX_S_tried hc hw lk_S_28 d_S_keep_6 ?_
  refine z_ic hx hb d_S_keep_9 ?_
  refine lv_aload_n hx hb d_S_keep_10 rfl (lv_at hl 0 rfl) ?_
  refine gX_S_best hc hw lk_S_31 d_S_keep_11 ?_
  refine z_ic hx hb d_S_keep_14 ?_
  refine z_bi hx hb d_S_keep_15 (by decide) ?_
  refine cpX_15_16 hc hw hl.1 lk_S_109 d_S_keep_17 (by decide) (Nat.le_of_ble_eq_true rfl) (Nat.le_of_ble_eq_true rfl) (fun H locs hw => ?_)
  exact w_vret hc hw (⟨rfl, rfl⟩) d_S_keep_20
end
section
set_option maxHeartbeats 400000 in
set_option maxRecDepth 100000 in
theorem k_S_markClashesWithNet {l : Launch} {D : va_G} {ad : Nat → Nat} {ca : Nat → ClassId} (σ : St) (t i : Int) (ht : 0 ≤ t ∧ t < 24) (hi : 0 ≤ i ∧ i < 8) (hI : IB σ) (hS : IS σ) : Cw l D cl7 (tyX ca) (wX ad ca) y_S_markClashesWithNet c_S_markClashesWithNet 5 none 2 [.ref (ad 105), .ref (ad 101), .int (zI t), .int (zI i)] σ (VW (fun τ => mcN t (σ 11 i).toNat (i * 3) σ = τ ∧ IS τ ∧ ∀ g, g ≠ 14 → τ g = σ g)) := by
  have h11 := hS.2.1 i
  refine Cw.enter (by decide) (Nat.le_of_ble_eq_true rfl) ?_
  intro A p e s m below meth c hc ls hl hw
  have hl : lv_has ls 5 [(0, .ref (ad 105)), (1, .ref (ad 101)), (2, .int (zI t)), (3, .int (zI i))] := hl
  obtain ⟨hx, hb, hml, hown, hTB, hK, hr, hlk⟩ := id hc
  refine lv_iload_n hx hb d_S_markClashesWithNet_0 rfl (lv_at hl 3 rfl) ?_
  refine z_ic hx hb d_S_markClashesWithNet_1 ?_
  refine z_imul hx hb d_S_markClashesWithNet_2 ?_
  refine z_ist hx hb d_S_markClashesWithNet_3 hl (by decide) (fun x4_3 ex4_3 ls (hl : lv_has ls 5 [(4, .int (zI x4_3)), (0, .ref (ad 105)), (1, .ref (ad 101)), (2, .int (zI t)), (3, .int (zI i))]) => ?_)
  have L5 : ∀ (n : Nat) (u : Int) (τ : St) (H : Heap) (locs : List Loc), (i * 3 ≤ u ∧ u ≤ i * 3 + σ 11 i) → (mcN t (σ 11 i).toNat (i * 3) σ = mcN t (i * 3 + σ 11 i - u).toNat u τ) → (IS τ) → (∀ g, g ≠ 14 → τ g = σ g) → (i * 3 + σ 11 i - u).toNat < n → Wd D cl7 (wX ad ca) A s.heap τ H locs → ∀ ls : Array Slot, lv_has ls 5 [(4, .int (zI u)), (0, .ref (ad 105)), (1, .ref (ad 101)), (2, .int (zI t)), (3, .int (zI i))] → W p l e (Rmh 2) s m ([.ref (ad 105), .ref (ad 101), .int (zI t), .int (zI i)] : List Value).toArray below meth c H locs 0 0 (MQ below (Qw D cl7 (wX ad ca) A (VW (fun τ => mcN t (σ 11 i).toNat (i * 3) σ = τ ∧ IS τ ∧ ∀ g, g ≠ 14 → τ g = σ g))) ([.ref (ad 105), .ref (ad 101), .int (zI t), .int (zI i)] : List Value).toArray s 0 0 A) (F0 m 5 ls []) := by
    intro n
    induction n with
    | zero => intro u τ H locs hu hN hSτ ho hm; exact absurd hm (Nat.not_lt_zero _)
    | succ n ih5 =>
      intro u τ H locs hu hN hSτ ho hm5 hw ls hl
      have hIτ : IB τ := IB_of (fun g hg => ho g (by omega)) hI
      have e11 : τ 11 i = σ 11 i := by rw [ho 11 (by decide)]
      have h12t := hSτ.2.2.1 t
      have h12u := hSτ.2.2.1 u
      have h14t := hSτ.2.2.2.2 t
      refine lv_iload hx hb d_S_markClashesWithNet_5 (lv_at hl 0 rfl) ?_
      refine lv_aload_n hx hb d_S_markClashesWithNet_7 rfl (lv_at hl 1 rfl) ?_
      refine lv_iload_n hx hb d_S_markClashesWithNet_8 rfl (lv_at hl 4 rfl) ?_
      refine w_cvR (q0 := 5) hc hw (k_S_endOf _ _ (by omega)) yw_S_endOf yi_S_endOf lk_S_82 d_S_markClashesWithNet_9 rfl rfl rfl rfl hl.1 (Nat.le_of_ble_eq_true rfl) ⟨Nat.le_of_ble_eq_true rfl, Nat.le_of_ble_eq_true rfl⟩ ⟨Nat.zero_le _, Nat.zero_le _⟩ (fun τ9 H locs hτ9 hw => ?_)
      subst hτ9
      refine z_icmp_ge hx hb 54 d_S_markClashesWithNet_12 (by omega) (by omega) (by decide) (fun c12 => ?_) (fun c12 => ?_)
      · exact w_vret hc hw (⟨rfl, by rw [hN, show (i * 3 + σ 11 i - u).toNat = 0 by omega]; rfl, hSτ, ho⟩) d_S_markClashesWithNet_54
      · have q : (i * 3 + σ 11 i - u).toNat = (i * 3 + σ 11 i - (u + 1)).toNat + 1 := by omega
        rw [q, mcN_s] at hN
        have hpu := p2_bd (b := u) (k := 24) (by omega)
        have hSn : IS (up τ 14 t (zOr (τ 14 t) ((2 ^ u.toNat : Nat) : Int))) := ⟨by rw [up_f _ _ _ (by decide)]; exact hSτ.1, by rw [up_f _ _ _ (by decide)]; exact hSτ.2.1, by rw [up_f _ _ _ (by decide)]; exact hSτ.2.2.1, by rw [up_f _ _ _ (by decide)]; exact hSτ.2.2.2.1, fun j => by unfold up; split; exact zOr_bd (k := 24) h14t hpu; exact hSτ.2.2.2.2 j⟩
        refine lv_aload_n hx hb d_S_markClashesWithNet_15 rfl (lv_at hl 2 rfl) ?_
        refine lv_aload_n hx hb d_S_markClashesWithNet_16 rfl (lv_at hl 1 rfl) ?_
        refine gX_S_points hc hw lk_S_18 d_S_markClashesWithNet_17 ?_
        refine lv_iload_n hx hb d_S_markClashesWithNet_20 rfl (lv_at hl 3 rfl) ?_
        refine ldX_S_points hc hw d_S_markClashesWithNet_21 (by omega) ?_
        refine lv_aload_n hx hb d_S_markClashesWithNet_22 rfl (lv_at hl 1 rfl) ?_
        refine gX_S_points hc hw lk_S_18 d_S_markClashesWithNet_23 ?_
        refine lv_iload hx hb d_S_markClashesWithNet_26 (lv_at hl 0 rfl) ?_
        refine ldX_S_points hc hw d_S_markClashesWithNet_28 (by omega) ?_
        refine w_cvR (q0 := 1) hc hw (k_B_canBothBeProbes _ _ _ (by omega) (by omega) hIτ) yw_B_canBothBeProbes yi_B_canBothBeProbes lk_S_90 d_S_markClashesWithNet_29 rfl rfl rfl rfl hl.1 (Nat.le_of_ble_eq_true rfl) ⟨Nat.le_of_ble_eq_true rfl, Nat.le_of_ble_eq_true rfl⟩ ⟨Nat.zero_le _, Nat.zero_le _⟩ (fun τ29 H locs hτ29 hw => ?_)
        subst hτ29
        refine z_ifb_ne hx hb 48 d_S_markClashesWithNet_32 (by decide) (fun c32 => ?_) (fun c32 => ?_)
        · refine z_iinc (k := 0) hx hb d_S_markClashesWithNet_48 hl rfl (by decide) (fun x4_48 ex4_48 ls (hl : lv_has ls 5 [(4, .int (zI x4_48)), (0, .ref (ad 105)), (1, .ref (ad 101)), (2, .int (zI t)), (3, .int (zI i))]) => ?_)
          refine lv_goto (tgt := 5) hx hb d_S_markClashesWithNet_51 (by decide) ?_
          exact ih5 x4_48 _ _ _ (by omega) (by rw [hN, ex4_48]; first | (rw [if_pos c32]; done) | (rw [if_neg c32]; done)) (by first | exact hSτ | exact hSn) (by first | exact ho | exact (fun g h => by rw [up_f _ _ _ h]; exact ho g h)) (by omega) hw ls (lv_sub hl [0, 1, 2, 3, 4] rfl)
        · refine lv_aload_n hx hb d_S_markClashesWithNet_35 rfl (lv_at hl 1 rfl) ?_
          refine gX_S_clashes hc hw lk_S_25 d_S_markClashesWithNet_36 ?_
          refine lv_iload_n hx hb d_S_markClashesWithNet_39 rfl (lv_at hl 3 rfl) ?_
          refine lv_dup2_11 hx hb d_S_markClashesWithNet_40 rfl rfl ?_
          refine ldX_S_clashes hc hw d_S_markClashesWithNet_41 (by omega) ?_
          refine z_ic hx hb d_S_markClashesWithNet_42 ?_
          refine lv_iload hx hb d_S_markClashesWithNet_43 (lv_at hl 0 rfl) ?_
          refine z_shl1 hx hb d_S_markClashesWithNet_45 (by omega) ?_
          refine z_ior hx hb d_S_markClashesWithNet_46 (⟨h14t.1, hpu.1⟩) ?_
          refine stX_S_clashes hc hw d_S_markClashesWithNet_47 (by omega) (fun H locs hw => ?_)
          refine z_iinc (k := 0) hx hb d_S_markClashesWithNet_48 hl rfl (by decide) (fun x4_48 ex4_48 ls (hl : lv_has ls 5 [(4, .int (zI x4_48)), (0, .ref (ad 105)), (1, .ref (ad 101)), (2, .int (zI t)), (3, .int (zI i))]) => ?_)
          refine lv_goto (tgt := 5) hx hb d_S_markClashesWithNet_51 (by decide) ?_
          exact ih5 x4_48 _ _ _ (by omega) (by rw [hN, ex4_48]; first | (rw [if_pos c32]; done) | (rw [if_neg c32]; done)) (by first | exact hSτ | exact hSn) (by first | exact ho | exact (fun g h => by rw [up_f _ _ _ h]; exact ho g h)) (by omega) hw ls (lv_sub hl [0, 1, 2, 3, 4] rfl)
  exact L5 _ x4_3 _ _ _ (by omega) (by rw [ex4_3, show (i * 3 + σ 11 i - i * 3).toNat = (σ 11 i).toNat from (by omega)]) (hS) (fun g h => rfl) (Nat.lt_succ_self _) hw ls (lv_sub hl [0, 1, 2, 3, 4] rfl)
end
