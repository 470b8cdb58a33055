section
-- ===== PART A: goes FIRST, ahead of the names: the tables' words, and 'selects' of the private methods out of them =====
/-- a private method of a class that the tables say can be made, by its rows of tables_1 -/
def lw_okq (q : MethodName × Nat) : Prop := (q.1.cls ≠ "java/lang/invoke/MethodHandle" ∧ q.1.cls ≠ "java/lang/invoke/VarHandle") ∧ Cond.instantiable q.1.cls q.2 ∈ tables_1 ∧ Cond.privateMethod q.1 ∈ tables_1 ∧ Cond.instanceMethod q.1 ∈ tables_1
theorem lw_p0 : lw_okq (⟨"ProbeChoice", "needNet", "(I)V"⟩, 5) := ⟨⟨by decide +kernel, by decide +kernel⟩, List.mem_of_getElem? (i := 19) (by decide +kernel), List.mem_of_getElem? (i := 287) (by decide +kernel), List.mem_of_getElem? (i := 288) (by decide +kernel)⟩
theorem lw_p1 : lw_okq (⟨"java/lang/Throwable", "fillInStackTrace", "(I)Ljava/lang/Throwable;"⟩, 6) := ⟨⟨by decide +kernel, by decide +kernel⟩, List.mem_of_getElem? (i := 333) (by decide +kernel), List.mem_of_getElem? (i := 331) (by decide +kernel), List.mem_of_getElem? (i := 332) (by decide +kernel)⟩
theorem lw_p2 : lw_okq (⟨"ProbeChoice$Search", "lookAtNets", "(LProbeChoice$Board;I)V"⟩, 9) := ⟨⟨by decide +kernel, by decide +kernel⟩, List.mem_of_getElem? (i := 75) (by decide +kernel), List.mem_of_getElem? (i := 415) (by decide +kernel), List.mem_of_getElem? (i := 416) (by decide +kernel)⟩
theorem lw_p3 : lw_okq (⟨"ProbeChoice$Search", "markClashes", "(LProbeChoice$Board;)V"⟩, 9) := ⟨⟨by decide +kernel, by decide +kernel⟩, List.mem_of_getElem? (i := 75) (by decide +kernel), List.mem_of_getElem? (i := 420) (by decide +kernel), List.mem_of_getElem? (i := 421) (by decide +kernel)⟩
theorem lw_p4 : lw_okq (⟨"ProbeChoice$Search", "endOf", "(I)I"⟩, 9) := ⟨⟨by decide +kernel, by decide +kernel⟩, List.mem_of_getElem? (i := 75) (by decide +kernel), List.mem_of_getElem? (i := 427) (by decide +kernel), List.mem_of_getElem? (i := 428) (by decide +kernel)⟩
theorem lw_p5 : lw_okq (⟨"ProbeChoice$Search", "markClashesWithNet", "(LProbeChoice$Board;II)V"⟩, 9) := ⟨⟨by decide +kernel, by decide +kernel⟩, List.mem_of_getElem? (i := 75) (by decide +kernel), List.mem_of_getElem? (i := 431) (by decide +kernel), List.mem_of_getElem? (i := 432) (by decide +kernel)⟩
theorem lw_p6 : lw_okq (⟨"ProbeChoice$Search", "worthOfPlainChoice", "()J"⟩, 9) := ⟨⟨by decide +kernel, by decide +kernel⟩, List.mem_of_getElem? (i := 75) (by decide +kernel), List.mem_of_getElem? (i := 443) (by decide +kernel), List.mem_of_getElem? (i := 444) (by decide +kernel)⟩
theorem lw_p7 : lw_okq (⟨"ProbeChoice$Search", "bestSlot", "(II)I"⟩, 9) := ⟨⟨by decide +kernel, by decide +kernel⟩, List.mem_of_getElem? (i := 75) (by decide +kernel), List.mem_of_getElem? (i := 447) (by decide +kernel), List.mem_of_getElem? (i := 448) (by decide +kernel)⟩
theorem lw_p8 : lw_okq (⟨"ProbeChoice$Search", "mostWorthFrom", "(II)J"⟩, 9) := ⟨⟨by decide +kernel, by decide +kernel⟩, List.mem_of_getElem? (i := 75) (by decide +kernel), List.mem_of_getElem? (i := 455) (by decide +kernel), List.mem_of_getElem? (i := 456) (by decide +kernel)⟩
theorem lw_p9 : lw_okq (⟨"ProbeChoice$Search", "keep", "(J)V"⟩, 9) := ⟨⟨by decide +kernel, by decide +kernel⟩, List.mem_of_getElem? (i := 75) (by decide +kernel), List.mem_of_getElem? (i := 459) (by decide +kernel), List.mem_of_getElem? (i := 460) (by decide +kernel)⟩
theorem lw_p10 : lw_okq (⟨"ProbeChoice$Fixture", "takeProbes", "(LProbeChoice$Search;)V"⟩, 10) := ⟨⟨by decide +kernel, by decide +kernel⟩, List.mem_of_getElem? (i := 112) (by decide +kernel), List.mem_of_getElem? (i := 474) (by decide +kernel), List.mem_of_getElem? (i := 475) (by decide +kernel)⟩
theorem lw_p11 : lw_okq (⟨"ProbeChoice$Fixture", "planFlight", "(LProbeChoice$Board;)V"⟩, 10) := ⟨⟨by decide +kernel, by decide +kernel⟩, List.mem_of_getElem? (i := 112) (by decide +kernel), List.mem_of_getElem? (i := 478) (by decide +kernel), List.mem_of_getElem? (i := 479) (by decide +kernel)⟩
theorem lw_p12 : lw_okq (⟨"ProbeChoice$Fixture", "placeOfNearest", "(LProbeChoice$Board;IJJ)I"⟩, 10) := ⟨⟨by decide +kernel, by decide +kernel⟩, List.mem_of_getElem? (i := 112) (by decide +kernel), List.mem_of_getElem? (i := 483) (by decide +kernel), List.mem_of_getElem? (i := 484) (by decide +kernel)⟩
theorem lw_p13 : lw_okq (⟨"ProbeChoice$Fixture", "sortByPlace", "(LProbeChoice$Board;)V"⟩, 10) := ⟨⟨by decide +kernel, by decide +kernel⟩, List.mem_of_getElem? (i := 112) (by decide +kernel), List.mem_of_getElem? (i := 494) (by decide +kernel), List.mem_of_getElem? (i := 495) (by decide +kernel)⟩
theorem lw_p14 : lw_okq (⟨"ProbeChoice$Fixture", "writeText", "(LProbeChoice$Board;)V"⟩, 10) := ⟨⟨by decide +kernel, by decide +kernel⟩, List.mem_of_getElem? (i := 112) (by decide +kernel), List.mem_of_getElem? (i := 502) (by decide +kernel), List.mem_of_getElem? (i := 503) (by decide +kernel)⟩
theorem lw_p15 : lw_okq (⟨"ProbeChoice$Fixture", "writeLetter", "(C)V"⟩, 10) := ⟨⟨by decide +kernel, by decide +kernel⟩, List.mem_of_getElem? (i := 112) (by decide +kernel), List.mem_of_getElem? (i := 506) (by decide +kernel), List.mem_of_getElem? (i := 507) (by decide +kernel)⟩
def lw_privs_1 : List (MethodName × Nat) := [(⟨"ProbeChoice", "needNet", "(I)V"⟩, 5), (⟨"java/lang/Throwable", "fillInStackTrace", "(I)Ljava/lang/Throwable;"⟩, 6), (⟨"ProbeChoice$Search", "lookAtNets", "(LProbeChoice$Board;I)V"⟩, 9), (⟨"ProbeChoice$Search", "markClashes", "(LProbeChoice$Board;)V"⟩, 9), (⟨"ProbeChoice$Search", "endOf", "(I)I"⟩, 9), (⟨"ProbeChoice$Search", "markClashesWithNet", "(LProbeChoice$Board;II)V"⟩, 9), (⟨"ProbeChoice$Search", "worthOfPlainChoice", "()J"⟩, 9), (⟨"ProbeChoice$Search", "bestSlot", "(II)I"⟩, 9), (⟨"ProbeChoice$Search", "mostWorthFrom", "(II)J"⟩, 9), (⟨"ProbeChoice$Search", "keep", "(J)V"⟩, 9), (⟨"ProbeChoice$Fixture", "takeProbes", "(LProbeChoice$Search;)V"⟩, 10), (⟨"ProbeChoice$Fixture", "planFlight", "(LProbeChoice$Board;)V"⟩, 10), (⟨"ProbeChoice$Fixture", "placeOfNearest", "(LProbeChoice$Board;IJJ)I"⟩, 10), (⟨"ProbeChoice$Fixture", "sortByPlace", "(LProbeChoice$Board;)V"⟩, 10), (⟨"ProbeChoice$Fixture", "writeText", "(LProbeChoice$Board;)V"⟩, 10), (⟨"ProbeChoice$Fixture", "writeLetter", "(C)V"⟩, 10)]
theorem lw_r1 : ∀ q ∈ lw_privs_1, lw_okq q := List.forall_mem_cons.mpr ⟨lw_p0, List.forall_mem_cons.mpr ⟨lw_p1, List.forall_mem_cons.mpr ⟨lw_p2, List.forall_mem_cons.mpr ⟨lw_p3, List.forall_mem_cons.mpr ⟨lw_p4, List.forall_mem_cons.mpr ⟨lw_p5, List.forall_mem_cons.mpr ⟨lw_p6, List.forall_mem_cons.mpr ⟨lw_p7, List.forall_mem_cons.mpr ⟨lw_p8, List.forall_mem_cons.mpr ⟨lw_p9, List.forall_mem_cons.mpr ⟨lw_p10, List.forall_mem_cons.mpr ⟨lw_p11, List.forall_mem_cons.mpr ⟨lw_p12, List.forall_mem_cons.mpr ⟨lw_p13, List.forall_mem_cons.mpr ⟨lw_p14, List.forall_mem_cons.mpr ⟨lw_p15, fun _ h => absurd h List.not_mem_nil⟩⟩⟩⟩⟩⟩⟩⟩⟩⟩⟩⟩⟩⟩⟩⟩
theorem lw_p16 : lw_okq (⟨"ProbeChoice$Fixture", "writeNumber", "(J)V"⟩, 10) := ⟨⟨by decide +kernel, by decide +kernel⟩, List.mem_of_getElem? (i := 112) (by decide +kernel), List.mem_of_getElem? (i := 510) (by decide +kernel), List.mem_of_getElem? (i := 511) (by decide +kernel)⟩
theorem lw_p17 : lw_okq (⟨"ProbeChoice$Parts", "addInverse", "(IIJ)V"⟩, 4) := ⟨⟨by decide +kernel, by decide +kernel⟩, List.mem_of_getElem? (i := 158) (by decide +kernel), List.mem_of_getElem? (i := 538) (by decide +kernel), List.mem_of_getElem? (i := 539) (by decide +kernel)⟩
theorem lw_p18 : lw_okq (⟨"ProbeChoiceModel", "isNet", "(I)Z"⟩, 26) := ⟨⟨by decide +kernel, by decide +kernel⟩, List.mem_of_getElem? (i := 655) (by decide +kernel), List.mem_of_getElem? (i := 758) (by decide +kernel), List.mem_of_getElem? (i := 759) (by decide +kernel)⟩
theorem lw_p19 : lw_okq (⟨"ProbeChoiceModel", "isPoint", "(I)Z"⟩, 26) := ⟨⟨by decide +kernel, by decide +kernel⟩, List.mem_of_getElem? (i := 655) (by decide +kernel), List.mem_of_getElem? (i := 770) (by decide +kernel), List.mem_of_getElem? (i := 771) (by decide +kernel)⟩
theorem lw_p20 : lw_okq (⟨"ProbeChoiceModel", "choose", "()V"⟩, 26) := ⟨⟨by decide +kernel, by decide +kernel⟩, List.mem_of_getElem? (i := 655) (by decide +kernel), List.mem_of_getElem? (i := 779) (by decide +kernel), List.mem_of_getElem? (i := 780) (by decide +kernel)⟩
theorem lw_p21 : lw_okq (⟨"ProbeChoiceModel", "isChoice", "()Z"⟩, 26) := ⟨⟨by decide +kernel, by decide +kernel⟩, List.mem_of_getElem? (i := 655) (by decide +kernel), List.mem_of_getElem? (i := 783) (by decide +kernel), List.mem_of_getElem? (i := 784) (by decide +kernel)⟩
theorem lw_p22 : lw_okq (⟨"ProbeChoiceModel", "pointAt", "(II)I"⟩, 26) := ⟨⟨by decide +kernel, by decide +kernel⟩, List.mem_of_getElem? (i := 655) (by decide +kernel), List.mem_of_getElem? (i := 787) (by decide +kernel), List.mem_of_getElem? (i := 788) (by decide +kernel)⟩
theorem lw_p23 : lw_okq (⟨"ProbeChoiceModel", "areApart", "(II)Z"⟩, 26) := ⟨⟨by decide +kernel, by decide +kernel⟩, List.mem_of_getElem? (i := 655) (by decide +kernel), List.mem_of_getElem? (i := 791) (by decide +kernel), List.mem_of_getElem? (i := 792) (by decide +kernel)⟩
theorem lw_p24 : lw_okq (⟨"ProbeChoiceModel", "goOn", "()Z"⟩, 26) := ⟨⟨by decide +kernel, by decide +kernel⟩, List.mem_of_getElem? (i := 655) (by decide +kernel), List.mem_of_getElem? (i := 795) (by decide +kernel), List.mem_of_getElem? (i := 796) (by decide +kernel)⟩
theorem lw_p25 : lw_okq (⟨"ProbeChoiceModel", "haveParts", "(II)Z"⟩, 26) := ⟨⟨by decide +kernel, by decide +kernel⟩, List.mem_of_getElem? (i := 655) (by decide +kernel), List.mem_of_getElem? (i := 831) (by decide +kernel), List.mem_of_getElem? (i := 832) (by decide +kernel)⟩
theorem lw_p26 : lw_okq (⟨"ProbeChoiceModel", "suspectSet", "()I"⟩, 26) := ⟨⟨by decide +kernel, by decide +kernel⟩, List.mem_of_getElem? (i := 655) (by decide +kernel), List.mem_of_getElem? (i := 843) (by decide +kernel), List.mem_of_getElem? (i := 844) (by decide +kernel)⟩
theorem lw_p27 : lw_okq (⟨"ProbeChoiceModel", "explains", "(I)Z"⟩, 26) := ⟨⟨by decide +kernel, by decide +kernel⟩, List.mem_of_getElem? (i := 655) (by decide +kernel), List.mem_of_getElem? (i := 847) (by decide +kernel), List.mem_of_getElem? (i := 848) (by decide +kernel)⟩
theorem lw_p28 : lw_okq (⟨"ProbeChoiceModel", "flyTo", "(I)I"⟩, 26) := ⟨⟨by decide +kernel, by decide +kernel⟩, List.mem_of_getElem? (i := 655) (by decide +kernel), List.mem_of_getElem? (i := 869) (by decide +kernel), List.mem_of_getElem? (i := 870) (by decide +kernel)⟩
theorem lw_p29 : lw_okq (⟨"ProbeChoiceModel", "nearest", "(JJ)I"⟩, 26) := ⟨⟨by decide +kernel, by decide +kernel⟩, List.mem_of_getElem? (i := 655) (by decide +kernel), List.mem_of_getElem? (i := 873) (by decide +kernel), List.mem_of_getElem? (i := 874) (by decide +kernel)⟩
theorem lw_p30 : lw_okq (⟨"ProbeChoiceModel", "placed", "(I)I"⟩, 26) := ⟨⟨by decide +kernel, by decide +kernel⟩, List.mem_of_getElem? (i := 655) (by decide +kernel), List.mem_of_getElem? (i := 888) (by decide +kernel), List.mem_of_getElem? (i := 889) (by decide +kernel)⟩
theorem lw_p31 : lw_okq (⟨"ProbeChoiceModel", "isAhead", "(II)Z"⟩, 26) := ⟨⟨by decide +kernel, by decide +kernel⟩, List.mem_of_getElem? (i := 655) (by decide +kernel), List.mem_of_getElem? (i := 892) (by decide +kernel), List.mem_of_getElem? (i := 893) (by decide +kernel)⟩
def lw_privs_2 : List (MethodName × Nat) := [(⟨"ProbeChoice$Fixture", "writeNumber", "(J)V"⟩, 10), (⟨"ProbeChoice$Parts", "addInverse", "(IIJ)V"⟩, 4), (⟨"ProbeChoiceModel", "isNet", "(I)Z"⟩, 26), (⟨"ProbeChoiceModel", "isPoint", "(I)Z"⟩, 26), (⟨"ProbeChoiceModel", "choose", "()V"⟩, 26), (⟨"ProbeChoiceModel", "isChoice", "()Z"⟩, 26), (⟨"ProbeChoiceModel", "pointAt", "(II)I"⟩, 26), (⟨"ProbeChoiceModel", "areApart", "(II)Z"⟩, 26), (⟨"ProbeChoiceModel", "goOn", "()Z"⟩, 26), (⟨"ProbeChoiceModel", "haveParts", "(II)Z"⟩, 26), (⟨"ProbeChoiceModel", "suspectSet", "()I"⟩, 26), (⟨"ProbeChoiceModel", "explains", "(I)Z"⟩, 26), (⟨"ProbeChoiceModel", "flyTo", "(I)I"⟩, 26), (⟨"ProbeChoiceModel", "nearest", "(JJ)I"⟩, 26), (⟨"ProbeChoiceModel", "placed", "(I)I"⟩, 26), (⟨"ProbeChoiceModel", "isAhead", "(II)Z"⟩, 26)]
theorem lw_r2 : ∀ q ∈ lw_privs_2, lw_okq q := List.forall_mem_cons.mpr ⟨lw_p16, List.forall_mem_cons.mpr ⟨lw_p17, List.forall_mem_cons.mpr ⟨lw_p18, List.forall_mem_cons.mpr ⟨lw_p19, List.forall_mem_cons.mpr ⟨lw_p20, List.forall_mem_cons.mpr ⟨lw_p21, List.forall_mem_cons.mpr ⟨lw_p22, List.forall_mem_cons.mpr ⟨lw_p23, List.forall_mem_cons.mpr ⟨lw_p24, List.forall_mem_cons.mpr ⟨lw_p25, List.forall_mem_cons.mpr ⟨lw_p26, List.forall_mem_cons.mpr ⟨lw_p27, List.forall_mem_cons.mpr ⟨lw_p28, List.forall_mem_cons.mpr ⟨lw_p29, List.forall_mem_cons.mpr ⟨lw_p30, List.forall_mem_cons.mpr ⟨lw_p31, fun _ h => absurd h List.not_mem_nil⟩⟩⟩⟩⟩⟩⟩⟩⟩⟩⟩⟩⟩⟩⟩⟩
theorem lw_p32 : lw_okq (⟨"ProbeChoiceModel", "say", "(I)V"⟩, 26) := ⟨⟨by decide +kernel, by decide +kernel⟩, List.mem_of_getElem? (i := 655) (by decide +kernel), List.mem_of_getElem? (i := 900) (by decide +kernel), List.mem_of_getElem? (i := 901) (by decide +kernel)⟩
theorem lw_p33 : lw_okq (⟨"ProbeChoiceModel", "sayNumber", "(J)V"⟩, 26) := ⟨⟨by decide +kernel, by decide +kernel⟩, List.mem_of_getElem? (i := 655) (by decide +kernel), List.mem_of_getElem? (i := 904) (by decide +kernel), List.mem_of_getElem? (i := 905) (by decide +kernel)⟩
def lw_privs_3 : List (MethodName × Nat) := [(⟨"ProbeChoiceModel", "say", "(I)V"⟩, 26), (⟨"ProbeChoiceModel", "sayNumber", "(J)V"⟩, 26)]
theorem lw_r3 : ∀ q ∈ lw_privs_3, lw_okq q := List.forall_mem_cons.mpr ⟨lw_p32, List.forall_mem_cons.mpr ⟨lw_p33, fun _ h => absurd h List.not_mem_nil⟩⟩
def lw_privs : List (MethodName × Nat) := lw_privs_1 ++ (lw_privs_2 ++ (lw_privs_3))
def lw_tbl : List Cond := k2_sels lw_privs ++ tables_1
theorem lw_privs_ok : ∀ q ∈ lw_privs, lw_okq q := by
  show ∀ q ∈ lw_privs_1 ++ (lw_privs_2 ++ (lw_privs_3)), lw_okq q
  exact List.forall_mem_append.mpr ⟨lw_r1, List.forall_mem_append.mpr ⟨lw_r2, lw_r3⟩⟩
end
section
/-! ints and longs by their whole number -/
def zI (z : Int) : Int32 := Int32.ofInt z
def zL (z : Int) : Int64 := Int64.ofInt z
abbrev r32 (z : Int) : Prop := -2147483648 ≤ z ∧ z < 2147483648
abbrev r64 (z : Int) : Prop := -9223372036854775808 ≤ z ∧ z < 9223372036854775808
theorem zI_t {z : Int} (h : r32 z) : (zI z).toInt = z := Int32.toInt_ofInt_of_le h.1 h.2
theorem zL_t {z : Int} (h : r64 z) : (zL z).toInt = z := Int64.toInt_ofInt_of_le h.1 h.2
theorem zI_of (x : Int32) : zI x.toInt = x := Int32.ofInt_toInt x
theorem zL_of (x : Int64) : zL x.toInt = x := Int64.ofInt_toInt x
theorem zI_r (x : Int32) : r32 x.toInt := ⟨x.le_toInt, x.toInt_lt⟩
theorem zL_r (x : Int64) : r64 x.toInt := ⟨x.le_toInt, x.toInt_lt⟩
theorem zI_ex (x : Int32) : ∃ z : Int, r32 z ∧ x = zI z := ⟨x.toInt, zI_r x, (zI_of x).symm⟩
theorem zL_ex (x : Int64) : ∃ z : Int, r64 z ∧ x = zL z := ⟨x.toInt, zL_r x, (zL_of x).symm⟩
theorem zI_add (a b : Int) : zI a + zI b = zI (a + b) := (Int32.ofInt_add a b).symm
theorem zI_sub (a b : Int) : zI a - zI b = zI (a - b) := (Int32.ofInt_sub a b).symm
theorem zI_mul (a b : Int) : zI a * zI b = zI (a * b) := (Int32.ofInt_mul a b).symm
theorem zI_neg (a : Int) : -zI a = zI (-a) := (Int32.ofInt_neg a).symm
theorem zL_add (a b : Int) : zL a + zL b = zL (a + b) := (Int64.ofInt_add a b).symm
theorem zL_sub (a b : Int) : zL a - zL b = zL (a - b) := (Int64.ofInt_sub a b).symm
theorem zL_mul (a b : Int) : zL a * zL b = zL (a * b) := (Int64.ofInt_mul a b).symm
theorem zL_neg (a : Int) : -zL a = zL (-a) := (Int64.ofInt_neg a).symm
theorem zI_lt {a b : Int} (ha : r32 a) (hb : r32 b) : zI a < zI b ↔ a < b := by rw [Int32.lt_iff_toInt_lt, zI_t ha, zI_t hb]
theorem zI_le {a b : Int} (ha : r32 a) (hb : r32 b) : zI a ≤ zI b ↔ a ≤ b := by rw [Int32.le_iff_toInt_le, zI_t ha, zI_t hb]
theorem zI_eq {a b : Int} (ha : r32 a) (hb : r32 b) : zI a = zI b ↔ a = b := by rw [← Int32.toInt_inj, zI_t ha, zI_t hb]
theorem zL_lt {a b : Int} (ha : r64 a) (hb : r64 b) : zL a < zL b ↔ a < b := by rw [Int64.lt_iff_toInt_lt, zL_t ha, zL_t hb]
theorem zL_le {a b : Int} (ha : r64 a) (hb : r64 b) : zL a ≤ zL b ↔ a ≤ b := by rw [Int64.le_iff_toInt_le, zL_t ha, zL_t hb]
theorem zL_eq {a b : Int} (ha : r64 a) (hb : r64 b) : zL a = zL b ↔ a = b := by rw [← Int64.toInt_inj, zL_t ha, zL_t hb]
theorem zI_0 : (0 : Int32) = zI 0 := rfl
theorem zL_0 : (0 : Int64) = zL 0 := rfl
theorem zI_lt0 {a : Int} (ha : r32 a) : zI a < 0 ↔ a < 0 := zI_lt (b := 0) ha (by decide)
theorem zI_le0 {a : Int} (ha : r32 a) : zI a ≤ 0 ↔ a ≤ 0 := zI_le (b := 0) ha (by decide)
theorem zI_ge0 {a : Int} (ha : r32 a) : 0 ≤ zI a ↔ 0 ≤ a := zI_le (a := 0) (by decide) ha
theorem zI_gt0 {a : Int} (ha : r32 a) : 0 < zI a ↔ 0 < a := zI_lt (a := 0) (by decide) ha
theorem zI_eq0 {a : Int} (ha : r32 a) : zI a = 0 ↔ a = 0 := zI_eq (b := 0) ha (by decide)
theorem zL_eq0 {a : Int} (ha : r64 a) : zL a = 0 ↔ a = 0 := zL_eq (b := 0) ha (by decide)
theorem zI_L {a : Int} (ha : r32 a) : (zI a).toInt64 = zL a := Int64.toInt_inj.mp (by rw [Int32.toInt_toInt64, zI_t ha, zL_t ⟨by omega, by omega⟩])
theorem zL_I (a : Int) : (zL a).toInt32 = zI a := Int64.toInt32_ofInt
theorem zI_cl {a : Int} (h0 : 0 ≤ a) (h1 : a < 2147483648) : (zI a).toNatClampNeg = a.toNat := Int32.toNatClampNeg_ofInt_of_le (by omega) h1
theorem zI_in {a : Int} {n : Nat} (h0 : 0 ≤ a) (h1 : a < n) (hn : n < 2147483648) : vp_in (zI a) n := by
  rw [vp_in_iff, zI_t ⟨by omega, by omega⟩]; exact ⟨h0, h1⟩
theorem zI_nI (n : Nat) : nI n = zI (n : Int) := rfl
theorem zL_lN (n : Nat) : lN n = zL (n : Int) := rfl
theorem zI_pos {a : Int} (h : 0 ≤ a) : zI a = nI a.toNat := by
  rw [zI_nI, Int.toNat_of_nonneg h]
theorem zL_pos {a : Int} (h : 0 ≤ a) : zL a = lN a.toNat := by
  rw [zL_lN, Int.toNat_of_nonneg h]
theorem zI_div {a b : Int} (h0 : 0 ≤ a) (ha : a < 2147483648) (hb0 : 0 < b) (hb : b < 2147483648) : zI a / zI b = zI (a / b) := by
  obtain ⟨m, rfl⟩ := Int.eq_ofNat_of_zero_le h0
  obtain ⟨n, rfl⟩ := Int.eq_ofNat_of_zero_le (Int.le_of_lt hb0)
  exact pk_div (by omega) (by omega) (by omega)
theorem zI_rem {a b : Int} (h0 : 0 ≤ a) (ha : a < 2147483648) (hb0 : 0 < b) (hb : b < 2147483648) : zI a - zI a / zI b * zI b = zI (a % b) := by
  obtain ⟨m, rfl⟩ := Int.eq_ofNat_of_zero_le h0
  obtain ⟨n, rfl⟩ := Int.eq_ofNat_of_zero_le (Int.le_of_lt hb0)
  exact pk_rem (by omega) (by omega) (by omega)
theorem zL_div {a b : Int} (h0 : 0 ≤ a) (ha : a < 9223372036854775808) (hb0 : 0 < b) (hb : b < 9223372036854775808) : zL a / zL b = zL (a / b) := by
  obtain ⟨m, rfl⟩ := Int.eq_ofNat_of_zero_le h0
  obtain ⟨n, rfl⟩ := Int.eq_ofNat_of_zero_le (Int.le_of_lt hb0)
  exact pk_lDiv (by omega) (by omega) (by omega)
theorem zL_rem {a b : Int} (h0 : 0 ≤ a) (ha : a < 9223372036854775808) (hb0 : 0 < b) (hb : b < 9223372036854775808) : zL a - zL a / zL b * zL b = zL (a % b) := by
  obtain ⟨m, rfl⟩ := Int.eq_ofNat_of_zero_le h0
  obtain ⟨n, rfl⟩ := Int.eq_ofNat_of_zero_le (Int.le_of_lt hb0)
  exact pk_lRem (by omega) (by omega) (by omega)
/-- a truth as an int -/
def bI (P : Prop) [Decidable P] : Int := if P then 1 else 0
theorem bI_t {P : Prop} [Decidable P] (h : P) : bI P = 1 := if_pos h
theorem bI_f {P : Prop} [Decidable P] (h : ¬ P) : bI P = 0 := if_neg h
theorem bI_01 (P : Prop) [Decidable P] : bI P = 0 ∨ bI P = 1 := by unfold bI; split <;> simp
theorem bI_r (P : Prop) [Decidable P] : 0 ≤ bI P ∧ bI P ≤ 1 := by unfold bI; split <;> simp
theorem bI_0 {P : Prop} [Decidable P] : bI P = 0 ↔ ¬ P := by unfold bI; split <;> simp_all
theorem bI_1 {P : Prop} [Decidable P] : bI P = 1 ↔ P := by unfold bI; split <;> simp_all
theorem bI_cg {P Q : Prop} [Decidable P] [Decidable Q] (h : P ↔ Q) : bI P = bI Q := by unfold bI; simp [h]
section ZR
variable {p : Program} {l : Launch} {e : Env} {R : Room} {s : State} {m : MethodId} {args : Array Value} {below : List Frame} {meth : Method} {c : Code} {H : Heap} {locs : List Loc} {cells slots : Nat} {Q : State → Prop}
variable {cc : ByteArray} {pc : Nat} {ls : Array Slot} {rest : List Value} {a b : Int}
theorem z_ic (hx : p.tables.exec = Jvm.exec) (hb : c.code = cc) {n : Int} (d : decode cc pc = .ok (.iconst n, 1)) (k : W p l e R s m args below meth c H locs cells slots Q (F0 m (pc + 1) ls (.int (zI n) :: rest))) : W p l e R s m args below meth c H locs cells slots Q (F0 m pc ls rest) := lv_iconst hx hb d rfl k
theorem z_bi (hx : p.tables.exec = Jvm.exec) (hb : c.code = cc) {n : Int} (d : decode cc pc = .ok (.bipush n, 2)) (hn : -128 ≤ n ∧ n < 128) (k : W p l e R s m args below meth c H locs cells slots Q (F0 m (pc + 2) ls (.int (zI n) :: rest))) : W p l e R s m args below meth c H locs cells slots Q (F0 m pc ls rest) := lv_bipush hx hb d (Int32.toInt_inj.mp (by rw [Int8.toInt_toInt32, Int8.toInt_ofInt_of_le (by omega) (by omega), zI_t ⟨by omega, by omega⟩])) k
theorem z_si (hx : p.tables.exec = Jvm.exec) (hb : c.code = cc) {n : Int} (d : decode cc pc = .ok (.sipush n, 3)) (hn : -32768 ≤ n ∧ n < 32768) (k : W p l e R s m args below meth c H locs cells slots Q (F0 m (pc + 3) ls (.int (zI n) :: rest))) : W p l e R s m args below meth c H locs cells slots Q (F0 m pc ls rest) := lv_sipush hx hb d (Int32.toInt_inj.mp (by rw [Int16.toInt_toInt32, Int16.toInt_ofInt_of_le (by omega) (by omega), zI_t ⟨by omega, by omega⟩])) k
theorem z_lc0 (hx : p.tables.exec = Jvm.exec) (hb : c.code = cc) (d : decode cc pc = .ok (.lconst 0, 1)) (k : W p l e R s m args below meth c H locs cells slots Q (F0 m (pc + 1) ls (.long (zL 0) :: rest))) : W p l e R s m args below meth c H locs cells slots Q (F0 m pc ls rest) := lv_lconst hx hb d rfl k
theorem z_lc1 (hx : p.tables.exec = Jvm.exec) (hb : c.code = cc) (d : decode cc pc = .ok (.lconst 1, 1)) (k : W p l e R s m args below meth c H locs cells slots Q (F0 m (pc + 1) ls (.long (zL 1) :: rest))) : W p l e R s m args below meth c H locs cells slots Q (F0 m pc ls rest) := lv_lconst hx hb d rfl k
theorem z_iadd (hx : p.tables.exec = Jvm.exec) (hb : c.code = cc) (d : decode cc pc = .ok (.iadd, 1)) (k : W p l e R s m args below meth c H locs cells slots Q (F0 m (pc + 1) ls (.int (zI (a + b)) :: rest))) : W p l e R s m args below meth c H locs cells slots Q (F0 m pc ls (.int (zI b) :: .int (zI a) :: rest)) := lv_iadd hx hb d (by rw [zI_add]; exact k)
theorem z_isub (hx : p.tables.exec = Jvm.exec) (hb : c.code = cc) (d : decode cc pc = .ok (.isub, 1)) (k : W p l e R s m args below meth c H locs cells slots Q (F0 m (pc + 1) ls (.int (zI (a - b)) :: rest))) : W p l e R s m args below meth c H locs cells slots Q (F0 m pc ls (.int (zI b) :: .int (zI a) :: rest)) := lv_isub hx hb d (by rw [zI_sub]; exact k)
theorem z_imul (hx : p.tables.exec = Jvm.exec) (hb : c.code = cc) (d : decode cc pc = .ok (.imul, 1)) (k : W p l e R s m args below meth c H locs cells slots Q (F0 m (pc + 1) ls (.int (zI (a * b)) :: rest))) : W p l e R s m args below meth c H locs cells slots Q (F0 m pc ls (.int (zI b) :: .int (zI a) :: rest)) := lv_imul hx hb d (by rw [zI_mul]; exact k)
theorem z_ladd (hx : p.tables.exec = Jvm.exec) (hb : c.code = cc) (d : decode cc pc = .ok (.ladd, 1)) (k : W p l e R s m args below meth c H locs cells slots Q (F0 m (pc + 1) ls (.long (zL (a + b)) :: rest))) : W p l e R s m args below meth c H locs cells slots Q (F0 m pc ls (.long (zL b) :: .long (zL a) :: rest)) := lv_ladd hx hb d (by rw [zL_add]; exact k)
theorem z_lsub (hx : p.tables.exec = Jvm.exec) (hb : c.code = cc) (d : decode cc pc = .ok (.lsub, 1)) (k : W p l e R s m args below meth c H locs cells slots Q (F0 m (pc + 1) ls (.long (zL (a - b)) :: rest))) : W p l e R s m args below meth c H locs cells slots Q (F0 m pc ls (.long (zL b) :: .long (zL a) :: rest)) := lv_lsub hx hb d (by rw [zL_sub]; exact k)
theorem z_lmul (hx : p.tables.exec = Jvm.exec) (hb : c.code = cc) (d : decode cc pc = .ok (.lmul, 1)) (k : W p l e R s m args below meth c H locs cells slots Q (F0 m (pc + 1) ls (.long (zL (a * b)) :: rest))) : W p l e R s m args below meth c H locs cells slots Q (F0 m pc ls (.long (zL b) :: .long (zL a) :: rest)) := lv_lmul hx hb d (by rw [zL_mul]; exact k)
theorem z_lneg (hx : p.tables.exec = Jvm.exec) (hb : c.code = cc) (d : decode cc pc = .ok (.lneg, 1)) (k : W p l e R s m args below meth c H locs cells slots Q (F0 m (pc + 1) ls (.long (zL (-a)) :: rest))) : W p l e R s m args below meth c H locs cells slots Q (F0 m pc ls (.long (zL a) :: rest)) := lv_lneg hx hb d (by rw [zL_neg]; exact k)
theorem z_idiv (hx : p.tables.exec = Jvm.exec) (hb : c.code = cc) (d : decode cc pc = .ok (.idiv, 1)) (h : (0 ≤ a ∧ a < 2147483648) ∧ 0 < b ∧ b < 2147483648) (k : W p l e R s m args below meth c H locs cells slots Q (F0 m (pc + 1) ls (.int (zI (a / b)) :: rest))) : W p l e R s m args below meth c H locs cells slots Q (F0 m pc ls (.int (zI b) :: .int (zI a) :: rest)) := lv_idiv hx hb d (fun q => by have := (zI_eq0 (a := b) ⟨by omega, by omega⟩).mp q; omega) (by rw [zI_div h.1.1 h.1.2 h.2.1 h.2.2]; exact k)
theorem z_irem (hx : p.tables.exec = Jvm.exec) (hb : c.code = cc) (d : decode cc pc = .ok (.irem, 1)) (h : (0 ≤ a ∧ a < 2147483648) ∧ 0 < b ∧ b < 2147483648) (k : W p l e R s m args below meth c H locs cells slots Q (F0 m (pc + 1) ls (.int (zI (a % b)) :: rest))) : W p l e R s m args below meth c H locs cells slots Q (F0 m pc ls (.int (zI b) :: .int (zI a) :: rest)) := lv_irem hx hb d (fun q => by have := (zI_eq0 (a := b) ⟨by omega, by omega⟩).mp q; omega) (by rw [zI_rem h.1.1 h.1.2 h.2.1 h.2.2]; exact k)
theorem z_ldiv (hx : p.tables.exec = Jvm.exec) (hb : c.code = cc) (d : decode cc pc = .ok (.ldiv, 1)) (h : (0 ≤ a ∧ a < 9223372036854775808) ∧ 0 < b ∧ b < 9223372036854775808) (k : W p l e R s m args below meth c H locs cells slots Q (F0 m (pc + 1) ls (.long (zL (a / b)) :: rest))) : W p l e R s m args below meth c H locs cells slots Q (F0 m pc ls (.long (zL b) :: .long (zL a) :: rest)) := lv_ldiv hx hb d (fun q => by have := (zL_eq0 (a := b) ⟨by omega, by omega⟩).mp q; omega) (by rw [zL_div h.1.1 h.1.2 h.2.1 h.2.2]; exact k)
theorem z_lrem (hx : p.tables.exec = Jvm.exec) (hb : c.code = cc) (d : decode cc pc = .ok (.lrem, 1)) (h : (0 ≤ a ∧ a < 9223372036854775808) ∧ 0 < b ∧ b < 9223372036854775808) (k : W p l e R s m args below meth c H locs cells slots Q (F0 m (pc + 1) ls (.long (zL (a % b)) :: rest))) : W p l e R s m args below meth c H locs cells slots Q (F0 m pc ls (.long (zL b) :: .long (zL a) :: rest)) := lv_lrem hx hb d (fun q => by have := (zL_eq0 (a := b) ⟨by omega, by omega⟩).mp q; omega) (by rw [zL_rem h.1.1 h.1.2 h.2.1 h.2.2]; exact k)
theorem z_i2l (hx : p.tables.exec = Jvm.exec) (hb : c.code = cc) (d : decode cc pc = .ok (.i2l, 1)) (h : r32 a) (k : W p l e R s m args below meth c H locs cells slots Q (F0 m (pc + 1) ls (.long (zL a) :: rest))) : W p l e R s m args below meth c H locs cells slots Q (F0 m pc ls (.int (zI a) :: rest)) := lv_i2l hx hb d (zI_L h) k
theorem z_l2i (hx : p.tables.exec = Jvm.exec) (hb : c.code = cc) (d : decode cc pc = .ok (.l2i, 1)) (k : W p l e R s m args below meth c H locs cells slots Q (F0 m (pc + 1) ls (.int (zI a) :: rest))) : W p l e R s m args below meth c H locs cells slots Q (F0 m pc ls (.long (zL a) :: rest)) := lv_l2i hx hb d (zL_I a) k
-- BRANCH ROWS: if, icmp, lcmp+if; a truth value
theorem z_if_eq (hx : p.tables.exec = Jvm.exec) (hb : c.code = cc) {off : Int} (tgt : Nat) (d : decode cc pc = .ok (.ifCond .eq off, 3)) (h : r32 a) (ht : (pc : Int) + off = (tgt : Int)) (kt : a = 0 → W p l e R s m args below meth c H locs cells slots Q (F0 m tgt ls rest)) (kf : ¬ a = 0 → W p l e R s m args below meth c H locs cells slots Q (F0 m (pc + 3) ls rest)) : W p l e R s m args below meth c H locs cells slots Q (F0 m pc ls (.int (zI a) :: rest)) := lv_if_eq hx hb d ht (fun q => kt ((zI_eq0 h).mp q)) (fun q => kf (fun q2 => q ((zI_eq0 h).mpr q2)))
theorem z_icmp_eq (hx : p.tables.exec = Jvm.exec) (hb : c.code = cc) {off : Int} (tgt : Nat) (d : decode cc pc = .ok (.if_icmp .eq off, 3)) (h1 : r32 a) (h2 : r32 b) (ht : (pc : Int) + off = (tgt : Int)) (kt : a = b → W p l e R s m args below meth c H locs cells slots Q (F0 m tgt ls rest)) (kf : ¬ a = b → W p l e R s m args below meth c H locs cells slots Q (F0 m (pc + 3) ls rest)) : W p l e R s m args below meth c H locs cells slots Q (F0 m pc ls (.int (zI b) :: .int (zI a) :: rest)) := lv_icmp_eq hx hb d ht (fun q => kt ((zI_eq h1 h2).mp q)) (fun q => kf (fun q2 => q ((zI_eq h1 h2).mpr q2)))
theorem z_if_ne (hx : p.tables.exec = Jvm.exec) (hb : c.code = cc) {off : Int} (tgt : Nat) (d : decode cc pc = .ok (.ifCond .ne off, 3)) (h : r32 a) (ht : (pc : Int) + off = (tgt : Int)) (kt : ¬ a = 0 → W p l e R s m args below meth c H locs cells slots Q (F0 m tgt ls rest)) (kf : a = 0 → W p l e R s m args below meth c H locs cells slots Q (F0 m (pc + 3) ls rest)) : W p l e R s m args below meth c H locs cells slots Q (F0 m pc ls (.int (zI a) :: rest)) := lv_if_ne hx hb d ht (fun q => kt (fun q2 => q ((zI_eq0 h).mpr q2))) (fun q => kf ((zI_eq0 h).mp q))
theorem z_icmp_ne (hx : p.tables.exec = Jvm.exec) (hb : c.code = cc) {off : Int} (tgt : Nat) (d : decode cc pc = .ok (.if_icmp .ne off, 3)) (h1 : r32 a) (h2 : r32 b) (ht : (pc : Int) + off = (tgt : Int)) (kt : ¬ a = b → W p l e R s m args below meth c H locs cells slots Q (F0 m tgt ls rest)) (kf : a = b → W p l e R s m args below meth c H locs cells slots Q (F0 m (pc + 3) ls rest)) : W p l e R s m args below meth c H locs cells slots Q (F0 m pc ls (.int (zI b) :: .int (zI a) :: rest)) := lv_icmp_ne hx hb d ht (fun q => kt (fun q2 => q ((zI_eq h1 h2).mpr q2))) (fun q => kf ((zI_eq h1 h2).mp q))
theorem z_if_lt (hx : p.tables.exec = Jvm.exec) (hb : c.code = cc) {off : Int} (tgt : Nat) (d : decode cc pc = .ok (.ifCond .lt off, 3)) (h : r32 a) (ht : (pc : Int) + off = (tgt : Int)) (kt : a < 0 → W p l e R s m args below meth c H locs cells slots Q (F0 m tgt ls rest)) (kf : 0 ≤ a → W p l e R s m args below meth c H locs cells slots Q (F0 m (pc + 3) ls rest)) : W p l e R s m args below meth c H locs cells slots Q (F0 m pc ls (.int (zI a) :: rest)) := lv_if_lt hx hb d ht (fun q => kt ((zI_lt0 h).mp q)) (fun q => kf (by have q3 := mt (zI_lt0 h).mpr q; omega))
theorem z_icmp_lt (hx : p.tables.exec = Jvm.exec) (hb : c.code = cc) {off : Int} (tgt : Nat) (d : decode cc pc = .ok (.if_icmp .lt off, 3)) (h1 : r32 a) (h2 : r32 b) (ht : (pc : Int) + off = (tgt : Int)) (kt : a < b → W p l e R s m args below meth c H locs cells slots Q (F0 m tgt ls rest)) (kf : b ≤ a → W p l e R s m args below meth c H locs cells slots Q (F0 m (pc + 3) ls rest)) : W p l e R s m args below meth c H locs cells slots Q (F0 m pc ls (.int (zI b) :: .int (zI a) :: rest)) := lv_icmp_lt hx hb d ht (fun q => kt ((zI_lt h1 h2).mp q)) (fun q => kf (by have q3 := mt (zI_lt h1 h2).mpr q; omega))
theorem z_if_ge (hx : p.tables.exec = Jvm.exec) (hb : c.code = cc) {off : Int} (tgt : Nat) (d : decode cc pc = .ok (.ifCond .ge off, 3)) (h : r32 a) (ht : (pc : Int) + off = (tgt : Int)) (kt : 0 ≤ a → W p l e R s m args below meth c H locs cells slots Q (F0 m tgt ls rest)) (kf : a < 0 → W p l e R s m args below meth c H locs cells slots Q (F0 m (pc + 3) ls rest)) : W p l e R s m args below meth c H locs cells slots Q (F0 m pc ls (.int (zI a) :: rest)) := lv_if_ge hx hb d ht (fun q => kt ((zI_ge0 h).mp q)) (fun q => kf (by have q3 := mt (zI_ge0 h).mpr q; omega))
theorem z_icmp_ge (hx : p.tables.exec = Jvm.exec) (hb : c.code = cc) {off : Int} (tgt : Nat) (d : decode cc pc = .ok (.if_icmp .ge off, 3)) (h1 : r32 a) (h2 : r32 b) (ht : (pc : Int) + off = (tgt : Int)) (kt : b ≤ a → W p l e R s m args below meth c H locs cells slots Q (F0 m tgt ls rest)) (kf : a < b → W p l e R s m args below meth c H locs cells slots Q (F0 m (pc + 3) ls rest)) : W p l e R s m args below meth c H locs cells slots Q (F0 m pc ls (.int (zI b) :: .int (zI a) :: rest)) := lv_icmp_ge hx hb d ht (fun q => kt ((zI_le h2 h1).mp q)) (fun q => kf (by have q3 := mt (zI_le h2 h1).mpr q; omega))
theorem z_if_gt (hx : p.tables.exec = Jvm.exec) (hb : c.code = cc) {off : Int} (tgt : Nat) (d : decode cc pc = .ok (.ifCond .gt off, 3)) (h : r32 a) (ht : (pc : Int) + off = (tgt : Int)) (kt : 0 < a → W p l e R s m args below meth c H locs cells slots Q (F0 m tgt ls rest)) (kf : a ≤ 0 → W p l e R s m args below meth c H locs cells slots Q (F0 m (pc + 3) ls rest)) : W p l e R s m args below meth c H locs cells slots Q (F0 m pc ls (.int (zI a) :: rest)) := lv_if_gt hx hb d ht (fun q => kt ((zI_gt0 h).mp q)) (fun q => kf (by have q3 := mt (zI_gt0 h).mpr q; omega))
theorem z_icmp_gt (hx : p.tables.exec = Jvm.exec) (hb : c.code = cc) {off : Int} (tgt : Nat) (d : decode cc pc = .ok (.if_icmp .gt off, 3)) (h1 : r32 a) (h2 : r32 b) (ht : (pc : Int) + off = (tgt : Int)) (kt : b < a → W p l e R s m args below meth c H locs cells slots Q (F0 m tgt ls rest)) (kf : a ≤ b → W p l e R s m args below meth c H locs cells slots Q (F0 m (pc + 3) ls rest)) : W p l e R s m args below meth c H locs cells slots Q (F0 m pc ls (.int (zI b) :: .int (zI a) :: rest)) := lv_icmp_gt hx hb d ht (fun q => kt ((zI_lt h2 h1).mp q)) (fun q => kf (by have q3 := mt (zI_lt h2 h1).mpr q; omega))
theorem z_if_le (hx : p.tables.exec = Jvm.exec) (hb : c.code = cc) {off : Int} (tgt : Nat) (d : decode cc pc = .ok (.ifCond .le off, 3)) (h : r32 a) (ht : (pc : Int) + off = (tgt : Int)) (kt : a ≤ 0 → W p l e R s m args below meth c H locs cells slots Q (F0 m tgt ls rest)) (kf : 0 < a → W p l e R s m args below meth c H locs cells slots Q (F0 m (pc + 3) ls rest)) : W p l e R s m args below meth c H locs cells slots Q (F0 m pc ls (.int (zI a) :: rest)) := lv_if_le hx hb d ht (fun q => kt ((zI_le0 h).mp q)) (fun q => kf (by have q3 := mt (zI_le0 h).mpr q; omega))
theorem z_icmp_le (hx : p.tables.exec = Jvm.exec) (hb : c.code = cc) {off : Int} (tgt : Nat) (d : decode cc pc = .ok (.if_icmp .le off, 3)) (h1 : r32 a) (h2 : r32 b) (ht : (pc : Int) + off = (tgt : Int)) (kt : a ≤ b → W p l e R s m args below meth c H locs cells slots Q (F0 m tgt ls rest)) (kf : b < a → W p l e R s m args below meth c H locs cells slots Q (F0 m (pc + 3) ls rest)) : W p l e R s m args below meth c H locs cells slots Q (F0 m pc ls (.int (zI b) :: .int (zI a) :: rest)) := lv_icmp_le hx hb d ht (fun q => kt ((zI_le h1 h2).mp q)) (fun q => kf (by have q3 := mt (zI_le h1 h2).mpr q; omega))
theorem lg_cmp_z {a b : Int} (h1 : r64 a) (h2 : r64 b) : lg_cmp (zL a) (zL b) = zI (if b < a then 1 else if a = b then 0 else -1) := by
  unfold lg_cmp
  simp only [zL_lt h2 h1, zL_eq h1 h2]
  split
  · rfl
  · split <;> rfl
theorem z_lcmp_eq (hx : p.tables.exec = Jvm.exec) (hb : c.code = cc) {off : Int} (tgt : Nat) (d1 : decode cc pc = .ok (.lcmp, 1)) (d : decode cc (pc + 1) = .ok (.ifCond .eq off, 3)) (h1 : r64 a) (h2 : r64 b) (ht : ((pc + 1 : Nat) : Int) + off = (tgt : Int)) (kt : a = b → W p l e R s m args below meth c H locs cells slots Q (F0 m tgt ls rest)) (kf : ¬ a = b → W p l e R s m args below meth c H locs cells slots Q (F0 m (pc + 4) ls rest)) : W p l e R s m args below meth c H locs cells slots Q (F0 m pc ls (.long (zL b) :: .long (zL a) :: rest)) := by
  refine W.lcmp hx hb d1 ?_
  rw [lg_cmp_z h1 h2]
  refine z_if_eq hx hb tgt d (by split <;> (try split) <;> decide) ht (fun q => kt ?_) (fun q => kf ?_)
  · (split at q <;> (try split at q)) <;> omega
  · (split at q <;> (try split at q)) <;> omega
theorem z_lcmp_ne (hx : p.tables.exec = Jvm.exec) (hb : c.code = cc) {off : Int} (tgt : Nat) (d1 : decode cc pc = .ok (.lcmp, 1)) (d : decode cc (pc + 1) = .ok (.ifCond .ne off, 3)) (h1 : r64 a) (h2 : r64 b) (ht : ((pc + 1 : Nat) : Int) + off = (tgt : Int)) (kt : ¬ a = b → W p l e R s m args below meth c H locs cells slots Q (F0 m tgt ls rest)) (kf : a = b → W p l e R s m args below meth c H locs cells slots Q (F0 m (pc + 4) ls rest)) : W p l e R s m args below meth c H locs cells slots Q (F0 m pc ls (.long (zL b) :: .long (zL a) :: rest)) := by
  refine W.lcmp hx hb d1 ?_
  rw [lg_cmp_z h1 h2]
  refine z_if_ne hx hb tgt d (by split <;> (try split) <;> decide) ht (fun q => kt ?_) (fun q => kf ?_)
  · (split at q <;> (try split at q)) <;> omega
  · (split at q <;> (try split at q)) <;> omega
theorem z_lcmp_lt (hx : p.tables.exec = Jvm.exec) (hb : c.code = cc) {off : Int} (tgt : Nat) (d1 : decode cc pc = .ok (.lcmp, 1)) (d : decode cc (pc + 1) = .ok (.ifCond .lt off, 3)) (h1 : r64 a) (h2 : r64 b) (ht : ((pc + 1 : Nat) : Int) + off = (tgt : Int)) (kt : a < b → W p l e R s m args below meth c H locs cells slots Q (F0 m tgt ls rest)) (kf : b ≤ a → W p l e R s m args below meth c H locs cells slots Q (F0 m (pc + 4) ls rest)) : W p l e R s m args below meth c H locs cells slots Q (F0 m pc ls (.long (zL b) :: .long (zL a) :: rest)) := by
  refine W.lcmp hx hb d1 ?_
  rw [lg_cmp_z h1 h2]
  refine z_if_lt hx hb tgt d (by split <;> (try split) <;> decide) ht (fun q => kt ?_) (fun q => kf ?_)
  · (split at q <;> (try split at q)) <;> omega
  · (split at q <;> (try split at q)) <;> omega
theorem z_lcmp_ge (hx : p.tables.exec = Jvm.exec) (hb : c.code = cc) {off : Int} (tgt : Nat) (d1 : decode cc pc = .ok (.lcmp, 1)) (d : decode cc (pc + 1) = .ok (.ifCond .ge off, 3)) (h1 : r64 a) (h2 : r64 b) (ht : ((pc + 1 : Nat) : Int) + off = (tgt : Int)) (kt : b ≤ a → W p l e R s m args below meth c H locs cells slots Q (F0 m tgt ls rest)) (kf : a < b → W p l e R s m args below meth c H locs cells slots Q (F0 m (pc + 4) ls rest)) : W p l e R s m args below meth c H locs cells slots Q (F0 m pc ls (.long (zL b) :: .long (zL a) :: rest)) := by
  refine W.lcmp hx hb d1 ?_
  rw [lg_cmp_z h1 h2]
  refine z_if_ge hx hb tgt d (by split <;> (try split) <;> decide) ht (fun q => kt ?_) (fun q => kf ?_)
  · (split at q <;> (try split at q)) <;> omega
  · (split at q <;> (try split at q)) <;> omega
theorem z_lcmp_gt (hx : p.tables.exec = Jvm.exec) (hb : c.code = cc) {off : Int} (tgt : Nat) (d1 : decode cc pc = .ok (.lcmp, 1)) (d : decode cc (pc + 1) = .ok (.ifCond .gt off, 3)) (h1 : r64 a) (h2 : r64 b) (ht : ((pc + 1 : Nat) : Int) + off = (tgt : Int)) (kt : b < a → W p l e R s m args below meth c H locs cells slots Q (F0 m tgt ls rest)) (kf : a ≤ b → W p l e R s m args below meth c H locs cells slots Q (F0 m (pc + 4) ls rest)) : W p l e R s m args below meth c H locs cells slots Q (F0 m pc ls (.long (zL b) :: .long (zL a) :: rest)) := by
  refine W.lcmp hx hb d1 ?_
  rw [lg_cmp_z h1 h2]
  refine z_if_gt hx hb tgt d (by split <;> (try split) <;> decide) ht (fun q => kt ?_) (fun q => kf ?_)
  · (split at q <;> (try split at q)) <;> omega
  · (split at q <;> (try split at q)) <;> omega
theorem z_lcmp_le (hx : p.tables.exec = Jvm.exec) (hb : c.code = cc) {off : Int} (tgt : Nat) (d1 : decode cc pc = .ok (.lcmp, 1)) (d : decode cc (pc + 1) = .ok (.ifCond .le off, 3)) (h1 : r64 a) (h2 : r64 b) (ht : ((pc + 1 : Nat) : Int) + off = (tgt : Int)) (kt : a ≤ b → W p l e R s m args below meth c H locs cells slots Q (F0 m tgt ls rest)) (kf : b < a → W p l e R s m args below meth c H locs cells slots Q (F0 m (pc + 4) ls rest)) : W p l e R s m args below meth c H locs cells slots Q (F0 m pc ls (.long (zL b) :: .long (zL a) :: rest)) := by
  refine W.lcmp hx hb d1 ?_
  rw [lg_cmp_z h1 h2]
  refine z_if_le hx hb tgt d (by split <;> (try split) <;> decide) ht (fun q => kt ?_) (fun q => kf ?_)
  · (split at q <;> (try split at q)) <;> omega
  · (split at q <;> (try split at q)) <;> omega
theorem z_ifb_eq {P : Prop} [Decidable P] (hx : p.tables.exec = Jvm.exec) (hb : c.code = cc) {off : Int} (tgt : Nat) (d : decode cc pc = .ok (.ifCond .eq off, 3)) (ht : (pc : Int) + off = (tgt : Int)) (kt : ¬ P → W p l e R s m args below meth c H locs cells slots Q (F0 m tgt ls rest)) (kf : P → W p l e R s m args below meth c H locs cells slots Q (F0 m (pc + 3) ls rest)) : W p l e R s m args below meth c H locs cells slots Q (F0 m pc ls (.int (zI (bI P)) :: rest)) :=
  z_if_eq hx hb tgt d ⟨by have := bI_r P; omega, by have := bI_r P; omega⟩ ht (fun q => kt (bI_0.mp q)) (fun q => kf (Decidable.byContradiction fun q2 => q (bI_0.mpr q2)))
theorem z_ifb_ne {P : Prop} [Decidable P] (hx : p.tables.exec = Jvm.exec) (hb : c.code = cc) {off : Int} (tgt : Nat) (d : decode cc pc = .ok (.ifCond .ne off, 3)) (ht : (pc : Int) + off = (tgt : Int)) (kt : P → W p l e R s m args below meth c H locs cells slots Q (F0 m tgt ls rest)) (kf : ¬ P → W p l e R s m args below meth c H locs cells slots Q (F0 m (pc + 3) ls rest)) : W p l e R s m args below meth c H locs cells slots Q (F0 m pc ls (.int (zI (bI P)) :: rest)) :=
  z_if_ne hx hb tgt d ⟨by have := bI_r P; omega, by have := bI_r P; omega⟩ ht (fun q => kt (Decidable.byContradiction fun q2 => q (bI_0.mpr q2))) (fun q => kf (bI_0.mp q))
theorem z_ist_n (hx : p.tables.exec = Jvm.exec) (hb : c.code = cc) {k : Fin 4} {i nL : Nat} {lv lv' : List (Nat × Value)} (d : decode cc pc = .ok (.istore_n k, 1)) (hi : (k : Nat) = i) (h : lv_has ls nL lv) (hn : i < nL) (kk : ∀ x : Int, x = a → ∀ ls' : Array Slot, lv_has ls' nL ((i, Value.int (zI x)) :: lv.filter (fun q => !(q.1 == i) && !(q.1 + 1 == i && q.2.category == 2))) → W p l e R s m args below meth c H locs cells slots Q (F0 m (pc + 1) ls' rest)) : W p l e R s m args below meth c H locs cells slots Q (F0 m pc ls (.int (zI a) :: rest)) := lv_istore_n hx hb d hi h hn rfl (fun ls' h' => kk a rfl ls' h')
theorem z_ist (hx : p.tables.exec = Jvm.exec) (hb : c.code = cc) {i nL : Nat} {lv lv' : List (Nat × Value)} (d : decode cc pc = .ok (.istore i, 2)) (h : lv_has ls nL lv) (hn : i < nL) (kk : ∀ x : Int, x = a → ∀ ls' : Array Slot, lv_has ls' nL ((i, Value.int (zI x)) :: lv.filter (fun q => !(q.1 == i) && !(q.1 + 1 == i && q.2.category == 2))) → W p l e R s m args below meth c H locs cells slots Q (F0 m (pc + 2) ls' rest)) : W p l e R s m args below meth c H locs cells slots Q (F0 m pc ls (.int (zI a) :: rest)) := lv_istore hx hb d h hn rfl (fun ls' h' => kk a rfl ls' h')
theorem z_lst_n (hx : p.tables.exec = Jvm.exec) (hb : c.code = cc) {k : Fin 4} {i nL : Nat} {lv lv' : List (Nat × Value)} (d : decode cc pc = .ok (.lstore_n k, 1)) (hi : (k : Nat) = i) (h : lv_has ls nL lv) (hn : i + 1 < nL) (kk : ∀ x : Int, x = a → ∀ ls' : Array Slot, lv_has ls' nL ((i, Value.long (zL x)) :: lv.filter (fun q => !(q.1 == i) && (!(q.1 == i + 1) && !(q.1 + 1 == i && q.2.category == 2)))) → W p l e R s m args below meth c H locs cells slots Q (F0 m (pc + 1) ls' rest)) : W p l e R s m args below meth c H locs cells slots Q (F0 m pc ls (.long (zL a) :: rest)) := lv_lstore_n hx hb d hi h hn rfl (fun ls' h' => kk a rfl ls' h')
theorem z_lst (hx : p.tables.exec = Jvm.exec) (hb : c.code = cc) {i nL : Nat} {lv lv' : List (Nat × Value)} (d : decode cc pc = .ok (.lstore i, 2)) (h : lv_has ls nL lv) (hn : i + 1 < nL) (kk : ∀ x : Int, x = a → ∀ ls' : Array Slot, lv_has ls' nL ((i, Value.long (zL x)) :: lv.filter (fun q => !(q.1 == i) && (!(q.1 == i + 1) && !(q.1 + 1 == i && q.2.category == 2)))) → W p l e R s m args below meth c H locs cells slots Q (F0 m (pc + 2) ls' rest)) : W p l e R s m args below meth c H locs cells slots Q (F0 m pc ls (.long (zL a) :: rest)) := lv_lstore hx hb d h hn rfl (fun ls' h' => kk a rfl ls' h')
theorem z_iinc (hx : p.tables.exec = Jvm.exec) (hb : c.code = cc) {i nL k : Nat} {n : Int} {lv lv' : List (Nat × Value)} (d : decode cc pc = .ok (.iinc i n, 3)) (h : lv_has ls nL lv) (hk : lv[k]? = some (i, .int (zI a))) (hn : i < nL) (kk : ∀ x : Int, x = a + n → ∀ ls' : Array Slot, lv_has ls' nL ((i, Value.int (zI x)) :: lv.filter (fun q => !(q.1 == i) && !(q.1 + 1 == i && q.2.category == 2))) → W p l e R s m args below meth c H locs cells slots Q (F0 m (pc + 3) ls' rest)) : W p l e R s m args below meth c H locs cells slots Q (F0 m pc ls rest) := lv_iinc (v := zI (a + n)) hx hb d h hk (zI_add a n) hn rfl (fun ls' h' => kk (a + n) rfl ls' h')
theorem z_topi (k : ∀ x : Int, x = a → W p l e R s m args below meth c H locs cells slots Q (F0 m pc ls (.int (zI x) :: rest))) : W p l e R s m args below meth c H locs cells slots Q (F0 m pc ls (.int (zI a) :: rest)) := k a rfl
theorem z_topl (k : ∀ x : Int, x = a → W p l e R s m args below meth c H locs cells slots Q (F0 m pc ls (.long (zL x) :: rest))) : W p l e R s m args below meth c H locs cells slots Q (F0 m pc ls (.long (zL a) :: rest)) := k a rfl
end ZR
end
section
/-! words that hold at every state of the run; contracts over a world that is a function of a state of ours -/
def gd (w : Cond) : Bool := (w.onTables && w.keeps) || (match w with | .arrayClass _ => true | .fieldLinkNest .. => true | .methodLinkNest .. => true | _ => false)
theorem gd_spec {w : Cond} (h : gd w = true) : (w.onTables && w.keeps) = true ∨ (∃ ty, w = .arrayClass ty) ∨ (∃ a i b n d g, w = .fieldLinkNest a i b n d g) ∨ (∃ a i x g, w = .methodLinkNest a i x g) := by
  unfold gd at h
  rw [Bool.or_eq_true] at h
  rcases h with h | h
  · exact Or.inl h
  · split at h
    · exact Or.inr (Or.inl ⟨_, rfl⟩)
    · exact Or.inr (Or.inr (Or.inl ⟨_, _, _, _, _, _, rfl⟩))
    · exact Or.inr (Or.inr (Or.inr ⟨_, _, _, _, rfl⟩))
    · cases h
def lw_gd : List Cond := lw_tbl.filter gd
def TB (U : State) : Prop := ∀ w ∈ lw_gd, w.before #[] U = true
theorem TB.at {s U : State} (hW : s.WarmedH U.vm) (h : TB s) (a : Array Value) : ∀ w ∈ lw_gd, w.before a U = true := fun w hw => by
  have h1 := h w hw
  rcases gd_spec (List.mem_filter.mp hw).2 with h2 | ⟨ty, rfl⟩ | ⟨x1, x2, x3, x4, x5, x6, rfl⟩ | ⟨x1, x2, x3, x4, rfl⟩
  · exact word_at hW (Or.inl h2) h1
  · exact word_at hW (Or.inr ⟨ty, rfl⟩) h1
  · exact va_Nw.use rfl (va_Nw.warmF hW h1)
  · exact va_Nw.use rfl (va_Nw.warmM hW h1)
theorem TB.moved {s U : State} (hW : s.WarmedH U.vm) (h : TB s) : TB U := h.at hW #[]
theorem TB.hts {s : State} (h : TB s) (a : Array Value) : ∀ w ∈ lw_gd, w.before a s = true := h.at (State.WarmedH.refl s) a
/-- what holds all through a method: the machine, its code, the words, the classes -/
def Cx (p : Program) (s : State) (m : MethodId) (args : Array Value) (c : Code) (cc : ByteArray) (nL : Nat) (own : String) (meth : Method) (ret : Option FieldType) (D : va_G) (cl : List vw_C) (tys : List (ClassId × FieldType)) : Prop :=
  p.tables.exec = Jvm.exec ∧ c.code = cc ∧ c.maxLocals = nL ∧ s.vm.findClass own = some m.cls ∧ TB s ∧ va_K D cl tys s ∧ meth.sig.returnType = ret ∧ meth.locks = false
/-- the world at a heap: our state's cells, apart, in A; nothing outside A has changed -/
def Wd {S0 : Type} (D : va_G) (cl : List vw_C) (wf : S0 → va_W) (A : Nat → Prop) (H0 : Heap) (σ : S0) (H : Heap) (locs : List Loc) : Prop := va_P D cl (wf σ) H ∧ va_D A (wf σ) ∧ va_S A H0 H locs
def Rmh (h : Nat) : Room := { frames := h, cells := 0, slots := 0, locals := 64 * h }
def Qw {S0 : Type} (D : va_G) (cl : List vw_C) (wf : S0 → va_W) (A : Nat → Prop) (Post : Option Value → S0 → Prop) : Array Value → State → Outcome → State → Prop := fun _ st o t => ∃ v σ', o = .returned v ∧ Post v σ' ∧ va_P D cl (wf σ') t.heap ∧ va_D A (wf σ') ∧ va_F A st t
def Pw {S0 : Type} (D : va_G) (cl : List vw_C) (tys : List (ClassId × FieldType)) (wf : S0 → va_W) (A : Nat → Prop) (as : List Value) (σ : S0) : Array Value → State → Prop := va_Pc as (fun U => TB U ∧ va_K D cl tys U ∧ va_P D cl (wf σ) U.heap ∧ va_D A (wf σ))
/-- THE CONTRACT: from the state σ with the arguments as, y returns v at a state σ' with Post; it makes nothing, and changes nothing outside A, whatever A holds the world -/
def Cw {S0 : Type} (l : Launch) (D : va_G) (cl : List vw_C) (tys : List (ClassId × FieldType)) (wf : S0 → va_W) (y : MethodName) (cc : ByteArray) (nL : Nat) (ret : Option FieldType) (h : Nat) (as : List Value) (σ : S0) (Post : Option Value → S0 → Prop) : Prop :=
  ∀ A : Nat → Prop, Met l y [.code y cc nL ret] (Rmh h) (Pw D cl tys wf A as σ) (Qw D cl wf A Post) 0 0 A
/-- it answers r, at a state with P -/
def RW {S0 : Type} (r : Value) (P : S0 → Prop) : Option Value → S0 → Prop := fun v τ => v = some r ∧ P τ
/-- it answers nothing, at a state with P -/
def VW {S0 : Type} (P : S0 → Prop) : Option Value → S0 → Prop := fun v τ => v = none ∧ P τ
section CW
variable {S0 : Type} {l : Launch} {D : va_G} {cl : List vw_C} {tys : List (ClassId × FieldType)} {wf : S0 → va_W} {y : MethodName} {cc : ByteArray} {nL : Nat} {ret : Option FieldType} {h : Nat} {as : List Value} {σ : S0} {Post : Option Value → S0 → Prop}
theorem Cw.enter (hy : plainName y.cls = true) (hn : (lg_sl as).length ≤ nL)
    (body : ∀ (A : Nat → Prop) (p : Program) (e : Env) (s : State) (m : MethodId) (below : List Frame) (meth : Method) (c : Code), Cx p s m as.toArray c cc nL y.cls meth ret D cl tys → ∀ ls : Array Slot, lv_has ls nL (lv_args 0 as) → Wd D cl wf A s.heap σ s.heap [] →
      W p l e (Rmh h) s m as.toArray below meth c s.heap [] 0 0 (MQ below (Qw D cl wf A Post) as.toArray s 0 0 A) (F0 m 0 ls [])) : Cw l D cl tys wf y cc nL ret h as σ Post := by
  intro A
  refine Met.ofW (cc := cc) (maxL := nL) (ret := ret) hy rfl ?_
  intro p e s m args below meth c s₁ B hml hv
  obtain ⟨rfl, hTB, hK, hP, hD⟩ := hv
  have hl := lv_entry as (n := nL) hn
  rw [lg_entry_eq]
  exact body A p e s m below meth c ⟨B.exec, B.bytes, hml, findClass_of_methodNamed B.named, hTB, hK, B.returns, B.notSynchronized⟩ _ hl ⟨hP, hD, va_S.rf⟩
theorem Cw.mono {Post' : Option Value → S0 → Prop} (hC : Cw l D cl tys wf y cc nL ret h as σ Post) (hp : ∀ v τ, Post v τ → Post' v τ) : Cw l D cl tys wf y cc nL ret h as σ Post' := fun A =>
  MetFree.mono (hC A) (fun _ _ h => h) (fun _ _ _ _ _ h => h) (fun _ _ _ _ _ ⟨⟨v, τ, e, q, r⟩, z⟩ => ⟨⟨v, τ, e, hp v τ q, r⟩, z⟩)
end CW
section CR
variable {S0 : Type} {p : Program} {l : Launch} {e : Env} {R : Room} {s : State} {m : MethodId} {args : Array Value} {below : List Frame} {meth : Method} {c : Code} {H : Heap} {locs : List Loc} {cells slots : Nat} {Q : State → Prop}
variable {cc : ByteArray} {pc nL : Nat} {own : String} {ret : Option FieldType} {ls : Array Slot} {rest : List Value} {D : va_G} {cl : List vw_C} {tys : List (ClassId × FieldType)} {wf : S0 → va_W} {A : Nat → Prop} {σ : S0} {Post : Option Value → S0 → Prop} {ad : Array Value}
theorem w_iret (hc : Cx p s m args c cc nL own meth (some .int) D cl tys) (hw : Wd D cl wf A s.heap σ H locs) {v : Int32} (hp : Post (some (.int v)) σ) (d : decode cc pc = .ok (.ireturn, 1)) : W p l e R s m args below meth c H locs 0 0 (MQ below (Qw D cl wf A Post) args s 0 0 A) (F0 m pc ls [.int v]) := by
  obtain ⟨hx, hb, -, -, -, -, hr, hlk⟩ := hc
  exact W.iret hx hb hr (fun t ht hW => ⟨_, σ, rfl, hp, by rw [ht]; exact hw.1, hw.2.1, hw.2.2.F ht⟩) hw.2.2.2.2 d
theorem w_zret (hc : Cx p s m args c cc nL own meth (some .boolean) D cl tys) (hw : Wd D cl wf A s.heap σ H locs) {v : Int} (h01 : v = 0 ∨ v = 1) (hp : Post (some (.int (zI v))) σ) (d : decode cc pc = .ok (.ireturn, 1)) : W p l e R s m args below meth c H locs 0 0 (MQ below (Qw D cl wf A Post) args s 0 0 A) (F0 m pc ls [.int (zI v)]) := by
  obtain ⟨hx, hb, -, -, -, -, hr, hlk⟩ := hc
  exact W.zret hx hb hr (by rcases h01 with rfl | rfl <;> decide) (fun t ht hW => ⟨_, σ, rfl, hp, by rw [ht]; exact hw.1, hw.2.1, hw.2.2.F ht⟩) hw.2.2.2.2 d
theorem w_lret (hc : Cx p s m args c cc nL own meth (some .long) D cl tys) (hw : Wd D cl wf A s.heap σ H locs) {v : Int64} (hp : Post (some (.long v)) σ) (d : decode cc pc = .ok (.lreturn, 1)) : W p l e R s m args below meth c H locs 0 0 (MQ below (Qw D cl wf A Post) args s 0 0 A) (F0 m pc ls [.long v]) := by
  obtain ⟨hx, hb, -, -, -, -, hr, hlk⟩ := hc
  exact W.lret hx hb hr (fun t ht hW => ⟨_, σ, rfl, hp, by rw [ht]; exact hw.1, hw.2.1, hw.2.2.F ht⟩) hw.2.2.2.2 d
theorem w_vret (hc : Cx p s m args c cc nL own meth none D cl tys) (hw : Wd D cl wf A s.heap σ H locs) (hp : Post none σ) (d : decode cc pc = .ok (.return_, 1)) : W p l e R s m args below meth c H locs 0 0 (MQ below (Qw D cl wf A Post) args s 0 0 A) (F0 m pc ls []) := by
  obtain ⟨hx, hb, -, -, -, -, hr, hlk⟩ := hc
  exact W.vret hx hb hr (fun t ht hW => ⟨_, σ, rfl, hp, by rw [ht]; exact hw.1, hw.2.1, hw.2.2.F ht⟩) hw.2.2.2.2 d
/-- behind a call over the same world -/
theorem w_go {st : List Value} {σ0 : S0} (hr : CallRun p l e R s m args below meth c H locs cells slots 0 0 (F0 m pc ls st) rest (Qw D cl wf A Post ad) A) (hw : Wd D cl wf A s.heap σ0 H locs) (kk : ∀ (v : Option Value) (τ : S0) (H1 : Heap) (locs1 : List Loc), Post v τ → Wd D cl wf A s.heap τ H1 locs1 → W p l e R s m args below meth c H1 locs1 cells slots Q (F0 m (pc + 3) ls (v.toList ++ rest))) : W p l e R s m args below meth c H locs cells slots Q (F0 m pc ls st) := by
  intro T hT X
  obtain ⟨v, st₀, t, T', L, h0, X', hL, e1, ⟨v', τ, hv, hp, hP, hD, hF⟩, go⟩ := hr T hT X
  cases hv
  obtain ⟨-, -, s1, s2, s3⟩ := hw
  obtain ⟨f1, f2⟩ := hF
  rw [h0] at f1 f2
  obtain ⟨t2, a1, b1⟩ := kk v τ t.heap (locs ++ L) hp ⟨hP, hD, Nat.le_trans s1 f1, fun q g1 g2 => (f2 q (Nat.lt_of_lt_of_le g1 s1) g2).trans (s2 q g1 g2), fun q hq => (List.mem_append.mp hq).elim (s3 q) (hL q)⟩ T' e1 X'
  exact ⟨t2, go t2 a1, b1⟩
theorem pw_blind {as : List Value} : FrameBlind (Pw D cl tys wf A as σ) := fun a U g mk q => by
  obtain ⟨q0, q1, q2, q3, q4⟩ := q
  exact ⟨q0, TB.moved (s := U) (State.WarmedH.refl U) q1, va_K.moved (u := U) (U := U.calling g mk a) (Vm.Alike.refl U.vm) q2, q3, q4⟩
/-- a callee's own words -/
def Yw (y : MethodName) (cc : ByteArray) (nL : Nat) (ret : Option FieldType) (n : Nat) : Prop := Cond.code y cc nL ret ∈ lw_gd ∧ Cond.initialized y.cls ∈ lw_gd ∧ y.cls ≠ "java/lang/invoke/MethodHandle" ∧ y.cls ≠ "java/lang/invoke/VarHandle" ∧ (parseMethodDescriptor y.desc).map (fun d => d.parameters.length) = some n
theorem callB_w {y : MethodName} {bytes : ByteArray} {maxL n h index : Nat} {ret' : Option FieldType} (hTB : TB s) (yw : Yw y bytes maxL ret' n) (lk : Cond.methodLink own index y ∈ lw_gd) (hR : h + 1 ≤ R.frames ∧ 8 + (maxL + 11) + 64 * h ≤ R.locals) : CallB R s args own index y bytes maxL ret' [.code y bytes maxL ret'] (Rmh h) 0 0 n := by
  obtain ⟨y1, y2, y3, y4, y5⟩ := yw
  refine ⟨rfl, rfl, hR.1, hR.2, fun w hw a' U hW => ?_, List.mem_cons_self, hTB.hts args _ y1, hTB.hts args _ y2, ⟨y3, y4⟩, fun sig hs => ?_, hTB.hts args _ lk⟩
  · rw [List.mem_singleton.mp hw]
    exact hTB.at hW a' _ y1
  · rw [hs] at y5
    exact (Option.some.inj y5).symm
theorem va_CN_w {y : MethodName} {bytes : ByteArray} {maxL n h index : Nat} {ret' : Option FieldType} {host : String} (hTB : TB s) (yw : Yw y bytes maxL ret' n) (lk : Cond.methodLinkNest own index y host ∈ lw_gd) (hR : h + 1 ≤ R.frames ∧ 8 + (maxL + 11) + 64 * h ≤ R.locals) : va_CN R s args own index y host bytes maxL ret' [.code y bytes maxL ret'] (Rmh h) 0 0 n := by
  obtain ⟨y1, y2, y3, y4, y5⟩ := yw
  refine ⟨⟨rfl, rfl, hR.1, hR.2, fun w hw a' U hW => ?_, List.mem_cons_self⟩, hTB.hts args _ y1, hTB.hts args _ y2, ⟨y3, y4⟩, fun sig hs => ?_, hTB.hts args _ lk⟩
  · rw [List.mem_singleton.mp hw]
    exact hTB.at hW a' _ y1
  · rw [hs] at y5
    exact (Option.some.inj y5).symm
/-- invokevirtual of an object of the world -/
theorem w_cv {y : MethodName} {bytes : ByteArray} {maxL n h index q0 ci N b : Nat} {ret' : Option FieldType} {as st : List Value} {C : String} {T : u_T} {fs : List Value} (hc : Cx p s m args c cc nL own meth ret D cl tys) (hw : Wd D cl wf A s.heap σ H locs) (hC : Cw l D cl tys wf y bytes maxL ret' h (.ref b :: as) σ Post) (yw : Yw y bytes maxL ret' n) (yi : Cond.instanceMethod y ∈ lw_gd ∧ Cond.selects C y y ∈ lw_gd) (lk : Cond.methodLink own index y ∈ lw_gd) (d : decode cc pc = .ok (.invokevirtual index, 3))
    (hst : st = as.reverse ++ .ref b :: rest) (hq : (wf σ)[q0]? = some (b, .inr (ci, fs))) (hci : cl[ci]? = some (C, T, N)) (hn : as.length = n) (hl : ls.size = nL) (hrm : (rest.map fun v => v.category).sum ≤ 8) (hR : h + 1 ≤ R.frames ∧ 8 + (maxL + 11) + 64 * h ≤ R.locals) (hf : cells ≤ R.cells ∧ slots ≤ R.slots)
    (kk : ∀ (v : Option Value) (τ : S0) (H1 : Heap) (locs1 : List Loc), Post v τ → Wd D cl wf A s.heap τ H1 locs1 → W p l e R s m args below meth c H1 locs1 cells slots Q (F0 m (pc + 3) ls (v.toList ++ rest))) : W p l e R s m args below meth c H locs cells slots Q (F0 m pc ls st) := by
  obtain ⟨hx, hb, hml, hown, hTB, hK, -, -⟩ := hc
  refine w_go (W.runV (C := C) (Ts := lw_gd) ⟨hx, hb, hml, hown, hTB.hts args⟩ (hC A) ⟨callB_w hTB yw lk hR, hTB.hts args _ yi.1, hTB.hts args _ yi.2⟩ ⟨pw_blind, va_recv (q := (C, T, N)) hK hw.1 hci hq, fun U hU hW => ⟨rfl, hTB.moved hW, va_K.moved hW.alike hK, by rw [hU]; exact hw.1, hw.2.1⟩⟩ rfl hn hl hst (lv_room hrm) d hf) hw kk
/-- invokestatic -/
theorem w_cs {y : MethodName} {bytes : ByteArray} {maxL n h index : Nat} {ret' : Option FieldType} {as st : List Value} (hc : Cx p s m args c cc nL own meth ret D cl tys) (hw : Wd D cl wf A s.heap σ H locs) (hC : Cw l D cl tys wf y bytes maxL ret' h as σ Post) (yw : Yw y bytes maxL ret' n) (yi : Cond.static y ∈ lw_gd) (lk : Cond.methodLink own index y ∈ lw_gd) (d : decode cc pc = .ok (.invokestatic index, 3))
    (hst : st = as.reverse ++ rest) (hn : as.length = n) (hl : ls.size = nL) (hrm : (rest.map fun v => v.category).sum ≤ 8) (hR : h + 1 ≤ R.frames ∧ 8 + (maxL + 11) + 64 * h ≤ R.locals) (hf : cells ≤ R.cells ∧ slots ≤ R.slots)
    (kk : ∀ (v : Option Value) (τ : S0) (H1 : Heap) (locs1 : List Loc), Post v τ → Wd D cl wf A s.heap τ H1 locs1 → W p l e R s m args below meth c H1 locs1 cells slots Q (F0 m (pc + 3) ls (v.toList ++ rest))) : W p l e R s m args below meth c H locs cells slots Q (F0 m pc ls st) := by
  obtain ⟨hx, hb, hml, hown, hTB, hK, -, -⟩ := hc
  refine w_go (W.runS (Ts := lw_gd) ⟨hx, hb, hml, hown, hTB.hts args⟩ (hC A) ⟨callB_w hTB yw lk hR, hTB.hts args _ yi⟩ ⟨pw_blind, fun U hU hW => ⟨rfl, hTB.moved hW, va_K.moved hW.alike hK, by rw [hU]; exact hw.1, hw.2.1⟩⟩ rfl hn hl hst (lv_room hrm) d hf) hw kk
/-- invokestatic of a nest mate's -/
theorem w_csN {y : MethodName} {bytes : ByteArray} {maxL n h index : Nat} {ret' : Option FieldType} {as st : List Value} {host : String} (hc : Cx p s m args c cc nL own meth ret D cl tys) (hw : Wd D cl wf A s.heap σ H locs) (hC : Cw l D cl tys wf y bytes maxL ret' h as σ Post) (yw : Yw y bytes maxL ret' n) (yi : Cond.static y ∈ lw_gd) (lk : Cond.methodLinkNest own index y host ∈ lw_gd) (d : decode cc pc = .ok (.invokestatic index, 3))
    (hst : st = as.reverse ++ rest) (hn : as.length = n) (hl : ls.size = nL) (hrm : (rest.map fun v => v.category).sum ≤ 8) (hR : h + 1 ≤ R.frames ∧ 8 + (maxL + 11) + 64 * h ≤ R.locals) (hf : cells ≤ R.cells ∧ slots ≤ R.slots)
    (kk : ∀ (v : Option Value) (τ : S0) (H1 : Heap) (locs1 : List Loc), Post v τ → Wd D cl wf A s.heap τ H1 locs1 → W p l e R s m args below meth c H1 locs1 cells slots Q (F0 m (pc + 3) ls (v.toList ++ rest))) : W p l e R s m args below meth c H locs cells slots Q (F0 m pc ls st) := by
  obtain ⟨hx, hb, hml, hown, hTB, hK, -, -⟩ := hc
  refine w_go (ad := as.toArray) ?_ hw kk
  intro T hT X
  obtain ⟨v, st₀, t, T', L, h0, X', hL, e1, e2, h3, go⟩ := va_runSN (Ts := lw_gd) ⟨hx, hb, hml, hown, hTB.hts args⟩ (hC A) ⟨va_CN_w hTB yw lk hR, hTB.hts args _ yi, trivial⟩ ⟨pw_blind, fun U hU hW => ⟨rfl, hTB.moved hW, va_K.moved hW.alike hK, by rw [hU]; exact hw.1, hw.2.1⟩⟩ rfl hn hl hst (lv_room hrm) d hf T hT X
  exact ⟨v, st₀, t, T', L, h0, X', hL, e1, h3, go⟩
end CR
end
section
/-! names: classes, their fields, methods, their words. Written by wip/whole/gen/world.py -/
def sel_i (n : Nat) : Nat := n
theorem gd_at {w : Cond} (i : Nat) (h : tables_1[i]? = some w) (g : gd w = true) : w ∈ lw_gd := List.mem_filter.mpr ⟨List.mem_append_right _ (List.mem_of_getElem? h), g⟩
theorem gd_sel {w : Cond} (i : Nat) (h : (k2_sels lw_privs)[i]? = some w) (g : gd w = true) : w ∈ lw_gd := List.mem_filter.mpr ⟨List.mem_append_left _ (List.mem_of_getElem? h), g⟩
def R_B : String := "ProbeChoice$Board"
def T_B : u_T := fun k => match k with
  | 0 => ("ProbeChoice$Board", "must", "[Z", true)
  | 1 => ("ProbeChoice$Board", "sizes", "[I", true)
  | 2 => ("ProbeChoice$Board", "pointsOfNets", "[I", true)
  | 3 => ("ProbeChoice$Board", "xs", "[J", true)
  | 4 => ("ProbeChoice$Board", "ys", "[J", true)
  | 5 => ("ProbeChoice$Board", "radii", "[J", true)
  | 6 => ("ProbeChoice$Board", "weights", "[J", true)
  | 7 => ("ProbeChoice$Board", "netCount", "I", false)
  | 8 => ("ProbeChoice$Board", "pointCount", "I", false)
  | _ => ("ProbeChoice$Board", "apart", "J", false)
def t_B : Nat → FieldType := fun k => match k with
  | 0 => .array .boolean
  | 1 => .array .int
  | 2 => .array .int
  | 3 => .array .long
  | 4 => .array .long
  | 5 => .array .long
  | 6 => .array .long
  | 7 => .int
  | 8 => .int
  | _ => .long
theorem n_B : ∀ a, a < 10 → ∀ b, b < 10 → a ≠ b → (T_B a).2.1 ≠ (T_B b).2.1 := by decide +kernel
theorem t_B_ok : ∀ k, k < 10 → parseFieldDescriptor (T_B k).2.2.1 = some (t_B k) := by decide +kernel
theorem in_B : ∀ w ∈ u_ws R_B T_B 10, w ∈ lw_gd := by
  intro w hw
  have h1 : (u_ws R_B T_B 10).map some = ([50, 52, 54, 56, 58, 60, 62, 64, 66, 68] : List Nat).map (fun i => tables_1[i]?) := by decide +kernel
  have h2 : some w ∈ (u_ws R_B T_B 10).map some := List.mem_map_of_mem hw
  rw [h1] at h2
  obtain ⟨i, -, hi⟩ := List.mem_map.mp h2
  have h3 : (u_ws R_B T_B 10).all gd = true := by decide +kernel
  exact gd_at i hi (List.all_eq_true.mp h3 w hw)
def R_F : String := "ProbeChoice$Fixture"
def T_F : u_T := fun k => match k with
  | 0 => ("ProbeChoice$Fixture", "probes", "[I", true)
  | 1 => ("ProbeChoice$Fixture", "left", "[I", true)
  | 2 => ("ProbeChoice$Fixture", "flown", "[I", true)
  | 3 => ("ProbeChoice$Fixture", "sorted", "[I", true)
  | 4 => ("ProbeChoice$Fixture", "letters", "[C", true)
  | 5 => ("ProbeChoice$Fixture", "probeCount", "I", false)
  | 6 => ("ProbeChoice$Fixture", "leftCount", "I", false)
  | 7 => ("ProbeChoice$Fixture", "length", "I", false)
  | 8 => ("ProbeChoice$Fixture", "flightTime", "J", false)
  | _ => ("ProbeChoice$Fixture", "sawAll", "Z", false)
def t_F : Nat → FieldType := fun k => match k with
  | 0 => .array .int
  | 1 => .array .int
  | 2 => .array .int
  | 3 => .array .int
  | 4 => .array .char
  | 5 => .int
  | 6 => .int
  | 7 => .int
  | 8 => .long
  | _ => .boolean
theorem n_F : ∀ a, a < 10 → ∀ b, b < 10 → a ≠ b → (T_F a).2.1 ≠ (T_F b).2.1 := by decide +kernel
theorem t_F_ok : ∀ k, k < 10 → parseFieldDescriptor (T_F k).2.2.1 = some (t_F k) := by decide +kernel
theorem in_F : ∀ w ∈ u_ws R_F T_F 10, w ∈ lw_gd := by
  intro w hw
  have h1 : (u_ws R_F T_F 10).map some = ([135, 137, 139, 141, 143, 145, 147, 149, 151, 153] : List Nat).map (fun i => tables_1[i]?) := by decide +kernel
  have h2 : some w ∈ (u_ws R_F T_F 10).map some := List.mem_map_of_mem hw
  rw [h1] at h2
  obtain ⟨i, -, hi⟩ := List.mem_map.mp h2
  have h3 : (u_ws R_F T_F 10).all gd = true := by decide +kernel
  exact gd_at i hi (List.all_eq_true.mp h3 w hw)
def R_P : String := "ProbeChoice$Parts"
def T_P : u_T := fun k => match k with
  | 0 => ("ProbeChoice$Parts", "counts", "[I", true)
  | 1 => ("ProbeChoice$Parts", "joined", "[I", true)
  | 2 => ("ProbeChoice$Parts", "above", "[[J", true)
  | _ => ("ProbeChoice$Parts", "below", "[[J", true)
def t_P : Nat → FieldType := fun k => match k with
  | 0 => .array .int
  | 1 => .array .int
  | 2 => .array (.array .long)
  | _ => .array (.array .long)
theorem n_P : ∀ a, a < 4 → ∀ b, b < 4 → a ≠ b → (T_P a).2.1 ≠ (T_P b).2.1 := by decide +kernel
theorem t_P_ok : ∀ k, k < 4 → parseFieldDescriptor (T_P k).2.2.1 = some (t_P k) := by decide +kernel
theorem in_P : ∀ w ∈ u_ws R_P T_P 4, w ∈ lw_gd := by
  intro w hw
  have h1 : (u_ws R_P T_P 4).map some = ([169, 171, 173, 175] : List Nat).map (fun i => tables_1[i]?) := by decide +kernel
  have h2 : some w ∈ (u_ws R_P T_P 4).map some := List.mem_map_of_mem hw
  rw [h1] at h2
  obtain ⟨i, -, hi⟩ := List.mem_map.mp h2
  have h3 : (u_ws R_P T_P 4).all gd = true := by decide +kernel
  exact gd_at i hi (List.all_eq_true.mp h3 w hw)
def R_R : String := "ProbeChoice$Rows"
def T_R : u_T := fun k => match k with
  | 0 => ("ProbeChoice$Rows", "others", "[I", true)
  | 1 => ("ProbeChoice$Rows", "cover", "I", false)
  | 2 => ("ProbeChoice$Rows", "coverSize", "I", false)
  | _ => ("ProbeChoice$Rows", "isStale", "Z", false)
def t_R : Nat → FieldType := fun k => match k with
  | 0 => .array .int
  | 1 => .int
  | 2 => .int
  | _ => .boolean
theorem n_R : ∀ a, a < 4 → ∀ b, b < 4 → a ≠ b → (T_R a).2.1 ≠ (T_R b).2.1 := by decide +kernel
theorem t_R_ok : ∀ k, k < 4 → parseFieldDescriptor (T_R k).2.2.1 = some (t_R k) := by decide +kernel
theorem in_R : ∀ w ∈ u_ws R_R T_R 4, w ∈ lw_gd := by
  intro w hw
  have h1 : (u_ws R_R T_R 4).map some = ([188, 190, 192, 194] : List Nat).map (fun i => tables_1[i]?) := by decide +kernel
  have h2 : some w ∈ (u_ws R_R T_R 4).map some := List.mem_map_of_mem hw
  rw [h1] at h2
  obtain ⟨i, -, hi⟩ := List.mem_map.mp h2
  have h3 : (u_ws R_R T_R 4).all gd = true := by decide +kernel
  exact gd_at i hi (List.all_eq_true.mp h3 w hw)
def R_S : String := "ProbeChoice$Search"
def T_S : u_T := fun k => match k with
  | 0 => ("ProbeChoice$Search", "nets", "[I", true)
  | 1 => ("ProbeChoice$Search", "sizes", "[I", true)
  | 2 => ("ProbeChoice$Search", "points", "[I", true)
  | 3 => ("ProbeChoice$Search", "worths", "[J", true)
  | 4 => ("ProbeChoice$Search", "clashes", "[I", true)
  | 5 => ("ProbeChoice$Search", "tried", "[I", true)
  | 6 => ("ProbeChoice$Search", "best", "[I", true)
  | 7 => ("ProbeChoice$Search", "looked", "I", false)
  | _ => ("ProbeChoice$Search", "bestWorth", "J", false)
def t_S : Nat → FieldType := fun k => match k with
  | 0 => .array .int
  | 1 => .array .int
  | 2 => .array .int
  | 3 => .array .long
  | 4 => .array .int
  | 5 => .array .int
  | 6 => .array .int
  | 7 => .int
  | _ => .long
theorem n_S : ∀ a, a < 9 → ∀ b, b < 9 → a ≠ b → (T_S a).2.1 ≠ (T_S b).2.1 := by decide +kernel
theorem t_S_ok : ∀ k, k < 9 → parseFieldDescriptor (T_S k).2.2.1 = some (t_S k) := by decide +kernel
theorem in_S : ∀ w ∈ u_ws R_S T_S 9, w ∈ lw_gd := by
  intro w hw
  have h1 : (u_ws R_S T_S 9).map some = ([92, 94, 96, 98, 100, 102, 104, 106, 108] : List Nat).map (fun i => tables_1[i]?) := by decide +kernel
  have h2 : some w ∈ (u_ws R_S T_S 9).map some := List.mem_map_of_mem hw
  rw [h1] at h2
  obtain ⟨i, -, hi⟩ := List.mem_map.mp h2
  have h3 : (u_ws R_S T_S 9).all gd = true := by decide +kernel
  exact gd_at i hi (List.all_eq_true.mp h3 w hw)
def R_X : String := "ProbeChoice"
def T_X : u_T := fun k => match k with
  | 0 => ("ProbeChoice", "board", "LProbeChoice$Board;", true)
  | 1 => ("ProbeChoice", "search", "LProbeChoice$Search;", true)
  | 2 => ("ProbeChoice", "fixture", "LProbeChoice$Fixture;", true)
  | 3 => ("ProbeChoice", "parts", "LProbeChoice$Parts;", true)
  | _ => ("ProbeChoice", "rows", "LProbeChoice$Rows;", true)
def t_X : Nat → FieldType := fun k => match k with
  | 0 => .object "ProbeChoice$Board"
  | 1 => .object "ProbeChoice$Search"
  | 2 => .object "ProbeChoice$Fixture"
  | 3 => .object "ProbeChoice$Parts"
  | _ => .object "ProbeChoice$Rows"
theorem n_X : ∀ a, a < 5 → ∀ b, b < 5 → a ≠ b → (T_X a).2.1 ≠ (T_X b).2.1 := by decide +kernel
theorem t_X_ok : ∀ k, k < 5 → parseFieldDescriptor (T_X k).2.2.1 = some (t_X k) := by decide +kernel
theorem in_X : ∀ w ∈ u_ws R_X T_X 5, w ∈ lw_gd := by
  intro w hw
  have h1 : (u_ws R_X T_X 5).map some = ([202, 204, 206, 208, 210] : List Nat).map (fun i => tables_1[i]?) := by decide +kernel
  have h2 : some w ∈ (u_ws R_X T_X 5).map some := List.mem_map_of_mem hw
  rw [h1] at h2
  obtain ⟨i, -, hi⟩ := List.mem_map.mp h2
  have h3 : (u_ws R_X T_X 5).all gd = true := by decide +kernel
  exact gd_at i hi (List.all_eq_true.mp h3 w hw)
def R_M : String := "ProbeChoiceModel"
def T_M : u_T := fun k => match k with
  | 0 => ("ProbeChoiceModel", "thrown", "I", false)
  | 1 => ("ProbeChoiceModel", "nets", "I", false)
  | 2 => ("ProbeChoiceModel", "must", "[Z", true)
  | 3 => ("ProbeChoiceModel", "pointCount", "[I", true)
  | 4 => ("ProbeChoiceModel", "pointsOf", "[I", true)
  | 5 => ("ProbeChoiceModel", "points", "I", false)
  | 6 => ("ProbeChoiceModel", "x", "[J", true)
  | 7 => ("ProbeChoiceModel", "y", "[J", true)
  | 8 => ("ProbeChoiceModel", "radius", "[J", true)
  | 9 => ("ProbeChoiceModel", "forces", "[J", true)
  | 10 => ("ProbeChoiceModel", "gap", "J", false)
  | 11 => ("ProbeChoiceModel", "ran", "Z", false)
  | 12 => ("ProbeChoiceModel", "looked", "I", false)
  | 13 => ("ProbeChoiceModel", "netAt", "[I", true)
  | 14 => ("ProbeChoiceModel", "digit", "[I", true)
  | 15 => ("ProbeChoiceModel", "best", "[I", true)
  | 16 => ("ProbeChoiceModel", "isProved", "Z", false)
  | 17 => ("ProbeChoiceModel", "probes", "I", false)
  | 18 => ("ProbeChoiceModel", "probe", "[I", true)
  | 19 => ("ProbeChoiceModel", "partCount", "[I", true)
  | 20 => ("ProbeChoiceModel", "parts", "[J", true)
  | 21 => ("ProbeChoiceModel", "failed", "[I", true)
  | 22 => ("ProbeChoiceModel", "flown", "[Z", true)
  | 23 => ("ProbeChoiceModel", "out", "[I", true)
  | 24 => ("ProbeChoiceModel", "written", "I", false)
  | _ => ("ProbeChoiceModel", "flight", "J", false)
def t_M : Nat → FieldType := fun k => match k with
  | 0 => .int
  | 1 => .int
  | 2 => .array .boolean
  | 3 => .array .int
  | 4 => .array .int
  | 5 => .int
  | 6 => .array .long
  | 7 => .array .long
  | 8 => .array .long
  | 9 => .array .long
  | 10 => .long
  | 11 => .boolean
  | 12 => .int
  | 13 => .array .int
  | 14 => .array .int
  | 15 => .array .int
  | 16 => .boolean
  | 17 => .int
  | 18 => .array .int
  | 19 => .array .int
  | 20 => .array .long
  | 21 => .array .int
  | 22 => .array .boolean
  | 23 => .array .int
  | 24 => .int
  | _ => .long
theorem n_M : ∀ a, a < 26 → ∀ b, b < 26 → a ≠ b → (T_M a).2.1 ≠ (T_M b).2.1 := by decide +kernel
theorem t_M_ok : ∀ k, k < 26 → parseFieldDescriptor (T_M k).2.2.1 = some (t_M k) := by decide +kernel
theorem in_M : ∀ w ∈ u_ws R_M T_M 26, w ∈ lw_gd := by
  intro w hw
  have h1 : (u_ws R_M T_M 26).map some = ([686, 688, 690, 692, 694, 696, 698, 700, 702, 704, 706, 708, 710, 712, 714, 716, 718, 720, 722, 724, 726, 728, 730, 732, 734, 736] : List Nat).map (fun i => tables_1[i]?) := by decide +kernel
  have h2 : some w ∈ (u_ws R_M T_M 26).map some := List.mem_map_of_mem hw
  rw [h1] at h2
  obtain ⟨i, -, hi⟩ := List.mem_map.mp h2
  have h3 : (u_ws R_M T_M 26).all gd = true := by decide +kernel
  exact gd_at i hi (List.all_eq_true.mp h3 w hw)
abbrev cl7 : List vw_C := [(R_B, T_B, 10), (R_F, T_F, 10), (R_P, T_P, 4), (R_R, T_R, 4), (R_S, T_S, 9), (R_X, T_X, 5), (R_M, T_M, 26)]
abbrev c_X_init : ByteArray := prog_1_method_1_code
abbrev y_X_init : MethodName := ⟨"ProbeChoice", "<init>", "()V"⟩
theorem yw_X_init : Yw y_X_init c_X_init 1 none 0 := ⟨gd_at 22 (by decide +kernel) (by decide +kernel), gd_at 1 (by decide +kernel) (by decide +kernel), by decide +kernel, by decide +kernel, by decide +kernel⟩
abbrev c_B_init : ByteArray := prog_2_method_1_code
abbrev y_B_init : MethodName := ⟨"ProbeChoice$Board", "<init>", "()V"⟩
theorem yw_B_init : Yw y_B_init c_B_init 1 none 0 := ⟨gd_at 30 (by decide +kernel) (by decide +kernel), gd_at 2 (by decide +kernel) (by decide +kernel), by decide +kernel, by decide +kernel, by decide +kernel⟩
abbrev c_S_init : ByteArray := prog_6_method_1_code
abbrev y_S_init : MethodName := ⟨"ProbeChoice$Search", "<init>", "()V"⟩
theorem yw_S_init : Yw y_S_init c_S_init 1 none 0 := ⟨gd_at 78 (by decide +kernel) (by decide +kernel), gd_at 3 (by decide +kernel) (by decide +kernel), by decide +kernel, by decide +kernel, by decide +kernel⟩
abbrev c_F_init : ByteArray := prog_3_method_1_code
abbrev y_F_init : MethodName := ⟨"ProbeChoice$Fixture", "<init>", "()V"⟩
theorem yw_F_init : Yw y_F_init c_F_init 1 none 0 := ⟨gd_at 115 (by decide +kernel) (by decide +kernel), gd_at 4 (by decide +kernel) (by decide +kernel), by decide +kernel, by decide +kernel, by decide +kernel⟩
abbrev c_P_init : ByteArray := prog_4_method_1_code
abbrev y_P_init : MethodName := ⟨"ProbeChoice$Parts", "<init>", "()V"⟩
theorem yw_P_init : Yw y_P_init c_P_init 1 none 0 := ⟨gd_at 161 (by decide +kernel) (by decide +kernel), gd_at 5 (by decide +kernel) (by decide +kernel), by decide +kernel, by decide +kernel, by decide +kernel⟩
abbrev c_R_init : ByteArray := prog_5_method_1_code
abbrev y_R_init : MethodName := ⟨"ProbeChoice$Rows", "<init>", "()V"⟩
theorem yw_R_init : Yw y_R_init c_R_init 1 none 0 := ⟨gd_at 182 (by decide +kernel) (by decide +kernel), gd_at 6 (by decide +kernel) (by decide +kernel), by decide +kernel, by decide +kernel, by decide +kernel⟩
abbrev c_X_net : ByteArray := prog_1_method_2_code
abbrev y_X_net : MethodName := ⟨"ProbeChoice", "net", "(Z)I"⟩
theorem yw_X_net : Yw y_X_net c_X_net 2 (some .int) 1 := ⟨gd_at 216 (by decide +kernel) (by decide +kernel), gd_at 1 (by decide +kernel) (by decide +kernel), by decide +kernel, by decide +kernel, by decide +kernel⟩
theorem yi_X_net : Cond.instanceMethod y_X_net ∈ lw_gd ∧ Cond.selects "ProbeChoice" y_X_net y_X_net ∈ lw_gd := ⟨gd_at 214 (by decide +kernel) (by decide +kernel), gd_at 215 (by decide +kernel) (by decide +kernel)⟩
abbrev c_B_addNet : ByteArray := prog_2_method_4_code
abbrev y_B_addNet : MethodName := ⟨"ProbeChoice$Board", "addNet", "(Z)I"⟩
theorem yw_B_addNet : Yw y_B_addNet c_B_addNet 2 (some .int) 1 := ⟨gd_at 220 (by decide +kernel) (by decide +kernel), gd_at 2 (by decide +kernel) (by decide +kernel), by decide +kernel, by decide +kernel, by decide +kernel⟩
theorem yi_B_addNet : Cond.instanceMethod y_B_addNet ∈ lw_gd ∧ Cond.selects "ProbeChoice$Board" y_B_addNet y_B_addNet ∈ lw_gd := ⟨gd_at 218 (by decide +kernel) (by decide +kernel), gd_at 219 (by decide +kernel) (by decide +kernel)⟩
abbrev c_X_probe : ByteArray := prog_1_method_6_code
abbrev y_X_probe : MethodName := ⟨"ProbeChoice", "probe", "(I)I"⟩
theorem yw_X_probe : Yw y_X_probe c_X_probe 2 (some .int) 1 := ⟨gd_at 224 (by decide +kernel) (by decide +kernel), gd_at 1 (by decide +kernel) (by decide +kernel), by decide +kernel, by decide +kernel, by decide +kernel⟩
theorem yi_X_probe : Cond.instanceMethod y_X_probe ∈ lw_gd ∧ Cond.selects "ProbeChoice" y_X_probe y_X_probe ∈ lw_gd := ⟨gd_at 222 (by decide +kernel) (by decide +kernel), gd_at 223 (by decide +kernel) (by decide +kernel)⟩
abbrev c_X_nth : ByteArray := prog_1_method_24_code
abbrev y_X_nth : MethodName := ⟨"ProbeChoice", "nth", "([III)I"⟩
theorem yw_X_nth : Yw y_X_nth c_X_nth 3 (some .int) 3 := ⟨gd_at 227 (by decide +kernel) (by decide +kernel), gd_at 1 (by decide +kernel) (by decide +kernel), by decide +kernel, by decide +kernel, by decide +kernel⟩
theorem yi_X_nth : Cond.static y_X_nth ∈ lw_gd := gd_at 226 (by decide +kernel) (by decide +kernel)
abbrev c_X_proved : ByteArray := prog_1_method_7_code
abbrev y_X_proved : MethodName := ⟨"ProbeChoice", "proved", "()Z"⟩
theorem yw_X_proved : Yw y_X_proved c_X_proved 1 (some .boolean) 0 := ⟨gd_at 231 (by decide +kernel) (by decide +kernel), gd_at 1 (by decide +kernel) (by decide +kernel), by decide +kernel, by decide +kernel, by decide +kernel⟩
theorem yi_X_proved : Cond.instanceMethod y_X_proved ∈ lw_gd ∧ Cond.selects "ProbeChoice" y_X_proved y_X_proved ∈ lw_gd := ⟨gd_at 229 (by decide +kernel) (by decide +kernel), gd_at 230 (by decide +kernel) (by decide +kernel)⟩
abbrev c_X_out : ByteArray := prog_1_method_8_code
abbrev y_X_out : MethodName := ⟨"ProbeChoice", "out", "(I)I"⟩
theorem yw_X_out : Yw y_X_out c_X_out 2 (some .int) 1 := ⟨gd_at 235 (by decide +kernel) (by decide +kernel), gd_at 1 (by decide +kernel) (by decide +kernel), by decide +kernel, by decide +kernel, by decide +kernel⟩
theorem yi_X_out : Cond.instanceMethod y_X_out ∈ lw_gd ∧ Cond.selects "ProbeChoice" y_X_out y_X_out ∈ lw_gd := ⟨gd_at 233 (by decide +kernel) (by decide +kernel), gd_at 234 (by decide +kernel) (by decide +kernel)⟩
abbrev c_X_suspects : ByteArray := prog_1_method_13_code
abbrev y_X_suspects : MethodName := ⟨"ProbeChoice", "suspects", "()I"⟩
theorem yw_X_suspects : Yw y_X_suspects c_X_suspects 1 (some .int) 0 := ⟨gd_at 239 (by decide +kernel) (by decide +kernel), gd_at 1 (by decide +kernel) (by decide +kernel), by decide +kernel, by decide +kernel, by decide +kernel⟩
theorem yi_X_suspects : Cond.instanceMethod y_X_suspects ∈ lw_gd ∧ Cond.selects "ProbeChoice" y_X_suspects y_X_suspects ∈ lw_gd := ⟨gd_at 237 (by decide +kernel) (by decide +kernel), gd_at 238 (by decide +kernel) (by decide +kernel)⟩
abbrev c_R_smallestCover : ByteArray := prog_5_method_4_code
abbrev y_R_smallestCover : MethodName := ⟨"ProbeChoice$Rows", "smallestCover", "()I"⟩
theorem yw_R_smallestCover : Yw y_R_smallestCover c_R_smallestCover 1 (some .int) 0 := ⟨gd_at 243 (by decide +kernel) (by decide +kernel), gd_at 6 (by decide +kernel) (by decide +kernel), by decide +kernel, by decide +kernel, by decide +kernel⟩
theorem yi_R_smallestCover : Cond.instanceMethod y_R_smallestCover ∈ lw_gd ∧ Cond.selects "ProbeChoice$Rows" y_R_smallestCover y_R_smallestCover ∈ lw_gd := ⟨gd_at 241 (by decide +kernel) (by decide +kernel), gd_at 242 (by decide +kernel) (by decide +kernel)⟩
abbrev c_R_explain : ByteArray := prog_5_method_5_code
abbrev y_R_explain : MethodName := ⟨"ProbeChoice$Rows", "explain", "(LProbeChoice$Rows;II)V"⟩
theorem yw_R_explain : Yw y_R_explain c_R_explain 4 none 3 := ⟨gd_at 246 (by decide +kernel) (by decide +kernel), gd_at 6 (by decide +kernel) (by decide +kernel), by decide +kernel, by decide +kernel, by decide +kernel⟩
theorem yi_R_explain : Cond.static y_R_explain ∈ lw_gd := gd_at 245 (by decide +kernel) (by decide +kernel)
abbrev c_JI_bitCount : ByteArray := prog_13_method_49_code
abbrev y_JI_bitCount : MethodName := ⟨"java/lang/Integer", "bitCount", "(I)I"⟩
theorem yw_JI_bitCount : Yw y_JI_bitCount c_JI_bitCount 1 (some .int) 1 := ⟨gd_at 249 (by decide +kernel) (by decide +kernel), gd_at 17 (by decide +kernel) (by decide +kernel), by decide +kernel, by decide +kernel, by decide +kernel⟩
theorem yi_JI_bitCount : Cond.static y_JI_bitCount ∈ lw_gd := gd_at 248 (by decide +kernel) (by decide +kernel)
abbrev c_X_hasBit : ByteArray := prog_1_method_26_code
abbrev y_X_hasBit : MethodName := ⟨"ProbeChoice", "hasBit", "(II)Z"⟩
theorem yw_X_hasBit : Yw y_X_hasBit c_X_hasBit 2 (some .boolean) 2 := ⟨gd_at 255 (by decide +kernel) (by decide +kernel), gd_at 1 (by decide +kernel) (by decide +kernel), by decide +kernel, by decide +kernel, by decide +kernel⟩
theorem yi_X_hasBit : Cond.static y_X_hasBit ∈ lw_gd := gd_at 254 (by decide +kernel) (by decide +kernel)
abbrev c_X_fly : ByteArray := prog_1_method_16_code
abbrev y_X_fly : MethodName := ⟨"ProbeChoice", "fly", "(I)I"⟩
theorem yw_X_fly : Yw y_X_fly c_X_fly 2 (some .int) 1 := ⟨gd_at 260 (by decide +kernel) (by decide +kernel), gd_at 1 (by decide +kernel) (by decide +kernel), by decide +kernel, by decide +kernel, by decide +kernel⟩
theorem yi_X_fly : Cond.instanceMethod y_X_fly ∈ lw_gd ∧ Cond.selects "ProbeChoice" y_X_fly y_X_fly ∈ lw_gd := ⟨gd_at 258 (by decide +kernel) (by decide +kernel), gd_at 259 (by decide +kernel) (by decide +kernel)⟩
abbrev c_X_seconds : ByteArray := prog_1_method_17_code
abbrev y_X_seconds : MethodName := ⟨"ProbeChoice", "seconds", "()J"⟩
theorem yw_X_seconds : Yw y_X_seconds c_X_seconds 1 (some .long) 0 := ⟨gd_at 264 (by decide +kernel) (by decide +kernel), gd_at 1 (by decide +kernel) (by decide +kernel), by decide +kernel, by decide +kernel, by decide +kernel⟩
theorem yi_X_seconds : Cond.instanceMethod y_X_seconds ∈ lw_gd ∧ Cond.selects "ProbeChoice" y_X_seconds y_X_seconds ∈ lw_gd := ⟨gd_at 262 (by decide +kernel) (by decide +kernel), gd_at 263 (by decide +kernel) (by decide +kernel)⟩
abbrev c_X_forces : ByteArray := prog_1_method_19_code
abbrev y_X_forces : MethodName := ⟨"ProbeChoice", "forces", "()J"⟩
theorem yw_X_forces : Yw y_X_forces c_X_forces 1 (some .long) 0 := ⟨gd_at 268 (by decide +kernel) (by decide +kernel), gd_at 1 (by decide +kernel) (by decide +kernel), by decide +kernel, by decide +kernel, by decide +kernel⟩
theorem yi_X_forces : Cond.instanceMethod y_X_forces ∈ lw_gd ∧ Cond.selects "ProbeChoice" y_X_forces y_X_forces ∈ lw_gd := ⟨gd_at 266 (by decide +kernel) (by decide +kernel), gd_at 267 (by decide +kernel) (by decide +kernel)⟩
abbrev c_F_sumOfForces : ByteArray := prog_3_method_3_code
abbrev y_F_sumOfForces : MethodName := ⟨"ProbeChoice$Fixture", "sumOfForces", "(LProbeChoice$Board;)J"⟩
theorem yw_F_sumOfForces : Yw y_F_sumOfForces c_F_sumOfForces 5 (some .long) 1 := ⟨gd_at 272 (by decide +kernel) (by decide +kernel), gd_at 4 (by decide +kernel) (by decide +kernel), by decide +kernel, by decide +kernel, by decide +kernel⟩
theorem yi_F_sumOfForces : Cond.instanceMethod y_F_sumOfForces ∈ lw_gd ∧ Cond.selects "ProbeChoice$Fixture" y_F_sumOfForces y_F_sumOfForces ∈ lw_gd := ⟨gd_at 270 (by decide +kernel) (by decide +kernel), gd_at 271 (by decide +kernel) (by decide +kernel)⟩
abbrev c_X_order : ByteArray := prog_1_method_21_code
abbrev y_X_order : MethodName := ⟨"ProbeChoice", "order", "(I)I"⟩
theorem yw_X_order : Yw y_X_order c_X_order 2 (some .int) 1 := ⟨gd_at 276 (by decide +kernel) (by decide +kernel), gd_at 1 (by decide +kernel) (by decide +kernel), by decide +kernel, by decide +kernel, by decide +kernel⟩
theorem yi_X_order : Cond.instanceMethod y_X_order ∈ lw_gd ∧ Cond.selects "ProbeChoice" y_X_order y_X_order ∈ lw_gd := ⟨gd_at 274 (by decide +kernel) (by decide +kernel), gd_at 275 (by decide +kernel) (by decide +kernel)⟩
abbrev c_X_point : ByteArray := prog_1_method_3_code
abbrev y_X_point : MethodName := ⟨"ProbeChoice", "point", "(IJJJ)I"⟩
theorem yw_X_point : Yw y_X_point c_X_point 8 (some .int) 4 := ⟨gd_at 285 (by decide +kernel) (by decide +kernel), gd_at 1 (by decide +kernel) (by decide +kernel), by decide +kernel, by decide +kernel, by decide +kernel⟩
theorem yi_X_point : Cond.instanceMethod y_X_point ∈ lw_gd ∧ Cond.selects "ProbeChoice" y_X_point y_X_point ∈ lw_gd := ⟨gd_at 283 (by decide +kernel) (by decide +kernel), gd_at 284 (by decide +kernel) (by decide +kernel)⟩
abbrev c_X_needNet : ByteArray := prog_1_method_22_code
abbrev y_X_needNet : MethodName := ⟨"ProbeChoice", "needNet", "(I)V"⟩
theorem yw_X_needNet : Yw y_X_needNet c_X_needNet 2 none 1 := ⟨gd_at 289 (by decide +kernel) (by decide +kernel), gd_at 1 (by decide +kernel) (by decide +kernel), by decide +kernel, by decide +kernel, by decide +kernel⟩
theorem yi_X_needNet : Cond.instanceMethod y_X_needNet ∈ lw_gd ∧ Cond.selects "ProbeChoice" y_X_needNet y_X_needNet ∈ lw_gd := ⟨gd_at 288 (by decide +kernel) (by decide +kernel), gd_sel 0 (by decide +kernel) (by decide +kernel)⟩
abbrev c_B_hasNet : ByteArray := prog_2_method_2_code
abbrev y_B_hasNet : MethodName := ⟨"ProbeChoice$Board", "hasNet", "(I)Z"⟩
theorem yw_B_hasNet : Yw y_B_hasNet c_B_hasNet 2 (some .boolean) 1 := ⟨gd_at 293 (by decide +kernel) (by decide +kernel), gd_at 2 (by decide +kernel) (by decide +kernel), by decide +kernel, by decide +kernel, by decide +kernel⟩
theorem yi_B_hasNet : Cond.instanceMethod y_B_hasNet ∈ lw_gd ∧ Cond.selects "ProbeChoice$Board" y_B_hasNet y_B_hasNet ∈ lw_gd := ⟨gd_at 291 (by decide +kernel) (by decide +kernel), gd_at 292 (by decide +kernel) (by decide +kernel)⟩
abbrev c_X_isWithin : ByteArray := prog_1_method_23_code
abbrev y_X_isWithin : MethodName := ⟨"ProbeChoice", "isWithin", "(JJJ)Z"⟩
theorem yw_X_isWithin : Yw y_X_isWithin c_X_isWithin 6 (some .boolean) 3 := ⟨gd_at 366 (by decide +kernel) (by decide +kernel), gd_at 1 (by decide +kernel) (by decide +kernel), by decide +kernel, by decide +kernel, by decide +kernel⟩
theorem yi_X_isWithin : Cond.static y_X_isWithin ∈ lw_gd := gd_at 365 (by decide +kernel) (by decide +kernel)
abbrev c_B_addPoint : ByteArray := prog_2_method_5_code
abbrev y_B_addPoint : MethodName := ⟨"ProbeChoice$Board", "addPoint", "(IJJJ)I"⟩
theorem yw_B_addPoint : Yw y_B_addPoint c_B_addPoint 9 (some .int) 4 := ⟨gd_at 388 (by decide +kernel) (by decide +kernel), gd_at 2 (by decide +kernel) (by decide +kernel), by decide +kernel, by decide +kernel, by decide +kernel⟩
theorem yi_B_addPoint : Cond.instanceMethod y_B_addPoint ∈ lw_gd ∧ Cond.selects "ProbeChoice$Board" y_B_addPoint y_B_addPoint ∈ lw_gd := ⟨gd_at 386 (by decide +kernel) (by decide +kernel), gd_at 387 (by decide +kernel) (by decide +kernel)⟩
abbrev c_X_gap : ByteArray := prog_1_method_4_code
abbrev y_X_gap : MethodName := ⟨"ProbeChoice", "gap", "(J)Z"⟩
theorem yw_X_gap : Yw y_X_gap c_X_gap 3 (some .boolean) 1 := ⟨gd_at 395 (by decide +kernel) (by decide +kernel), gd_at 1 (by decide +kernel) (by decide +kernel), by decide +kernel, by decide +kernel, by decide +kernel⟩
theorem yi_X_gap : Cond.instanceMethod y_X_gap ∈ lw_gd ∧ Cond.selects "ProbeChoice" y_X_gap y_X_gap ∈ lw_gd := ⟨gd_at 393 (by decide +kernel) (by decide +kernel), gd_at 394 (by decide +kernel) (by decide +kernel)⟩
abbrev c_B_setGap : ByteArray := prog_2_method_6_code
abbrev y_B_setGap : MethodName := ⟨"ProbeChoice$Board", "setGap", "(J)Z"⟩
theorem yw_B_setGap : Yw y_B_setGap c_B_setGap 4 (some .boolean) 1 := ⟨gd_at 400 (by decide +kernel) (by decide +kernel), gd_at 2 (by decide +kernel) (by decide +kernel), by decide +kernel, by decide +kernel, by decide +kernel⟩
theorem yi_B_setGap : Cond.instanceMethod y_B_setGap ∈ lw_gd ∧ Cond.selects "ProbeChoice$Board" y_B_setGap y_B_setGap ∈ lw_gd := ⟨gd_at 398 (by decide +kernel) (by decide +kernel), gd_at 399 (by decide +kernel) (by decide +kernel)⟩
abbrev c_X_run : ByteArray := prog_1_method_5_code
abbrev y_X_run : MethodName := ⟨"ProbeChoice", "run", "(J)I"⟩
theorem yw_X_run : Yw y_X_run c_X_run 3 (some .int) 1 := ⟨gd_at 407 (by decide +kernel) (by decide +kernel), gd_at 1 (by decide +kernel) (by decide +kernel), by decide +kernel, by decide +kernel, by decide +kernel⟩
theorem yi_X_run : Cond.instanceMethod y_X_run ∈ lw_gd ∧ Cond.selects "ProbeChoice" y_X_run y_X_run ∈ lw_gd := ⟨gd_at 405 (by decide +kernel) (by decide +kernel), gd_at 406 (by decide +kernel) (by decide +kernel)⟩
abbrev c_S_choose : ByteArray := prog_6_method_2_code
abbrev y_S_choose : MethodName := ⟨"ProbeChoice$Search", "choose", "(LProbeChoice$Board;I)V"⟩
theorem yw_S_choose : Yw y_S_choose c_S_choose 3 none 2 := ⟨gd_at 413 (by decide +kernel) (by decide +kernel), gd_at 3 (by decide +kernel) (by decide +kernel), by decide +kernel, by decide +kernel, by decide +kernel⟩
theorem yi_S_choose : Cond.instanceMethod y_S_choose ∈ lw_gd ∧ Cond.selects "ProbeChoice$Search" y_S_choose y_S_choose ∈ lw_gd := ⟨gd_at 411 (by decide +kernel) (by decide +kernel), gd_at 412 (by decide +kernel) (by decide +kernel)⟩
abbrev c_S_lookAtNets : ByteArray := prog_6_method_3_code
abbrev y_S_lookAtNets : MethodName := ⟨"ProbeChoice$Search", "lookAtNets", "(LProbeChoice$Board;I)V"⟩
theorem yw_S_lookAtNets : Yw y_S_lookAtNets c_S_lookAtNets 6 none 2 := ⟨gd_at 417 (by decide +kernel) (by decide +kernel), gd_at 3 (by decide +kernel) (by decide +kernel), by decide +kernel, by decide +kernel, by decide +kernel⟩
theorem yi_S_lookAtNets : Cond.instanceMethod y_S_lookAtNets ∈ lw_gd ∧ Cond.selects "ProbeChoice$Search" y_S_lookAtNets y_S_lookAtNets ∈ lw_gd := ⟨gd_at 416 (by decide +kernel) (by decide +kernel), gd_sel 2 (by decide +kernel) (by decide +kernel)⟩
abbrev c_S_markClashes : ByteArray := prog_6_method_4_code
abbrev y_S_markClashes : MethodName := ⟨"ProbeChoice$Search", "markClashes", "(LProbeChoice$Board;)V"⟩
theorem yw_S_markClashes : Yw y_S_markClashes c_S_markClashes 5 none 1 := ⟨gd_at 422 (by decide +kernel) (by decide +kernel), gd_at 3 (by decide +kernel) (by decide +kernel), by decide +kernel, by decide +kernel, by decide +kernel⟩
theorem yi_S_markClashes : Cond.instanceMethod y_S_markClashes ∈ lw_gd ∧ Cond.selects "ProbeChoice$Search" y_S_markClashes y_S_markClashes ∈ lw_gd := ⟨gd_at 421 (by decide +kernel) (by decide +kernel), gd_sel 3 (by decide +kernel) (by decide +kernel)⟩
abbrev c_JA_fill : ByteArray := prog_19_method_103_code
abbrev y_JA_fill : MethodName := ⟨"java/util/Arrays", "fill", "([II)V"⟩
theorem yw_JA_fill : Yw y_JA_fill c_JA_fill 4 none 2 := ⟨gd_at 425 (by decide +kernel) (by decide +kernel), gd_at 13 (by decide +kernel) (by decide +kernel), by decide +kernel, by decide +kernel, by decide +kernel⟩
theorem yi_JA_fill : Cond.static y_JA_fill ∈ lw_gd := gd_at 424 (by decide +kernel) (by decide +kernel)
abbrev c_S_endOf : ByteArray := prog_6_method_6_code
abbrev y_S_endOf : MethodName := ⟨"ProbeChoice$Search", "endOf", "(I)I"⟩
theorem yw_S_endOf : Yw y_S_endOf c_S_endOf 2 (some .int) 1 := ⟨gd_at 429 (by decide +kernel) (by decide +kernel), gd_at 3 (by decide +kernel) (by decide +kernel), by decide +kernel, by decide +kernel, by decide +kernel⟩
theorem yi_S_endOf : Cond.instanceMethod y_S_endOf ∈ lw_gd ∧ Cond.selects "ProbeChoice$Search" y_S_endOf y_S_endOf ∈ lw_gd := ⟨gd_at 428 (by decide +kernel) (by decide +kernel), gd_sel 4 (by decide +kernel) (by decide +kernel)⟩
abbrev c_S_markClashesWithNet : ByteArray := prog_6_method_5_code
abbrev y_S_markClashesWithNet : MethodName := ⟨"ProbeChoice$Search", "markClashesWithNet", "(LProbeChoice$Board;II)V"⟩
theorem yw_S_markClashesWithNet : Yw y_S_markClashesWithNet c_S_markClashesWithNet 5 none 3 := ⟨gd_at 433 (by decide +kernel) (by decide +kernel), gd_at 3 (by decide +kernel) (by decide +kernel), by decide +kernel, by decide +kernel, by decide +kernel⟩
theorem yi_S_markClashesWithNet : Cond.instanceMethod y_S_markClashesWithNet ∈ lw_gd ∧ Cond.selects "ProbeChoice$Search" y_S_markClashesWithNet y_S_markClashesWithNet ∈ lw_gd := ⟨gd_at 432 (by decide +kernel) (by decide +kernel), gd_sel 5 (by decide +kernel) (by decide +kernel)⟩
abbrev c_B_canBothBeProbes : ByteArray := prog_2_method_9_code
abbrev y_B_canBothBeProbes : MethodName := ⟨"ProbeChoice$Board", "canBothBeProbes", "(II)Z"⟩
theorem yw_B_canBothBeProbes : Yw y_B_canBothBeProbes c_B_canBothBeProbes 5 (some .boolean) 2 := ⟨gd_at 437 (by decide +kernel) (by decide +kernel), gd_at 2 (by decide +kernel) (by decide +kernel), by decide +kernel, by decide +kernel, by decide +kernel⟩
theorem yi_B_canBothBeProbes : Cond.instanceMethod y_B_canBothBeProbes ∈ lw_gd ∧ Cond.selects "ProbeChoice$Board" y_B_canBothBeProbes y_B_canBothBeProbes ∈ lw_gd := ⟨gd_at 435 (by decide +kernel) (by decide +kernel), gd_at 436 (by decide +kernel) (by decide +kernel)⟩
abbrev c_B_squareOfWay : ByteArray := prog_2_method_10_code
abbrev y_B_squareOfWay : MethodName := ⟨"ProbeChoice$Board", "squareOfWay", "(IJJ)J"⟩
theorem yw_B_squareOfWay : Yw y_B_squareOfWay c_B_squareOfWay 10 (some .long) 3 := ⟨gd_at 441 (by decide +kernel) (by decide +kernel), gd_at 2 (by decide +kernel) (by decide +kernel), by decide +kernel, by decide +kernel, by decide +kernel⟩
theorem yi_B_squareOfWay : Cond.instanceMethod y_B_squareOfWay ∈ lw_gd ∧ Cond.selects "ProbeChoice$Board" y_B_squareOfWay y_B_squareOfWay ∈ lw_gd := ⟨gd_at 439 (by decide +kernel) (by decide +kernel), gd_at 440 (by decide +kernel) (by decide +kernel)⟩
abbrev c_S_worthOfPlainChoice : ByteArray := prog_6_method_7_code
abbrev y_S_worthOfPlainChoice : MethodName := ⟨"ProbeChoice$Search", "worthOfPlainChoice", "()J"⟩
theorem yw_S_worthOfPlainChoice : Yw y_S_worthOfPlainChoice c_S_worthOfPlainChoice 6 (some .long) 0 := ⟨gd_at 445 (by decide +kernel) (by decide +kernel), gd_at 3 (by decide +kernel) (by decide +kernel), by decide +kernel, by decide +kernel, by decide +kernel⟩
theorem yi_S_worthOfPlainChoice : Cond.instanceMethod y_S_worthOfPlainChoice ∈ lw_gd ∧ Cond.selects "ProbeChoice$Search" y_S_worthOfPlainChoice y_S_worthOfPlainChoice ∈ lw_gd := ⟨gd_at 444 (by decide +kernel) (by decide +kernel), gd_sel 6 (by decide +kernel) (by decide +kernel)⟩
abbrev c_S_bestSlot : ByteArray := prog_6_method_9_code
abbrev y_S_bestSlot : MethodName := ⟨"ProbeChoice$Search", "bestSlot", "(II)I"⟩
theorem yw_S_bestSlot : Yw y_S_bestSlot c_S_bestSlot 5 (some .int) 2 := ⟨gd_at 449 (by decide +kernel) (by decide +kernel), gd_at 3 (by decide +kernel) (by decide +kernel), by decide +kernel, by decide +kernel, by decide +kernel⟩
theorem yi_S_bestSlot : Cond.instanceMethod y_S_bestSlot ∈ lw_gd ∧ Cond.selects "ProbeChoice$Search" y_S_bestSlot y_S_bestSlot ∈ lw_gd := ⟨gd_at 448 (by decide +kernel) (by decide +kernel), gd_sel 7 (by decide +kernel) (by decide +kernel)⟩
abbrev c_S_descend : ByteArray := prog_6_method_10_code
abbrev y_S_descend : MethodName := ⟨"ProbeChoice$Search", "descend", "(LProbeChoice$Search;IJI)V"⟩
theorem yw_S_descend : Yw y_S_descend c_S_descend 6 none 4 := ⟨gd_at 453 (by decide +kernel) (by decide +kernel), gd_at 3 (by decide +kernel) (by decide +kernel), by decide +kernel, by decide +kernel, by decide +kernel⟩
theorem yi_S_descend : Cond.static y_S_descend ∈ lw_gd := gd_at 452 (by decide +kernel) (by decide +kernel)
abbrev c_S_mostWorthFrom : ByteArray := prog_6_method_8_code
abbrev y_S_mostWorthFrom : MethodName := ⟨"ProbeChoice$Search", "mostWorthFrom", "(II)J"⟩
theorem yw_S_mostWorthFrom : Yw y_S_mostWorthFrom c_S_mostWorthFrom 7 (some .long) 2 := ⟨gd_at 457 (by decide +kernel) (by decide +kernel), gd_at 3 (by decide +kernel) (by decide +kernel), by decide +kernel, by decide +kernel, by decide +kernel⟩
theorem yi_S_mostWorthFrom : Cond.instanceMethod y_S_mostWorthFrom ∈ lw_gd ∧ Cond.selects "ProbeChoice$Search" y_S_mostWorthFrom y_S_mostWorthFrom ∈ lw_gd := ⟨gd_at 456 (by decide +kernel) (by decide +kernel), gd_sel 8 (by decide +kernel) (by decide +kernel)⟩
abbrev c_S_keep : ByteArray := prog_6_method_11_code
abbrev y_S_keep : MethodName := ⟨"ProbeChoice$Search", "keep", "(J)V"⟩
theorem yw_S_keep : Yw y_S_keep c_S_keep 3 none 1 := ⟨gd_at 461 (by decide +kernel) (by decide +kernel), gd_at 3 (by decide +kernel) (by decide +kernel), by decide +kernel, by decide +kernel, by decide +kernel⟩
theorem yi_S_keep : Cond.instanceMethod y_S_keep ∈ lw_gd ∧ Cond.selects "ProbeChoice$Search" y_S_keep y_S_keep ∈ lw_gd := ⟨gd_at 460 (by decide +kernel) (by decide +kernel), gd_sel 9 (by decide +kernel) (by decide +kernel)⟩
abbrev c_F_build : ByteArray := prog_3_method_2_code
abbrev y_F_build : MethodName := ⟨"ProbeChoice$Fixture", "build", "(LProbeChoice$Board;LProbeChoice$Search;)V"⟩
theorem yw_F_build : Yw y_F_build c_F_build 3 none 2 := ⟨gd_at 468 (by decide +kernel) (by decide +kernel), gd_at 4 (by decide +kernel) (by decide +kernel), by decide +kernel, by decide +kernel, by decide +kernel⟩
theorem yi_F_build : Cond.instanceMethod y_F_build ∈ lw_gd ∧ Cond.selects "ProbeChoice$Fixture" y_F_build y_F_build ∈ lw_gd := ⟨gd_at 466 (by decide +kernel) (by decide +kernel), gd_at 467 (by decide +kernel) (by decide +kernel)⟩
abbrev c_B_countOfMust : ByteArray := prog_2_method_8_code
abbrev y_B_countOfMust : MethodName := ⟨"ProbeChoice$Board", "countOfMust", "()I"⟩
theorem yw_B_countOfMust : Yw y_B_countOfMust c_B_countOfMust 3 (some .int) 0 := ⟨gd_at 472 (by decide +kernel) (by decide +kernel), gd_at 2 (by decide +kernel) (by decide +kernel), by decide +kernel, by decide +kernel, by decide +kernel⟩
theorem yi_B_countOfMust : Cond.instanceMethod y_B_countOfMust ∈ lw_gd ∧ Cond.selects "ProbeChoice$Board" y_B_countOfMust y_B_countOfMust ∈ lw_gd := ⟨gd_at 470 (by decide +kernel) (by decide +kernel), gd_at 471 (by decide +kernel) (by decide +kernel)⟩
abbrev c_F_takeProbes : ByteArray := prog_3_method_5_code
abbrev y_F_takeProbes : MethodName := ⟨"ProbeChoice$Fixture", "takeProbes", "(LProbeChoice$Search;)V"⟩
theorem yw_F_takeProbes : Yw y_F_takeProbes c_F_takeProbes 3 none 1 := ⟨gd_at 476 (by decide +kernel) (by decide +kernel), gd_at 4 (by decide +kernel) (by decide +kernel), by decide +kernel, by decide +kernel, by decide +kernel⟩
theorem yi_F_takeProbes : Cond.instanceMethod y_F_takeProbes ∈ lw_gd ∧ Cond.selects "ProbeChoice$Fixture" y_F_takeProbes y_F_takeProbes ∈ lw_gd := ⟨gd_at 475 (by decide +kernel) (by decide +kernel), gd_sel 10 (by decide +kernel) (by decide +kernel)⟩
abbrev c_F_planFlight : ByteArray := prog_3_method_6_code
abbrev y_F_planFlight : MethodName := ⟨"ProbeChoice$Fixture", "planFlight", "(LProbeChoice$Board;)V"⟩
theorem yw_F_planFlight : Yw y_F_planFlight c_F_planFlight 9 none 1 := ⟨gd_at 480 (by decide +kernel) (by decide +kernel), gd_at 4 (by decide +kernel) (by decide +kernel), by decide +kernel, by decide +kernel, by decide +kernel⟩
theorem yi_F_planFlight : Cond.instanceMethod y_F_planFlight ∈ lw_gd ∧ Cond.selects "ProbeChoice$Fixture" y_F_planFlight y_F_planFlight ∈ lw_gd := ⟨gd_at 479 (by decide +kernel) (by decide +kernel), gd_sel 11 (by decide +kernel) (by decide +kernel)⟩
abbrev c_F_placeOfNearest : ByteArray := prog_3_method_7_code
abbrev y_F_placeOfNearest : MethodName := ⟨"ProbeChoice$Fixture", "placeOfNearest", "(LProbeChoice$Board;IJJ)I"⟩
theorem yw_F_placeOfNearest : Yw y_F_placeOfNearest c_F_placeOfNearest 13 (some .int) 4 := ⟨gd_at 485 (by decide +kernel) (by decide +kernel), gd_at 4 (by decide +kernel) (by decide +kernel), by decide +kernel, by decide +kernel, by decide +kernel⟩
theorem yi_F_placeOfNearest : Cond.instanceMethod y_F_placeOfNearest ∈ lw_gd ∧ Cond.selects "ProbeChoice$Fixture" y_F_placeOfNearest y_F_placeOfNearest ∈ lw_gd := ⟨gd_at 484 (by decide +kernel) (by decide +kernel), gd_sel 12 (by decide +kernel) (by decide +kernel)⟩
abbrev c_JM_absL : ByteArray := prog_14_method_61_code
abbrev y_JM_absL : MethodName := ⟨"java/lang/Math", "abs", "(J)J"⟩
theorem yw_JM_absL : Yw y_JM_absL c_JM_absL 2 (some .long) 1 := ⟨gd_at 489 (by decide +kernel) (by decide +kernel), gd_at 15 (by decide +kernel) (by decide +kernel), by decide +kernel, by decide +kernel, by decide +kernel⟩
theorem yi_JM_absL : Cond.static y_JM_absL ∈ lw_gd := gd_at 488 (by decide +kernel) (by decide +kernel)
abbrev c_JM_maxL : ByteArray := prog_14_method_66_code
abbrev y_JM_maxL : MethodName := ⟨"java/lang/Math", "max", "(JJ)J"⟩
theorem yw_JM_maxL : Yw y_JM_maxL c_JM_maxL 4 (some .long) 2 := ⟨gd_at 492 (by decide +kernel) (by decide +kernel), gd_at 15 (by decide +kernel) (by decide +kernel), by decide +kernel, by decide +kernel, by decide +kernel⟩
theorem yi_JM_maxL : Cond.static y_JM_maxL ∈ lw_gd := gd_at 491 (by decide +kernel) (by decide +kernel)
abbrev c_F_sortByPlace : ByteArray := prog_3_method_8_code
abbrev y_F_sortByPlace : MethodName := ⟨"ProbeChoice$Fixture", "sortByPlace", "(LProbeChoice$Board;)V"⟩
theorem yw_F_sortByPlace : Yw y_F_sortByPlace c_F_sortByPlace 4 none 1 := ⟨gd_at 496 (by decide +kernel) (by decide +kernel), gd_at 4 (by decide +kernel) (by decide +kernel), by decide +kernel, by decide +kernel, by decide +kernel⟩
theorem yi_F_sortByPlace : Cond.instanceMethod y_F_sortByPlace ∈ lw_gd ∧ Cond.selects "ProbeChoice$Fixture" y_F_sortByPlace y_F_sortByPlace ∈ lw_gd := ⟨gd_at 495 (by decide +kernel) (by decide +kernel), gd_sel 13 (by decide +kernel) (by decide +kernel)⟩
abbrev c_B_isBeforeByPlace : ByteArray := prog_2_method_11_code
abbrev y_B_isBeforeByPlace : MethodName := ⟨"ProbeChoice$Board", "isBeforeByPlace", "(II)Z"⟩
theorem yw_B_isBeforeByPlace : Yw y_B_isBeforeByPlace c_B_isBeforeByPlace 3 (some .boolean) 2 := ⟨gd_at 500 (by decide +kernel) (by decide +kernel), gd_at 2 (by decide +kernel) (by decide +kernel), by decide +kernel, by decide +kernel, by decide +kernel⟩
theorem yi_B_isBeforeByPlace : Cond.instanceMethod y_B_isBeforeByPlace ∈ lw_gd ∧ Cond.selects "ProbeChoice$Board" y_B_isBeforeByPlace y_B_isBeforeByPlace ∈ lw_gd := ⟨gd_at 498 (by decide +kernel) (by decide +kernel), gd_at 499 (by decide +kernel) (by decide +kernel)⟩
abbrev c_F_writeText : ByteArray := prog_3_method_9_code
abbrev y_F_writeText : MethodName := ⟨"ProbeChoice$Fixture", "writeText", "(LProbeChoice$Board;)V"⟩
theorem yw_F_writeText : Yw y_F_writeText c_F_writeText 4 none 1 := ⟨gd_at 504 (by decide +kernel) (by decide +kernel), gd_at 4 (by decide +kernel) (by decide +kernel), by decide +kernel, by decide +kernel, by decide +kernel⟩
theorem yi_F_writeText : Cond.instanceMethod y_F_writeText ∈ lw_gd ∧ Cond.selects "ProbeChoice$Fixture" y_F_writeText y_F_writeText ∈ lw_gd := ⟨gd_at 503 (by decide +kernel) (by decide +kernel), gd_sel 14 (by decide +kernel) (by decide +kernel)⟩
abbrev c_F_writeLetter : ByteArray := prog_3_method_11_code
abbrev y_F_writeLetter : MethodName := ⟨"ProbeChoice$Fixture", "writeLetter", "(C)V"⟩
theorem yw_F_writeLetter : Yw y_F_writeLetter c_F_writeLetter 2 none 1 := ⟨gd_at 508 (by decide +kernel) (by decide +kernel), gd_at 4 (by decide +kernel) (by decide +kernel), by decide +kernel, by decide +kernel, by decide +kernel⟩
theorem yi_F_writeLetter : Cond.instanceMethod y_F_writeLetter ∈ lw_gd ∧ Cond.selects "ProbeChoice$Fixture" y_F_writeLetter y_F_writeLetter ∈ lw_gd := ⟨gd_at 507 (by decide +kernel) (by decide +kernel), gd_sel 15 (by decide +kernel) (by decide +kernel)⟩
abbrev c_F_writeNumber : ByteArray := prog_3_method_10_code
abbrev y_F_writeNumber : MethodName := ⟨"ProbeChoice$Fixture", "writeNumber", "(J)V"⟩
theorem yw_F_writeNumber : Yw y_F_writeNumber c_F_writeNumber 8 none 1 := ⟨gd_at 512 (by decide +kernel) (by decide +kernel), gd_at 4 (by decide +kernel) (by decide +kernel), by decide +kernel, by decide +kernel, by decide +kernel⟩
theorem yi_F_writeNumber : Cond.instanceMethod y_F_writeNumber ∈ lw_gd ∧ Cond.selects "ProbeChoice$Fixture" y_F_writeNumber y_F_writeNumber ∈ lw_gd := ⟨gd_at 511 (by decide +kernel) (by decide +kernel), gd_sel 16 (by decide +kernel) (by decide +kernel)⟩
abbrev c_X_part : ByteArray := prog_1_method_9_code
abbrev y_X_part : MethodName := ⟨"ProbeChoice", "part", "(IIJJ)Z"⟩
theorem yw_X_part : Yw y_X_part c_X_part 7 (some .boolean) 4 := ⟨gd_at 521 (by decide +kernel) (by decide +kernel), gd_at 1 (by decide +kernel) (by decide +kernel), by decide +kernel, by decide +kernel, by decide +kernel⟩
theorem yi_X_part : Cond.instanceMethod y_X_part ∈ lw_gd ∧ Cond.selects "ProbeChoice" y_X_part y_X_part ∈ lw_gd := ⟨gd_at 519 (by decide +kernel) (by decide +kernel), gd_at 520 (by decide +kernel) (by decide +kernel)⟩
abbrev c_P_add : ByteArray := prog_4_method_2_code
abbrev y_P_add : MethodName := ⟨"ProbeChoice$Parts", "add", "(IIJJ)Z"⟩
theorem yw_P_add : Yw y_P_add c_P_add 8 (some .boolean) 4 := ⟨gd_at 527 (by decide +kernel) (by decide +kernel), gd_at 5 (by decide +kernel) (by decide +kernel), by decide +kernel, by decide +kernel, by decide +kernel⟩
theorem yi_P_add : Cond.instanceMethod y_P_add ∈ lw_gd ∧ Cond.selects "ProbeChoice$Parts" y_P_add y_P_add ∈ lw_gd := ⟨gd_at 525 (by decide +kernel) (by decide +kernel), gd_at 526 (by decide +kernel) (by decide +kernel)⟩
abbrev c_P_pairOf : ByteArray := prog_4_method_7_code
abbrev y_P_pairOf : MethodName := ⟨"ProbeChoice$Parts", "pairOf", "(II)I"⟩
theorem yw_P_pairOf : Yw y_P_pairOf c_P_pairOf 2 (some .int) 2 := ⟨gd_at 530 (by decide +kernel) (by decide +kernel), gd_at 5 (by decide +kernel) (by decide +kernel), by decide +kernel, by decide +kernel, by decide +kernel⟩
theorem yi_P_pairOf : Cond.static y_P_pairOf ∈ lw_gd := gd_at 529 (by decide +kernel) (by decide +kernel)
abbrev c_JM_min : ByteArray := prog_14_method_69_code
abbrev y_JM_min : MethodName := ⟨"java/lang/Math", "min", "(II)I"⟩
theorem yw_JM_min : Yw y_JM_min c_JM_min 2 (some .int) 2 := ⟨gd_at 533 (by decide +kernel) (by decide +kernel), gd_at 15 (by decide +kernel) (by decide +kernel), by decide +kernel, by decide +kernel, by decide +kernel⟩
theorem yi_JM_min : Cond.static y_JM_min ∈ lw_gd := gd_at 532 (by decide +kernel) (by decide +kernel)
abbrev c_JM_max : ByteArray := prog_14_method_65_code
abbrev y_JM_max : MethodName := ⟨"java/lang/Math", "max", "(II)I"⟩
theorem yw_JM_max : Yw y_JM_max c_JM_max 2 (some .int) 2 := ⟨gd_at 536 (by decide +kernel) (by decide +kernel), gd_at 15 (by decide +kernel) (by decide +kernel), by decide +kernel, by decide +kernel, by decide +kernel⟩
theorem yi_JM_max : Cond.static y_JM_max ∈ lw_gd := gd_at 535 (by decide +kernel) (by decide +kernel)
abbrev c_P_addInverse : ByteArray := prog_4_method_6_code
abbrev y_P_addInverse : MethodName := ⟨"ProbeChoice$Parts", "addInverse", "(IIJ)V"⟩
theorem yw_P_addInverse : Yw y_P_addInverse c_P_addInverse 7 none 3 := ⟨gd_at 540 (by decide +kernel) (by decide +kernel), gd_at 5 (by decide +kernel) (by decide +kernel), by decide +kernel, by decide +kernel, by decide +kernel⟩
theorem yi_P_addInverse : Cond.instanceMethod y_P_addInverse ∈ lw_gd ∧ Cond.selects "ProbeChoice$Parts" y_P_addInverse y_P_addInverse ∈ lw_gd := ⟨gd_at 539 (by decide +kernel) (by decide +kernel), gd_sel 17 (by decide +kernel) (by decide +kernel)⟩
abbrev c_X_span : ByteArray := prog_1_method_10_code
abbrev y_X_span : MethodName := ⟨"ProbeChoice", "span", "(IIII)J"⟩
theorem yw_X_span : Yw y_X_span c_X_span 5 (some .long) 4 := ⟨gd_at 548 (by decide +kernel) (by decide +kernel), gd_at 1 (by decide +kernel) (by decide +kernel), by decide +kernel, by decide +kernel, by decide +kernel⟩
theorem yi_X_span : Cond.instanceMethod y_X_span ∈ lw_gd ∧ Cond.selects "ProbeChoice" y_X_span y_X_span ∈ lw_gd := ⟨gd_at 546 (by decide +kernel) (by decide +kernel), gd_at 547 (by decide +kernel) (by decide +kernel)⟩
abbrev c_P_areBetween : ByteArray := prog_4_method_3_code
abbrev y_P_areBetween : MethodName := ⟨"ProbeChoice$Parts", "areBetween", "(II)Z"⟩
theorem yw_P_areBetween : Yw y_P_areBetween c_P_areBetween 3 (some .boolean) 2 := ⟨gd_at 553 (by decide +kernel) (by decide +kernel), gd_at 5 (by decide +kernel) (by decide +kernel), by decide +kernel, by decide +kernel, by decide +kernel⟩
theorem yi_P_areBetween : Cond.instanceMethod y_P_areBetween ∈ lw_gd ∧ Cond.selects "ProbeChoice$Parts" y_P_areBetween y_P_areBetween ∈ lw_gd := ⟨gd_at 551 (by decide +kernel) (by decide +kernel), gd_at 552 (by decide +kernel) (by decide +kernel)⟩
abbrev c_P_termOfSpan : ByteArray := prog_4_method_5_code
abbrev y_P_termOfSpan : MethodName := ⟨"ProbeChoice$Parts", "termOfSpan", "(IIII)J"⟩
theorem yw_P_termOfSpan : Yw y_P_termOfSpan c_P_termOfSpan 12 (some .long) 4 := ⟨gd_at 574 (by decide +kernel) (by decide +kernel), gd_at 5 (by decide +kernel) (by decide +kernel), by decide +kernel, by decide +kernel, by decide +kernel⟩
theorem yi_P_termOfSpan : Cond.instanceMethod y_P_termOfSpan ∈ lw_gd ∧ Cond.selects "ProbeChoice$Parts" y_P_termOfSpan y_P_termOfSpan ∈ lw_gd := ⟨gd_at 572 (by decide +kernel) (by decide +kernel), gd_at 573 (by decide +kernel) (by decide +kernel)⟩
abbrev c_P_commonDivisor : ByteArray := prog_4_method_8_code
abbrev y_P_commonDivisor : MethodName := ⟨"ProbeChoice$Parts", "commonDivisor", "(JJ)J"⟩
theorem yw_P_commonDivisor : Yw y_P_commonDivisor c_P_commonDivisor 11 (some .long) 2 := ⟨gd_at 577 (by decide +kernel) (by decide +kernel), gd_at 5 (by decide +kernel) (by decide +kernel), by decide +kernel, by decide +kernel, by decide +kernel⟩
theorem yi_P_commonDivisor : Cond.static y_P_commonDivisor ∈ lw_gd := gd_at 576 (by decide +kernel) (by decide +kernel)
abbrev c_X_guard : ByteArray := prog_1_method_11_code
abbrev y_X_guard : MethodName := ⟨"ProbeChoice", "guard", "(III)I"⟩
theorem yw_X_guard : Yw y_X_guard c_X_guard 4 (some .int) 3 := ⟨gd_at 585 (by decide +kernel) (by decide +kernel), gd_at 1 (by decide +kernel) (by decide +kernel), by decide +kernel, by decide +kernel, by decide +kernel⟩
theorem yi_X_guard : Cond.instanceMethod y_X_guard ∈ lw_gd ∧ Cond.selects "ProbeChoice" y_X_guard y_X_guard ∈ lw_gd := ⟨gd_at 583 (by decide +kernel) (by decide +kernel), gd_at 584 (by decide +kernel) (by decide +kernel)⟩
abbrev c_P_joinedToBoth : ByteArray := prog_4_method_4_code
abbrev y_P_joinedToBoth : MethodName := ⟨"ProbeChoice$Parts", "joinedToBoth", "(II)I"⟩
theorem yw_P_joinedToBoth : Yw y_P_joinedToBoth c_P_joinedToBoth 3 (some .int) 2 := ⟨gd_at 589 (by decide +kernel) (by decide +kernel), gd_at 5 (by decide +kernel) (by decide +kernel), by decide +kernel, by decide +kernel, by decide +kernel⟩
theorem yi_P_joinedToBoth : Cond.instanceMethod y_P_joinedToBoth ∈ lw_gd ∧ Cond.selects "ProbeChoice$Parts" y_P_joinedToBoth y_P_joinedToBoth ∈ lw_gd := ⟨gd_at 587 (by decide +kernel) (by decide +kernel), gd_at 588 (by decide +kernel) (by decide +kernel)⟩
abbrev c_X_nthBit : ByteArray := prog_1_method_25_code
abbrev y_X_nthBit : MethodName := ⟨"ProbeChoice", "nthBit", "(II)I"⟩
theorem yw_X_nthBit : Yw y_X_nthBit c_X_nthBit 4 (some .int) 2 := ⟨gd_at 592 (by decide +kernel) (by decide +kernel), gd_at 1 (by decide +kernel) (by decide +kernel), by decide +kernel, by decide +kernel, by decide +kernel⟩
theorem yi_X_nthBit : Cond.static y_X_nthBit ∈ lw_gd := gd_at 591 (by decide +kernel) (by decide +kernel)
abbrev c_X_fail : ByteArray := prog_1_method_12_code
abbrev y_X_fail : MethodName := ⟨"ProbeChoice", "fail", "(I)Z"⟩
theorem yw_X_fail : Yw y_X_fail c_X_fail 4 (some .boolean) 1 := ⟨gd_at 600 (by decide +kernel) (by decide +kernel), gd_at 1 (by decide +kernel) (by decide +kernel), by decide +kernel, by decide +kernel, by decide +kernel⟩
theorem yi_X_fail : Cond.instanceMethod y_X_fail ∈ lw_gd ∧ Cond.selects "ProbeChoice" y_X_fail y_X_fail ∈ lw_gd := ⟨gd_at 598 (by decide +kernel) (by decide +kernel), gd_at 599 (by decide +kernel) (by decide +kernel)⟩
abbrev c_R_add : ByteArray := prog_5_method_2_code
abbrev y_R_add : MethodName := ⟨"ProbeChoice$Rows", "add", "(II)Z"⟩
theorem yw_R_add : Yw y_R_add c_R_add 3 (some .boolean) 2 := ⟨gd_at 605 (by decide +kernel) (by decide +kernel), gd_at 6 (by decide +kernel) (by decide +kernel), by decide +kernel, by decide +kernel, by decide +kernel⟩
theorem yi_R_add : Cond.instanceMethod y_R_add ∈ lw_gd ∧ Cond.selects "ProbeChoice$Rows" y_R_add y_R_add ∈ lw_gd := ⟨gd_at 603 (by decide +kernel) (by decide +kernel), gd_at 604 (by decide +kernel) (by decide +kernel)⟩
abbrev c_X_suspect : ByteArray := prog_1_method_14_code
abbrev y_X_suspect : MethodName := ⟨"ProbeChoice", "suspect", "(II)I"⟩
theorem yw_X_suspect : Yw y_X_suspect c_X_suspect 4 (some .int) 2 := ⟨gd_at 612 (by decide +kernel) (by decide +kernel), gd_at 1 (by decide +kernel) (by decide +kernel), by decide +kernel, by decide +kernel, by decide +kernel⟩
theorem yi_X_suspect : Cond.instanceMethod y_X_suspect ∈ lw_gd ∧ Cond.selects "ProbeChoice" y_X_suspect y_X_suspect ∈ lw_gd := ⟨gd_at 610 (by decide +kernel) (by decide +kernel), gd_at 611 (by decide +kernel) (by decide +kernel)⟩
abbrev c_R_countOf : ByteArray := prog_5_method_3_code
abbrev y_R_countOf : MethodName := ⟨"ProbeChoice$Rows", "countOf", "(I)I"⟩
theorem yw_R_countOf : Yw y_R_countOf c_R_countOf 2 (some .int) 1 := ⟨gd_at 617 (by decide +kernel) (by decide +kernel), gd_at 6 (by decide +kernel) (by decide +kernel), by decide +kernel, by decide +kernel, by decide +kernel⟩
theorem yi_R_countOf : Cond.instanceMethod y_R_countOf ∈ lw_gd ∧ Cond.selects "ProbeChoice$Rows" y_R_countOf y_R_countOf ∈ lw_gd := ⟨gd_at 615 (by decide +kernel) (by decide +kernel), gd_at 616 (by decide +kernel) (by decide +kernel)⟩
abbrev c_X_faults : ByteArray := prog_1_method_15_code
abbrev y_X_faults : MethodName := ⟨"ProbeChoice", "faults", "(I)I"⟩
theorem yw_X_faults : Yw y_X_faults c_X_faults 2 (some .int) 1 := ⟨gd_at 624 (by decide +kernel) (by decide +kernel), gd_at 1 (by decide +kernel) (by decide +kernel), by decide +kernel, by decide +kernel, by decide +kernel⟩
theorem yi_X_faults : Cond.instanceMethod y_X_faults ∈ lw_gd ∧ Cond.selects "ProbeChoice" y_X_faults y_X_faults ∈ lw_gd := ⟨gd_at 622 (by decide +kernel) (by decide +kernel), gd_at 623 (by decide +kernel) (by decide +kernel)⟩
abbrev c_X_force : ByteArray := prog_1_method_18_code
abbrev y_X_force : MethodName := ⟨"ProbeChoice", "force", "(IJ)Z"⟩
theorem yw_X_force : Yw y_X_force c_X_force 4 (some .boolean) 2 := ⟨gd_at 631 (by decide +kernel) (by decide +kernel), gd_at 1 (by decide +kernel) (by decide +kernel), by decide +kernel, by decide +kernel, by decide +kernel⟩
theorem yi_X_force : Cond.instanceMethod y_X_force ∈ lw_gd ∧ Cond.selects "ProbeChoice" y_X_force y_X_force ∈ lw_gd := ⟨gd_at 629 (by decide +kernel) (by decide +kernel), gd_at 630 (by decide +kernel) (by decide +kernel)⟩
abbrev c_B_hasPoint : ByteArray := prog_2_method_3_code
abbrev y_B_hasPoint : MethodName := ⟨"ProbeChoice$Board", "hasPoint", "(I)Z"⟩
theorem yw_B_hasPoint : Yw y_B_hasPoint c_B_hasPoint 2 (some .boolean) 1 := ⟨gd_at 635 (by decide +kernel) (by decide +kernel), gd_at 2 (by decide +kernel) (by decide +kernel), by decide +kernel, by decide +kernel, by decide +kernel⟩
theorem yi_B_hasPoint : Cond.instanceMethod y_B_hasPoint ∈ lw_gd ∧ Cond.selects "ProbeChoice$Board" y_B_hasPoint y_B_hasPoint ∈ lw_gd := ⟨gd_at 633 (by decide +kernel) (by decide +kernel), gd_at 634 (by decide +kernel) (by decide +kernel)⟩
abbrev c_B_setForce : ByteArray := prog_2_method_7_code
abbrev y_B_setForce : MethodName := ⟨"ProbeChoice$Board", "setForce", "(IJ)Z"⟩
theorem yw_B_setForce : Yw y_B_setForce c_B_setForce 5 (some .boolean) 2 := ⟨gd_at 641 (by decide +kernel) (by decide +kernel), gd_at 2 (by decide +kernel) (by decide +kernel), by decide +kernel, by decide +kernel, by decide +kernel⟩
theorem yi_B_setForce : Cond.instanceMethod y_B_setForce ∈ lw_gd ∧ Cond.selects "ProbeChoice$Board" y_B_setForce y_B_setForce ∈ lw_gd := ⟨gd_at 639 (by decide +kernel) (by decide +kernel), gd_at 640 (by decide +kernel) (by decide +kernel)⟩
abbrev c_X_text : ByteArray := prog_1_method_20_code
abbrev y_X_text : MethodName := ⟨"ProbeChoice", "text", "(I)I"⟩
theorem yw_X_text : Yw y_X_text c_X_text 2 (some .int) 1 := ⟨gd_at 648 (by decide +kernel) (by decide +kernel), gd_at 1 (by decide +kernel) (by decide +kernel), by decide +kernel, by decide +kernel, by decide +kernel⟩
theorem yi_X_text : Cond.instanceMethod y_X_text ∈ lw_gd ∧ Cond.selects "ProbeChoice" y_X_text y_X_text ∈ lw_gd := ⟨gd_at 646 (by decide +kernel) (by decide +kernel), gd_at 647 (by decide +kernel) (by decide +kernel)⟩
abbrev c_F_letterAt : ByteArray := prog_3_method_4_code
abbrev y_F_letterAt : MethodName := ⟨"ProbeChoice$Fixture", "letterAt", "(I)I"⟩
theorem yw_F_letterAt : Yw y_F_letterAt c_F_letterAt 2 (some .int) 1 := ⟨gd_at 653 (by decide +kernel) (by decide +kernel), gd_at 4 (by decide +kernel) (by decide +kernel), by decide +kernel, by decide +kernel, by decide +kernel⟩
theorem yi_F_letterAt : Cond.instanceMethod y_F_letterAt ∈ lw_gd ∧ Cond.selects "ProbeChoice$Fixture" y_F_letterAt y_F_letterAt ∈ lw_gd := ⟨gd_at 651 (by decide +kernel) (by decide +kernel), gd_at 652 (by decide +kernel) (by decide +kernel)⟩
abbrev c_M_init : ByteArray := prog_8_method_1_code
abbrev y_M_init : MethodName := ⟨"ProbeChoiceModel", "<init>", "()V"⟩
theorem yw_M_init : Yw y_M_init c_M_init 1 none 0 := ⟨gd_at 658 (by decide +kernel) (by decide +kernel), gd_at 7 (by decide +kernel) (by decide +kernel), by decide +kernel, by decide +kernel, by decide +kernel⟩
abbrev c_M_thrown : ByteArray := prog_8_method_2_code
abbrev y_M_thrown : MethodName := ⟨"ProbeChoiceModel", "thrown", "()I"⟩
theorem yw_M_thrown : Yw y_M_thrown c_M_thrown 1 (some .int) 0 := ⟨gd_at 742 (by decide +kernel) (by decide +kernel), gd_at 7 (by decide +kernel) (by decide +kernel), by decide +kernel, by decide +kernel, by decide +kernel⟩
theorem yi_M_thrown : Cond.instanceMethod y_M_thrown ∈ lw_gd ∧ Cond.selects "ProbeChoiceModel" y_M_thrown y_M_thrown ∈ lw_gd := ⟨gd_at 740 (by decide +kernel) (by decide +kernel), gd_at 741 (by decide +kernel) (by decide +kernel)⟩
abbrev c_M_net : ByteArray := prog_8_method_5_code
abbrev y_M_net : MethodName := ⟨"ProbeChoiceModel", "net", "(Z)I"⟩
theorem yw_M_net : Yw y_M_net c_M_net 2 (some .int) 1 := ⟨gd_at 746 (by decide +kernel) (by decide +kernel), gd_at 7 (by decide +kernel) (by decide +kernel), by decide +kernel, by decide +kernel, by decide +kernel⟩
theorem yi_M_net : Cond.instanceMethod y_M_net ∈ lw_gd ∧ Cond.selects "ProbeChoiceModel" y_M_net y_M_net ∈ lw_gd := ⟨gd_at 744 (by decide +kernel) (by decide +kernel), gd_at 745 (by decide +kernel) (by decide +kernel)⟩
abbrev c_M_point : ByteArray := prog_8_method_7_code
abbrev y_M_point : MethodName := ⟨"ProbeChoiceModel", "point", "(IJJJ)I"⟩
theorem yw_M_point : Yw y_M_point c_M_point 9 (some .int) 4 := ⟨gd_at 750 (by decide +kernel) (by decide +kernel), gd_at 7 (by decide +kernel) (by decide +kernel), by decide +kernel, by decide +kernel, by decide +kernel⟩
theorem yi_M_point : Cond.instanceMethod y_M_point ∈ lw_gd ∧ Cond.selects "ProbeChoiceModel" y_M_point y_M_point ∈ lw_gd := ⟨gd_at 748 (by decide +kernel) (by decide +kernel), gd_at 749 (by decide +kernel) (by decide +kernel)⟩
abbrev c_M_isPlace : ByteArray := prog_8_method_6_code
abbrev y_M_isPlace : MethodName := ⟨"ProbeChoiceModel", "isPlace", "(J)Z"⟩
theorem yw_M_isPlace : Yw y_M_isPlace c_M_isPlace 2 (some .boolean) 1 := ⟨gd_at 753 (by decide +kernel) (by decide +kernel), gd_at 7 (by decide +kernel) (by decide +kernel), by decide +kernel, by decide +kernel, by decide +kernel⟩
theorem yi_M_isPlace : Cond.static y_M_isPlace ∈ lw_gd := gd_at 752 (by decide +kernel) (by decide +kernel)
abbrev c_M_isNet : ByteArray := prog_8_method_3_code
abbrev y_M_isNet : MethodName := ⟨"ProbeChoiceModel", "isNet", "(I)Z"⟩
theorem yw_M_isNet : Yw y_M_isNet c_M_isNet 2 (some .boolean) 1 := ⟨gd_at 760 (by decide +kernel) (by decide +kernel), gd_at 7 (by decide +kernel) (by decide +kernel), by decide +kernel, by decide +kernel, by decide +kernel⟩
theorem yi_M_isNet : Cond.instanceMethod y_M_isNet ∈ lw_gd ∧ Cond.selects "ProbeChoiceModel" y_M_isNet y_M_isNet ∈ lw_gd := ⟨gd_at 759 (by decide +kernel) (by decide +kernel), gd_sel 18 (by decide +kernel) (by decide +kernel)⟩
abbrev c_M_gap : ByteArray := prog_8_method_8_code
abbrev y_M_gap : MethodName := ⟨"ProbeChoiceModel", "gap", "(J)Z"⟩
theorem yw_M_gap : Yw y_M_gap c_M_gap 3 (some .boolean) 1 := ⟨gd_at 764 (by decide +kernel) (by decide +kernel), gd_at 7 (by decide +kernel) (by decide +kernel), by decide +kernel, by decide +kernel, by decide +kernel⟩
theorem yi_M_gap : Cond.instanceMethod y_M_gap ∈ lw_gd ∧ Cond.selects "ProbeChoiceModel" y_M_gap y_M_gap ∈ lw_gd := ⟨gd_at 762 (by decide +kernel) (by decide +kernel), gd_at 763 (by decide +kernel) (by decide +kernel)⟩
abbrev c_M_force : ByteArray := prog_8_method_9_code
abbrev y_M_force : MethodName := ⟨"ProbeChoiceModel", "force", "(IJ)Z"⟩
theorem yw_M_force : Yw y_M_force c_M_force 4 (some .boolean) 2 := ⟨gd_at 768 (by decide +kernel) (by decide +kernel), gd_at 7 (by decide +kernel) (by decide +kernel), by decide +kernel, by decide +kernel, by decide +kernel⟩
theorem yi_M_force : Cond.instanceMethod y_M_force ∈ lw_gd ∧ Cond.selects "ProbeChoiceModel" y_M_force y_M_force ∈ lw_gd := ⟨gd_at 766 (by decide +kernel) (by decide +kernel), gd_at 767 (by decide +kernel) (by decide +kernel)⟩
abbrev c_M_isPoint : ByteArray := prog_8_method_4_code
abbrev y_M_isPoint : MethodName := ⟨"ProbeChoiceModel", "isPoint", "(I)Z"⟩
theorem yw_M_isPoint : Yw y_M_isPoint c_M_isPoint 2 (some .boolean) 1 := ⟨gd_at 772 (by decide +kernel) (by decide +kernel), gd_at 7 (by decide +kernel) (by decide +kernel), by decide +kernel, by decide +kernel, by decide +kernel⟩
theorem yi_M_isPoint : Cond.instanceMethod y_M_isPoint ∈ lw_gd ∧ Cond.selects "ProbeChoiceModel" y_M_isPoint y_M_isPoint ∈ lw_gd := ⟨gd_at 771 (by decide +kernel) (by decide +kernel), gd_sel 19 (by decide +kernel) (by decide +kernel)⟩
abbrev c_M_run : ByteArray := prog_8_method_15_code
abbrev y_M_run : MethodName := ⟨"ProbeChoiceModel", "run", "(J)I"⟩
theorem yw_M_run : Yw y_M_run c_M_run 5 (some .int) 1 := ⟨gd_at 776 (by decide +kernel) (by decide +kernel), gd_at 7 (by decide +kernel) (by decide +kernel), by decide +kernel, by decide +kernel, by decide +kernel⟩
theorem yi_M_run : Cond.instanceMethod y_M_run ∈ lw_gd ∧ Cond.selects "ProbeChoiceModel" y_M_run y_M_run ∈ lw_gd := ⟨gd_at 774 (by decide +kernel) (by decide +kernel), gd_at 775 (by decide +kernel) (by decide +kernel)⟩
abbrev c_M_choose : ByteArray := prog_8_method_14_code
abbrev y_M_choose : MethodName := ⟨"ProbeChoiceModel", "choose", "()V"⟩
theorem yw_M_choose : Yw y_M_choose c_M_choose 9 none 0 := ⟨gd_at 781 (by decide +kernel) (by decide +kernel), gd_at 7 (by decide +kernel) (by decide +kernel), by decide +kernel, by decide +kernel, by decide +kernel⟩
theorem yi_M_choose : Cond.instanceMethod y_M_choose ∈ lw_gd ∧ Cond.selects "ProbeChoiceModel" y_M_choose y_M_choose ∈ lw_gd := ⟨gd_at 780 (by decide +kernel) (by decide +kernel), gd_sel 20 (by decide +kernel) (by decide +kernel)⟩
abbrev c_M_isChoice : ByteArray := prog_8_method_12_code
abbrev y_M_isChoice : MethodName := ⟨"ProbeChoiceModel", "isChoice", "()Z"⟩
theorem yw_M_isChoice : Yw y_M_isChoice c_M_isChoice 3 (some .boolean) 0 := ⟨gd_at 785 (by decide +kernel) (by decide +kernel), gd_at 7 (by decide +kernel) (by decide +kernel), by decide +kernel, by decide +kernel, by decide +kernel⟩
theorem yi_M_isChoice : Cond.instanceMethod y_M_isChoice ∈ lw_gd ∧ Cond.selects "ProbeChoiceModel" y_M_isChoice y_M_isChoice ∈ lw_gd := ⟨gd_at 784 (by decide +kernel) (by decide +kernel), gd_sel 21 (by decide +kernel) (by decide +kernel)⟩
abbrev c_M_pointAt : ByteArray := prog_8_method_11_code
abbrev y_M_pointAt : MethodName := ⟨"ProbeChoiceModel", "pointAt", "(II)I"⟩
theorem yw_M_pointAt : Yw y_M_pointAt c_M_pointAt 3 (some .int) 2 := ⟨gd_at 789 (by decide +kernel) (by decide +kernel), gd_at 7 (by decide +kernel) (by decide +kernel), by decide +kernel, by decide +kernel, by decide +kernel⟩
theorem yi_M_pointAt : Cond.instanceMethod y_M_pointAt ∈ lw_gd ∧ Cond.selects "ProbeChoiceModel" y_M_pointAt y_M_pointAt ∈ lw_gd := ⟨gd_at 788 (by decide +kernel) (by decide +kernel), gd_sel 22 (by decide +kernel) (by decide +kernel)⟩
abbrev c_M_areApart : ByteArray := prog_8_method_10_code
abbrev y_M_areApart : MethodName := ⟨"ProbeChoiceModel", "areApart", "(II)Z"⟩
theorem yw_M_areApart : Yw y_M_areApart c_M_areApart 9 (some .boolean) 2 := ⟨gd_at 793 (by decide +kernel) (by decide +kernel), gd_at 7 (by decide +kernel) (by decide +kernel), by decide +kernel, by decide +kernel, by decide +kernel⟩
theorem yi_M_areApart : Cond.instanceMethod y_M_areApart ∈ lw_gd ∧ Cond.selects "ProbeChoiceModel" y_M_areApart y_M_areApart ∈ lw_gd := ⟨gd_at 792 (by decide +kernel) (by decide +kernel), gd_sel 23 (by decide +kernel) (by decide +kernel)⟩
abbrev c_M_goOn : ByteArray := prog_8_method_13_code
abbrev y_M_goOn : MethodName := ⟨"ProbeChoiceModel", "goOn", "()Z"⟩
theorem yw_M_goOn : Yw y_M_goOn c_M_goOn 2 (some .boolean) 0 := ⟨gd_at 797 (by decide +kernel) (by decide +kernel), gd_at 7 (by decide +kernel) (by decide +kernel), by decide +kernel, by decide +kernel, by decide +kernel⟩
theorem yi_M_goOn : Cond.instanceMethod y_M_goOn ∈ lw_gd ∧ Cond.selects "ProbeChoiceModel" y_M_goOn y_M_goOn ∈ lw_gd := ⟨gd_at 796 (by decide +kernel) (by decide +kernel), gd_sel 24 (by decide +kernel) (by decide +kernel)⟩
abbrev c_M_probe : ByteArray := prog_8_method_16_code
abbrev y_M_probe : MethodName := ⟨"ProbeChoiceModel", "probe", "(I)I"⟩
theorem yw_M_probe : Yw y_M_probe c_M_probe 2 (some .int) 1 := ⟨gd_at 801 (by decide +kernel) (by decide +kernel), gd_at 7 (by decide +kernel) (by decide +kernel), by decide +kernel, by decide +kernel, by decide +kernel⟩
theorem yi_M_probe : Cond.instanceMethod y_M_probe ∈ lw_gd ∧ Cond.selects "ProbeChoiceModel" y_M_probe y_M_probe ∈ lw_gd := ⟨gd_at 799 (by decide +kernel) (by decide +kernel), gd_at 800 (by decide +kernel) (by decide +kernel)⟩
abbrev c_M_proved : ByteArray := prog_8_method_17_code
abbrev y_M_proved : MethodName := ⟨"ProbeChoiceModel", "proved", "()Z"⟩
theorem yw_M_proved : Yw y_M_proved c_M_proved 1 (some .boolean) 0 := ⟨gd_at 805 (by decide +kernel) (by decide +kernel), gd_at 7 (by decide +kernel) (by decide +kernel), by decide +kernel, by decide +kernel, by decide +kernel⟩
theorem yi_M_proved : Cond.instanceMethod y_M_proved ∈ lw_gd ∧ Cond.selects "ProbeChoiceModel" y_M_proved y_M_proved ∈ lw_gd := ⟨gd_at 803 (by decide +kernel) (by decide +kernel), gd_at 804 (by decide +kernel) (by decide +kernel)⟩
abbrev c_M_out : ByteArray := prog_8_method_18_code
abbrev y_M_out : MethodName := ⟨"ProbeChoiceModel", "out", "(I)I"⟩
theorem yw_M_out : Yw y_M_out c_M_out 4 (some .int) 1 := ⟨gd_at 809 (by decide +kernel) (by decide +kernel), gd_at 7 (by decide +kernel) (by decide +kernel), by decide +kernel, by decide +kernel, by decide +kernel⟩
theorem yi_M_out : Cond.instanceMethod y_M_out ∈ lw_gd ∧ Cond.selects "ProbeChoiceModel" y_M_out y_M_out ∈ lw_gd := ⟨gd_at 807 (by decide +kernel) (by decide +kernel), gd_at 808 (by decide +kernel) (by decide +kernel)⟩
abbrev c_M_forces : ByteArray := prog_8_method_19_code
abbrev y_M_forces : MethodName := ⟨"ProbeChoiceModel", "forces", "()J"⟩
theorem yw_M_forces : Yw y_M_forces c_M_forces 4 (some .long) 0 := ⟨gd_at 813 (by decide +kernel) (by decide +kernel), gd_at 7 (by decide +kernel) (by decide +kernel), by decide +kernel, by decide +kernel, by decide +kernel⟩
theorem yi_M_forces : Cond.instanceMethod y_M_forces ∈ lw_gd ∧ Cond.selects "ProbeChoiceModel" y_M_forces y_M_forces ∈ lw_gd := ⟨gd_at 811 (by decide +kernel) (by decide +kernel), gd_at 812 (by decide +kernel) (by decide +kernel)⟩
abbrev c_M_part : ByteArray := prog_8_method_20_code
abbrev y_M_part : MethodName := ⟨"ProbeChoiceModel", "part", "(IIJJ)Z"⟩
theorem yw_M_part : Yw y_M_part c_M_part 9 (some .boolean) 4 := ⟨gd_at 817 (by decide +kernel) (by decide +kernel), gd_at 7 (by decide +kernel) (by decide +kernel), by decide +kernel, by decide +kernel, by decide +kernel⟩
theorem yi_M_part : Cond.instanceMethod y_M_part ∈ lw_gd ∧ Cond.selects "ProbeChoiceModel" y_M_part y_M_part ∈ lw_gd := ⟨gd_at 815 (by decide +kernel) (by decide +kernel), gd_at 816 (by decide +kernel) (by decide +kernel)⟩
abbrev c_M_pairOf : ByteArray := prog_8_method_21_code
abbrev y_M_pairOf : MethodName := ⟨"ProbeChoiceModel", "pairOf", "(II)I"⟩
theorem yw_M_pairOf : Yw y_M_pairOf c_M_pairOf 2 (some .int) 2 := ⟨gd_at 821 (by decide +kernel) (by decide +kernel), gd_at 7 (by decide +kernel) (by decide +kernel), by decide +kernel, by decide +kernel, by decide +kernel⟩
theorem yi_M_pairOf : Cond.static y_M_pairOf ∈ lw_gd := gd_at 820 (by decide +kernel) (by decide +kernel)
abbrev c_M_span : ByteArray := prog_8_method_22_code
abbrev y_M_span : MethodName := ⟨"ProbeChoiceModel", "span", "(IIII)J"⟩
theorem yw_M_span : Yw y_M_span c_M_span 17 (some .long) 4 := ⟨gd_at 825 (by decide +kernel) (by decide +kernel), gd_at 7 (by decide +kernel) (by decide +kernel), by decide +kernel, by decide +kernel, by decide +kernel⟩
theorem yi_M_span : Cond.instanceMethod y_M_span ∈ lw_gd ∧ Cond.selects "ProbeChoiceModel" y_M_span y_M_span ∈ lw_gd := ⟨gd_at 823 (by decide +kernel) (by decide +kernel), gd_at 824 (by decide +kernel) (by decide +kernel)⟩
abbrev c_M_guard : ByteArray := prog_8_method_24_code
abbrev y_M_guard : MethodName := ⟨"ProbeChoiceModel", "guard", "(III)I"⟩
theorem yw_M_guard : Yw y_M_guard c_M_guard 6 (some .int) 3 := ⟨gd_at 829 (by decide +kernel) (by decide +kernel), gd_at 7 (by decide +kernel) (by decide +kernel), by decide +kernel, by decide +kernel, by decide +kernel⟩
theorem yi_M_guard : Cond.instanceMethod y_M_guard ∈ lw_gd ∧ Cond.selects "ProbeChoiceModel" y_M_guard y_M_guard ∈ lw_gd := ⟨gd_at 827 (by decide +kernel) (by decide +kernel), gd_at 828 (by decide +kernel) (by decide +kernel)⟩
abbrev c_M_haveParts : ByteArray := prog_8_method_23_code
abbrev y_M_haveParts : MethodName := ⟨"ProbeChoiceModel", "haveParts", "(II)Z"⟩
theorem yw_M_haveParts : Yw y_M_haveParts c_M_haveParts 3 (some .boolean) 2 := ⟨gd_at 833 (by decide +kernel) (by decide +kernel), gd_at 7 (by decide +kernel) (by decide +kernel), by decide +kernel, by decide +kernel, by decide +kernel⟩
theorem yi_M_haveParts : Cond.instanceMethod y_M_haveParts ∈ lw_gd ∧ Cond.selects "ProbeChoiceModel" y_M_haveParts y_M_haveParts ∈ lw_gd := ⟨gd_at 832 (by decide +kernel) (by decide +kernel), gd_sel 25 (by decide +kernel) (by decide +kernel)⟩
abbrev c_M_fail : ByteArray := prog_8_method_25_code
abbrev y_M_fail : MethodName := ⟨"ProbeChoiceModel", "fail", "(I)Z"⟩
theorem yw_M_fail : Yw y_M_fail c_M_fail 4 (some .boolean) 1 := ⟨gd_at 837 (by decide +kernel) (by decide +kernel), gd_at 7 (by decide +kernel) (by decide +kernel), by decide +kernel, by decide +kernel, by decide +kernel⟩
theorem yi_M_fail : Cond.instanceMethod y_M_fail ∈ lw_gd ∧ Cond.selects "ProbeChoiceModel" y_M_fail y_M_fail ∈ lw_gd := ⟨gd_at 835 (by decide +kernel) (by decide +kernel), gd_at 836 (by decide +kernel) (by decide +kernel)⟩
abbrev c_M_suspects : ByteArray := prog_8_method_30_code
abbrev y_M_suspects : MethodName := ⟨"ProbeChoiceModel", "suspects", "()I"⟩
theorem yw_M_suspects : Yw y_M_suspects c_M_suspects 1 (some .int) 0 := ⟨gd_at 841 (by decide +kernel) (by decide +kernel), gd_at 7 (by decide +kernel) (by decide +kernel), by decide +kernel, by decide +kernel, by decide +kernel⟩
theorem yi_M_suspects : Cond.instanceMethod y_M_suspects ∈ lw_gd ∧ Cond.selects "ProbeChoiceModel" y_M_suspects y_M_suspects ∈ lw_gd := ⟨gd_at 839 (by decide +kernel) (by decide +kernel), gd_at 840 (by decide +kernel) (by decide +kernel)⟩
abbrev c_M_suspectSet : ByteArray := prog_8_method_29_code
abbrev y_M_suspectSet : MethodName := ⟨"ProbeChoiceModel", "suspectSet", "()I"⟩
theorem yw_M_suspectSet : Yw y_M_suspectSet c_M_suspectSet 5 (some .int) 0 := ⟨gd_at 845 (by decide +kernel) (by decide +kernel), gd_at 7 (by decide +kernel) (by decide +kernel), by decide +kernel, by decide +kernel, by decide +kernel⟩
theorem yi_M_suspectSet : Cond.instanceMethod y_M_suspectSet ∈ lw_gd ∧ Cond.selects "ProbeChoiceModel" y_M_suspectSet y_M_suspectSet ∈ lw_gd := ⟨gd_at 844 (by decide +kernel) (by decide +kernel), gd_sel 26 (by decide +kernel) (by decide +kernel)⟩
abbrev c_M_explains : ByteArray := prog_8_method_27_code
abbrev y_M_explains : MethodName := ⟨"ProbeChoiceModel", "explains", "(I)Z"⟩
theorem yw_M_explains : Yw y_M_explains c_M_explains 3 (some .boolean) 1 := ⟨gd_at 849 (by decide +kernel) (by decide +kernel), gd_at 7 (by decide +kernel) (by decide +kernel), by decide +kernel, by decide +kernel, by decide +kernel⟩
theorem yi_M_explains : Cond.instanceMethod y_M_explains ∈ lw_gd ∧ Cond.selects "ProbeChoiceModel" y_M_explains y_M_explains ∈ lw_gd := ⟨gd_at 848 (by decide +kernel) (by decide +kernel), gd_sel 27 (by decide +kernel) (by decide +kernel)⟩
abbrev c_M_bits : ByteArray := prog_8_method_26_code
abbrev y_M_bits : MethodName := ⟨"ProbeChoiceModel", "bits", "(I)I"⟩
theorem yw_M_bits : Yw y_M_bits c_M_bits 3 (some .int) 1 := ⟨gd_at 852 (by decide +kernel) (by decide +kernel), gd_at 7 (by decide +kernel) (by decide +kernel), by decide +kernel, by decide +kernel, by decide +kernel⟩
theorem yi_M_bits : Cond.static y_M_bits ∈ lw_gd := gd_at 851 (by decide +kernel) (by decide +kernel)
abbrev c_M_comesFirst : ByteArray := prog_8_method_28_code
abbrev y_M_comesFirst : MethodName := ⟨"ProbeChoiceModel", "comesFirst", "(II)Z"⟩
theorem yw_M_comesFirst : Yw y_M_comesFirst c_M_comesFirst 4 (some .boolean) 2 := ⟨gd_at 855 (by decide +kernel) (by decide +kernel), gd_at 7 (by decide +kernel) (by decide +kernel), by decide +kernel, by decide +kernel, by decide +kernel⟩
theorem yi_M_comesFirst : Cond.static y_M_comesFirst ∈ lw_gd := gd_at 854 (by decide +kernel) (by decide +kernel)
abbrev c_M_suspect : ByteArray := prog_8_method_31_code
abbrev y_M_suspect : MethodName := ⟨"ProbeChoiceModel", "suspect", "(II)I"⟩
theorem yw_M_suspect : Yw y_M_suspect c_M_suspect 6 (some .int) 2 := ⟨gd_at 859 (by decide +kernel) (by decide +kernel), gd_at 7 (by decide +kernel) (by decide +kernel), by decide +kernel, by decide +kernel, by decide +kernel⟩
theorem yi_M_suspect : Cond.instanceMethod y_M_suspect ∈ lw_gd ∧ Cond.selects "ProbeChoiceModel" y_M_suspect y_M_suspect ∈ lw_gd := ⟨gd_at 857 (by decide +kernel) (by decide +kernel), gd_at 858 (by decide +kernel) (by decide +kernel)⟩
abbrev c_M_faults : ByteArray := prog_8_method_32_code
abbrev y_M_faults : MethodName := ⟨"ProbeChoiceModel", "faults", "(I)I"⟩
theorem yw_M_faults : Yw y_M_faults c_M_faults 2 (some .int) 1 := ⟨gd_at 863 (by decide +kernel) (by decide +kernel), gd_at 7 (by decide +kernel) (by decide +kernel), by decide +kernel, by decide +kernel, by decide +kernel⟩
theorem yi_M_faults : Cond.instanceMethod y_M_faults ∈ lw_gd ∧ Cond.selects "ProbeChoiceModel" y_M_faults y_M_faults ∈ lw_gd := ⟨gd_at 861 (by decide +kernel) (by decide +kernel), gd_at 862 (by decide +kernel) (by decide +kernel)⟩
abbrev c_M_fly : ByteArray := prog_8_method_36_code
abbrev y_M_fly : MethodName := ⟨"ProbeChoiceModel", "fly", "(I)I"⟩
theorem yw_M_fly : Yw y_M_fly c_M_fly 2 (some .int) 1 := ⟨gd_at 867 (by decide +kernel) (by decide +kernel), gd_at 7 (by decide +kernel) (by decide +kernel), by decide +kernel, by decide +kernel, by decide +kernel⟩
theorem yi_M_fly : Cond.instanceMethod y_M_fly ∈ lw_gd ∧ Cond.selects "ProbeChoiceModel" y_M_fly y_M_fly ∈ lw_gd := ⟨gd_at 865 (by decide +kernel) (by decide +kernel), gd_at 866 (by decide +kernel) (by decide +kernel)⟩
abbrev c_M_flyTo : ByteArray := prog_8_method_35_code
abbrev y_M_flyTo : MethodName := ⟨"ProbeChoiceModel", "flyTo", "(I)I"⟩
theorem yw_M_flyTo : Yw y_M_flyTo c_M_flyTo 12 (some .int) 1 := ⟨gd_at 871 (by decide +kernel) (by decide +kernel), gd_at 7 (by decide +kernel) (by decide +kernel), by decide +kernel, by decide +kernel, by decide +kernel⟩
theorem yi_M_flyTo : Cond.instanceMethod y_M_flyTo ∈ lw_gd ∧ Cond.selects "ProbeChoiceModel" y_M_flyTo y_M_flyTo ∈ lw_gd := ⟨gd_at 870 (by decide +kernel) (by decide +kernel), gd_sel 28 (by decide +kernel) (by decide +kernel)⟩
abbrev c_M_nearest : ByteArray := prog_8_method_34_code
abbrev y_M_nearest : MethodName := ⟨"ProbeChoiceModel", "nearest", "(JJ)I"⟩
theorem yw_M_nearest : Yw y_M_nearest c_M_nearest 12 (some .int) 2 := ⟨gd_at 875 (by decide +kernel) (by decide +kernel), gd_at 7 (by decide +kernel) (by decide +kernel), by decide +kernel, by decide +kernel, by decide +kernel⟩
theorem yi_M_nearest : Cond.instanceMethod y_M_nearest ∈ lw_gd ∧ Cond.selects "ProbeChoiceModel" y_M_nearest y_M_nearest ∈ lw_gd := ⟨gd_at 874 (by decide +kernel) (by decide +kernel), gd_sel 29 (by decide +kernel) (by decide +kernel)⟩
abbrev c_M_size : ByteArray := prog_8_method_33_code
abbrev y_M_size : MethodName := ⟨"ProbeChoiceModel", "size", "(J)J"⟩
theorem yw_M_size : Yw y_M_size c_M_size 2 (some .long) 1 := ⟨gd_at 878 (by decide +kernel) (by decide +kernel), gd_at 7 (by decide +kernel) (by decide +kernel), by decide +kernel, by decide +kernel, by decide +kernel⟩
theorem yi_M_size : Cond.static y_M_size ∈ lw_gd := gd_at 877 (by decide +kernel) (by decide +kernel)
abbrev c_M_seconds : ByteArray := prog_8_method_37_code
abbrev y_M_seconds : MethodName := ⟨"ProbeChoiceModel", "seconds", "()J"⟩
theorem yw_M_seconds : Yw y_M_seconds c_M_seconds 1 (some .long) 0 := ⟨gd_at 882 (by decide +kernel) (by decide +kernel), gd_at 7 (by decide +kernel) (by decide +kernel), by decide +kernel, by decide +kernel, by decide +kernel⟩
theorem yi_M_seconds : Cond.instanceMethod y_M_seconds ∈ lw_gd ∧ Cond.selects "ProbeChoiceModel" y_M_seconds y_M_seconds ∈ lw_gd := ⟨gd_at 880 (by decide +kernel) (by decide +kernel), gd_at 881 (by decide +kernel) (by decide +kernel)⟩
abbrev c_M_order : ByteArray := prog_8_method_40_code
abbrev y_M_order : MethodName := ⟨"ProbeChoiceModel", "order", "(I)I"⟩
theorem yw_M_order : Yw y_M_order c_M_order 2 (some .int) 1 := ⟨gd_at 886 (by decide +kernel) (by decide +kernel), gd_at 7 (by decide +kernel) (by decide +kernel), by decide +kernel, by decide +kernel, by decide +kernel⟩
theorem yi_M_order : Cond.instanceMethod y_M_order ∈ lw_gd ∧ Cond.selects "ProbeChoiceModel" y_M_order y_M_order ∈ lw_gd := ⟨gd_at 884 (by decide +kernel) (by decide +kernel), gd_at 885 (by decide +kernel) (by decide +kernel)⟩
abbrev c_M_placed : ByteArray := prog_8_method_39_code
abbrev y_M_placed : MethodName := ⟨"ProbeChoiceModel", "placed", "(I)I"⟩
theorem yw_M_placed : Yw y_M_placed c_M_placed 5 (some .int) 1 := ⟨gd_at 890 (by decide +kernel) (by decide +kernel), gd_at 7 (by decide +kernel) (by decide +kernel), by decide +kernel, by decide +kernel, by decide +kernel⟩
theorem yi_M_placed : Cond.instanceMethod y_M_placed ∈ lw_gd ∧ Cond.selects "ProbeChoiceModel" y_M_placed y_M_placed ∈ lw_gd := ⟨gd_at 889 (by decide +kernel) (by decide +kernel), gd_sel 30 (by decide +kernel) (by decide +kernel)⟩
abbrev c_M_isAhead : ByteArray := prog_8_method_38_code
abbrev y_M_isAhead : MethodName := ⟨"ProbeChoiceModel", "isAhead", "(II)Z"⟩
theorem yw_M_isAhead : Yw y_M_isAhead c_M_isAhead 3 (some .boolean) 2 := ⟨gd_at 894 (by decide +kernel) (by decide +kernel), gd_at 7 (by decide +kernel) (by decide +kernel), by decide +kernel, by decide +kernel, by decide +kernel⟩
theorem yi_M_isAhead : Cond.instanceMethod y_M_isAhead ∈ lw_gd ∧ Cond.selects "ProbeChoiceModel" y_M_isAhead y_M_isAhead ∈ lw_gd := ⟨gd_at 893 (by decide +kernel) (by decide +kernel), gd_sel 31 (by decide +kernel) (by decide +kernel)⟩
abbrev c_M_text : ByteArray := prog_8_method_43_code
abbrev y_M_text : MethodName := ⟨"ProbeChoiceModel", "text", "(I)I"⟩
theorem yw_M_text : Yw y_M_text c_M_text 4 (some .int) 1 := ⟨gd_at 898 (by decide +kernel) (by decide +kernel), gd_at 7 (by decide +kernel) (by decide +kernel), by decide +kernel, by decide +kernel, by decide +kernel⟩
theorem yi_M_text : Cond.instanceMethod y_M_text ∈ lw_gd ∧ Cond.selects "ProbeChoiceModel" y_M_text y_M_text ∈ lw_gd := ⟨gd_at 896 (by decide +kernel) (by decide +kernel), gd_at 897 (by decide +kernel) (by decide +kernel)⟩
abbrev c_M_say : ByteArray := prog_8_method_41_code
abbrev y_M_say : MethodName := ⟨"ProbeChoiceModel", "say", "(I)V"⟩
theorem yw_M_say : Yw y_M_say c_M_say 2 none 1 := ⟨gd_at 902 (by decide +kernel) (by decide +kernel), gd_at 7 (by decide +kernel) (by decide +kernel), by decide +kernel, by decide +kernel, by decide +kernel⟩
theorem yi_M_say : Cond.instanceMethod y_M_say ∈ lw_gd ∧ Cond.selects "ProbeChoiceModel" y_M_say y_M_say ∈ lw_gd := ⟨gd_at 901 (by decide +kernel) (by decide +kernel), gd_sel 32 (by decide +kernel) (by decide +kernel)⟩
abbrev c_M_sayNumber : ByteArray := prog_8_method_42_code
abbrev y_M_sayNumber : MethodName := ⟨"ProbeChoiceModel", "sayNumber", "(J)V"⟩
theorem yw_M_sayNumber : Yw y_M_sayNumber c_M_sayNumber 7 none 1 := ⟨gd_at 906 (by decide +kernel) (by decide +kernel), gd_at 7 (by decide +kernel) (by decide +kernel), by decide +kernel, by decide +kernel, by decide +kernel⟩
theorem yi_M_sayNumber : Cond.instanceMethod y_M_sayNumber ∈ lw_gd ∧ Cond.selects "ProbeChoiceModel" y_M_sayNumber y_M_sayNumber ∈ lw_gd := ⟨gd_at 905 (by decide +kernel) (by decide +kernel), gd_sel 33 (by decide +kernel) (by decide +kernel)⟩
theorem lk_X_11 : Cond.methodLinkNest "ProbeChoice" 11 ⟨"ProbeChoice$Board", "<init>", "()V"⟩ "ProbeChoice" ∈ lw_gd := gd_at 28 (by decide +kernel) (by decide +kernel)
theorem lk_X_18 : Cond.methodLinkNest "ProbeChoice" 18 ⟨"ProbeChoice$Search", "<init>", "()V"⟩ "ProbeChoice" ∈ lw_gd := gd_at 76 (by decide +kernel) (by decide +kernel)
theorem lk_X_25 : Cond.methodLinkNest "ProbeChoice" 25 ⟨"ProbeChoice$Fixture", "<init>", "()V"⟩ "ProbeChoice" ∈ lw_gd := gd_at 113 (by decide +kernel) (by decide +kernel)
theorem lk_X_32 : Cond.methodLinkNest "ProbeChoice" 32 ⟨"ProbeChoice$Parts", "<init>", "()V"⟩ "ProbeChoice" ∈ lw_gd := gd_at 159 (by decide +kernel) (by decide +kernel)
theorem lk_X_39 : Cond.methodLinkNest "ProbeChoice" 39 ⟨"ProbeChoice$Rows", "<init>", "()V"⟩ "ProbeChoice" ∈ lw_gd := gd_at 180 (by decide +kernel) (by decide +kernel)
theorem lk_X_44 : Cond.methodLink "ProbeChoice" 44 ⟨"ProbeChoice$Board", "addNet", "(Z)I"⟩ ∈ lw_gd := gd_at 217 (by decide +kernel) (by decide +kernel)
theorem lk_X_48 : Cond.methodLink "ProbeChoice" 48 ⟨"ProbeChoice", "needNet", "(I)V"⟩ ∈ lw_gd := gd_at 286 (by decide +kernel) (by decide +kernel)
theorem lk_X_56 : Cond.methodLink "ProbeChoice" 56 ⟨"ProbeChoice", "isWithin", "(JJJ)Z"⟩ ∈ lw_gd := gd_at 364 (by decide +kernel) (by decide +kernel)
theorem lk_X_71 : Cond.methodLink "ProbeChoice" 71 ⟨"ProbeChoice$Board", "addPoint", "(IJJJ)I"⟩ ∈ lw_gd := gd_at 385 (by decide +kernel) (by decide +kernel)
theorem lk_X_77 : Cond.methodLink "ProbeChoice" 77 ⟨"ProbeChoice$Board", "setGap", "(J)Z"⟩ ∈ lw_gd := gd_at 397 (by decide +kernel) (by decide +kernel)
theorem lk_X_85 : Cond.methodLink "ProbeChoice" 85 ⟨"ProbeChoice$Search", "choose", "(LProbeChoice$Board;I)V"⟩ ∈ lw_gd := gd_at 410 (by decide +kernel) (by decide +kernel)
theorem lk_X_89 : Cond.methodLink "ProbeChoice" 89 ⟨"ProbeChoice$Fixture", "build", "(LProbeChoice$Board;LProbeChoice$Search;)V"⟩ ∈ lw_gd := gd_at 465 (by decide +kernel) (by decide +kernel)
theorem lk_X_101 : Cond.methodLink "ProbeChoice" 101 ⟨"ProbeChoice", "nth", "([III)I"⟩ ∈ lw_gd := gd_at 225 (by decide +kernel) (by decide +kernel)
theorem lk_X_119 : Cond.methodLink "ProbeChoice" 119 ⟨"ProbeChoice$Parts", "add", "(IIJJ)Z"⟩ ∈ lw_gd := gd_at 524 (by decide +kernel) (by decide +kernel)
theorem lk_X_128 : Cond.methodLink "ProbeChoice" 128 ⟨"ProbeChoice$Parts", "areBetween", "(II)Z"⟩ ∈ lw_gd := gd_at 550 (by decide +kernel) (by decide +kernel)
theorem lk_X_137 : Cond.methodLink "ProbeChoice" 137 ⟨"ProbeChoice$Parts", "termOfSpan", "(IIII)J"⟩ ∈ lw_gd := gd_at 571 (by decide +kernel) (by decide +kernel)
theorem lk_X_141 : Cond.methodLink "ProbeChoice" 141 ⟨"ProbeChoice$Parts", "joinedToBoth", "(II)I"⟩ ∈ lw_gd := gd_at 586 (by decide +kernel) (by decide +kernel)
theorem lk_X_145 : Cond.methodLink "ProbeChoice" 145 ⟨"ProbeChoice", "nthBit", "(II)I"⟩ ∈ lw_gd := gd_at 590 (by decide +kernel) (by decide +kernel)
theorem lk_X_150 : Cond.methodLink "ProbeChoice" 150 ⟨"ProbeChoice$Rows", "add", "(II)Z"⟩ ∈ lw_gd := gd_at 602 (by decide +kernel) (by decide +kernel)
theorem lk_X_152 : Cond.methodLink "ProbeChoice" 152 ⟨"ProbeChoice$Rows", "smallestCover", "()I"⟩ ∈ lw_gd := gd_at 240 (by decide +kernel) (by decide +kernel)
theorem lk_X_156 : Cond.methodLink "ProbeChoice" 156 ⟨"java/lang/Integer", "bitCount", "(I)I"⟩ ∈ lw_gd := gd_at 256 (by decide +kernel) (by decide +kernel)
theorem lk_X_164 : Cond.methodLink "ProbeChoice" 164 ⟨"ProbeChoice$Rows", "countOf", "(I)I"⟩ ∈ lw_gd := gd_at 614 (by decide +kernel) (by decide +kernel)
theorem lk_X_174 : Cond.methodLink "ProbeChoice" 174 ⟨"ProbeChoice$Board", "hasPoint", "(I)Z"⟩ ∈ lw_gd := gd_at 632 (by decide +kernel) (by decide +kernel)
theorem lk_X_182 : Cond.methodLink "ProbeChoice" 182 ⟨"ProbeChoice$Board", "setForce", "(IJ)Z"⟩ ∈ lw_gd := gd_at 638 (by decide +kernel) (by decide +kernel)
theorem lk_X_186 : Cond.methodLink "ProbeChoice" 186 ⟨"ProbeChoice$Fixture", "sumOfForces", "(LProbeChoice$Board;)J"⟩ ∈ lw_gd := gd_at 269 (by decide +kernel) (by decide +kernel)
theorem lk_X_192 : Cond.methodLink "ProbeChoice" 192 ⟨"ProbeChoice$Fixture", "letterAt", "(I)I"⟩ ∈ lw_gd := gd_at 650 (by decide +kernel) (by decide +kernel)
theorem lk_X_198 : Cond.methodLink "ProbeChoice" 198 ⟨"ProbeChoice$Board", "hasNet", "(I)Z"⟩ ∈ lw_gd := gd_at 290 (by decide +kernel) (by decide +kernel)
theorem lk_X_203 : Cond.methodLink "ProbeChoice" 203 ⟨"ProbeChoice", "hasBit", "(II)Z"⟩ ∈ lw_gd := gd_at 593 (by decide +kernel) (by decide +kernel)
theorem lk_B_46 : Cond.methodLink "ProbeChoice$Board" 46 ⟨"ProbeChoice$Board", "squareOfWay", "(IJJ)J"⟩ ∈ lw_gd := gd_at 438 (by decide +kernel) (by decide +kernel)
theorem lk_F_34 : Cond.methodLink "ProbeChoice$Fixture" 34 ⟨"ProbeChoice$Board", "countOfMust", "()I"⟩ ∈ lw_gd := gd_at 469 (by decide +kernel) (by decide +kernel)
theorem lk_F_44 : Cond.methodLink "ProbeChoice$Fixture" 44 ⟨"ProbeChoice$Fixture", "takeProbes", "(LProbeChoice$Search;)V"⟩ ∈ lw_gd := gd_at 473 (by decide +kernel) (by decide +kernel)
theorem lk_F_48 : Cond.methodLink "ProbeChoice$Fixture" 48 ⟨"ProbeChoice$Fixture", "planFlight", "(LProbeChoice$Board;)V"⟩ ∈ lw_gd := gd_at 477 (by decide +kernel) (by decide +kernel)
theorem lk_F_52 : Cond.methodLink "ProbeChoice$Fixture" 52 ⟨"ProbeChoice$Fixture", "sortByPlace", "(LProbeChoice$Board;)V"⟩ ∈ lw_gd := gd_at 493 (by decide +kernel) (by decide +kernel)
theorem lk_F_55 : Cond.methodLink "ProbeChoice$Fixture" 55 ⟨"ProbeChoice$Fixture", "writeText", "(LProbeChoice$Board;)V"⟩ ∈ lw_gd := gd_at 501 (by decide +kernel) (by decide +kernel)
theorem lk_F_87 : Cond.methodLink "ProbeChoice$Fixture" 87 ⟨"ProbeChoice$Fixture", "placeOfNearest", "(LProbeChoice$Board;IJJ)I"⟩ ∈ lw_gd := gd_at 482 (by decide +kernel) (by decide +kernel)
theorem lk_F_94 : Cond.methodLink "ProbeChoice$Fixture" 94 ⟨"java/lang/Math", "abs", "(J)J"⟩ ∈ lw_gd := gd_at 487 (by decide +kernel) (by decide +kernel)
theorem lk_F_103 : Cond.methodLink "ProbeChoice$Fixture" 103 ⟨"java/lang/Math", "max", "(JJ)J"⟩ ∈ lw_gd := gd_at 490 (by decide +kernel) (by decide +kernel)
theorem lk_F_107 : Cond.methodLink "ProbeChoice$Fixture" 107 ⟨"ProbeChoice$Board", "squareOfWay", "(IJJ)J"⟩ ∈ lw_gd := gd_at 486 (by decide +kernel) (by decide +kernel)
theorem lk_F_111 : Cond.methodLink "ProbeChoice$Fixture" 111 ⟨"ProbeChoice$Board", "isBeforeByPlace", "(II)Z"⟩ ∈ lw_gd := gd_at 497 (by decide +kernel) (by decide +kernel)
theorem lk_F_115 : Cond.methodLink "ProbeChoice$Fixture" 115 ⟨"ProbeChoice$Fixture", "writeLetter", "(C)V"⟩ ∈ lw_gd := gd_at 505 (by decide +kernel) (by decide +kernel)
theorem lk_F_119 : Cond.methodLink "ProbeChoice$Fixture" 119 ⟨"ProbeChoice$Fixture", "writeNumber", "(J)V"⟩ ∈ lw_gd := gd_at 509 (by decide +kernel) (by decide +kernel)
theorem lk_P_26 : Cond.methodLink "ProbeChoice$Parts" 26 ⟨"ProbeChoice$Parts", "pairOf", "(II)I"⟩ ∈ lw_gd := gd_at 528 (by decide +kernel) (by decide +kernel)
theorem lk_P_30 : Cond.methodLink "ProbeChoice$Parts" 30 ⟨"ProbeChoice$Parts", "addInverse", "(IIJ)V"⟩ ∈ lw_gd := gd_at 537 (by decide +kernel) (by decide +kernel)
theorem lk_P_34 : Cond.methodLinkNest "ProbeChoice$Parts" 34 ⟨"ProbeChoice", "hasBit", "(II)Z"⟩ "ProbeChoice" ∈ lw_gd := gd_at 554 (by decide +kernel) (by decide +kernel)
theorem lk_P_38 : Cond.methodLink "ProbeChoice$Parts" 38 ⟨"ProbeChoice$Parts", "commonDivisor", "(JJ)J"⟩ ∈ lw_gd := gd_at 575 (by decide +kernel) (by decide +kernel)
theorem lk_P_42 : Cond.methodLink "ProbeChoice$Parts" 42 ⟨"java/lang/Math", "max", "(JJ)J"⟩ ∈ lw_gd := gd_at 578 (by decide +kernel) (by decide +kernel)
theorem lk_P_47 : Cond.methodLink "ProbeChoice$Parts" 47 ⟨"java/lang/Math", "min", "(II)I"⟩ ∈ lw_gd := gd_at 531 (by decide +kernel) (by decide +kernel)
theorem lk_P_50 : Cond.methodLink "ProbeChoice$Parts" 50 ⟨"java/lang/Math", "max", "(II)I"⟩ ∈ lw_gd := gd_at 534 (by decide +kernel) (by decide +kernel)
theorem lk_R_15 : Cond.methodLinkNest "ProbeChoice$Rows" 15 ⟨"ProbeChoice", "hasBit", "(II)Z"⟩ "ProbeChoice" ∈ lw_gd := gd_at 253 (by decide +kernel) (by decide +kernel)
theorem lk_R_23 : Cond.methodLink "ProbeChoice$Rows" 23 ⟨"java/lang/Integer", "bitCount", "(I)I"⟩ ∈ lw_gd := gd_at 247 (by decide +kernel) (by decide +kernel)
theorem lk_R_33 : Cond.methodLink "ProbeChoice$Rows" 33 ⟨"ProbeChoice$Rows", "explain", "(LProbeChoice$Rows;II)V"⟩ ∈ lw_gd := gd_at 244 (by decide +kernel) (by decide +kernel)
theorem lk_S_34 : Cond.methodLink "ProbeChoice$Search" 34 ⟨"ProbeChoice$Search", "lookAtNets", "(LProbeChoice$Board;I)V"⟩ ∈ lw_gd := gd_at 414 (by decide +kernel) (by decide +kernel)
theorem lk_S_38 : Cond.methodLink "ProbeChoice$Search" 38 ⟨"ProbeChoice$Search", "markClashes", "(LProbeChoice$Board;)V"⟩ ∈ lw_gd := gd_at 419 (by decide +kernel) (by decide +kernel)
theorem lk_S_42 : Cond.methodLink "ProbeChoice$Search" 42 ⟨"ProbeChoice$Search", "worthOfPlainChoice", "()J"⟩ ∈ lw_gd := gd_at 442 (by decide +kernel) (by decide +kernel)
theorem lk_S_50 : Cond.methodLink "ProbeChoice$Search" 50 ⟨"ProbeChoice$Search", "descend", "(LProbeChoice$Search;IJI)V"⟩ ∈ lw_gd := gd_at 451 (by decide +kernel) (by decide +kernel)
theorem lk_S_76 : Cond.methodLink "ProbeChoice$Search" 76 ⟨"java/util/Arrays", "fill", "([II)V"⟩ ∈ lw_gd := gd_at 423 (by decide +kernel) (by decide +kernel)
theorem lk_S_82 : Cond.methodLink "ProbeChoice$Search" 82 ⟨"ProbeChoice$Search", "endOf", "(I)I"⟩ ∈ lw_gd := gd_at 426 (by decide +kernel) (by decide +kernel)
theorem lk_S_86 : Cond.methodLink "ProbeChoice$Search" 86 ⟨"ProbeChoice$Search", "markClashesWithNet", "(LProbeChoice$Board;II)V"⟩ ∈ lw_gd := gd_at 430 (by decide +kernel) (by decide +kernel)
theorem lk_S_90 : Cond.methodLink "ProbeChoice$Search" 90 ⟨"ProbeChoice$Board", "canBothBeProbes", "(II)Z"⟩ ∈ lw_gd := gd_at 434 (by decide +kernel) (by decide +kernel)
theorem lk_S_94 : Cond.methodLink "ProbeChoice$Search" 94 ⟨"ProbeChoice$Search", "bestSlot", "(II)I"⟩ ∈ lw_gd := gd_at 446 (by decide +kernel) (by decide +kernel)
theorem lk_S_98 : Cond.methodLinkNest "ProbeChoice$Search" 98 ⟨"ProbeChoice", "hasBit", "(II)Z"⟩ "ProbeChoice" ∈ lw_gd := gd_at 450 (by decide +kernel) (by decide +kernel)
theorem lk_S_101 : Cond.methodLink "ProbeChoice$Search" 101 ⟨"ProbeChoice$Search", "mostWorthFrom", "(II)J"⟩ ∈ lw_gd := gd_at 454 (by decide +kernel) (by decide +kernel)
theorem lk_S_105 : Cond.methodLink "ProbeChoice$Search" 105 ⟨"ProbeChoice$Search", "keep", "(J)V"⟩ ∈ lw_gd := gd_at 458 (by decide +kernel) (by decide +kernel)
theorem lk_L_7 : Cond.methodLink "ProbeChoiceLaw" 7 ⟨"ProbeChoice", "point", "(IJJJ)I"⟩ ∈ lw_gd := gd_at 282 (by decide +kernel) (by decide +kernel)
theorem lk_L_17 : Cond.methodLink "ProbeChoiceLaw" 17 ⟨"ProbeChoice", "gap", "(J)Z"⟩ ∈ lw_gd := gd_at 392 (by decide +kernel) (by decide +kernel)
theorem lk_L_21 : Cond.methodLink "ProbeChoiceLaw" 21 ⟨"ProbeChoice", "run", "(J)I"⟩ ∈ lw_gd := gd_at 404 (by decide +kernel) (by decide +kernel)
theorem lk_L_25 : Cond.methodLink "ProbeChoiceLaw" 25 ⟨"ProbeChoice", "part", "(IIJJ)Z"⟩ ∈ lw_gd := gd_at 518 (by decide +kernel) (by decide +kernel)
theorem lk_L_29 : Cond.methodLink "ProbeChoiceLaw" 29 ⟨"ProbeChoice", "span", "(IIII)J"⟩ ∈ lw_gd := gd_at 545 (by decide +kernel) (by decide +kernel)
theorem lk_L_35 : Cond.methodLink "ProbeChoiceLaw" 35 ⟨"ProbeChoice", "guard", "(III)I"⟩ ∈ lw_gd := gd_at 582 (by decide +kernel) (by decide +kernel)
theorem lk_L_39 : Cond.methodLink "ProbeChoiceLaw" 39 ⟨"ProbeChoice", "fail", "(I)Z"⟩ ∈ lw_gd := gd_at 597 (by decide +kernel) (by decide +kernel)
theorem lk_L_43 : Cond.methodLink "ProbeChoiceLaw" 43 ⟨"ProbeChoice", "suspect", "(II)I"⟩ ∈ lw_gd := gd_at 609 (by decide +kernel) (by decide +kernel)
theorem lk_L_47 : Cond.methodLink "ProbeChoiceLaw" 47 ⟨"ProbeChoice", "faults", "(I)I"⟩ ∈ lw_gd := gd_at 621 (by decide +kernel) (by decide +kernel)
theorem lk_L_51 : Cond.methodLink "ProbeChoiceLaw" 51 ⟨"ProbeChoice", "force", "(IJ)Z"⟩ ∈ lw_gd := gd_at 628 (by decide +kernel) (by decide +kernel)
theorem lk_L_55 : Cond.methodLink "ProbeChoiceLaw" 55 ⟨"ProbeChoice", "text", "(I)I"⟩ ∈ lw_gd := gd_at 645 (by decide +kernel) (by decide +kernel)
theorem lk_L_58 : Cond.methodLink "ProbeChoiceLaw" 58 ⟨"ProbeChoice", "<init>", "()V"⟩ ∈ lw_gd := gd_at 20 (by decide +kernel) (by decide +kernel)
theorem lk_L_61 : Cond.methodLink "ProbeChoiceLaw" 61 ⟨"ProbeChoiceModel", "<init>", "()V"⟩ ∈ lw_gd := gd_at 656 (by decide +kernel) (by decide +kernel)
theorem lk_L_62 : Cond.methodLink "ProbeChoiceLaw" 62 ⟨"ProbeChoice", "net", "(Z)I"⟩ ∈ lw_gd := gd_at 213 (by decide +kernel) (by decide +kernel)
theorem lk_L_66 : Cond.methodLink "ProbeChoiceLaw" 66 ⟨"ProbeChoiceModel", "net", "(Z)I"⟩ ∈ lw_gd := gd_at 743 (by decide +kernel) (by decide +kernel)
theorem lk_L_69 : Cond.methodLink "ProbeChoiceLaw" 69 ⟨"ProbeChoiceLaw", "point", "(LProbeChoice;IJJJ[J)I"⟩ ∈ lw_gd := gd_at 277 (by decide +kernel) (by decide +kernel)
theorem lk_L_74 : Cond.methodLink "ProbeChoiceLaw" 74 ⟨"ProbeChoiceModel", "point", "(IJJJ)I"⟩ ∈ lw_gd := gd_at 747 (by decide +kernel) (by decide +kernel)
theorem lk_L_75 : Cond.methodLink "ProbeChoiceLaw" 75 ⟨"ProbeChoiceModel", "thrown", "()I"⟩ ∈ lw_gd := gd_at 739 (by decide +kernel) (by decide +kernel)
theorem lk_L_79 : Cond.methodLink "ProbeChoiceLaw" 79 ⟨"ProbeChoiceLaw", "gap", "(LProbeChoice;J[J)I"⟩ ∈ lw_gd := gd_at 389 (by decide +kernel) (by decide +kernel)
theorem lk_L_82 : Cond.methodLink "ProbeChoiceLaw" 82 ⟨"ProbeChoiceModel", "gap", "(J)Z"⟩ ∈ lw_gd := gd_at 761 (by decide +kernel) (by decide +kernel)
theorem lk_L_83 : Cond.methodLink "ProbeChoiceLaw" 83 ⟨"ProbeChoiceLaw", "run", "(LProbeChoice;J[J)I"⟩ ∈ lw_gd := gd_at 401 (by decide +kernel) (by decide +kernel)
theorem lk_L_85 : Cond.methodLink "ProbeChoiceLaw" 85 ⟨"ProbeChoiceModel", "run", "(J)I"⟩ ∈ lw_gd := gd_at 773 (by decide +kernel) (by decide +kernel)
theorem lk_L_86 : Cond.methodLink "ProbeChoiceLaw" 86 ⟨"ProbeChoice", "probe", "(I)I"⟩ ∈ lw_gd := gd_at 221 (by decide +kernel) (by decide +kernel)
theorem lk_L_89 : Cond.methodLink "ProbeChoiceLaw" 89 ⟨"ProbeChoiceModel", "probe", "(I)I"⟩ ∈ lw_gd := gd_at 798 (by decide +kernel) (by decide +kernel)
theorem lk_L_90 : Cond.methodLink "ProbeChoiceLaw" 90 ⟨"ProbeChoice", "proved", "()Z"⟩ ∈ lw_gd := gd_at 228 (by decide +kernel) (by decide +kernel)
theorem lk_L_94 : Cond.methodLink "ProbeChoiceLaw" 94 ⟨"ProbeChoiceModel", "proved", "()Z"⟩ ∈ lw_gd := gd_at 802 (by decide +kernel) (by decide +kernel)
theorem lk_L_95 : Cond.methodLink "ProbeChoiceLaw" 95 ⟨"ProbeChoice", "out", "(I)I"⟩ ∈ lw_gd := gd_at 232 (by decide +kernel) (by decide +kernel)
theorem lk_L_98 : Cond.methodLink "ProbeChoiceLaw" 98 ⟨"ProbeChoiceModel", "out", "(I)I"⟩ ∈ lw_gd := gd_at 806 (by decide +kernel) (by decide +kernel)
theorem lk_L_99 : Cond.methodLink "ProbeChoiceLaw" 99 ⟨"ProbeChoiceLaw", "part", "(LProbeChoice;IIJJ[J)I"⟩ ∈ lw_gd := gd_at 515 (by decide +kernel) (by decide +kernel)
theorem lk_L_102 : Cond.methodLink "ProbeChoiceLaw" 102 ⟨"ProbeChoiceModel", "part", "(IIJJ)Z"⟩ ∈ lw_gd := gd_at 814 (by decide +kernel) (by decide +kernel)
theorem lk_L_103 : Cond.methodLink "ProbeChoiceLaw" 103 ⟨"ProbeChoiceLaw", "span", "(LProbeChoice;IIII[J)I"⟩ ∈ lw_gd := gd_at 541 (by decide +kernel) (by decide +kernel)
theorem lk_L_106 : Cond.methodLink "ProbeChoiceLaw" 106 ⟨"ProbeChoiceModel", "span", "(IIII)J"⟩ ∈ lw_gd := gd_at 822 (by decide +kernel) (by decide +kernel)
theorem lk_L_107 : Cond.methodLink "ProbeChoiceLaw" 107 ⟨"ProbeChoiceLaw", "guard", "(LProbeChoice;III[J)I"⟩ ∈ lw_gd := gd_at 579 (by decide +kernel) (by decide +kernel)
theorem lk_L_110 : Cond.methodLink "ProbeChoiceLaw" 110 ⟨"ProbeChoiceModel", "guard", "(III)I"⟩ ∈ lw_gd := gd_at 826 (by decide +kernel) (by decide +kernel)
theorem lk_L_111 : Cond.methodLink "ProbeChoiceLaw" 111 ⟨"ProbeChoiceLaw", "fail", "(LProbeChoice;I[J)I"⟩ ∈ lw_gd := gd_at 594 (by decide +kernel) (by decide +kernel)
theorem lk_L_114 : Cond.methodLink "ProbeChoiceLaw" 114 ⟨"ProbeChoiceModel", "fail", "(I)Z"⟩ ∈ lw_gd := gd_at 834 (by decide +kernel) (by decide +kernel)
theorem lk_L_115 : Cond.methodLink "ProbeChoiceLaw" 115 ⟨"ProbeChoice", "suspects", "()I"⟩ ∈ lw_gd := gd_at 236 (by decide +kernel) (by decide +kernel)
theorem lk_L_118 : Cond.methodLink "ProbeChoiceLaw" 118 ⟨"ProbeChoiceModel", "suspects", "()I"⟩ ∈ lw_gd := gd_at 838 (by decide +kernel) (by decide +kernel)
theorem lk_L_119 : Cond.methodLink "ProbeChoiceLaw" 119 ⟨"ProbeChoiceLaw", "suspect", "(LProbeChoice;II[J)I"⟩ ∈ lw_gd := gd_at 606 (by decide +kernel) (by decide +kernel)
theorem lk_L_122 : Cond.methodLink "ProbeChoiceLaw" 122 ⟨"ProbeChoiceModel", "suspect", "(II)I"⟩ ∈ lw_gd := gd_at 856 (by decide +kernel) (by decide +kernel)
theorem lk_L_123 : Cond.methodLink "ProbeChoiceLaw" 123 ⟨"ProbeChoiceLaw", "faults", "(LProbeChoice;I[J)I"⟩ ∈ lw_gd := gd_at 618 (by decide +kernel) (by decide +kernel)
theorem lk_L_125 : Cond.methodLink "ProbeChoiceLaw" 125 ⟨"ProbeChoiceModel", "faults", "(I)I"⟩ ∈ lw_gd := gd_at 860 (by decide +kernel) (by decide +kernel)
theorem lk_L_126 : Cond.methodLink "ProbeChoiceLaw" 126 ⟨"ProbeChoice", "fly", "(I)I"⟩ ∈ lw_gd := gd_at 257 (by decide +kernel) (by decide +kernel)
theorem lk_L_129 : Cond.methodLink "ProbeChoiceLaw" 129 ⟨"ProbeChoiceModel", "fly", "(I)I"⟩ ∈ lw_gd := gd_at 864 (by decide +kernel) (by decide +kernel)
theorem lk_L_130 : Cond.methodLink "ProbeChoiceLaw" 130 ⟨"ProbeChoice", "seconds", "()J"⟩ ∈ lw_gd := gd_at 261 (by decide +kernel) (by decide +kernel)
theorem lk_L_134 : Cond.methodLink "ProbeChoiceLaw" 134 ⟨"ProbeChoiceModel", "seconds", "()J"⟩ ∈ lw_gd := gd_at 879 (by decide +kernel) (by decide +kernel)
theorem lk_L_135 : Cond.methodLink "ProbeChoiceLaw" 135 ⟨"ProbeChoiceLaw", "force", "(LProbeChoice;IJ[J)I"⟩ ∈ lw_gd := gd_at 625 (by decide +kernel) (by decide +kernel)
theorem lk_L_138 : Cond.methodLink "ProbeChoiceLaw" 138 ⟨"ProbeChoiceModel", "force", "(IJ)Z"⟩ ∈ lw_gd := gd_at 765 (by decide +kernel) (by decide +kernel)
theorem lk_L_139 : Cond.methodLink "ProbeChoiceLaw" 139 ⟨"ProbeChoice", "forces", "()J"⟩ ∈ lw_gd := gd_at 265 (by decide +kernel) (by decide +kernel)
theorem lk_L_142 : Cond.methodLink "ProbeChoiceLaw" 142 ⟨"ProbeChoiceModel", "forces", "()J"⟩ ∈ lw_gd := gd_at 810 (by decide +kernel) (by decide +kernel)
theorem lk_L_143 : Cond.methodLink "ProbeChoiceLaw" 143 ⟨"ProbeChoiceLaw", "text", "(LProbeChoice;I[J)I"⟩ ∈ lw_gd := gd_at 642 (by decide +kernel) (by decide +kernel)
theorem lk_L_145 : Cond.methodLink "ProbeChoiceLaw" 145 ⟨"ProbeChoiceModel", "text", "(I)I"⟩ ∈ lw_gd := gd_at 895 (by decide +kernel) (by decide +kernel)
theorem lk_L_146 : Cond.methodLink "ProbeChoiceLaw" 146 ⟨"ProbeChoice", "order", "(I)I"⟩ ∈ lw_gd := gd_at 273 (by decide +kernel) (by decide +kernel)
theorem lk_L_149 : Cond.methodLink "ProbeChoiceLaw" 149 ⟨"ProbeChoiceModel", "order", "(I)I"⟩ ∈ lw_gd := gd_at 883 (by decide +kernel) (by decide +kernel)
theorem lk_M_74 : Cond.methodLink "ProbeChoiceModel" 74 ⟨"ProbeChoiceModel", "isPlace", "(J)Z"⟩ ∈ lw_gd := gd_at 751 (by decide +kernel) (by decide +kernel)
theorem lk_M_80 : Cond.methodLink "ProbeChoiceModel" 80 ⟨"ProbeChoiceModel", "isNet", "(I)Z"⟩ ∈ lw_gd := gd_at 757 (by decide +kernel) (by decide +kernel)
theorem lk_M_88 : Cond.methodLink "ProbeChoiceModel" 88 ⟨"ProbeChoiceModel", "isPoint", "(I)Z"⟩ ∈ lw_gd := gd_at 769 (by decide +kernel) (by decide +kernel)
theorem lk_M_94 : Cond.methodLink "ProbeChoiceModel" 94 ⟨"ProbeChoiceModel", "pointAt", "(II)I"⟩ ∈ lw_gd := gd_at 786 (by decide +kernel) (by decide +kernel)
theorem lk_M_98 : Cond.methodLink "ProbeChoiceModel" 98 ⟨"ProbeChoiceModel", "areApart", "(II)Z"⟩ ∈ lw_gd := gd_at 790 (by decide +kernel) (by decide +kernel)
theorem lk_M_102 : Cond.methodLink "ProbeChoiceModel" 102 ⟨"ProbeChoiceModel", "isChoice", "()Z"⟩ ∈ lw_gd := gd_at 782 (by decide +kernel) (by decide +kernel)
theorem lk_M_106 : Cond.methodLink "ProbeChoiceModel" 106 ⟨"ProbeChoiceModel", "goOn", "()Z"⟩ ∈ lw_gd := gd_at 794 (by decide +kernel) (by decide +kernel)
theorem lk_M_118 : Cond.methodLink "ProbeChoiceModel" 118 ⟨"ProbeChoiceModel", "choose", "()V"⟩ ∈ lw_gd := gd_at 778 (by decide +kernel) (by decide +kernel)
theorem lk_M_126 : Cond.methodLink "ProbeChoiceModel" 126 ⟨"ProbeChoiceModel", "pairOf", "(II)I"⟩ ∈ lw_gd := gd_at 819 (by decide +kernel) (by decide +kernel)
theorem lk_M_129 : Cond.methodLink "ProbeChoiceModel" 129 ⟨"ProbeChoiceModel", "haveParts", "(II)Z"⟩ ∈ lw_gd := gd_at 830 (by decide +kernel) (by decide +kernel)
theorem lk_M_132 : Cond.methodLink "ProbeChoiceModel" 132 ⟨"ProbeChoiceModel", "explains", "(I)Z"⟩ ∈ lw_gd := gd_at 846 (by decide +kernel) (by decide +kernel)
theorem lk_M_135 : Cond.methodLink "ProbeChoiceModel" 135 ⟨"ProbeChoiceModel", "bits", "(I)I"⟩ ∈ lw_gd := gd_at 850 (by decide +kernel) (by decide +kernel)
theorem lk_M_139 : Cond.methodLink "ProbeChoiceModel" 139 ⟨"ProbeChoiceModel", "comesFirst", "(II)Z"⟩ ∈ lw_gd := gd_at 853 (by decide +kernel) (by decide +kernel)
theorem lk_M_142 : Cond.methodLink "ProbeChoiceModel" 142 ⟨"ProbeChoiceModel", "suspectSet", "()I"⟩ ∈ lw_gd := gd_at 842 (by decide +kernel) (by decide +kernel)
theorem lk_M_149 : Cond.methodLink "ProbeChoiceModel" 149 ⟨"ProbeChoiceModel", "nearest", "(JJ)I"⟩ ∈ lw_gd := gd_at 872 (by decide +kernel) (by decide +kernel)
theorem lk_M_153 : Cond.methodLink "ProbeChoiceModel" 153 ⟨"ProbeChoiceModel", "size", "(J)J"⟩ ∈ lw_gd := gd_at 876 (by decide +kernel) (by decide +kernel)
theorem lk_M_157 : Cond.methodLink "ProbeChoiceModel" 157 ⟨"ProbeChoiceModel", "flyTo", "(I)I"⟩ ∈ lw_gd := gd_at 868 (by decide +kernel) (by decide +kernel)
theorem lk_M_160 : Cond.methodLink "ProbeChoiceModel" 160 ⟨"ProbeChoiceModel", "isAhead", "(II)Z"⟩ ∈ lw_gd := gd_at 891 (by decide +kernel) (by decide +kernel)
theorem lk_M_163 : Cond.methodLink "ProbeChoiceModel" 163 ⟨"ProbeChoiceModel", "placed", "(I)I"⟩ ∈ lw_gd := gd_at 887 (by decide +kernel) (by decide +kernel)
theorem lk_M_169 : Cond.methodLink "ProbeChoiceModel" 169 ⟨"ProbeChoiceModel", "say", "(I)V"⟩ ∈ lw_gd := gd_at 899 (by decide +kernel) (by decide +kernel)
theorem lk_M_175 : Cond.methodLink "ProbeChoiceModel" 175 ⟨"ProbeChoiceModel", "sayNumber", "(J)V"⟩ ∈ lw_gd := gd_at 903 (by decide +kernel) (by decide +kernel)
theorem lk_X_12 : Cond.fieldLink "ProbeChoice" 12 "ProbeChoice" "board" "LProbeChoice$Board;" ∈ lw_gd := gd_at 197 (by decide +kernel) (by decide +kernel)
theorem lk_X_19 : Cond.fieldLink "ProbeChoice" 19 "ProbeChoice" "search" "LProbeChoice$Search;" ∈ lw_gd := gd_at 198 (by decide +kernel) (by decide +kernel)
theorem lk_X_26 : Cond.fieldLink "ProbeChoice" 26 "ProbeChoice" "fixture" "LProbeChoice$Fixture;" ∈ lw_gd := gd_at 199 (by decide +kernel) (by decide +kernel)
theorem lk_X_33 : Cond.fieldLink "ProbeChoice" 33 "ProbeChoice" "parts" "LProbeChoice$Parts;" ∈ lw_gd := gd_at 200 (by decide +kernel) (by decide +kernel)
theorem lk_X_40 : Cond.fieldLink "ProbeChoice" 40 "ProbeChoice" "rows" "LProbeChoice$Rows;" ∈ lw_gd := gd_at 201 (by decide +kernel) (by decide +kernel)
theorem lk_X_93 : Cond.fieldLinkNest "ProbeChoice" 93 "ProbeChoice$Fixture" "probeCount" "I" "ProbeChoice" ∈ lw_gd := gd_at 127 (by decide +kernel) (by decide +kernel)
theorem lk_X_97 : Cond.fieldLinkNest "ProbeChoice" 97 "ProbeChoice$Fixture" "probes" "[I" "ProbeChoice" ∈ lw_gd := gd_at 118 (by decide +kernel) (by decide +kernel)
theorem lk_X_105 : Cond.fieldLinkNest "ProbeChoice" 105 "ProbeChoice$Fixture" "sawAll" "Z" "ProbeChoice" ∈ lw_gd := gd_at 134 (by decide +kernel) (by decide +kernel)
theorem lk_X_109 : Cond.fieldLinkNest "ProbeChoice" 109 "ProbeChoice$Fixture" "left" "[I" "ProbeChoice" ∈ lw_gd := gd_at 120 (by decide +kernel) (by decide +kernel)
theorem lk_X_112 : Cond.fieldLinkNest "ProbeChoice" 112 "ProbeChoice$Fixture" "leftCount" "I" "ProbeChoice" ∈ lw_gd := gd_at 129 (by decide +kernel) (by decide +kernel)
theorem lk_X_167 : Cond.fieldLinkNest "ProbeChoice" 167 "ProbeChoice$Fixture" "flown" "[I" "ProbeChoice" ∈ lw_gd := gd_at 122 (by decide +kernel) (by decide +kernel)
theorem lk_X_170 : Cond.fieldLinkNest "ProbeChoice" 170 "ProbeChoice$Fixture" "flightTime" "J" "ProbeChoice" ∈ lw_gd := gd_at 132 (by decide +kernel) (by decide +kernel)
theorem lk_X_195 : Cond.fieldLinkNest "ProbeChoice" 195 "ProbeChoice$Fixture" "sorted" "[I" "ProbeChoice" ∈ lw_gd := gd_at 124 (by decide +kernel) (by decide +kernel)
theorem lk_B_9 : Cond.fieldLink "ProbeChoice$Board" 9 "ProbeChoice$Board" "must" "[Z" ∈ lw_gd := gd_at 32 (by decide +kernel) (by decide +kernel)
theorem lk_B_15 : Cond.fieldLink "ProbeChoice$Board" 15 "ProbeChoice$Board" "sizes" "[I" ∈ lw_gd := gd_at 34 (by decide +kernel) (by decide +kernel)
theorem lk_B_19 : Cond.fieldLink "ProbeChoice$Board" 19 "ProbeChoice$Board" "pointsOfNets" "[I" ∈ lw_gd := gd_at 36 (by decide +kernel) (by decide +kernel)
theorem lk_B_22 : Cond.fieldLink "ProbeChoice$Board" 22 "ProbeChoice$Board" "xs" "[J" ∈ lw_gd := gd_at 38 (by decide +kernel) (by decide +kernel)
theorem lk_B_26 : Cond.fieldLink "ProbeChoice$Board" 26 "ProbeChoice$Board" "ys" "[J" ∈ lw_gd := gd_at 40 (by decide +kernel) (by decide +kernel)
theorem lk_B_29 : Cond.fieldLink "ProbeChoice$Board" 29 "ProbeChoice$Board" "radii" "[J" ∈ lw_gd := gd_at 42 (by decide +kernel) (by decide +kernel)
theorem lk_B_32 : Cond.fieldLink "ProbeChoice$Board" 32 "ProbeChoice$Board" "weights" "[J" ∈ lw_gd := gd_at 43 (by decide +kernel) (by decide +kernel)
theorem lk_B_35 : Cond.fieldLink "ProbeChoice$Board" 35 "ProbeChoice$Board" "netCount" "I" ∈ lw_gd := gd_at 46 (by decide +kernel) (by decide +kernel)
theorem lk_B_39 : Cond.fieldLink "ProbeChoice$Board" 39 "ProbeChoice$Board" "pointCount" "I" ∈ lw_gd := gd_at 48 (by decide +kernel) (by decide +kernel)
theorem lk_B_42 : Cond.fieldLink "ProbeChoice$Board" 42 "ProbeChoice$Board" "apart" "J" ∈ lw_gd := gd_at 49 (by decide +kernel) (by decide +kernel)
theorem lk_F_9 : Cond.fieldLink "ProbeChoice$Fixture" 9 "ProbeChoice$Fixture" "probes" "[I" ∈ lw_gd := gd_at 117 (by decide +kernel) (by decide +kernel)
theorem lk_F_15 : Cond.fieldLink "ProbeChoice$Fixture" 15 "ProbeChoice$Fixture" "left" "[I" ∈ lw_gd := gd_at 119 (by decide +kernel) (by decide +kernel)
theorem lk_F_18 : Cond.fieldLink "ProbeChoice$Fixture" 18 "ProbeChoice$Fixture" "flown" "[I" ∈ lw_gd := gd_at 121 (by decide +kernel) (by decide +kernel)
theorem lk_F_21 : Cond.fieldLink "ProbeChoice$Fixture" 21 "ProbeChoice$Fixture" "sorted" "[I" ∈ lw_gd := gd_at 123 (by decide +kernel) (by decide +kernel)
theorem lk_F_24 : Cond.fieldLink "ProbeChoice$Fixture" 24 "ProbeChoice$Fixture" "letters" "[C" ∈ lw_gd := gd_at 125 (by decide +kernel) (by decide +kernel)
theorem lk_F_28 : Cond.fieldLinkNest "ProbeChoice$Fixture" 28 "ProbeChoice$Search" "looked" "I" "ProbeChoice" ∈ lw_gd := gd_at 89 (by decide +kernel) (by decide +kernel)
theorem lk_F_40 : Cond.fieldLink "ProbeChoice$Fixture" 40 "ProbeChoice$Fixture" "sawAll" "Z" ∈ lw_gd := gd_at 133 (by decide +kernel) (by decide +kernel)
theorem lk_F_58 : Cond.fieldLink "ProbeChoice$Fixture" 58 "ProbeChoice$Fixture" "probeCount" "I" ∈ lw_gd := gd_at 126 (by decide +kernel) (by decide +kernel)
theorem lk_F_61 : Cond.fieldLinkNest "ProbeChoice$Fixture" 61 "ProbeChoice$Board" "weights" "[J" "ProbeChoice" ∈ lw_gd := gd_at 44 (by decide +kernel) (by decide +kernel)
theorem lk_F_65 : Cond.fieldLink "ProbeChoice$Fixture" 65 "ProbeChoice$Fixture" "length" "I" ∈ lw_gd := gd_at 130 (by decide +kernel) (by decide +kernel)
theorem lk_F_68 : Cond.fieldLink "ProbeChoice$Fixture" 68 "ProbeChoice$Fixture" "leftCount" "I" ∈ lw_gd := gd_at 128 (by decide +kernel) (by decide +kernel)
theorem lk_F_71 : Cond.fieldLinkNest "ProbeChoice$Fixture" 71 "ProbeChoice$Search" "best" "[I" "ProbeChoice" ∈ lw_gd := gd_at 88 (by decide +kernel) (by decide +kernel)
theorem lk_F_74 : Cond.fieldLinkNest "ProbeChoice$Fixture" 74 "ProbeChoice$Search" "nets" "[I" "ProbeChoice" ∈ lw_gd := gd_at 81 (by decide +kernel) (by decide +kernel)
theorem lk_F_83 : Cond.fieldLink "ProbeChoice$Fixture" 83 "ProbeChoice$Fixture" "flightTime" "J" ∈ lw_gd := gd_at 131 (by decide +kernel) (by decide +kernel)
theorem lk_F_91 : Cond.fieldLinkNest "ProbeChoice$Fixture" 91 "ProbeChoice$Board" "xs" "[J" "ProbeChoice" ∈ lw_gd := gd_at 39 (by decide +kernel) (by decide +kernel)
theorem lk_F_100 : Cond.fieldLinkNest "ProbeChoice$Fixture" 100 "ProbeChoice$Board" "ys" "[J" "ProbeChoice" ∈ lw_gd := gd_at 41 (by decide +kernel) (by decide +kernel)
theorem lk_P_11 : Cond.fieldLink "ProbeChoice$Parts" 11 "ProbeChoice$Parts" "counts" "[I" ∈ lw_gd := gd_at 165 (by decide +kernel) (by decide +kernel)
theorem lk_P_15 : Cond.fieldLink "ProbeChoice$Parts" 15 "ProbeChoice$Parts" "joined" "[I" ∈ lw_gd := gd_at 166 (by decide +kernel) (by decide +kernel)
theorem lk_P_20 : Cond.fieldLink "ProbeChoice$Parts" 20 "ProbeChoice$Parts" "above" "[[J" ∈ lw_gd := gd_at 167 (by decide +kernel) (by decide +kernel)
theorem lk_P_23 : Cond.fieldLink "ProbeChoice$Parts" 23 "ProbeChoice$Parts" "below" "[[J" ∈ lw_gd := gd_at 168 (by decide +kernel) (by decide +kernel)
theorem lk_R_9 : Cond.fieldLink "ProbeChoice$Rows" 9 "ProbeChoice$Rows" "others" "[I" ∈ lw_gd := gd_at 184 (by decide +kernel) (by decide +kernel)
theorem lk_R_19 : Cond.fieldLink "ProbeChoice$Rows" 19 "ProbeChoice$Rows" "isStale" "Z" ∈ lw_gd := gd_at 187 (by decide +kernel) (by decide +kernel)
theorem lk_R_29 : Cond.fieldLink "ProbeChoice$Rows" 29 "ProbeChoice$Rows" "coverSize" "I" ∈ lw_gd := gd_at 186 (by decide +kernel) (by decide +kernel)
theorem lk_R_37 : Cond.fieldLink "ProbeChoice$Rows" 37 "ProbeChoice$Rows" "cover" "I" ∈ lw_gd := gd_at 185 (by decide +kernel) (by decide +kernel)
theorem lk_S_9 : Cond.fieldLink "ProbeChoice$Search" 9 "ProbeChoice$Search" "nets" "[I" ∈ lw_gd := gd_at 80 (by decide +kernel) (by decide +kernel)
theorem lk_S_15 : Cond.fieldLink "ProbeChoice$Search" 15 "ProbeChoice$Search" "sizes" "[I" ∈ lw_gd := gd_at 82 (by decide +kernel) (by decide +kernel)
theorem lk_S_18 : Cond.fieldLink "ProbeChoice$Search" 18 "ProbeChoice$Search" "points" "[I" ∈ lw_gd := gd_at 83 (by decide +kernel) (by decide +kernel)
theorem lk_S_21 : Cond.fieldLink "ProbeChoice$Search" 21 "ProbeChoice$Search" "worths" "[J" ∈ lw_gd := gd_at 84 (by decide +kernel) (by decide +kernel)
theorem lk_S_25 : Cond.fieldLink "ProbeChoice$Search" 25 "ProbeChoice$Search" "clashes" "[I" ∈ lw_gd := gd_at 85 (by decide +kernel) (by decide +kernel)
theorem lk_S_28 : Cond.fieldLink "ProbeChoice$Search" 28 "ProbeChoice$Search" "tried" "[I" ∈ lw_gd := gd_at 86 (by decide +kernel) (by decide +kernel)
theorem lk_S_31 : Cond.fieldLink "ProbeChoice$Search" 31 "ProbeChoice$Search" "best" "[I" ∈ lw_gd := gd_at 87 (by decide +kernel) (by decide +kernel)
theorem lk_S_46 : Cond.fieldLink "ProbeChoice$Search" 46 "ProbeChoice$Search" "bestWorth" "J" ∈ lw_gd := gd_at 91 (by decide +kernel) (by decide +kernel)
theorem lk_S_54 : Cond.fieldLink "ProbeChoice$Search" 54 "ProbeChoice$Search" "looked" "I" ∈ lw_gd := gd_at 90 (by decide +kernel) (by decide +kernel)
theorem lk_S_58 : Cond.fieldLinkNest "ProbeChoice$Search" 58 "ProbeChoice$Board" "netCount" "I" "ProbeChoice" ∈ lw_gd := gd_at 47 (by decide +kernel) (by decide +kernel)
theorem lk_S_63 : Cond.fieldLinkNest "ProbeChoice$Search" 63 "ProbeChoice$Board" "must" "[Z" "ProbeChoice" ∈ lw_gd := gd_at 33 (by decide +kernel) (by decide +kernel)
theorem lk_S_67 : Cond.fieldLinkNest "ProbeChoice$Search" 67 "ProbeChoice$Board" "sizes" "[I" "ProbeChoice" ∈ lw_gd := gd_at 35 (by decide +kernel) (by decide +kernel)
theorem lk_S_68 : Cond.fieldLinkNest "ProbeChoice$Search" 68 "ProbeChoice$Board" "pointsOfNets" "[I" "ProbeChoice" ∈ lw_gd := gd_at 37 (by decide +kernel) (by decide +kernel)
theorem lk_S_73 : Cond.fieldLinkNest "ProbeChoice$Search" 73 "ProbeChoice$Board" "weights" "[J" "ProbeChoice" ∈ lw_gd := gd_at 45 (by decide +kernel) (by decide +kernel)
theorem lk_M_7 : Cond.fieldLink "ProbeChoiceModel" 7 "ProbeChoiceModel" "must" "[Z" ∈ lw_gd := gd_at 662 (by decide +kernel) (by decide +kernel)
theorem lk_M_13 : Cond.fieldLink "ProbeChoiceModel" 13 "ProbeChoiceModel" "pointCount" "[I" ∈ lw_gd := gd_at 663 (by decide +kernel) (by decide +kernel)
theorem lk_M_17 : Cond.fieldLink "ProbeChoiceModel" 17 "ProbeChoiceModel" "pointsOf" "[I" ∈ lw_gd := gd_at 664 (by decide +kernel) (by decide +kernel)
theorem lk_M_20 : Cond.fieldLink "ProbeChoiceModel" 20 "ProbeChoiceModel" "x" "[J" ∈ lw_gd := gd_at 666 (by decide +kernel) (by decide +kernel)
theorem lk_M_24 : Cond.fieldLink "ProbeChoiceModel" 24 "ProbeChoiceModel" "y" "[J" ∈ lw_gd := gd_at 667 (by decide +kernel) (by decide +kernel)
theorem lk_M_27 : Cond.fieldLink "ProbeChoiceModel" 27 "ProbeChoiceModel" "radius" "[J" ∈ lw_gd := gd_at 668 (by decide +kernel) (by decide +kernel)
theorem lk_M_30 : Cond.fieldLink "ProbeChoiceModel" 30 "ProbeChoiceModel" "forces" "[J" ∈ lw_gd := gd_at 669 (by decide +kernel) (by decide +kernel)
theorem lk_M_33 : Cond.fieldLink "ProbeChoiceModel" 33 "ProbeChoiceModel" "netAt" "[I" ∈ lw_gd := gd_at 673 (by decide +kernel) (by decide +kernel)
theorem lk_M_36 : Cond.fieldLink "ProbeChoiceModel" 36 "ProbeChoiceModel" "digit" "[I" ∈ lw_gd := gd_at 674 (by decide +kernel) (by decide +kernel)
theorem lk_M_39 : Cond.fieldLink "ProbeChoiceModel" 39 "ProbeChoiceModel" "best" "[I" ∈ lw_gd := gd_at 675 (by decide +kernel) (by decide +kernel)
theorem lk_M_42 : Cond.fieldLink "ProbeChoiceModel" 42 "ProbeChoiceModel" "probe" "[I" ∈ lw_gd := gd_at 678 (by decide +kernel) (by decide +kernel)
theorem lk_M_45 : Cond.fieldLink "ProbeChoiceModel" 45 "ProbeChoiceModel" "partCount" "[I" ∈ lw_gd := gd_at 679 (by decide +kernel) (by decide +kernel)
theorem lk_M_48 : Cond.fieldLink "ProbeChoiceModel" 48 "ProbeChoiceModel" "parts" "[J" ∈ lw_gd := gd_at 680 (by decide +kernel) (by decide +kernel)
theorem lk_M_51 : Cond.fieldLink "ProbeChoiceModel" 51 "ProbeChoiceModel" "failed" "[I" ∈ lw_gd := gd_at 681 (by decide +kernel) (by decide +kernel)
theorem lk_M_54 : Cond.fieldLink "ProbeChoiceModel" 54 "ProbeChoiceModel" "flown" "[Z" ∈ lw_gd := gd_at 682 (by decide +kernel) (by decide +kernel)
theorem lk_M_57 : Cond.fieldLink "ProbeChoiceModel" 57 "ProbeChoiceModel" "out" "[I" ∈ lw_gd := gd_at 683 (by decide +kernel) (by decide +kernel)
theorem lk_M_60 : Cond.fieldLink "ProbeChoiceModel" 60 "ProbeChoiceModel" "thrown" "I" ∈ lw_gd := gd_at 660 (by decide +kernel) (by decide +kernel)
theorem lk_M_64 : Cond.fieldLink "ProbeChoiceModel" 64 "ProbeChoiceModel" "nets" "I" ∈ lw_gd := gd_at 661 (by decide +kernel) (by decide +kernel)
theorem lk_M_67 : Cond.fieldLink "ProbeChoiceModel" 67 "ProbeChoiceModel" "points" "I" ∈ lw_gd := gd_at 665 (by decide +kernel) (by decide +kernel)
theorem lk_M_84 : Cond.fieldLink "ProbeChoiceModel" 84 "ProbeChoiceModel" "gap" "J" ∈ lw_gd := gd_at 670 (by decide +kernel) (by decide +kernel)
theorem lk_M_91 : Cond.fieldLink "ProbeChoiceModel" 91 "ProbeChoiceModel" "looked" "I" ∈ lw_gd := gd_at 672 (by decide +kernel) (by decide +kernel)
theorem lk_M_111 : Cond.fieldLink "ProbeChoiceModel" 111 "ProbeChoiceModel" "ran" "Z" ∈ lw_gd := gd_at 671 (by decide +kernel) (by decide +kernel)
theorem lk_M_115 : Cond.fieldLink "ProbeChoiceModel" 115 "ProbeChoiceModel" "isProved" "Z" ∈ lw_gd := gd_at 676 (by decide +kernel) (by decide +kernel)
theorem lk_M_121 : Cond.fieldLink "ProbeChoiceModel" 121 "ProbeChoiceModel" "probes" "I" ∈ lw_gd := gd_at 677 (by decide +kernel) (by decide +kernel)
theorem lk_M_146 : Cond.fieldLink "ProbeChoiceModel" 146 "ProbeChoiceModel" "flight" "J" ∈ lw_gd := gd_at 685 (by decide +kernel) (by decide +kernel)
theorem lk_M_166 : Cond.fieldLink "ProbeChoiceModel" 166 "ProbeChoiceModel" "written" "I" ∈ lw_gd := gd_at 684 (by decide +kernel) (by decide +kernel)
theorem lk_X_52 : Cond.constantLong "ProbeChoice" 52 (-1000000 : Int64) ∈ lw_gd := gd_at 362 (by decide +kernel) (by decide +kernel)
theorem lk_X_54 : Cond.constantLong "ProbeChoice" 54 (1000000 : Int64) ∈ lw_gd := gd_at 363 (by decide +kernel) (by decide +kernel)
theorem lk_X_67 : Cond.constantLong "ProbeChoice" 67 (100000 : Int64) ∈ lw_gd := gd_at 383 (by decide +kernel) (by decide +kernel)
theorem lk_X_81 : Cond.constantLong "ProbeChoice" 81 (8 : Int64) ∈ lw_gd := gd_at 408 (by decide +kernel) (by decide +kernel)
theorem lk_X_115 : Cond.constantLong "ProbeChoice" 115 (1000 : Int64) ∈ lw_gd := gd_at 522 (by decide +kernel) (by decide +kernel)
theorem lk_F_123 : Cond.constantLong "ProbeChoice$Fixture" 123 (10 : Int64) ∈ lw_gd := gd_at 513 (by decide +kernel) (by decide +kernel)
theorem lk_F_125 : Cond.constantLong "ProbeChoice$Fixture" 125 (48 : Int64) ∈ lw_gd := gd_at 514 (by decide +kernel) (by decide +kernel)
theorem lk_S_71 : Cond.constantLong "ProbeChoice$Search" 71 (8000001 : Int64) ∈ lw_gd := gd_at 418 (by decide +kernel) (by decide +kernel)
theorem lk_L_67 : Cond.constantLong "ProbeChoiceLaw" 67 (4294967295 : Int64) ∈ lw_gd := gd_at 908 (by decide +kernel) (by decide +kernel)
theorem lk_M_70 : Cond.constantLong "ProbeChoiceModel" 70 (-1000000 : Int64) ∈ lw_gd := gd_at 754 (by decide +kernel) (by decide +kernel)
theorem lk_M_72 : Cond.constantLong "ProbeChoiceModel" 72 (1000000 : Int64) ∈ lw_gd := gd_at 755 (by decide +kernel) (by decide +kernel)
theorem lk_M_78 : Cond.constantLong "ProbeChoiceModel" 78 (100000 : Int64) ∈ lw_gd := gd_at 756 (by decide +kernel) (by decide +kernel)
theorem lk_M_109 : Cond.constantLong "ProbeChoiceModel" 109 (8 : Int64) ∈ lw_gd := gd_at 777 (by decide +kernel) (by decide +kernel)
theorem lk_M_124 : Cond.constantLong "ProbeChoiceModel" 124 (1000 : Int64) ∈ lw_gd := gd_at 818 (by decide +kernel) (by decide +kernel)
theorem lk_M_173 : Cond.constantLong "ProbeChoiceModel" 173 (10 : Int64) ∈ lw_gd := gd_at 907 (by decide +kernel) (by decide +kernel)
theorem lk_JI_265 : Cond.constant "java/lang/Integer" 265 (1431655765 : Int32) ∈ lw_gd := gd_at 250 (by decide +kernel) (by decide +kernel)
theorem lk_JI_266 : Cond.constant "java/lang/Integer" 266 (858993459 : Int32) ∈ lw_gd := gd_at 251 (by decide +kernel) (by decide +kernel)
theorem lk_JI_267 : Cond.constant "java/lang/Integer" 267 (252645135 : Int32) ∈ lw_gd := gd_at 252 (by decide +kernel) (by decide +kernel)
end
section
/-! the worlds of the class and of the reference as functions of a state; a row a field. Written by wip/whole/gen/world2.py -/
abbrev St : Type := Nat → Int → Int
def up (σ : St) (f : Nat) (i v : Int) : St := fun g j => if g = f ∧ j = i then v else σ g j
theorem up_s (σ : St) (f : Nat) (i v : Int) : up σ f i v f i = v := by simp [up]
theorem up_o (σ : St) {f g : Nat} (i v j : Int) (h : g ≠ f) : up σ f i v g j = σ g j := by simp [up, h]
theorem up_n (σ : St) (f : Nat) {i j : Int} (v : Int) (h : j ≠ i) : up σ f i v f j = σ f j := by simp [up, h]
theorem up_f (σ : St) {f g : Nat} (i v : Int) (h : g ≠ f) : up σ f i v g = σ g := funext fun j => up_o σ i v j h
theorem zI_ix {i : Int} {n : Nat} (h0 : 0 ≤ i) (h1 : i < n) (hn : n < 2147483648) : (((zI i).toNatClampNeg : Nat) : Int) = i := by rw [zI_cl h0 (by omega), Int.toNat_of_nonneg h0]
theorem updI_z {σ : St} {f : Nat} {i v : Int} {n : Nat} (h0 : 0 ≤ i) (h1 : i < n) (hn : n < 2147483648) : upd (fun k : Nat => zI (σ f k)) (zI i).toNatClampNeg (zI v) = fun k : Nat => zI (up σ f i v f k) := by
  funext k
  have e := zI_ix h0 h1 hn
  by_cases h : (k : Int) = i
  · have h2 : k = (zI i).toNatClampNeg := by omega
    rw [h2, pk_us, ← h2, h, up_s]
  · have h2 : k ≠ (zI i).toNatClampNeg := by omega
    rw [pk_un h2, up_n σ f v h]
theorem updL_z {σ : St} {f : Nat} {i v : Int} {n : Nat} (h0 : 0 ≤ i) (h1 : i < n) (hn : n < 2147483648) : vp_updL (fun k : Nat => zL (σ f k)) (zI i).toNatClampNeg (zL v) = fun k : Nat => zL (up σ f i v f k) := by
  funext k
  have e := zI_ix h0 h1 hn
  by_cases h : (k : Int) = i
  · have h2 : k = (zI i).toNatClampNeg := by omega
    rw [h2, pk_uLs, ← h2, h, up_s]
  · have h2 : k ≠ (zI i).toNatClampNeg := by omega
    rw [pk_uLn h2, up_n σ f v h]
theorem nar_z {v : Int} (h : v = 0 ∨ v = 1) : vp_nar .boolean (zI v) = zI v := by rcases h with rfl | rfl <;> decide
theorem nar_c {v : Int} (h0 : 0 ≤ v) (h1 : v < 65536) : vp_nar .char (zI v) = zI v := by
  rw [zI_pos h0]
  have := (pk_charN (q := v.toNat) (by omega)).1
  unfold vp_nar
  rw [this]
section ALDA
variable {p : Program} {l : Launch} {e : Env} {R : Room} {s : State} {m : MethodId} {args : Array Value} {below : List Frame} {meth : Method} {c : Code} {H : Heap} {locs : List Loc} {cells slots : Nat} {Q : State → Prop}
theorem aldA {cc : ByteArray} {pc : Nat} {ls : Array Slot} {rest : List Value} {D : va_G} {cl : List vw_C} {a : Nat} {tys : List (ClassId × FieldType)} {ws : va_W} (hx : p.tables.exec = Jvm.exec) (hb : c.code = cc) (hK : va_K D cl tys s) (hP : va_P D cl ws H) (q0 t0 : Nat) {cA : ClassId} {ty : FieldType} {n : Nat} {f : Nat → Option Nat} (ha : ws[q0]? = some (a, .inl (cA, n, .inr (.inr (.inr (.inr f)))))) (ht : tys[t0]? = some (cA, .array ty)) {i : Int32} (hin : vp_in i n) (d : decode cc pc = .ok (.aaload, 1))
    (kk : W p l e R s m args below meth c H locs cells slots Q (F0 m (pc + 1) ls (va_rf (f i.toNatClampNeg) :: rest))) : W p l e R s m args below meth c H locs cells slots Q (F0 m pc ls (.int i :: .ref a :: rest)) := by
  have hlt : i.toNatClampNeg < n := Nat.not_le.mp fun q => hin (Or.inr q)
  exact W.aald (v := va_rf (f i.toNatClampNeg)) (ty := .array ty) hx hb (hP q0 _ ha) ((hK.2 t0 _ ht).1 n (fun j => va_rf (f j))) rfl (fun q => by cases q) (by show ¬ (i < 0 ∨ (arrV _ _ _).slots.size ≤ _); rw [arrV_size]; exact hin) (by show (arrV _ _ _).slots[_]? = _; rw [arrV_read _ _ hlt]) rfl rfl d kk
end ALDA
def wX (ad : Nat → Nat) (ca : Nat → ClassId) (σ : St) : va_W := [
  (ad 100, .inr (5, [.ref (ad 101), .ref (ad 105), .ref (ad 102), .ref (ad 103), .ref (ad 104)])),
  (ad 101, .inr (0, [.ref (ad 0), .ref (ad 1), .ref (ad 2), .ref (ad 3), .ref (ad 4), .ref (ad 5), .ref (ad 6), .int (zI (σ 7 0)), .int (zI (σ 8 0)), .long (zL (σ 9 0))])),
  (ad 102, .inr (1, [.ref (ad 20), .ref (ad 21), .ref (ad 22), .ref (ad 23), .ref (ad 24), .int (zI (σ 25 0)), .int (zI (σ 26 0)), .int (zI (σ 27 0)), .long (zL (σ 28 0)), .int (zI (σ 29 0))])),
  (ad 103, .inr (2, [.ref (ad 30), .ref (ad 31), .ref (ad 36), .ref (ad 37)])),
  (ad 104, .inr (3, [.ref (ad 40), .int (zI (σ 41 0)), .int (zI (σ 42 0)), .int (zI (σ 43 0))])),
  (ad 105, .inr (4, [.ref (ad 10), .ref (ad 11), .ref (ad 12), .ref (ad 13), .ref (ad 14), .ref (ad 15), .ref (ad 16), .int (zI (σ 17 0)), .long (zL (σ 18 0))])),
  (ad 0, .inl (ca 0, 12, .inl (fun k => zI (σ 0 k)))),
  (ad 1, .inl (ca 1, 12, .inl (fun k => zI (σ 1 k)))),
  (ad 2, .inl (ca 2, 36, .inl (fun k => zI (σ 2 k)))),
  (ad 3, .inl (ca 3, 36, .inr (.inl (fun k => zL (σ 3 k))))),
  (ad 4, .inl (ca 4, 36, .inr (.inl (fun k => zL (σ 4 k))))),
  (ad 5, .inl (ca 5, 36, .inr (.inl (fun k => zL (σ 5 k))))),
  (ad 6, .inl (ca 6, 36, .inr (.inl (fun k => zL (σ 6 k))))),
  (ad 20, .inl (ca 20, 8, .inl (fun k => zI (σ 20 k)))),
  (ad 21, .inl (ca 21, 8, .inl (fun k => zI (σ 21 k)))),
  (ad 22, .inl (ca 22, 8, .inl (fun k => zI (σ 22 k)))),
  (ad 23, .inl (ca 23, 8, .inl (fun k => zI (σ 23 k)))),
  (ad 24, .inl (ca 24, 176, .inl (fun k => zI (σ 24 k)))),
  (ad 30, .inl (ca 30, 144, .inl (fun k => zI (σ 30 k)))),
  (ad 31, .inl (ca 31, 12, .inl (fun k => zI (σ 31 k)))),
  (ad 36, .inl (ca 36, 2, .inr (.inr (.inr (.inr (fun i => if i = 0 then some (ad 32) else if i = 1 then some (ad 33) else none)))))),
  (ad 32, .inl (ca 32, 144, .inr (.inl (fun k => zL (σ 32 k))))),
  (ad 33, .inl (ca 33, 144, .inr (.inl (fun k => zL (σ 33 k))))),
  (ad 37, .inl (ca 37, 2, .inr (.inr (.inr (.inr (fun i => if i = 0 then some (ad 34) else if i = 1 then some (ad 35) else none)))))),
  (ad 34, .inl (ca 34, 144, .inr (.inl (fun k => zL (σ 34 k))))),
  (ad 35, .inl (ca 35, 144, .inr (.inl (fun k => zL (σ 35 k))))),
  (ad 40, .inl (ca 40, 12, .inl (fun k => zI (σ 40 k)))),
  (ad 10, .inl (ca 10, 8, .inl (fun k => zI (σ 10 k)))),
  (ad 11, .inl (ca 11, 8, .inl (fun k => zI (σ 11 k)))),
  (ad 12, .inl (ca 12, 24, .inl (fun k => zI (σ 12 k)))),
  (ad 13, .inl (ca 13, 24, .inr (.inl (fun k => zL (σ 13 k))))),
  (ad 14, .inl (ca 14, 24, .inl (fun k => zI (σ 14 k)))),
  (ad 15, .inl (ca 15, 8, .inl (fun k => zI (σ 15 k)))),
  (ad 16, .inl (ca 16, 8, .inl (fun k => zI (σ 16 k))))]
def tyX (ca : Nat → ClassId) : List (ClassId × FieldType) := [(ca 0, .boolean), (ca 1, .int), (ca 2, .int), (ca 3, .long), (ca 4, .long), (ca 5, .long), (ca 6, .long), (ca 20, .int), (ca 21, .int), (ca 22, .int), (ca 23, .int), (ca 24, .char), (ca 30, .int), (ca 31, .int), (ca 36, .array .long), (ca 32, .long), (ca 33, .long), (ca 37, .array .long), (ca 34, .long), (ca 35, .long), (ca 40, .int), (ca 10, .int), (ca 11, .int), (ca 12, .int), (ca 13, .long), (ca 14, .int), (ca 15, .int), (ca 16, .int)]
def wM (ad : Nat → Nat) (ca : Nat → ClassId) (σ : St) : va_W := [
  (ad 100, .inr (6, [.int (zI (σ 0 0)), .int (zI (σ 1 0)), .ref (ad 2), .ref (ad 3), .ref (ad 4), .int (zI (σ 5 0)), .ref (ad 6), .ref (ad 7), .ref (ad 8), .ref (ad 9), .long (zL (σ 10 0)), .int (zI (σ 11 0)), .int (zI (σ 12 0)), .ref (ad 13), .ref (ad 14), .ref (ad 15), .int (zI (σ 16 0)), .int (zI (σ 17 0)), .ref (ad 18), .ref (ad 19), .ref (ad 20), .ref (ad 21), .ref (ad 22), .ref (ad 23), .int (zI (σ 24 0)), .long (zL (σ 25 0))])),
  (ad 2, .inl (ca 2, 12, .inl (fun k => zI (σ 2 k)))),
  (ad 3, .inl (ca 3, 12, .inl (fun k => zI (σ 3 k)))),
  (ad 4, .inl (ca 4, 36, .inl (fun k => zI (σ 4 k)))),
  (ad 6, .inl (ca 6, 36, .inr (.inl (fun k => zL (σ 6 k))))),
  (ad 7, .inl (ca 7, 36, .inr (.inl (fun k => zL (σ 7 k))))),
  (ad 8, .inl (ca 8, 36, .inr (.inl (fun k => zL (σ 8 k))))),
  (ad 9, .inl (ca 9, 36, .inr (.inl (fun k => zL (σ 9 k))))),
  (ad 13, .inl (ca 13, 8, .inl (fun k => zI (σ 13 k)))),
  (ad 14, .inl (ca 14, 8, .inl (fun k => zI (σ 14 k)))),
  (ad 15, .inl (ca 15, 8, .inl (fun k => zI (σ 15 k)))),
  (ad 18, .inl (ca 18, 8, .inl (fun k => zI (σ 18 k)))),
  (ad 19, .inl (ca 19, 144, .inl (fun k => zI (σ 19 k)))),
  (ad 20, .inl (ca 20, 1152, .inr (.inl (fun k => zL (σ 20 k))))),
  (ad 21, .inl (ca 21, 12, .inl (fun k => zI (σ 21 k)))),
  (ad 22, .inl (ca 22, 36, .inl (fun k => zI (σ 22 k)))),
  (ad 23, .inl (ca 23, 400, .inl (fun k => zI (σ 23 k))))]
def tyM (ca : Nat → ClassId) : List (ClassId × FieldType) := [(ca 2, .boolean), (ca 3, .int), (ca 4, .int), (ca 6, .long), (ca 7, .long), (ca 8, .long), (ca 9, .long), (ca 13, .int), (ca 14, .int), (ca 15, .int), (ca 18, .int), (ca 19, .int), (ca 20, .long), (ca 21, .int), (ca 22, .boolean), (ca 23, .int)]
section WX
variable {p : Program} {l : Launch} {e : Env} {R : Room} {s : State} {m : MethodId} {args : Array Value} {below : List Frame} {meth : Method} {c : Code} {H : Heap} {locs : List Loc} {cells slots : Nat} {Q : State → Prop}
variable {cc : ByteArray} {pc nL : Nat} {own : String} {ret : Option FieldType} {ls : Array Slot} {rest : List Value} {D : va_G} {ad : Nat → Nat} {ca : Nat → ClassId} {A : Nat → Prop} {σ : St}
theorem gX_X_board (hc : Cx p s m args c cc nL own meth ret D cl7 (tyX ca)) (hw : Wd D cl7 (wX ad ca) A s.heap σ H locs) {index : Nat} (lk : Cond.fieldLink own index "ProbeChoice" "board" "LProbeChoice$Board;" ∈ lw_gd) (d : decode cc pc = .ok (.getfield index, 3)) (k : W p l e R s m args below meth c H locs cells slots Q (F0 m (pc + 3) ls (.ref (ad 101) :: rest))) : W p l e R s m args below meth c H locs cells slots Q (F0 m pc ls (.ref (ad 100) :: rest)) := va_get (D := D) (ci := 5) (C := R_X) (T := T_X) (N := 5) hc.1 hc.2.1 (hc.2.2.2.2.1.hts args) in_X hc.2.2.2.1 hc.2.2.2.2.2.1 hw.1 0 rfl rfl 0 (by decide) (hc.2.2.2.2.1.hts args _ lk) (fun _ h => h) rfl d k
theorem gX_X_search (hc : Cx p s m args c cc nL own meth ret D cl7 (tyX ca)) (hw : Wd D cl7 (wX ad ca) A s.heap σ H locs) {index : Nat} (lk : Cond.fieldLink own index "ProbeChoice" "search" "LProbeChoice$Search;" ∈ lw_gd) (d : decode cc pc = .ok (.getfield index, 3)) (k : W p l e R s m args below meth c H locs cells slots Q (F0 m (pc + 3) ls (.ref (ad 105) :: rest))) : W p l e R s m args below meth c H locs cells slots Q (F0 m pc ls (.ref (ad 100) :: rest)) := va_get (D := D) (ci := 5) (C := R_X) (T := T_X) (N := 5) hc.1 hc.2.1 (hc.2.2.2.2.1.hts args) in_X hc.2.2.2.1 hc.2.2.2.2.2.1 hw.1 0 rfl rfl 1 (by decide) (hc.2.2.2.2.1.hts args _ lk) (fun _ h => h) rfl d k
theorem gX_X_fixture (hc : Cx p s m args c cc nL own meth ret D cl7 (tyX ca)) (hw : Wd D cl7 (wX ad ca) A s.heap σ H locs) {index : Nat} (lk : Cond.fieldLink own index "ProbeChoice" "fixture" "LProbeChoice$Fixture;" ∈ lw_gd) (d : decode cc pc = .ok (.getfield index, 3)) (k : W p l e R s m args below meth c H locs cells slots Q (F0 m (pc + 3) ls (.ref (ad 102) :: rest))) : W p l e R s m args below meth c H locs cells slots Q (F0 m pc ls (.ref (ad 100) :: rest)) := va_get (D := D) (ci := 5) (C := R_X) (T := T_X) (N := 5) hc.1 hc.2.1 (hc.2.2.2.2.1.hts args) in_X hc.2.2.2.1 hc.2.2.2.2.2.1 hw.1 0 rfl rfl 2 (by decide) (hc.2.2.2.2.1.hts args _ lk) (fun _ h => h) rfl d k
theorem gX_X_parts (hc : Cx p s m args c cc nL own meth ret D cl7 (tyX ca)) (hw : Wd D cl7 (wX ad ca) A s.heap σ H locs) {index : Nat} (lk : Cond.fieldLink own index "ProbeChoice" "parts" "LProbeChoice$Parts;" ∈ lw_gd) (d : decode cc pc = .ok (.getfield index, 3)) (k : W p l e R s m args below meth c H locs cells slots Q (F0 m (pc + 3) ls (.ref (ad 103) :: rest))) : W p l e R s m args below meth c H locs cells slots Q (F0 m pc ls (.ref (ad 100) :: rest)) := va_get (D := D) (ci := 5) (C := R_X) (T := T_X) (N := 5) hc.1 hc.2.1 (hc.2.2.2.2.1.hts args) in_X hc.2.2.2.1 hc.2.2.2.2.2.1 hw.1 0 rfl rfl 3 (by decide) (hc.2.2.2.2.1.hts args _ lk) (fun _ h => h) rfl d k
theorem gX_X_rows (hc : Cx p s m args c cc nL own meth ret D cl7 (tyX ca)) (hw : Wd D cl7 (wX ad ca) A s.heap σ H locs) {index : Nat} (lk : Cond.fieldLink own index "ProbeChoice" "rows" "LProbeChoice$Rows;" ∈ lw_gd) (d : decode cc pc = .ok (.getfield index, 3)) (k : W p l e R s m args below meth c H locs cells slots Q (F0 m (pc + 3) ls (.ref (ad 104) :: rest))) : W p l e R s m args below meth c H locs cells slots Q (F0 m pc ls (.ref (ad 100) :: rest)) := va_get (D := D) (ci := 5) (C := R_X) (T := T_X) (N := 5) hc.1 hc.2.1 (hc.2.2.2.2.1.hts args) in_X hc.2.2.2.1 hc.2.2.2.2.2.1 hw.1 0 rfl rfl 4 (by decide) (hc.2.2.2.2.1.hts args _ lk) (fun _ h => h) rfl d k
theorem gX_B_must (hc : Cx p s m args c cc nL own meth ret D cl7 (tyX ca)) (hw : Wd D cl7 (wX ad ca) A s.heap σ H locs) {index : Nat} (lk : Cond.fieldLink own index "ProbeChoice$Board" "must" "[Z" ∈ lw_gd) (d : decode cc pc = .ok (.getfield index, 3)) (k : W p l e R s m args below meth c H locs cells slots Q (F0 m (pc + 3) ls (.ref (ad 0) :: rest))) : W p l e R s m args below meth c H locs cells slots Q (F0 m pc ls (.ref (ad 101) :: rest)) := va_get (D := D) (ci := 0) (C := R_B) (T := T_B) (N := 10) hc.1 hc.2.1 (hc.2.2.2.2.1.hts args) in_B hc.2.2.2.1 hc.2.2.2.2.2.1 hw.1 1 rfl rfl 0 (by decide) (hc.2.2.2.2.1.hts args _ lk) (fun _ h => h) rfl d k
theorem gnX_B_must (hc : Cx p s m args c cc nL own meth ret D cl7 (tyX ca)) (hw : Wd D cl7 (wX ad ca) A s.heap σ H locs) {index : Nat} (lk : Cond.fieldLinkNest own index "ProbeChoice$Board" "must" "[Z" "ProbeChoice" ∈ lw_gd) (d : decode cc pc = .ok (.getfield index, 3)) (k : W p l e R s m args below meth c H locs cells slots Q (F0 m (pc + 3) ls (.ref (ad 0) :: rest))) : W p l e R s m args below meth c H locs cells slots Q (F0 m pc ls (.ref (ad 101) :: rest)) := va_getN (D := D) (ci := 0) (C := R_B) (T := T_B) (N := 10) hc.1 hc.2.1 (hc.2.2.2.2.1.hts args) in_B hc.2.2.2.1 hc.2.2.2.2.2.1 hw.1 1 rfl rfl 0 (by decide) (hc.2.2.2.2.1.hts args _ lk) (fun _ h => h) rfl d k
theorem ldX_B_must (hc : Cx p s m args c cc nL own meth ret D cl7 (tyX ca)) (hw : Wd D cl7 (wX ad ca) A s.heap σ H locs) {i : Int} (d : decode cc pc = .ok (.baload, 1)) (hi : 0 ≤ i ∧ i < 12) (k : W p l e R s m args below meth c H locs cells slots Q (F0 m (pc + 1) ls (.int (zI (σ 0 i)) :: rest))) : W p l e R s m args below meth c H locs cells slots Q (F0 m pc ls (.int (zI i) :: .ref (ad 0) :: rest)) := by
  refine va_zald (D := D) hc.1 hc.2.1 hc.2.2.2.2.2.1 hw.1 6 0 rfl rfl (zI_in hi.1 hi.2 (by decide)) d ?_
  show W p l e R s m args below meth c H locs cells slots Q (F0 m (pc + 1) ls (.int (zI (σ 0 (((zI i).toNatClampNeg : Nat) : Int))) :: rest))
  rw [zI_ix (n := 12) hi.1 hi.2 (by decide)]
  exact k
theorem stX_B_must (hc : Cx p s m args c cc nL own meth ret D cl7 (tyX ca)) (hw : Wd D cl7 (wX ad ca) A s.heap σ H locs) {i v : Int} (d : decode cc pc = .ok (.bastore, 1)) (hi : 0 ≤ i ∧ i < 12) (h01 : v = 0 ∨ v = 1) (k : ∀ (H1 : Heap) (locs1 : List Loc), Wd D cl7 (wX ad ca) A s.heap (up σ 0 i v) H1 locs1 → W p l e R s m args below meth c H1 locs1 cells slots Q (F0 m (pc + 1) ls rest)) : W p l e R s m args below meth c H locs cells slots Q (F0 m pc ls (.int (zI v) :: .int (zI i) :: .ref (ad 0) :: rest)) := by
  refine va_zast (D := D) hc.1 hc.2.1 hc.2.2.2.2.2.1 hw.1 hw.2.1 hw.2.2 6 0 rfl rfl (zI_in hi.1 hi.2 (by decide)) d (fun H1 locs1 hP hD hS => ?_)
  rw [nar_z h01, updI_z (n := 12) hi.1 hi.2 (by decide)] at hP hD
  exact k H1 locs1 ⟨hP, hD, hS⟩
theorem gX_B_sizes (hc : Cx p s m args c cc nL own meth ret D cl7 (tyX ca)) (hw : Wd D cl7 (wX ad ca) A s.heap σ H locs) {index : Nat} (lk : Cond.fieldLink own index "ProbeChoice$Board" "sizes" "[I" ∈ lw_gd) (d : decode cc pc = .ok (.getfield index, 3)) (k : W p l e R s m args below meth c H locs cells slots Q (F0 m (pc + 3) ls (.ref (ad 1) :: rest))) : W p l e R s m args below meth c H locs cells slots Q (F0 m pc ls (.ref (ad 101) :: rest)) := va_get (D := D) (ci := 0) (C := R_B) (T := T_B) (N := 10) hc.1 hc.2.1 (hc.2.2.2.2.1.hts args) in_B hc.2.2.2.1 hc.2.2.2.2.2.1 hw.1 1 rfl rfl 1 (by decide) (hc.2.2.2.2.1.hts args _ lk) (fun _ h => h) rfl d k
theorem gnX_B_sizes (hc : Cx p s m args c cc nL own meth ret D cl7 (tyX ca)) (hw : Wd D cl7 (wX ad ca) A s.heap σ H locs) {index : Nat} (lk : Cond.fieldLinkNest own index "ProbeChoice$Board" "sizes" "[I" "ProbeChoice" ∈ lw_gd) (d : decode cc pc = .ok (.getfield index, 3)) (k : W p l e R s m args below meth c H locs cells slots Q (F0 m (pc + 3) ls (.ref (ad 1) :: rest))) : W p l e R s m args below meth c H locs cells slots Q (F0 m pc ls (.ref (ad 101) :: rest)) := va_getN (D := D) (ci := 0) (C := R_B) (T := T_B) (N := 10) hc.1 hc.2.1 (hc.2.2.2.2.1.hts args) in_B hc.2.2.2.1 hc.2.2.2.2.2.1 hw.1 1 rfl rfl 1 (by decide) (hc.2.2.2.2.1.hts args _ lk) (fun _ h => h) rfl d k
theorem ldX_B_sizes (hc : Cx p s m args c cc nL own meth ret D cl7 (tyX ca)) (hw : Wd D cl7 (wX ad ca) A s.heap σ H locs) {i : Int} (d : decode cc pc = .ok (.iaload, 1)) (hi : 0 ≤ i ∧ i < 12) (k : W p l e R s m args below meth c H locs cells slots Q (F0 m (pc + 1) ls (.int (zI (σ 1 i)) :: rest))) : W p l e R s m args below meth c H locs cells slots Q (F0 m pc ls (.int (zI i) :: .ref (ad 1) :: rest)) := by
  refine va_iald (D := D) hc.1 hc.2.1 hc.2.2.2.2.2.1 hw.1 7 1 rfl rfl (zI_in hi.1 hi.2 (by decide)) d ?_
  show W p l e R s m args below meth c H locs cells slots Q (F0 m (pc + 1) ls (.int (zI (σ 1 (((zI i).toNatClampNeg : Nat) : Int))) :: rest))
  rw [zI_ix (n := 12) hi.1 hi.2 (by decide)]
  exact k
theorem stX_B_sizes (hc : Cx p s m args c cc nL own meth ret D cl7 (tyX ca)) (hw : Wd D cl7 (wX ad ca) A s.heap σ H locs) {i v : Int} (d : decode cc pc = .ok (.iastore, 1)) (hi : 0 ≤ i ∧ i < 12) (k : ∀ (H1 : Heap) (locs1 : List Loc), Wd D cl7 (wX ad ca) A s.heap (up σ 1 i v) H1 locs1 → W p l e R s m args below meth c H1 locs1 cells slots Q (F0 m (pc + 1) ls rest)) : W p l e R s m args below meth c H locs cells slots Q (F0 m pc ls (.int (zI v) :: .int (zI i) :: .ref (ad 1) :: rest)) := by
  refine va_iast (D := D) hc.1 hc.2.1 hc.2.2.2.2.2.1 hw.1 hw.2.1 hw.2.2 7 1 rfl rfl (zI_in hi.1 hi.2 (by decide)) d (fun H1 locs1 hP hD hS => ?_)
  rw [updI_z (n := 12) hi.1 hi.2 (by decide)] at hP hD
  exact k H1 locs1 ⟨hP, hD, hS⟩
theorem gX_B_pointsOfNets (hc : Cx p s m args c cc nL own meth ret D cl7 (tyX ca)) (hw : Wd D cl7 (wX ad ca) A s.heap σ H locs) {index : Nat} (lk : Cond.fieldLink own index "ProbeChoice$Board" "pointsOfNets" "[I" ∈ lw_gd) (d : decode cc pc = .ok (.getfield index, 3)) (k : W p l e R s m args below meth c H locs cells slots Q (F0 m (pc + 3) ls (.ref (ad 2) :: rest))) : W p l e R s m args below meth c H locs cells slots Q (F0 m pc ls (.ref (ad 101) :: rest)) := va_get (D := D) (ci := 0) (C := R_B) (T := T_B) (N := 10) hc.1 hc.2.1 (hc.2.2.2.2.1.hts args) in_B hc.2.2.2.1 hc.2.2.2.2.2.1 hw.1 1 rfl rfl 2 (by decide) (hc.2.2.2.2.1.hts args _ lk) (fun _ h => h) rfl d k
theorem gnX_B_pointsOfNets (hc : Cx p s m args c cc nL own meth ret D cl7 (tyX ca)) (hw : Wd D cl7 (wX ad ca) A s.heap σ H locs) {index : Nat} (lk : Cond.fieldLinkNest own index "ProbeChoice$Board" "pointsOfNets" "[I" "ProbeChoice" ∈ lw_gd) (d : decode cc pc = .ok (.getfield index, 3)) (k : W p l e R s m args below meth c H locs cells slots Q (F0 m (pc + 3) ls (.ref (ad 2) :: rest))) : W p l e R s m args below meth c H locs cells slots Q (F0 m pc ls (.ref (ad 101) :: rest)) := va_getN (D := D) (ci := 0) (C := R_B) (T := T_B) (N := 10) hc.1 hc.2.1 (hc.2.2.2.2.1.hts args) in_B hc.2.2.2.1 hc.2.2.2.2.2.1 hw.1 1 rfl rfl 2 (by decide) (hc.2.2.2.2.1.hts args _ lk) (fun _ h => h) rfl d k
theorem ldX_B_pointsOfNets (hc : Cx p s m args c cc nL own meth ret D cl7 (tyX ca)) (hw : Wd D cl7 (wX ad ca) A s.heap σ H locs) {i : Int} (d : decode cc pc = .ok (.iaload, 1)) (hi : 0 ≤ i ∧ i < 36) (k : W p l e R s m args below meth c H locs cells slots Q (F0 m (pc + 1) ls (.int (zI (σ 2 i)) :: rest))) : W p l e R s m args below meth c H locs cells slots Q (F0 m pc ls (.int (zI i) :: .ref (ad 2) :: rest)) := by
  refine va_iald (D := D) hc.1 hc.2.1 hc.2.2.2.2.2.1 hw.1 8 2 rfl rfl (zI_in hi.1 hi.2 (by decide)) d ?_
  show W p l e R s m args below meth c H locs cells slots Q (F0 m (pc + 1) ls (.int (zI (σ 2 (((zI i).toNatClampNeg : Nat) : Int))) :: rest))
  rw [zI_ix (n := 36) hi.1 hi.2 (by decide)]
  exact k
theorem stX_B_pointsOfNets (hc : Cx p s m args c cc nL own meth ret D cl7 (tyX ca)) (hw : Wd D cl7 (wX ad ca) A s.heap σ H locs) {i v : Int} (d : decode cc pc = .ok (.iastore, 1)) (hi : 0 ≤ i ∧ i < 36) (k : ∀ (H1 : Heap) (locs1 : List Loc), Wd D cl7 (wX ad ca) A s.heap (up σ 2 i v) H1 locs1 → W p l e R s m args below meth c H1 locs1 cells slots Q (F0 m (pc + 1) ls rest)) : W p l e R s m args below meth c H locs cells slots Q (F0 m pc ls (.int (zI v) :: .int (zI i) :: .ref (ad 2) :: rest)) := by
  refine va_iast (D := D) hc.1 hc.2.1 hc.2.2.2.2.2.1 hw.1 hw.2.1 hw.2.2 8 2 rfl rfl (zI_in hi.1 hi.2 (by decide)) d (fun H1 locs1 hP hD hS => ?_)
  rw [updI_z (n := 36) hi.1 hi.2 (by decide)] at hP hD
  exact k H1 locs1 ⟨hP, hD, hS⟩
theorem gX_B_xs (hc : Cx p s m args c cc nL own meth ret D cl7 (tyX ca)) (hw : Wd D cl7 (wX ad ca) A s.heap σ H locs) {index : Nat} (lk : Cond.fieldLink own index "ProbeChoice$Board" "xs" "[J" ∈ lw_gd) (d : decode cc pc = .ok (.getfield index, 3)) (k : W p l e R s m args below meth c H locs cells slots Q (F0 m (pc + 3) ls (.ref (ad 3) :: rest))) : W p l e R s m args below meth c H locs cells slots Q (F0 m pc ls (.ref (ad 101) :: rest)) := va_get (D := D) (ci := 0) (C := R_B) (T := T_B) (N := 10) hc.1 hc.2.1 (hc.2.2.2.2.1.hts args) in_B hc.2.2.2.1 hc.2.2.2.2.2.1 hw.1 1 rfl rfl 3 (by decide) (hc.2.2.2.2.1.hts args _ lk) (fun _ h => h) rfl d k
theorem gnX_B_xs (hc : Cx p s m args c cc nL own meth ret D cl7 (tyX ca)) (hw : Wd D cl7 (wX ad ca) A s.heap σ H locs) {index : Nat} (lk : Cond.fieldLinkNest own index "ProbeChoice$Board" "xs" "[J" "ProbeChoice" ∈ lw_gd) (d : decode cc pc = .ok (.getfield index, 3)) (k : W p l e R s m args below meth c H locs cells slots Q (F0 m (pc + 3) ls (.ref (ad 3) :: rest))) : W p l e R s m args below meth c H locs cells slots Q (F0 m pc ls (.ref (ad 101) :: rest)) := va_getN (D := D) (ci := 0) (C := R_B) (T := T_B) (N := 10) hc.1 hc.2.1 (hc.2.2.2.2.1.hts args) in_B hc.2.2.2.1 hc.2.2.2.2.2.1 hw.1 1 rfl rfl 3 (by decide) (hc.2.2.2.2.1.hts args _ lk) (fun _ h => h) rfl d k
theorem ldX_B_xs (hc : Cx p s m args c cc nL own meth ret D cl7 (tyX ca)) (hw : Wd D cl7 (wX ad ca) A s.heap σ H locs) {i : Int} (d : decode cc pc = .ok (.laload, 1)) (hi : 0 ≤ i ∧ i < 36) (k : W p l e R s m args below meth c H locs cells slots Q (F0 m (pc + 1) ls (.long (zL (σ 3 i)) :: rest))) : W p l e R s m args below meth c H locs cells slots Q (F0 m pc ls (.int (zI i) :: .ref (ad 3) :: rest)) := by
  refine va_lald (D := D) hc.1 hc.2.1 hc.2.2.2.2.2.1 hw.1 9 3 rfl rfl (zI_in hi.1 hi.2 (by decide)) d ?_
  show W p l e R s m args below meth c H locs cells slots Q (F0 m (pc + 1) ls (.long (zL (σ 3 (((zI i).toNatClampNeg : Nat) : Int))) :: rest))
  rw [zI_ix (n := 36) hi.1 hi.2 (by decide)]
  exact k
theorem stX_B_xs (hc : Cx p s m args c cc nL own meth ret D cl7 (tyX ca)) (hw : Wd D cl7 (wX ad ca) A s.heap σ H locs) {i v : Int} (d : decode cc pc = .ok (.lastore, 1)) (hi : 0 ≤ i ∧ i < 36) (k : ∀ (H1 : Heap) (locs1 : List Loc), Wd D cl7 (wX ad ca) A s.heap (up σ 3 i v) H1 locs1 → W p l e R s m args below meth c H1 locs1 cells slots Q (F0 m (pc + 1) ls rest)) : W p l e R s m args below meth c H locs cells slots Q (F0 m pc ls (.long (zL v) :: .int (zI i) :: .ref (ad 3) :: rest)) := by
  refine va_last (D := D) hc.1 hc.2.1 hc.2.2.2.2.2.1 hw.1 hw.2.1 hw.2.2 9 3 rfl rfl (zI_in hi.1 hi.2 (by decide)) d (fun H1 locs1 hP hD hS => ?_)
  rw [updL_z (n := 36) hi.1 hi.2 (by decide)] at hP hD
  exact k H1 locs1 ⟨hP, hD, hS⟩
theorem gX_B_ys (hc : Cx p s m args c cc nL own meth ret D cl7 (tyX ca)) (hw : Wd D cl7 (wX ad ca) A s.heap σ H locs) {index : Nat} (lk : Cond.fieldLink own index "ProbeChoice$Board" "ys" "[J" ∈ lw_gd) (d : decode cc pc = .ok (.getfield index, 3)) (k : W p l e R s m args below meth c H locs cells slots Q (F0 m (pc + 3) ls (.ref (ad 4) :: rest))) : W p l e R s m args below meth c H locs cells slots Q (F0 m pc ls (.ref (ad 101) :: rest)) := va_get (D := D) (ci := 0) (C := R_B) (T := T_B) (N := 10) hc.1 hc.2.1 (hc.2.2.2.2.1.hts args) in_B hc.2.2.2.1 hc.2.2.2.2.2.1 hw.1 1 rfl rfl 4 (by decide) (hc.2.2.2.2.1.hts args _ lk) (fun _ h => h) rfl d k
theorem gnX_B_ys (hc : Cx p s m args c cc nL own meth ret D cl7 (tyX ca)) (hw : Wd D cl7 (wX ad ca) A s.heap σ H locs) {index : Nat} (lk : Cond.fieldLinkNest own index "ProbeChoice$Board" "ys" "[J" "ProbeChoice" ∈ lw_gd) (d : decode cc pc = .ok (.getfield index, 3)) (k : W p l e R s m args below meth c H locs cells slots Q (F0 m (pc + 3) ls (.ref (ad 4) :: rest))) : W p l e R s m args below meth c H locs cells slots Q (F0 m pc ls (.ref (ad 101) :: rest)) := va_getN (D := D) (ci := 0) (C := R_B) (T := T_B) (N := 10) hc.1 hc.2.1 (hc.2.2.2.2.1.hts args) in_B hc.2.2.2.1 hc.2.2.2.2.2.1 hw.1 1 rfl rfl 4 (by decide) (hc.2.2.2.2.1.hts args _ lk) (fun _ h => h) rfl d k
theorem ldX_B_ys (hc : Cx p s m args c cc nL own meth ret D cl7 (tyX ca)) (hw : Wd D cl7 (wX ad ca) A s.heap σ H locs) {i : Int} (d : decode cc pc = .ok (.laload, 1)) (hi : 0 ≤ i ∧ i < 36) (k : W p l e R s m args below meth c H locs cells slots Q (F0 m (pc + 1) ls (.long (zL (σ 4 i)) :: rest))) : W p l e R s m args below meth c H locs cells slots Q (F0 m pc ls (.int (zI i) :: .ref (ad 4) :: rest)) := by
  refine va_lald (D := D) hc.1 hc.2.1 hc.2.2.2.2.2.1 hw.1 10 4 rfl rfl (zI_in hi.1 hi.2 (by decide)) d ?_
  show W p l e R s m args below meth c H locs cells slots Q (F0 m (pc + 1) ls (.long (zL (σ 4 (((zI i).toNatClampNeg : Nat) : Int))) :: rest))
  rw [zI_ix (n := 36) hi.1 hi.2 (by decide)]
  exact k
theorem stX_B_ys (hc : Cx p s m args c cc nL own meth ret D cl7 (tyX ca)) (hw : Wd D cl7 (wX ad ca) A s.heap σ H locs) {i v : Int} (d : decode cc pc = .ok (.lastore, 1)) (hi : 0 ≤ i ∧ i < 36) (k : ∀ (H1 : Heap) (locs1 : List Loc), Wd D cl7 (wX ad ca) A s.heap (up σ 4 i v) H1 locs1 → W p l e R s m args below meth c H1 locs1 cells slots Q (F0 m (pc + 1) ls rest)) : W p l e R s m args below meth c H locs cells slots Q (F0 m pc ls (.long (zL v) :: .int (zI i) :: .ref (ad 4) :: rest)) := by
  refine va_last (D := D) hc.1 hc.2.1 hc.2.2.2.2.2.1 hw.1 hw.2.1 hw.2.2 10 4 rfl rfl (zI_in hi.1 hi.2 (by decide)) d (fun H1 locs1 hP hD hS => ?_)
  rw [updL_z (n := 36) hi.1 hi.2 (by decide)] at hP hD
  exact k H1 locs1 ⟨hP, hD, hS⟩
theorem gX_B_radii (hc : Cx p s m args c cc nL own meth ret D cl7 (tyX ca)) (hw : Wd D cl7 (wX ad ca) A s.heap σ H locs) {index : Nat} (lk : Cond.fieldLink own index "ProbeChoice$Board" "radii" "[J" ∈ lw_gd) (d : decode cc pc = .ok (.getfield index, 3)) (k : W p l e R s m args below meth c H locs cells slots Q (F0 m (pc + 3) ls (.ref (ad 5) :: rest))) : W p l e R s m args below meth c H locs cells slots Q (F0 m pc ls (.ref (ad 101) :: rest)) := va_get (D := D) (ci := 0) (C := R_B) (T := T_B) (N := 10) hc.1 hc.2.1 (hc.2.2.2.2.1.hts args) in_B hc.2.2.2.1 hc.2.2.2.2.2.1 hw.1 1 rfl rfl 5 (by decide) (hc.2.2.2.2.1.hts args _ lk) (fun _ h => h) rfl d k
theorem ldX_B_radii (hc : Cx p s m args c cc nL own meth ret D cl7 (tyX ca)) (hw : Wd D cl7 (wX ad ca) A s.heap σ H locs) {i : Int} (d : decode cc pc = .ok (.laload, 1)) (hi : 0 ≤ i ∧ i < 36) (k : W p l e R s m args below meth c H locs cells slots Q (F0 m (pc + 1) ls (.long (zL (σ 5 i)) :: rest))) : W p l e R s m args below meth c H locs cells slots Q (F0 m pc ls (.int (zI i) :: .ref (ad 5) :: rest)) := by
  refine va_lald (D := D) hc.1 hc.2.1 hc.2.2.2.2.2.1 hw.1 11 5 rfl rfl (zI_in hi.1 hi.2 (by decide)) d ?_
  show W p l e R s m args below meth c H locs cells slots Q (F0 m (pc + 1) ls (.long (zL (σ 5 (((zI i).toNatClampNeg : Nat) : Int))) :: rest))
  rw [zI_ix (n := 36) hi.1 hi.2 (by decide)]
  exact k
theorem stX_B_radii (hc : Cx p s m args c cc nL own meth ret D cl7 (tyX ca)) (hw : Wd D cl7 (wX ad ca) A s.heap σ H locs) {i v : Int} (d : decode cc pc = .ok (.lastore, 1)) (hi : 0 ≤ i ∧ i < 36) (k : ∀ (H1 : Heap) (locs1 : List Loc), Wd D cl7 (wX ad ca) A s.heap (up σ 5 i v) H1 locs1 → W p l e R s m args below meth c H1 locs1 cells slots Q (F0 m (pc + 1) ls rest)) : W p l e R s m args below meth c H locs cells slots Q (F0 m pc ls (.long (zL v) :: .int (zI i) :: .ref (ad 5) :: rest)) := by
  refine va_last (D := D) hc.1 hc.2.1 hc.2.2.2.2.2.1 hw.1 hw.2.1 hw.2.2 11 5 rfl rfl (zI_in hi.1 hi.2 (by decide)) d (fun H1 locs1 hP hD hS => ?_)
  rw [updL_z (n := 36) hi.1 hi.2 (by decide)] at hP hD
  exact k H1 locs1 ⟨hP, hD, hS⟩
theorem gX_B_weights (hc : Cx p s m args c cc nL own meth ret D cl7 (tyX ca)) (hw : Wd D cl7 (wX ad ca) A s.heap σ H locs) {index : Nat} (lk : Cond.fieldLink own index "ProbeChoice$Board" "weights" "[J" ∈ lw_gd) (d : decode cc pc = .ok (.getfield index, 3)) (k : W p l e R s m args below meth c H locs cells slots Q (F0 m (pc + 3) ls (.ref (ad 6) :: rest))) : W p l e R s m args below meth c H locs cells slots Q (F0 m pc ls (.ref (ad 101) :: rest)) := va_get (D := D) (ci := 0) (C := R_B) (T := T_B) (N := 10) hc.1 hc.2.1 (hc.2.2.2.2.1.hts args) in_B hc.2.2.2.1 hc.2.2.2.2.2.1 hw.1 1 rfl rfl 6 (by decide) (hc.2.2.2.2.1.hts args _ lk) (fun _ h => h) rfl d k
theorem gnX_B_weights (hc : Cx p s m args c cc nL own meth ret D cl7 (tyX ca)) (hw : Wd D cl7 (wX ad ca) A s.heap σ H locs) {index : Nat} (lk : Cond.fieldLinkNest own index "ProbeChoice$Board" "weights" "[J" "ProbeChoice" ∈ lw_gd) (d : decode cc pc = .ok (.getfield index, 3)) (k : W p l e R s m args below meth c H locs cells slots Q (F0 m (pc + 3) ls (.ref (ad 6) :: rest))) : W p l e R s m args below meth c H locs cells slots Q (F0 m pc ls (.ref (ad 101) :: rest)) := va_getN (D := D) (ci := 0) (C := R_B) (T := T_B) (N := 10) hc.1 hc.2.1 (hc.2.2.2.2.1.hts args) in_B hc.2.2.2.1 hc.2.2.2.2.2.1 hw.1 1 rfl rfl 6 (by decide) (hc.2.2.2.2.1.hts args _ lk) (fun _ h => h) rfl d k
theorem ldX_B_weights (hc : Cx p s m args c cc nL own meth ret D cl7 (tyX ca)) (hw : Wd D cl7 (wX ad ca) A s.heap σ H locs) {i : Int} (d : decode cc pc = .ok (.laload, 1)) (hi : 0 ≤ i ∧ i < 36) (k : W p l e R s m args below meth c H locs cells slots Q (F0 m (pc + 1) ls (.long (zL (σ 6 i)) :: rest))) : W p l e R s m args below meth c H locs cells slots Q (F0 m pc ls (.int (zI i) :: .ref (ad 6) :: rest)) := by
  refine va_lald (D := D) hc.1 hc.2.1 hc.2.2.2.2.2.1 hw.1 12 6 rfl rfl (zI_in hi.1 hi.2 (by decide)) d ?_
  show W p l e R s m args below meth c H locs cells slots Q (F0 m (pc + 1) ls (.long (zL (σ 6 (((zI i).toNatClampNeg : Nat) : Int))) :: rest))
  rw [zI_ix (n := 36) hi.1 hi.2 (by decide)]
  exact k
theorem stX_B_weights (hc : Cx p s m args c cc nL own meth ret D cl7 (tyX ca)) (hw : Wd D cl7 (wX ad ca) A s.heap σ H locs) {i v : Int} (d : decode cc pc = .ok (.lastore, 1)) (hi : 0 ≤ i ∧ i < 36) (k : ∀ (H1 : Heap) (locs1 : List Loc), Wd D cl7 (wX ad ca) A s.heap (up σ 6 i v) H1 locs1 → W p l e R s m args below meth c H1 locs1 cells slots Q (F0 m (pc + 1) ls rest)) : W p l e R s m args below meth c H locs cells slots Q (F0 m pc ls (.long (zL v) :: .int (zI i) :: .ref (ad 6) :: rest)) := by
  refine va_last (D := D) hc.1 hc.2.1 hc.2.2.2.2.2.1 hw.1 hw.2.1 hw.2.2 12 6 rfl rfl (zI_in hi.1 hi.2 (by decide)) d (fun H1 locs1 hP hD hS => ?_)
  rw [updL_z (n := 36) hi.1 hi.2 (by decide)] at hP hD
  exact k H1 locs1 ⟨hP, hD, hS⟩
theorem gX_B_netCount (hc : Cx p s m args c cc nL own meth ret D cl7 (tyX ca)) (hw : Wd D cl7 (wX ad ca) A s.heap σ H locs) {index : Nat} (lk : Cond.fieldLink own index "ProbeChoice$Board" "netCount" "I" ∈ lw_gd) (d : decode cc pc = .ok (.getfield index, 3)) (k : W p l e R s m args below meth c H locs cells slots Q (F0 m (pc + 3) ls (.int (zI (σ 7 0)) :: rest))) : W p l e R s m args below meth c H locs cells slots Q (F0 m pc ls (.ref (ad 101) :: rest)) := va_get (D := D) (ci := 0) (C := R_B) (T := T_B) (N := 10) hc.1 hc.2.1 (hc.2.2.2.2.1.hts args) in_B hc.2.2.2.1 hc.2.2.2.2.2.1 hw.1 1 rfl rfl 7 (by decide) (hc.2.2.2.2.1.hts args _ lk) (fun _ h => h) rfl d k
theorem gnX_B_netCount (hc : Cx p s m args c cc nL own meth ret D cl7 (tyX ca)) (hw : Wd D cl7 (wX ad ca) A s.heap σ H locs) {index : Nat} (lk : Cond.fieldLinkNest own index "ProbeChoice$Board" "netCount" "I" "ProbeChoice" ∈ lw_gd) (d : decode cc pc = .ok (.getfield index, 3)) (k : W p l e R s m args below meth c H locs cells slots Q (F0 m (pc + 3) ls (.int (zI (σ 7 0)) :: rest))) : W p l e R s m args below meth c H locs cells slots Q (F0 m pc ls (.ref (ad 101) :: rest)) := va_getN (D := D) (ci := 0) (C := R_B) (T := T_B) (N := 10) hc.1 hc.2.1 (hc.2.2.2.2.1.hts args) in_B hc.2.2.2.1 hc.2.2.2.2.2.1 hw.1 1 rfl rfl 7 (by decide) (hc.2.2.2.2.1.hts args _ lk) (fun _ h => h) rfl d k
theorem pX_B_netCount (hc : Cx p s m args c cc nL own meth ret D cl7 (tyX ca)) (hw : Wd D cl7 (wX ad ca) A s.heap σ H locs) {index : Nat} {v : Int} (lk : Cond.fieldLink own index "ProbeChoice$Board" "netCount" "I" ∈ lw_gd) (d : decode cc pc = .ok (.putfield index, 3)) (k : ∀ (H1 : Heap) (locs1 : List Loc), Wd D cl7 (wX ad ca) A s.heap (up σ 7 0 v) H1 locs1 → W p l e R s m args below meth c H1 locs1 cells slots Q (F0 m (pc + 3) ls rest)) : W p l e R s m args below meth c H locs cells slots Q (F0 m pc ls (.int (zI v) :: .ref (ad 101) :: rest)) :=
  va_put (D := D) (ci := 0) (C := R_B) (T := T_B) (N := 10) (ty := .int) hc.1 hc.2.1 (hc.2.2.2.2.1.hts args) in_B t_B t_B_ok n_B hc.2.2.2.1 hc.2.2.2.2.2.1 hw.1 hw.2.1 hw.2.2 1 rfl rfl 7 (by decide) (hc.2.2.2.2.1.hts args _ lk) (fun _ h => h) rfl (by decide +kernel) rfl rfl (Nat.le_of_ble_eq_true rfl) d (fun H1 locs1 hP hD hS => k H1 locs1 ⟨hP, hD, hS⟩)
theorem gX_B_pointCount (hc : Cx p s m args c cc nL own meth ret D cl7 (tyX ca)) (hw : Wd D cl7 (wX ad ca) A s.heap σ H locs) {index : Nat} (lk : Cond.fieldLink own index "ProbeChoice$Board" "pointCount" "I" ∈ lw_gd) (d : decode cc pc = .ok (.getfield index, 3)) (k : W p l e R s m args below meth c H locs cells slots Q (F0 m (pc + 3) ls (.int (zI (σ 8 0)) :: rest))) : W p l e R s m args below meth c H locs cells slots Q (F0 m pc ls (.ref (ad 101) :: rest)) := va_get (D := D) (ci := 0) (C := R_B) (T := T_B) (N := 10) hc.1 hc.2.1 (hc.2.2.2.2.1.hts args) in_B hc.2.2.2.1 hc.2.2.2.2.2.1 hw.1 1 rfl rfl 8 (by decide) (hc.2.2.2.2.1.hts args _ lk) (fun _ h => h) rfl d k
theorem pX_B_pointCount (hc : Cx p s m args c cc nL own meth ret D cl7 (tyX ca)) (hw : Wd D cl7 (wX ad ca) A s.heap σ H locs) {index : Nat} {v : Int} (lk : Cond.fieldLink own index "ProbeChoice$Board" "pointCount" "I" ∈ lw_gd) (d : decode cc pc = .ok (.putfield index, 3)) (k : ∀ (H1 : Heap) (locs1 : List Loc), Wd D cl7 (wX ad ca) A s.heap (up σ 8 0 v) H1 locs1 → W p l e R s m args below meth c H1 locs1 cells slots Q (F0 m (pc + 3) ls rest)) : W p l e R s m args below meth c H locs cells slots Q (F0 m pc ls (.int (zI v) :: .ref (ad 101) :: rest)) :=
  va_put (D := D) (ci := 0) (C := R_B) (T := T_B) (N := 10) (ty := .int) hc.1 hc.2.1 (hc.2.2.2.2.1.hts args) in_B t_B t_B_ok n_B hc.2.2.2.1 hc.2.2.2.2.2.1 hw.1 hw.2.1 hw.2.2 1 rfl rfl 8 (by decide) (hc.2.2.2.2.1.hts args _ lk) (fun _ h => h) rfl (by decide +kernel) rfl rfl (Nat.le_of_ble_eq_true rfl) d (fun H1 locs1 hP hD hS => k H1 locs1 ⟨hP, hD, hS⟩)
theorem gX_B_apart (hc : Cx p s m args c cc nL own meth ret D cl7 (tyX ca)) (hw : Wd D cl7 (wX ad ca) A s.heap σ H locs) {index : Nat} (lk : Cond.fieldLink own index "ProbeChoice$Board" "apart" "J" ∈ lw_gd) (d : decode cc pc = .ok (.getfield index, 3)) (k : W p l e R s m args below meth c H locs cells slots Q (F0 m (pc + 3) ls (.long (zL (σ 9 0)) :: rest))) : W p l e R s m args below meth c H locs cells slots Q (F0 m pc ls (.ref (ad 101) :: rest)) := va_get (D := D) (ci := 0) (C := R_B) (T := T_B) (N := 10) hc.1 hc.2.1 (hc.2.2.2.2.1.hts args) in_B hc.2.2.2.1 hc.2.2.2.2.2.1 hw.1 1 rfl rfl 9 (by decide) (hc.2.2.2.2.1.hts args _ lk) (fun _ h => h) rfl d k
theorem pX_B_apart (hc : Cx p s m args c cc nL own meth ret D cl7 (tyX ca)) (hw : Wd D cl7 (wX ad ca) A s.heap σ H locs) {index : Nat} {v : Int} (lk : Cond.fieldLink own index "ProbeChoice$Board" "apart" "J" ∈ lw_gd) (d : decode cc pc = .ok (.putfield index, 3)) (k : ∀ (H1 : Heap) (locs1 : List Loc), Wd D cl7 (wX ad ca) A s.heap (up σ 9 0 v) H1 locs1 → W p l e R s m args below meth c H1 locs1 cells slots Q (F0 m (pc + 3) ls rest)) : W p l e R s m args below meth c H locs cells slots Q (F0 m pc ls (.long (zL v) :: .ref (ad 101) :: rest)) :=
  va_put (D := D) (ci := 0) (C := R_B) (T := T_B) (N := 10) (ty := .long) hc.1 hc.2.1 (hc.2.2.2.2.1.hts args) in_B t_B t_B_ok n_B hc.2.2.2.1 hc.2.2.2.2.2.1 hw.1 hw.2.1 hw.2.2 1 rfl rfl 9 (by decide) (hc.2.2.2.2.1.hts args _ lk) (fun _ h => h) rfl (by decide +kernel) rfl rfl (Nat.le_of_ble_eq_true rfl) d (fun H1 locs1 hP hD hS => k H1 locs1 ⟨hP, hD, hS⟩)
theorem gX_F_probes (hc : Cx p s m args c cc nL own meth ret D cl7 (tyX ca)) (hw : Wd D cl7 (wX ad ca) A s.heap σ H locs) {index : Nat} (lk : Cond.fieldLink own index "ProbeChoice$Fixture" "probes" "[I" ∈ lw_gd) (d : decode cc pc = .ok (.getfield index, 3)) (k : W p l e R s m args below meth c H locs cells slots Q (F0 m (pc + 3) ls (.ref (ad 20) :: rest))) : W p l e R s m args below meth c H locs cells slots Q (F0 m pc ls (.ref (ad 102) :: rest)) := va_get (D := D) (ci := 1) (C := R_F) (T := T_F) (N := 10) hc.1 hc.2.1 (hc.2.2.2.2.1.hts args) in_F hc.2.2.2.1 hc.2.2.2.2.2.1 hw.1 2 rfl rfl 0 (by decide) (hc.2.2.2.2.1.hts args _ lk) (fun _ h => h) rfl d k
theorem gnX_F_probes (hc : Cx p s m args c cc nL own meth ret D cl7 (tyX ca)) (hw : Wd D cl7 (wX ad ca) A s.heap σ H locs) {index : Nat} (lk : Cond.fieldLinkNest own index "ProbeChoice$Fixture" "probes" "[I" "ProbeChoice" ∈ lw_gd) (d : decode cc pc = .ok (.getfield index, 3)) (k : W p l e R s m args below meth c H locs cells slots Q (F0 m (pc + 3) ls (.ref (ad 20) :: rest))) : W p l e R s m args below meth c H locs cells slots Q (F0 m pc ls (.ref (ad 102) :: rest)) := va_getN (D := D) (ci := 1) (C := R_F) (T := T_F) (N := 10) hc.1 hc.2.1 (hc.2.2.2.2.1.hts args) in_F hc.2.2.2.1 hc.2.2.2.2.2.1 hw.1 2 rfl rfl 0 (by decide) (hc.2.2.2.2.1.hts args _ lk) (fun _ h => h) rfl d k
theorem ldX_F_probes (hc : Cx p s m args c cc nL own meth ret D cl7 (tyX ca)) (hw : Wd D cl7 (wX ad ca) A s.heap σ H locs) {i : Int} (d : decode cc pc = .ok (.iaload, 1)) (hi : 0 ≤ i ∧ i < 8) (k : W p l e R s m args below meth c H locs cells slots Q (F0 m (pc + 1) ls (.int (zI (σ 20 i)) :: rest))) : W p l e R s m args below meth c H locs cells slots Q (F0 m pc ls (.int (zI i) :: .ref (ad 20) :: rest)) := by
  refine va_iald (D := D) hc.1 hc.2.1 hc.2.2.2.2.2.1 hw.1 13 7 rfl rfl (zI_in hi.1 hi.2 (by decide)) d ?_
  show W p l e R s m args below meth c H locs cells slots Q (F0 m (pc + 1) ls (.int (zI (σ 20 (((zI i).toNatClampNeg : Nat) : Int))) :: rest))
  rw [zI_ix (n := 8) hi.1 hi.2 (by decide)]
  exact k
theorem stX_F_probes (hc : Cx p s m args c cc nL own meth ret D cl7 (tyX ca)) (hw : Wd D cl7 (wX ad ca) A s.heap σ H locs) {i v : Int} (d : decode cc pc = .ok (.iastore, 1)) (hi : 0 ≤ i ∧ i < 8) (k : ∀ (H1 : Heap) (locs1 : List Loc), Wd D cl7 (wX ad ca) A s.heap (up σ 20 i v) H1 locs1 → W p l e R s m args below meth c H1 locs1 cells slots Q (F0 m (pc + 1) ls rest)) : W p l e R s m args below meth c H locs cells slots Q (F0 m pc ls (.int (zI v) :: .int (zI i) :: .ref (ad 20) :: rest)) := by
  refine va_iast (D := D) hc.1 hc.2.1 hc.2.2.2.2.2.1 hw.1 hw.2.1 hw.2.2 13 7 rfl rfl (zI_in hi.1 hi.2 (by decide)) d (fun H1 locs1 hP hD hS => ?_)
  rw [updI_z (n := 8) hi.1 hi.2 (by decide)] at hP hD
  exact k H1 locs1 ⟨hP, hD, hS⟩
theorem gX_F_left (hc : Cx p s m args c cc nL own meth ret D cl7 (tyX ca)) (hw : Wd D cl7 (wX ad ca) A s.heap σ H locs) {index : Nat} (lk : Cond.fieldLink own index "ProbeChoice$Fixture" "left" "[I" ∈ lw_gd) (d : decode cc pc = .ok (.getfield index, 3)) (k : W p l e R s m args below meth c H locs cells slots Q (F0 m (pc + 3) ls (.ref (ad 21) :: rest))) : W p l e R s m args below meth c H locs cells slots Q (F0 m pc ls (.ref (ad 102) :: rest)) := va_get (D := D) (ci := 1) (C := R_F) (T := T_F) (N := 10) hc.1 hc.2.1 (hc.2.2.2.2.1.hts args) in_F hc.2.2.2.1 hc.2.2.2.2.2.1 hw.1 2 rfl rfl 1 (by decide) (hc.2.2.2.2.1.hts args _ lk) (fun _ h => h) rfl d k
theorem gnX_F_left (hc : Cx p s m args c cc nL own meth ret D cl7 (tyX ca)) (hw : Wd D cl7 (wX ad ca) A s.heap σ H locs) {index : Nat} (lk : Cond.fieldLinkNest own index "ProbeChoice$Fixture" "left" "[I" "ProbeChoice" ∈ lw_gd) (d : decode cc pc = .ok (.getfield index, 3)) (k : W p l e R s m args below meth c H locs cells slots Q (F0 m (pc + 3) ls (.ref (ad 21) :: rest))) : W p l e R s m args below meth c H locs cells slots Q (F0 m pc ls (.ref (ad 102) :: rest)) := va_getN (D := D) (ci := 1) (C := R_F) (T := T_F) (N := 10) hc.1 hc.2.1 (hc.2.2.2.2.1.hts args) in_F hc.2.2.2.1 hc.2.2.2.2.2.1 hw.1 2 rfl rfl 1 (by decide) (hc.2.2.2.2.1.hts args _ lk) (fun _ h => h) rfl d k
theorem ldX_F_left (hc : Cx p s m args c cc nL own meth ret D cl7 (tyX ca)) (hw : Wd D cl7 (wX ad ca) A s.heap σ H locs) {i : Int} (d : decode cc pc = .ok (.iaload, 1)) (hi : 0 ≤ i ∧ i < 8) (k : W p l e R s m args below meth c H locs cells slots Q (F0 m (pc + 1) ls (.int (zI (σ 21 i)) :: rest))) : W p l e R s m args below meth c H locs cells slots Q (F0 m pc ls (.int (zI i) :: .ref (ad 21) :: rest)) := by
  refine va_iald (D := D) hc.1 hc.2.1 hc.2.2.2.2.2.1 hw.1 14 8 rfl rfl (zI_in hi.1 hi.2 (by decide)) d ?_
  show W p l e R s m args below meth c H locs cells slots Q (F0 m (pc + 1) ls (.int (zI (σ 21 (((zI i).toNatClampNeg : Nat) : Int))) :: rest))
  rw [zI_ix (n := 8) hi.1 hi.2 (by decide)]
  exact k
theorem stX_F_left (hc : Cx p s m args c cc nL own meth ret D cl7 (tyX ca)) (hw : Wd D cl7 (wX ad ca) A s.heap σ H locs) {i v : Int} (d : decode cc pc = .ok (.iastore, 1)) (hi : 0 ≤ i ∧ i < 8) (k : ∀ (H1 : Heap) (locs1 : List Loc), Wd D cl7 (wX ad ca) A s.heap (up σ 21 i v) H1 locs1 → W p l e R s m args below meth c H1 locs1 cells slots Q (F0 m (pc + 1) ls rest)) : W p l e R s m args below meth c H locs cells slots Q (F0 m pc ls (.int (zI v) :: .int (zI i) :: .ref (ad 21) :: rest)) := by
  refine va_iast (D := D) hc.1 hc.2.1 hc.2.2.2.2.2.1 hw.1 hw.2.1 hw.2.2 14 8 rfl rfl (zI_in hi.1 hi.2 (by decide)) d (fun H1 locs1 hP hD hS => ?_)
  rw [updI_z (n := 8) hi.1 hi.2 (by decide)] at hP hD
  exact k H1 locs1 ⟨hP, hD, hS⟩
theorem gX_F_flown (hc : Cx p s m args c cc nL own meth ret D cl7 (tyX ca)) (hw : Wd D cl7 (wX ad ca) A s.heap σ H locs) {index : Nat} (lk : Cond.fieldLink own index "ProbeChoice$Fixture" "flown" "[I" ∈ lw_gd) (d : decode cc pc = .ok (.getfield index, 3)) (k : W p l e R s m args below meth c H locs cells slots Q (F0 m (pc + 3) ls (.ref (ad 22) :: rest))) : W p l e R s m args below meth c H locs cells slots Q (F0 m pc ls (.ref (ad 102) :: rest)) := va_get (D := D) (ci := 1) (C := R_F) (T := T_F) (N := 10) hc.1 hc.2.1 (hc.2.2.2.2.1.hts args) in_F hc.2.2.2.1 hc.2.2.2.2.2.1 hw.1 2 rfl rfl 2 (by decide) (hc.2.2.2.2.1.hts args _ lk) (fun _ h => h) rfl d k
theorem gnX_F_flown (hc : Cx p s m args c cc nL own meth ret D cl7 (tyX ca)) (hw : Wd D cl7 (wX ad ca) A s.heap σ H locs) {index : Nat} (lk : Cond.fieldLinkNest own index "ProbeChoice$Fixture" "flown" "[I" "ProbeChoice" ∈ lw_gd) (d : decode cc pc = .ok (.getfield index, 3)) (k : W p l e R s m args below meth c H locs cells slots Q (F0 m (pc + 3) ls (.ref (ad 22) :: rest))) : W p l e R s m args below meth c H locs cells slots Q (F0 m pc ls (.ref (ad 102) :: rest)) := va_getN (D := D) (ci := 1) (C := R_F) (T := T_F) (N := 10) hc.1 hc.2.1 (hc.2.2.2.2.1.hts args) in_F hc.2.2.2.1 hc.2.2.2.2.2.1 hw.1 2 rfl rfl 2 (by decide) (hc.2.2.2.2.1.hts args _ lk) (fun _ h => h) rfl d k
theorem ldX_F_flown (hc : Cx p s m args c cc nL own meth ret D cl7 (tyX ca)) (hw : Wd D cl7 (wX ad ca) A s.heap σ H locs) {i : Int} (d : decode cc pc = .ok (.iaload, 1)) (hi : 0 ≤ i ∧ i < 8) (k : W p l e R s m args below meth c H locs cells slots Q (F0 m (pc + 1) ls (.int (zI (σ 22 i)) :: rest))) : W p l e R s m args below meth c H locs cells slots Q (F0 m pc ls (.int (zI i) :: .ref (ad 22) :: rest)) := by
  refine va_iald (D := D) hc.1 hc.2.1 hc.2.2.2.2.2.1 hw.1 15 9 rfl rfl (zI_in hi.1 hi.2 (by decide)) d ?_
  show W p l e R s m args below meth c H locs cells slots Q (F0 m (pc + 1) ls (.int (zI (σ 22 (((zI i).toNatClampNeg : Nat) : Int))) :: rest))
  rw [zI_ix (n := 8) hi.1 hi.2 (by decide)]
  exact k
theorem stX_F_flown (hc : Cx p s m args c cc nL own meth ret D cl7 (tyX ca)) (hw : Wd D cl7 (wX ad ca) A s.heap σ H locs) {i v : Int} (d : decode cc pc = .ok (.iastore, 1)) (hi : 0 ≤ i ∧ i < 8) (k : ∀ (H1 : Heap) (locs1 : List Loc), Wd D cl7 (wX ad ca) A s.heap (up σ 22 i v) H1 locs1 → W p l e R s m args below meth c H1 locs1 cells slots Q (F0 m (pc + 1) ls rest)) : W p l e R s m args below meth c H locs cells slots Q (F0 m pc ls (.int (zI v) :: .int (zI i) :: .ref (ad 22) :: rest)) := by
  refine va_iast (D := D) hc.1 hc.2.1 hc.2.2.2.2.2.1 hw.1 hw.2.1 hw.2.2 15 9 rfl rfl (zI_in hi.1 hi.2 (by decide)) d (fun H1 locs1 hP hD hS => ?_)
  rw [updI_z (n := 8) hi.1 hi.2 (by decide)] at hP hD
  exact k H1 locs1 ⟨hP, hD, hS⟩
theorem gX_F_sorted (hc : Cx p s m args c cc nL own meth ret D cl7 (tyX ca)) (hw : Wd D cl7 (wX ad ca) A s.heap σ H locs) {index : Nat} (lk : Cond.fieldLink own index "ProbeChoice$Fixture" "sorted" "[I" ∈ lw_gd) (d : decode cc pc = .ok (.getfield index, 3)) (k : W p l e R s m args below meth c H locs cells slots Q (F0 m (pc + 3) ls (.ref (ad 23) :: rest))) : W p l e R s m args below meth c H locs cells slots Q (F0 m pc ls (.ref (ad 102) :: rest)) := va_get (D := D) (ci := 1) (C := R_F) (T := T_F) (N := 10) hc.1 hc.2.1 (hc.2.2.2.2.1.hts args) in_F hc.2.2.2.1 hc.2.2.2.2.2.1 hw.1 2 rfl rfl 3 (by decide) (hc.2.2.2.2.1.hts args _ lk) (fun _ h => h) rfl d k
theorem gnX_F_sorted (hc : Cx p s m args c cc nL own meth ret D cl7 (tyX ca)) (hw : Wd D cl7 (wX ad ca) A s.heap σ H locs) {index : Nat} (lk : Cond.fieldLinkNest own index "ProbeChoice$Fixture" "sorted" "[I" "ProbeChoice" ∈ lw_gd) (d : decode cc pc = .ok (.getfield index, 3)) (k : W p l e R s m args below meth c H locs cells slots Q (F0 m (pc + 3) ls (.ref (ad 23) :: rest))) : W p l e R s m args below meth c H locs cells slots Q (F0 m pc ls (.ref (ad 102) :: rest)) := va_getN (D := D) (ci := 1) (C := R_F) (T := T_F) (N := 10) hc.1 hc.2.1 (hc.2.2.2.2.1.hts args) in_F hc.2.2.2.1 hc.2.2.2.2.2.1 hw.1 2 rfl rfl 3 (by decide) (hc.2.2.2.2.1.hts args _ lk) (fun _ h => h) rfl d k
theorem ldX_F_sorted (hc : Cx p s m args c cc nL own meth ret D cl7 (tyX ca)) (hw : Wd D cl7 (wX ad ca) A s.heap σ H locs) {i : Int} (d : decode cc pc = .ok (.iaload, 1)) (hi : 0 ≤ i ∧ i < 8) (k : W p l e R s m args below meth c H locs cells slots Q (F0 m (pc + 1) ls (.int (zI (σ 23 i)) :: rest))) : W p l e R s m args below meth c H locs cells slots Q (F0 m pc ls (.int (zI i) :: .ref (ad 23) :: rest)) := by
  refine va_iald (D := D) hc.1 hc.2.1 hc.2.2.2.2.2.1 hw.1 16 10 rfl rfl (zI_in hi.1 hi.2 (by decide)) d ?_
  show W p l e R s m args below meth c H locs cells slots Q (F0 m (pc + 1) ls (.int (zI (σ 23 (((zI i).toNatClampNeg : Nat) : Int))) :: rest))
  rw [zI_ix (n := 8) hi.1 hi.2 (by decide)]
  exact k
theorem stX_F_sorted (hc : Cx p s m args c cc nL own meth ret D cl7 (tyX ca)) (hw : Wd D cl7 (wX ad ca) A s.heap σ H locs) {i v : Int} (d : decode cc pc = .ok (.iastore, 1)) (hi : 0 ≤ i ∧ i < 8) (k : ∀ (H1 : Heap) (locs1 : List Loc), Wd D cl7 (wX ad ca) A s.heap (up σ 23 i v) H1 locs1 → W p l e R s m args below meth c H1 locs1 cells slots Q (F0 m (pc + 1) ls rest)) : W p l e R s m args below meth c H locs cells slots Q (F0 m pc ls (.int (zI v) :: .int (zI i) :: .ref (ad 23) :: rest)) := by
  refine va_iast (D := D) hc.1 hc.2.1 hc.2.2.2.2.2.1 hw.1 hw.2.1 hw.2.2 16 10 rfl rfl (zI_in hi.1 hi.2 (by decide)) d (fun H1 locs1 hP hD hS => ?_)
  rw [updI_z (n := 8) hi.1 hi.2 (by decide)] at hP hD
  exact k H1 locs1 ⟨hP, hD, hS⟩
theorem gX_F_letters (hc : Cx p s m args c cc nL own meth ret D cl7 (tyX ca)) (hw : Wd D cl7 (wX ad ca) A s.heap σ H locs) {index : Nat} (lk : Cond.fieldLink own index "ProbeChoice$Fixture" "letters" "[C" ∈ lw_gd) (d : decode cc pc = .ok (.getfield index, 3)) (k : W p l e R s m args below meth c H locs cells slots Q (F0 m (pc + 3) ls (.ref (ad 24) :: rest))) : W p l e R s m args below meth c H locs cells slots Q (F0 m pc ls (.ref (ad 102) :: rest)) := va_get (D := D) (ci := 1) (C := R_F) (T := T_F) (N := 10) hc.1 hc.2.1 (hc.2.2.2.2.1.hts args) in_F hc.2.2.2.1 hc.2.2.2.2.2.1 hw.1 2 rfl rfl 4 (by decide) (hc.2.2.2.2.1.hts args _ lk) (fun _ h => h) rfl d k
theorem ldX_F_letters (hc : Cx p s m args c cc nL own meth ret D cl7 (tyX ca)) (hw : Wd D cl7 (wX ad ca) A s.heap σ H locs) {i : Int} (d : decode cc pc = .ok (.caload, 1)) (hi : 0 ≤ i ∧ i < 176) (k : W p l e R s m args below meth c H locs cells slots Q (F0 m (pc + 1) ls (.int (zI (σ 24 i)) :: rest))) : W p l e R s m args below meth c H locs cells slots Q (F0 m pc ls (.int (zI i) :: .ref (ad 24) :: rest)) := by
  refine va_cald (D := D) hc.1 hc.2.1 hc.2.2.2.2.2.1 hw.1 17 11 rfl rfl (zI_in hi.1 hi.2 (by decide)) d ?_
  show W p l e R s m args below meth c H locs cells slots Q (F0 m (pc + 1) ls (.int (zI (σ 24 (((zI i).toNatClampNeg : Nat) : Int))) :: rest))
  rw [zI_ix (n := 176) hi.1 hi.2 (by decide)]
  exact k
theorem stX_F_letters (hc : Cx p s m args c cc nL own meth ret D cl7 (tyX ca)) (hw : Wd D cl7 (wX ad ca) A s.heap σ H locs) {i v : Int} (d : decode cc pc = .ok (.castore, 1)) (hi : 0 ≤ i ∧ i < 176) (hv : 0 ≤ v ∧ v < 65536) (k : ∀ (H1 : Heap) (locs1 : List Loc), Wd D cl7 (wX ad ca) A s.heap (up σ 24 i v) H1 locs1 → W p l e R s m args below meth c H1 locs1 cells slots Q (F0 m (pc + 1) ls rest)) : W p l e R s m args below meth c H locs cells slots Q (F0 m pc ls (.int (zI v) :: .int (zI i) :: .ref (ad 24) :: rest)) := by
  refine va_cast (D := D) hc.1 hc.2.1 hc.2.2.2.2.2.1 hw.1 hw.2.1 hw.2.2 17 11 rfl rfl (zI_in hi.1 hi.2 (by decide)) d (fun H1 locs1 hP hD hS => ?_)
  rw [nar_c hv.1 hv.2, updI_z (n := 176) hi.1 hi.2 (by decide)] at hP hD
  exact k H1 locs1 ⟨hP, hD, hS⟩
theorem gX_F_probeCount (hc : Cx p s m args c cc nL own meth ret D cl7 (tyX ca)) (hw : Wd D cl7 (wX ad ca) A s.heap σ H locs) {index : Nat} (lk : Cond.fieldLink own index "ProbeChoice$Fixture" "probeCount" "I" ∈ lw_gd) (d : decode cc pc = .ok (.getfield index, 3)) (k : W p l e R s m args below meth c H locs cells slots Q (F0 m (pc + 3) ls (.int (zI (σ 25 0)) :: rest))) : W p l e R s m args below meth c H locs cells slots Q (F0 m pc ls (.ref (ad 102) :: rest)) := va_get (D := D) (ci := 1) (C := R_F) (T := T_F) (N := 10) hc.1 hc.2.1 (hc.2.2.2.2.1.hts args) in_F hc.2.2.2.1 hc.2.2.2.2.2.1 hw.1 2 rfl rfl 5 (by decide) (hc.2.2.2.2.1.hts args _ lk) (fun _ h => h) rfl d k
theorem gnX_F_probeCount (hc : Cx p s m args c cc nL own meth ret D cl7 (tyX ca)) (hw : Wd D cl7 (wX ad ca) A s.heap σ H locs) {index : Nat} (lk : Cond.fieldLinkNest own index "ProbeChoice$Fixture" "probeCount" "I" "ProbeChoice" ∈ lw_gd) (d : decode cc pc = .ok (.getfield index, 3)) (k : W p l e R s m args below meth c H locs cells slots Q (F0 m (pc + 3) ls (.int (zI (σ 25 0)) :: rest))) : W p l e R s m args below meth c H locs cells slots Q (F0 m pc ls (.ref (ad 102) :: rest)) := va_getN (D := D) (ci := 1) (C := R_F) (T := T_F) (N := 10) hc.1 hc.2.1 (hc.2.2.2.2.1.hts args) in_F hc.2.2.2.1 hc.2.2.2.2.2.1 hw.1 2 rfl rfl 5 (by decide) (hc.2.2.2.2.1.hts args _ lk) (fun _ h => h) rfl d k
theorem pX_F_probeCount (hc : Cx p s m args c cc nL own meth ret D cl7 (tyX ca)) (hw : Wd D cl7 (wX ad ca) A s.heap σ H locs) {index : Nat} {v : Int} (lk : Cond.fieldLink own index "ProbeChoice$Fixture" "probeCount" "I" ∈ lw_gd) (d : decode cc pc = .ok (.putfield index, 3)) (k : ∀ (H1 : Heap) (locs1 : List Loc), Wd D cl7 (wX ad ca) A s.heap (up σ 25 0 v) H1 locs1 → W p l e R s m args below meth c H1 locs1 cells slots Q (F0 m (pc + 3) ls rest)) : W p l e R s m args below meth c H locs cells slots Q (F0 m pc ls (.int (zI v) :: .ref (ad 102) :: rest)) :=
  va_put (D := D) (ci := 1) (C := R_F) (T := T_F) (N := 10) (ty := .int) hc.1 hc.2.1 (hc.2.2.2.2.1.hts args) in_F t_F t_F_ok n_F hc.2.2.2.1 hc.2.2.2.2.2.1 hw.1 hw.2.1 hw.2.2 2 rfl rfl 5 (by decide) (hc.2.2.2.2.1.hts args _ lk) (fun _ h => h) rfl (by decide +kernel) rfl rfl (Nat.le_of_ble_eq_true rfl) d (fun H1 locs1 hP hD hS => k H1 locs1 ⟨hP, hD, hS⟩)
theorem gX_F_leftCount (hc : Cx p s m args c cc nL own meth ret D cl7 (tyX ca)) (hw : Wd D cl7 (wX ad ca) A s.heap σ H locs) {index : Nat} (lk : Cond.fieldLink own index "ProbeChoice$Fixture" "leftCount" "I" ∈ lw_gd) (d : decode cc pc = .ok (.getfield index, 3)) (k : W p l e R s m args below meth c H locs cells slots Q (F0 m (pc + 3) ls (.int (zI (σ 26 0)) :: rest))) : W p l e R s m args below meth c H locs cells slots Q (F0 m pc ls (.ref (ad 102) :: rest)) := va_get (D := D) (ci := 1) (C := R_F) (T := T_F) (N := 10) hc.1 hc.2.1 (hc.2.2.2.2.1.hts args) in_F hc.2.2.2.1 hc.2.2.2.2.2.1 hw.1 2 rfl rfl 6 (by decide) (hc.2.2.2.2.1.hts args _ lk) (fun _ h => h) rfl d k
theorem gnX_F_leftCount (hc : Cx p s m args c cc nL own meth ret D cl7 (tyX ca)) (hw : Wd D cl7 (wX ad ca) A s.heap σ H locs) {index : Nat} (lk : Cond.fieldLinkNest own index "ProbeChoice$Fixture" "leftCount" "I" "ProbeChoice" ∈ lw_gd) (d : decode cc pc = .ok (.getfield index, 3)) (k : W p l e R s m args below meth c H locs cells slots Q (F0 m (pc + 3) ls (.int (zI (σ 26 0)) :: rest))) : W p l e R s m args below meth c H locs cells slots Q (F0 m pc ls (.ref (ad 102) :: rest)) := va_getN (D := D) (ci := 1) (C := R_F) (T := T_F) (N := 10) hc.1 hc.2.1 (hc.2.2.2.2.1.hts args) in_F hc.2.2.2.1 hc.2.2.2.2.2.1 hw.1 2 rfl rfl 6 (by decide) (hc.2.2.2.2.1.hts args _ lk) (fun _ h => h) rfl d k
theorem pX_F_leftCount (hc : Cx p s m args c cc nL own meth ret D cl7 (tyX ca)) (hw : Wd D cl7 (wX ad ca) A s.heap σ H locs) {index : Nat} {v : Int} (lk : Cond.fieldLink own index "ProbeChoice$Fixture" "leftCount" "I" ∈ lw_gd) (d : decode cc pc = .ok (.putfield index, 3)) (k : ∀ (H1 : Heap) (locs1 : List Loc), Wd D cl7 (wX ad ca) A s.heap (up σ 26 0 v) H1 locs1 → W p l e R s m args below meth c H1 locs1 cells slots Q (F0 m (pc + 3) ls rest)) : W p l e R s m args below meth c H locs cells slots Q (F0 m pc ls (.int (zI v) :: .ref (ad 102) :: rest)) :=
  va_put (D := D) (ci := 1) (C := R_F) (T := T_F) (N := 10) (ty := .int) hc.1 hc.2.1 (hc.2.2.2.2.1.hts args) in_F t_F t_F_ok n_F hc.2.2.2.1 hc.2.2.2.2.2.1 hw.1 hw.2.1 hw.2.2 2 rfl rfl 6 (by decide) (hc.2.2.2.2.1.hts args _ lk) (fun _ h => h) rfl (by decide +kernel) rfl rfl (Nat.le_of_ble_eq_true rfl) d (fun H1 locs1 hP hD hS => k H1 locs1 ⟨hP, hD, hS⟩)
theorem gX_F_length (hc : Cx p s m args c cc nL own meth ret D cl7 (tyX ca)) (hw : Wd D cl7 (wX ad ca) A s.heap σ H locs) {index : Nat} (lk : Cond.fieldLink own index "ProbeChoice$Fixture" "length" "I" ∈ lw_gd) (d : decode cc pc = .ok (.getfield index, 3)) (k : W p l e R s m args below meth c H locs cells slots Q (F0 m (pc + 3) ls (.int (zI (σ 27 0)) :: rest))) : W p l e R s m args below meth c H locs cells slots Q (F0 m pc ls (.ref (ad 102) :: rest)) := va_get (D := D) (ci := 1) (C := R_F) (T := T_F) (N := 10) hc.1 hc.2.1 (hc.2.2.2.2.1.hts args) in_F hc.2.2.2.1 hc.2.2.2.2.2.1 hw.1 2 rfl rfl 7 (by decide) (hc.2.2.2.2.1.hts args _ lk) (fun _ h => h) rfl d k
theorem pX_F_length (hc : Cx p s m args c cc nL own meth ret D cl7 (tyX ca)) (hw : Wd D cl7 (wX ad ca) A s.heap σ H locs) {index : Nat} {v : Int} (lk : Cond.fieldLink own index "ProbeChoice$Fixture" "length" "I" ∈ lw_gd) (d : decode cc pc = .ok (.putfield index, 3)) (k : ∀ (H1 : Heap) (locs1 : List Loc), Wd D cl7 (wX ad ca) A s.heap (up σ 27 0 v) H1 locs1 → W p l e R s m args below meth c H1 locs1 cells slots Q (F0 m (pc + 3) ls rest)) : W p l e R s m args below meth c H locs cells slots Q (F0 m pc ls (.int (zI v) :: .ref (ad 102) :: rest)) :=
  va_put (D := D) (ci := 1) (C := R_F) (T := T_F) (N := 10) (ty := .int) hc.1 hc.2.1 (hc.2.2.2.2.1.hts args) in_F t_F t_F_ok n_F hc.2.2.2.1 hc.2.2.2.2.2.1 hw.1 hw.2.1 hw.2.2 2 rfl rfl 7 (by decide) (hc.2.2.2.2.1.hts args _ lk) (fun _ h => h) rfl (by decide +kernel) rfl rfl (Nat.le_of_ble_eq_true rfl) d (fun H1 locs1 hP hD hS => k H1 locs1 ⟨hP, hD, hS⟩)
theorem gX_F_flightTime (hc : Cx p s m args c cc nL own meth ret D cl7 (tyX ca)) (hw : Wd D cl7 (wX ad ca) A s.heap σ H locs) {index : Nat} (lk : Cond.fieldLink own index "ProbeChoice$Fixture" "flightTime" "J" ∈ lw_gd) (d : decode cc pc = .ok (.getfield index, 3)) (k : W p l e R s m args below meth c H locs cells slots Q (F0 m (pc + 3) ls (.long (zL (σ 28 0)) :: rest))) : W p l e R s m args below meth c H locs cells slots Q (F0 m pc ls (.ref (ad 102) :: rest)) := va_get (D := D) (ci := 1) (C := R_F) (T := T_F) (N := 10) hc.1 hc.2.1 (hc.2.2.2.2.1.hts args) in_F hc.2.2.2.1 hc.2.2.2.2.2.1 hw.1 2 rfl rfl 8 (by decide) (hc.2.2.2.2.1.hts args _ lk) (fun _ h => h) rfl d k
theorem gnX_F_flightTime (hc : Cx p s m args c cc nL own meth ret D cl7 (tyX ca)) (hw : Wd D cl7 (wX ad ca) A s.heap σ H locs) {index : Nat} (lk : Cond.fieldLinkNest own index "ProbeChoice$Fixture" "flightTime" "J" "ProbeChoice" ∈ lw_gd) (d : decode cc pc = .ok (.getfield index, 3)) (k : W p l e R s m args below meth c H locs cells slots Q (F0 m (pc + 3) ls (.long (zL (σ 28 0)) :: rest))) : W p l e R s m args below meth c H locs cells slots Q (F0 m pc ls (.ref (ad 102) :: rest)) := va_getN (D := D) (ci := 1) (C := R_F) (T := T_F) (N := 10) hc.1 hc.2.1 (hc.2.2.2.2.1.hts args) in_F hc.2.2.2.1 hc.2.2.2.2.2.1 hw.1 2 rfl rfl 8 (by decide) (hc.2.2.2.2.1.hts args _ lk) (fun _ h => h) rfl d k
theorem pX_F_flightTime (hc : Cx p s m args c cc nL own meth ret D cl7 (tyX ca)) (hw : Wd D cl7 (wX ad ca) A s.heap σ H locs) {index : Nat} {v : Int} (lk : Cond.fieldLink own index "ProbeChoice$Fixture" "flightTime" "J" ∈ lw_gd) (d : decode cc pc = .ok (.putfield index, 3)) (k : ∀ (H1 : Heap) (locs1 : List Loc), Wd D cl7 (wX ad ca) A s.heap (up σ 28 0 v) H1 locs1 → W p l e R s m args below meth c H1 locs1 cells slots Q (F0 m (pc + 3) ls rest)) : W p l e R s m args below meth c H locs cells slots Q (F0 m pc ls (.long (zL v) :: .ref (ad 102) :: rest)) :=
  va_put (D := D) (ci := 1) (C := R_F) (T := T_F) (N := 10) (ty := .long) hc.1 hc.2.1 (hc.2.2.2.2.1.hts args) in_F t_F t_F_ok n_F hc.2.2.2.1 hc.2.2.2.2.2.1 hw.1 hw.2.1 hw.2.2 2 rfl rfl 8 (by decide) (hc.2.2.2.2.1.hts args _ lk) (fun _ h => h) rfl (by decide +kernel) rfl rfl (Nat.le_of_ble_eq_true rfl) d (fun H1 locs1 hP hD hS => k H1 locs1 ⟨hP, hD, hS⟩)
theorem gX_F_sawAll (hc : Cx p s m args c cc nL own meth ret D cl7 (tyX ca)) (hw : Wd D cl7 (wX ad ca) A s.heap σ H locs) {index : Nat} (lk : Cond.fieldLink own index "ProbeChoice$Fixture" "sawAll" "Z" ∈ lw_gd) (d : decode cc pc = .ok (.getfield index, 3)) (k : W p l e R s m args below meth c H locs cells slots Q (F0 m (pc + 3) ls (.int (zI (σ 29 0)) :: rest))) : W p l e R s m args below meth c H locs cells slots Q (F0 m pc ls (.ref (ad 102) :: rest)) := va_get (D := D) (ci := 1) (C := R_F) (T := T_F) (N := 10) hc.1 hc.2.1 (hc.2.2.2.2.1.hts args) in_F hc.2.2.2.1 hc.2.2.2.2.2.1 hw.1 2 rfl rfl 9 (by decide) (hc.2.2.2.2.1.hts args _ lk) (fun _ h => h) rfl d k
theorem gnX_F_sawAll (hc : Cx p s m args c cc nL own meth ret D cl7 (tyX ca)) (hw : Wd D cl7 (wX ad ca) A s.heap σ H locs) {index : Nat} (lk : Cond.fieldLinkNest own index "ProbeChoice$Fixture" "sawAll" "Z" "ProbeChoice" ∈ lw_gd) (d : decode cc pc = .ok (.getfield index, 3)) (k : W p l e R s m args below meth c H locs cells slots Q (F0 m (pc + 3) ls (.int (zI (σ 29 0)) :: rest))) : W p l e R s m args below meth c H locs cells slots Q (F0 m pc ls (.ref (ad 102) :: rest)) := va_getN (D := D) (ci := 1) (C := R_F) (T := T_F) (N := 10) hc.1 hc.2.1 (hc.2.2.2.2.1.hts args) in_F hc.2.2.2.1 hc.2.2.2.2.2.1 hw.1 2 rfl rfl 9 (by decide) (hc.2.2.2.2.1.hts args _ lk) (fun _ h => h) rfl d k
theorem pX_F_sawAll (hc : Cx p s m args c cc nL own meth ret D cl7 (tyX ca)) (hw : Wd D cl7 (wX ad ca) A s.heap σ H locs) {index : Nat} {v : Int} (lk : Cond.fieldLink own index "ProbeChoice$Fixture" "sawAll" "Z" ∈ lw_gd) (d : decode cc pc = .ok (.putfield index, 3)) (h01 : v = 0 ∨ v = 1) (k : ∀ (H1 : Heap) (locs1 : List Loc), Wd D cl7 (wX ad ca) A s.heap (up σ 29 0 v) H1 locs1 → W p l e R s m args below meth c H1 locs1 cells slots Q (F0 m (pc + 3) ls rest)) : W p l e R s m args below meth c H locs cells slots Q (F0 m pc ls (.int (zI v) :: .ref (ad 102) :: rest)) :=
  va_put (D := D) (ci := 1) (C := R_F) (T := T_F) (N := 10) (ty := .boolean) hc.1 hc.2.1 (hc.2.2.2.2.1.hts args) in_F t_F t_F_ok n_F hc.2.2.2.1 hc.2.2.2.2.2.1 hw.1 hw.2.1 hw.2.2 2 rfl rfl 9 (by decide) (hc.2.2.2.2.1.hts args _ lk) (fun _ h => h) rfl (by decide +kernel) (by rcases h01 with rfl | rfl <;> decide) (by rcases h01 with rfl | rfl <;> decide) (Nat.le_of_ble_eq_true rfl) d (fun H1 locs1 hP hD hS => k H1 locs1 ⟨hP, hD, hS⟩)
theorem gX_P_counts (hc : Cx p s m args c cc nL own meth ret D cl7 (tyX ca)) (hw : Wd D cl7 (wX ad ca) A s.heap σ H locs) {index : Nat} (lk : Cond.fieldLink own index "ProbeChoice$Parts" "counts" "[I" ∈ lw_gd) (d : decode cc pc = .ok (.getfield index, 3)) (k : W p l e R s m args below meth c H locs cells slots Q (F0 m (pc + 3) ls (.ref (ad 30) :: rest))) : W p l e R s m args below meth c H locs cells slots Q (F0 m pc ls (.ref (ad 103) :: rest)) := va_get (D := D) (ci := 2) (C := R_P) (T := T_P) (N := 4) hc.1 hc.2.1 (hc.2.2.2.2.1.hts args) in_P hc.2.2.2.1 hc.2.2.2.2.2.1 hw.1 3 rfl rfl 0 (by decide) (hc.2.2.2.2.1.hts args _ lk) (fun _ h => h) rfl d k
theorem ldX_P_counts (hc : Cx p s m args c cc nL own meth ret D cl7 (tyX ca)) (hw : Wd D cl7 (wX ad ca) A s.heap σ H locs) {i : Int} (d : decode cc pc = .ok (.iaload, 1)) (hi : 0 ≤ i ∧ i < 144) (k : W p l e R s m args below meth c H locs cells slots Q (F0 m (pc + 1) ls (.int (zI (σ 30 i)) :: rest))) : W p l e R s m args below meth c H locs cells slots Q (F0 m pc ls (.int (zI i) :: .ref (ad 30) :: rest)) := by
  refine va_iald (D := D) hc.1 hc.2.1 hc.2.2.2.2.2.1 hw.1 18 12 rfl rfl (zI_in hi.1 hi.2 (by decide)) d ?_
  show W p l e R s m args below meth c H locs cells slots Q (F0 m (pc + 1) ls (.int (zI (σ 30 (((zI i).toNatClampNeg : Nat) : Int))) :: rest))
  rw [zI_ix (n := 144) hi.1 hi.2 (by decide)]
  exact k
theorem stX_P_counts (hc : Cx p s m args c cc nL own meth ret D cl7 (tyX ca)) (hw : Wd D cl7 (wX ad ca) A s.heap σ H locs) {i v : Int} (d : decode cc pc = .ok (.iastore, 1)) (hi : 0 ≤ i ∧ i < 144) (k : ∀ (H1 : Heap) (locs1 : List Loc), Wd D cl7 (wX ad ca) A s.heap (up σ 30 i v) H1 locs1 → W p l e R s m args below meth c H1 locs1 cells slots Q (F0 m (pc + 1) ls rest)) : W p l e R s m args below meth c H locs cells slots Q (F0 m pc ls (.int (zI v) :: .int (zI i) :: .ref (ad 30) :: rest)) := by
  refine va_iast (D := D) hc.1 hc.2.1 hc.2.2.2.2.2.1 hw.1 hw.2.1 hw.2.2 18 12 rfl rfl (zI_in hi.1 hi.2 (by decide)) d (fun H1 locs1 hP hD hS => ?_)
  rw [updI_z (n := 144) hi.1 hi.2 (by decide)] at hP hD
  exact k H1 locs1 ⟨hP, hD, hS⟩
theorem gX_P_joined (hc : Cx p s m args c cc nL own meth ret D cl7 (tyX ca)) (hw : Wd D cl7 (wX ad ca) A s.heap σ H locs) {index : Nat} (lk : Cond.fieldLink own index "ProbeChoice$Parts" "joined" "[I" ∈ lw_gd) (d : decode cc pc = .ok (.getfield index, 3)) (k : W p l e R s m args below meth c H locs cells slots Q (F0 m (pc + 3) ls (.ref (ad 31) :: rest))) : W p l e R s m args below meth c H locs cells slots Q (F0 m pc ls (.ref (ad 103) :: rest)) := va_get (D := D) (ci := 2) (C := R_P) (T := T_P) (N := 4) hc.1 hc.2.1 (hc.2.2.2.2.1.hts args) in_P hc.2.2.2.1 hc.2.2.2.2.2.1 hw.1 3 rfl rfl 1 (by decide) (hc.2.2.2.2.1.hts args _ lk) (fun _ h => h) rfl d k
theorem ldX_P_joined (hc : Cx p s m args c cc nL own meth ret D cl7 (tyX ca)) (hw : Wd D cl7 (wX ad ca) A s.heap σ H locs) {i : Int} (d : decode cc pc = .ok (.iaload, 1)) (hi : 0 ≤ i ∧ i < 12) (k : W p l e R s m args below meth c H locs cells slots Q (F0 m (pc + 1) ls (.int (zI (σ 31 i)) :: rest))) : W p l e R s m args below meth c H locs cells slots Q (F0 m pc ls (.int (zI i) :: .ref (ad 31) :: rest)) := by
  refine va_iald (D := D) hc.1 hc.2.1 hc.2.2.2.2.2.1 hw.1 19 13 rfl rfl (zI_in hi.1 hi.2 (by decide)) d ?_
  show W p l e R s m args below meth c H locs cells slots Q (F0 m (pc + 1) ls (.int (zI (σ 31 (((zI i).toNatClampNeg : Nat) : Int))) :: rest))
  rw [zI_ix (n := 12) hi.1 hi.2 (by decide)]
  exact k
theorem stX_P_joined (hc : Cx p s m args c cc nL own meth ret D cl7 (tyX ca)) (hw : Wd D cl7 (wX ad ca) A s.heap σ H locs) {i v : Int} (d : decode cc pc = .ok (.iastore, 1)) (hi : 0 ≤ i ∧ i < 12) (k : ∀ (H1 : Heap) (locs1 : List Loc), Wd D cl7 (wX ad ca) A s.heap (up σ 31 i v) H1 locs1 → W p l e R s m args below meth c H1 locs1 cells slots Q (F0 m (pc + 1) ls rest)) : W p l e R s m args below meth c H locs cells slots Q (F0 m pc ls (.int (zI v) :: .int (zI i) :: .ref (ad 31) :: rest)) := by
  refine va_iast (D := D) hc.1 hc.2.1 hc.2.2.2.2.2.1 hw.1 hw.2.1 hw.2.2 19 13 rfl rfl (zI_in hi.1 hi.2 (by decide)) d (fun H1 locs1 hP hD hS => ?_)
  rw [updI_z (n := 12) hi.1 hi.2 (by decide)] at hP hD
  exact k H1 locs1 ⟨hP, hD, hS⟩
theorem gX_P_above (hc : Cx p s m args c cc nL own meth ret D cl7 (tyX ca)) (hw : Wd D cl7 (wX ad ca) A s.heap σ H locs) {index : Nat} (lk : Cond.fieldLink own index "ProbeChoice$Parts" "above" "[[J" ∈ lw_gd) (d : decode cc pc = .ok (.getfield index, 3)) (k : W p l e R s m args below meth c H locs cells slots Q (F0 m (pc + 3) ls (.ref (ad 36) :: rest))) : W p l e R s m args below meth c H locs cells slots Q (F0 m pc ls (.ref (ad 103) :: rest)) := va_get (D := D) (ci := 2) (C := R_P) (T := T_P) (N := 4) hc.1 hc.2.1 (hc.2.2.2.2.1.hts args) in_P hc.2.2.2.1 hc.2.2.2.2.2.1 hw.1 3 rfl rfl 2 (by decide) (hc.2.2.2.2.1.hts args _ lk) (fun _ h => h) rfl d k
theorem ldX_P_above0 (hc : Cx p s m args c cc nL own meth ret D cl7 (tyX ca)) (hw : Wd D cl7 (wX ad ca) A s.heap σ H locs) {i : Int} (d : decode cc pc = .ok (.laload, 1)) (hi : 0 ≤ i ∧ i < 144) (k : W p l e R s m args below meth c H locs cells slots Q (F0 m (pc + 1) ls (.long (zL (σ 32 i)) :: rest))) : W p l e R s m args below meth c H locs cells slots Q (F0 m pc ls (.int (zI i) :: .ref (ad 32) :: rest)) := by
  refine va_lald (D := D) hc.1 hc.2.1 hc.2.2.2.2.2.1 hw.1 21 15 rfl rfl (zI_in hi.1 hi.2 (by decide)) d ?_
  show W p l e R s m args below meth c H locs cells slots Q (F0 m (pc + 1) ls (.long (zL (σ 32 (((zI i).toNatClampNeg : Nat) : Int))) :: rest))
  rw [zI_ix (n := 144) hi.1 hi.2 (by decide)]
  exact k
theorem stX_P_above0 (hc : Cx p s m args c cc nL own meth ret D cl7 (tyX ca)) (hw : Wd D cl7 (wX ad ca) A s.heap σ H locs) {i v : Int} (d : decode cc pc = .ok (.lastore, 1)) (hi : 0 ≤ i ∧ i < 144) (k : ∀ (H1 : Heap) (locs1 : List Loc), Wd D cl7 (wX ad ca) A s.heap (up σ 32 i v) H1 locs1 → W p l e R s m args below meth c H1 locs1 cells slots Q (F0 m (pc + 1) ls rest)) : W p l e R s m args below meth c H locs cells slots Q (F0 m pc ls (.long (zL v) :: .int (zI i) :: .ref (ad 32) :: rest)) := by
  refine va_last (D := D) hc.1 hc.2.1 hc.2.2.2.2.2.1 hw.1 hw.2.1 hw.2.2 21 15 rfl rfl (zI_in hi.1 hi.2 (by decide)) d (fun H1 locs1 hP hD hS => ?_)
  rw [updL_z (n := 144) hi.1 hi.2 (by decide)] at hP hD
  exact k H1 locs1 ⟨hP, hD, hS⟩
theorem ldX_P_above1 (hc : Cx p s m args c cc nL own meth ret D cl7 (tyX ca)) (hw : Wd D cl7 (wX ad ca) A s.heap σ H locs) {i : Int} (d : decode cc pc = .ok (.laload, 1)) (hi : 0 ≤ i ∧ i < 144) (k : W p l e R s m args below meth c H locs cells slots Q (F0 m (pc + 1) ls (.long (zL (σ 33 i)) :: rest))) : W p l e R s m args below meth c H locs cells slots Q (F0 m pc ls (.int (zI i) :: .ref (ad 33) :: rest)) := by
  refine va_lald (D := D) hc.1 hc.2.1 hc.2.2.2.2.2.1 hw.1 22 16 rfl rfl (zI_in hi.1 hi.2 (by decide)) d ?_
  show W p l e R s m args below meth c H locs cells slots Q (F0 m (pc + 1) ls (.long (zL (σ 33 (((zI i).toNatClampNeg : Nat) : Int))) :: rest))
  rw [zI_ix (n := 144) hi.1 hi.2 (by decide)]
  exact k
theorem stX_P_above1 (hc : Cx p s m args c cc nL own meth ret D cl7 (tyX ca)) (hw : Wd D cl7 (wX ad ca) A s.heap σ H locs) {i v : Int} (d : decode cc pc = .ok (.lastore, 1)) (hi : 0 ≤ i ∧ i < 144) (k : ∀ (H1 : Heap) (locs1 : List Loc), Wd D cl7 (wX ad ca) A s.heap (up σ 33 i v) H1 locs1 → W p l e R s m args below meth c H1 locs1 cells slots Q (F0 m (pc + 1) ls rest)) : W p l e R s m args below meth c H locs cells slots Q (F0 m pc ls (.long (zL v) :: .int (zI i) :: .ref (ad 33) :: rest)) := by
  refine va_last (D := D) hc.1 hc.2.1 hc.2.2.2.2.2.1 hw.1 hw.2.1 hw.2.2 22 16 rfl rfl (zI_in hi.1 hi.2 (by decide)) d (fun H1 locs1 hP hD hS => ?_)
  rw [updL_z (n := 144) hi.1 hi.2 (by decide)] at hP hD
  exact k H1 locs1 ⟨hP, hD, hS⟩
theorem laX_P_above0 (hc : Cx p s m args c cc nL own meth ret D cl7 (tyX ca)) (hw : Wd D cl7 (wX ad ca) A s.heap σ H locs) (d : decode cc pc = .ok (.aaload, 1)) (k : W p l e R s m args below meth c H locs cells slots Q (F0 m (pc + 1) ls (.ref (ad 32) :: rest))) : W p l e R s m args below meth c H locs cells slots Q (F0 m pc ls (.int (zI 0) :: .ref (ad 36) :: rest)) :=
  aldA (D := D) hc.1 hc.2.1 hc.2.2.2.2.2.1 hw.1 20 14 rfl rfl (zI_in (by decide) (by decide) (by decide)) d k
theorem laX_P_above1 (hc : Cx p s m args c cc nL own meth ret D cl7 (tyX ca)) (hw : Wd D cl7 (wX ad ca) A s.heap σ H locs) (d : decode cc pc = .ok (.aaload, 1)) (k : W p l e R s m args below meth c H locs cells slots Q (F0 m (pc + 1) ls (.ref (ad 33) :: rest))) : W p l e R s m args below meth c H locs cells slots Q (F0 m pc ls (.int (zI 1) :: .ref (ad 36) :: rest)) :=
  aldA (D := D) hc.1 hc.2.1 hc.2.2.2.2.2.1 hw.1 20 14 rfl rfl (zI_in (by decide) (by decide) (by decide)) d k
theorem gX_P_below (hc : Cx p s m args c cc nL own meth ret D cl7 (tyX ca)) (hw : Wd D cl7 (wX ad ca) A s.heap σ H locs) {index : Nat} (lk : Cond.fieldLink own index "ProbeChoice$Parts" "below" "[[J" ∈ lw_gd) (d : decode cc pc = .ok (.getfield index, 3)) (k : W p l e R s m args below meth c H locs cells slots Q (F0 m (pc + 3) ls (.ref (ad 37) :: rest))) : W p l e R s m args below meth c H locs cells slots Q (F0 m pc ls (.ref (ad 103) :: rest)) := va_get (D := D) (ci := 2) (C := R_P) (T := T_P) (N := 4) hc.1 hc.2.1 (hc.2.2.2.2.1.hts args) in_P hc.2.2.2.1 hc.2.2.2.2.2.1 hw.1 3 rfl rfl 3 (by decide) (hc.2.2.2.2.1.hts args _ lk) (fun _ h => h) rfl d k
theorem ldX_P_below0 (hc : Cx p s m args c cc nL own meth ret D cl7 (tyX ca)) (hw : Wd D cl7 (wX ad ca) A s.heap σ H locs) {i : Int} (d : decode cc pc = .ok (.laload, 1)) (hi : 0 ≤ i ∧ i < 144) (k : W p l e R s m args below meth c H locs cells slots Q (F0 m (pc + 1) ls (.long (zL (σ 34 i)) :: rest))) : W p l e R s m args below meth c H locs cells slots Q (F0 m pc ls (.int (zI i) :: .ref (ad 34) :: rest)) := by
  refine va_lald (D := D) hc.1 hc.2.1 hc.2.2.2.2.2.1 hw.1 24 18 rfl rfl (zI_in hi.1 hi.2 (by decide)) d ?_
  show W p l e R s m args below meth c H locs cells slots Q (F0 m (pc + 1) ls (.long (zL (σ 34 (((zI i).toNatClampNeg : Nat) : Int))) :: rest))
  rw [zI_ix (n := 144) hi.1 hi.2 (by decide)]
  exact k
theorem stX_P_below0 (hc : Cx p s m args c cc nL own meth ret D cl7 (tyX ca)) (hw : Wd D cl7 (wX ad ca) A s.heap σ H locs) {i v : Int} (d : decode cc pc = .ok (.lastore, 1)) (hi : 0 ≤ i ∧ i < 144) (k : ∀ (H1 : Heap) (locs1 : List Loc), Wd D cl7 (wX ad ca) A s.heap (up σ 34 i v) H1 locs1 → W p l e R s m args below meth c H1 locs1 cells slots Q (F0 m (pc + 1) ls rest)) : W p l e R s m args below meth c H locs cells slots Q (F0 m pc ls (.long (zL v) :: .int (zI i) :: .ref (ad 34) :: rest)) := by
  refine va_last (D := D) hc.1 hc.2.1 hc.2.2.2.2.2.1 hw.1 hw.2.1 hw.2.2 24 18 rfl rfl (zI_in hi.1 hi.2 (by decide)) d (fun H1 locs1 hP hD hS => ?_)
  rw [updL_z (n := 144) hi.1 hi.2 (by decide)] at hP hD
  exact k H1 locs1 ⟨hP, hD, hS⟩
theorem ldX_P_below1 (hc : Cx p s m args c cc nL own meth ret D cl7 (tyX ca)) (hw : Wd D cl7 (wX ad ca) A s.heap σ H locs) {i : Int} (d : decode cc pc = .ok (.laload, 1)) (hi : 0 ≤ i ∧ i < 144) (k : W p l e R s m args below meth c H locs cells slots Q (F0 m (pc + 1) ls (.long (zL (σ 35 i)) :: rest))) : W p l e R s m args below meth c H locs cells slots Q (F0 m pc ls (.int (zI i) :: .ref (ad 35) :: rest)) := by
  refine va_lald (D := D) hc.1 hc.2.1 hc.2.2.2.2.2.1 hw.1 25 19 rfl rfl (zI_in hi.1 hi.2 (by decide)) d ?_
  show W p l e R s m args below meth c H locs cells slots Q (F0 m (pc + 1) ls (.long (zL (σ 35 (((zI i).toNatClampNeg : Nat) : Int))) :: rest))
  rw [zI_ix (n := 144) hi.1 hi.2 (by decide)]
  exact k
theorem stX_P_below1 (hc : Cx p s m args c cc nL own meth ret D cl7 (tyX ca)) (hw : Wd D cl7 (wX ad ca) A s.heap σ H locs) {i v : Int} (d : decode cc pc = .ok (.lastore, 1)) (hi : 0 ≤ i ∧ i < 144) (k : ∀ (H1 : Heap) (locs1 : List Loc), Wd D cl7 (wX ad ca) A s.heap (up σ 35 i v) H1 locs1 → W p l e R s m args below meth c H1 locs1 cells slots Q (F0 m (pc + 1) ls rest)) : W p l e R s m args below meth c H locs cells slots Q (F0 m pc ls (.long (zL v) :: .int (zI i) :: .ref (ad 35) :: rest)) := by
  refine va_last (D := D) hc.1 hc.2.1 hc.2.2.2.2.2.1 hw.1 hw.2.1 hw.2.2 25 19 rfl rfl (zI_in hi.1 hi.2 (by decide)) d (fun H1 locs1 hP hD hS => ?_)
  rw [updL_z (n := 144) hi.1 hi.2 (by decide)] at hP hD
  exact k H1 locs1 ⟨hP, hD, hS⟩
theorem laX_P_below0 (hc : Cx p s m args c cc nL own meth ret D cl7 (tyX ca)) (hw : Wd D cl7 (wX ad ca) A s.heap σ H locs) (d : decode cc pc = .ok (.aaload, 1)) (k : W p l e R s m args below meth c H locs cells slots Q (F0 m (pc + 1) ls (.ref (ad 34) :: rest))) : W p l e R s m args below meth c H locs cells slots Q (F0 m pc ls (.int (zI 0) :: .ref (ad 37) :: rest)) :=
  aldA (D := D) hc.1 hc.2.1 hc.2.2.2.2.2.1 hw.1 23 17 rfl rfl (zI_in (by decide) (by decide) (by decide)) d k
theorem laX_P_below1 (hc : Cx p s m args c cc nL own meth ret D cl7 (tyX ca)) (hw : Wd D cl7 (wX ad ca) A s.heap σ H locs) (d : decode cc pc = .ok (.aaload, 1)) (k : W p l e R s m args below meth c H locs cells slots Q (F0 m (pc + 1) ls (.ref (ad 35) :: rest))) : W p l e R s m args below meth c H locs cells slots Q (F0 m pc ls (.int (zI 1) :: .ref (ad 37) :: rest)) :=
  aldA (D := D) hc.1 hc.2.1 hc.2.2.2.2.2.1 hw.1 23 17 rfl rfl (zI_in (by decide) (by decide) (by decide)) d k
theorem gX_R_others (hc : Cx p s m args c cc nL own meth ret D cl7 (tyX ca)) (hw : Wd D cl7 (wX ad ca) A s.heap σ H locs) {index : Nat} (lk : Cond.fieldLink own index "ProbeChoice$Rows" "others" "[I" ∈ lw_gd) (d : decode cc pc = .ok (.getfield index, 3)) (k : W p l e R s m args below meth c H locs cells slots Q (F0 m (pc + 3) ls (.ref (ad 40) :: rest))) : W p l e R s m args below meth c H locs cells slots Q (F0 m pc ls (.ref (ad 104) :: rest)) := va_get (D := D) (ci := 3) (C := R_R) (T := T_R) (N := 4) hc.1 hc.2.1 (hc.2.2.2.2.1.hts args) in_R hc.2.2.2.1 hc.2.2.2.2.2.1 hw.1 4 rfl rfl 0 (by decide) (hc.2.2.2.2.1.hts args _ lk) (fun _ h => h) rfl d k
theorem ldX_R_others (hc : Cx p s m args c cc nL own meth ret D cl7 (tyX ca)) (hw : Wd D cl7 (wX ad ca) A s.heap σ H locs) {i : Int} (d : decode cc pc = .ok (.iaload, 1)) (hi : 0 ≤ i ∧ i < 12) (k : W p l e R s m args below meth c H locs cells slots Q (F0 m (pc + 1) ls (.int (zI (σ 40 i)) :: rest))) : W p l e R s m args below meth c H locs cells slots Q (F0 m pc ls (.int (zI i) :: .ref (ad 40) :: rest)) := by
  refine va_iald (D := D) hc.1 hc.2.1 hc.2.2.2.2.2.1 hw.1 26 20 rfl rfl (zI_in hi.1 hi.2 (by decide)) d ?_
  show W p l e R s m args below meth c H locs cells slots Q (F0 m (pc + 1) ls (.int (zI (σ 40 (((zI i).toNatClampNeg : Nat) : Int))) :: rest))
  rw [zI_ix (n := 12) hi.1 hi.2 (by decide)]
  exact k
theorem stX_R_others (hc : Cx p s m args c cc nL own meth ret D cl7 (tyX ca)) (hw : Wd D cl7 (wX ad ca) A s.heap σ H locs) {i v : Int} (d : decode cc pc = .ok (.iastore, 1)) (hi : 0 ≤ i ∧ i < 12) (k : ∀ (H1 : Heap) (locs1 : List Loc), Wd D cl7 (wX ad ca) A s.heap (up σ 40 i v) H1 locs1 → W p l e R s m args below meth c H1 locs1 cells slots Q (F0 m (pc + 1) ls rest)) : W p l e R s m args below meth c H locs cells slots Q (F0 m pc ls (.int (zI v) :: .int (zI i) :: .ref (ad 40) :: rest)) := by
  refine va_iast (D := D) hc.1 hc.2.1 hc.2.2.2.2.2.1 hw.1 hw.2.1 hw.2.2 26 20 rfl rfl (zI_in hi.1 hi.2 (by decide)) d (fun H1 locs1 hP hD hS => ?_)
  rw [updI_z (n := 12) hi.1 hi.2 (by decide)] at hP hD
  exact k H1 locs1 ⟨hP, hD, hS⟩
theorem gX_R_cover (hc : Cx p s m args c cc nL own meth ret D cl7 (tyX ca)) (hw : Wd D cl7 (wX ad ca) A s.heap σ H locs) {index : Nat} (lk : Cond.fieldLink own index "ProbeChoice$Rows" "cover" "I" ∈ lw_gd) (d : decode cc pc = .ok (.getfield index, 3)) (k : W p l e R s m args below meth c H locs cells slots Q (F0 m (pc + 3) ls (.int (zI (σ 41 0)) :: rest))) : W p l e R s m args below meth c H locs cells slots Q (F0 m pc ls (.ref (ad 104) :: rest)) := va_get (D := D) (ci := 3) (C := R_R) (T := T_R) (N := 4) hc.1 hc.2.1 (hc.2.2.2.2.1.hts args) in_R hc.2.2.2.1 hc.2.2.2.2.2.1 hw.1 4 rfl rfl 1 (by decide) (hc.2.2.2.2.1.hts args _ lk) (fun _ h => h) rfl d k
theorem pX_R_cover (hc : Cx p s m args c cc nL own meth ret D cl7 (tyX ca)) (hw : Wd D cl7 (wX ad ca) A s.heap σ H locs) {index : Nat} {v : Int} (lk : Cond.fieldLink own index "ProbeChoice$Rows" "cover" "I" ∈ lw_gd) (d : decode cc pc = .ok (.putfield index, 3)) (k : ∀ (H1 : Heap) (locs1 : List Loc), Wd D cl7 (wX ad ca) A s.heap (up σ 41 0 v) H1 locs1 → W p l e R s m args below meth c H1 locs1 cells slots Q (F0 m (pc + 3) ls rest)) : W p l e R s m args below meth c H locs cells slots Q (F0 m pc ls (.int (zI v) :: .ref (ad 104) :: rest)) :=
  va_put (D := D) (ci := 3) (C := R_R) (T := T_R) (N := 4) (ty := .int) hc.1 hc.2.1 (hc.2.2.2.2.1.hts args) in_R t_R t_R_ok n_R hc.2.2.2.1 hc.2.2.2.2.2.1 hw.1 hw.2.1 hw.2.2 4 rfl rfl 1 (by decide) (hc.2.2.2.2.1.hts args _ lk) (fun _ h => h) rfl (by decide +kernel) rfl rfl (Nat.le_of_ble_eq_true rfl) d (fun H1 locs1 hP hD hS => k H1 locs1 ⟨hP, hD, hS⟩)
theorem gX_R_coverSize (hc : Cx p s m args c cc nL own meth ret D cl7 (tyX ca)) (hw : Wd D cl7 (wX ad ca) A s.heap σ H locs) {index : Nat} (lk : Cond.fieldLink own index "ProbeChoice$Rows" "coverSize" "I" ∈ lw_gd) (d : decode cc pc = .ok (.getfield index, 3)) (k : W p l e R s m args below meth c H locs cells slots Q (F0 m (pc + 3) ls (.int (zI (σ 42 0)) :: rest))) : W p l e R s m args below meth c H locs cells slots Q (F0 m pc ls (.ref (ad 104) :: rest)) := va_get (D := D) (ci := 3) (C := R_R) (T := T_R) (N := 4) hc.1 hc.2.1 (hc.2.2.2.2.1.hts args) in_R hc.2.2.2.1 hc.2.2.2.2.2.1 hw.1 4 rfl rfl 2 (by decide) (hc.2.2.2.2.1.hts args _ lk) (fun _ h => h) rfl d k
theorem pX_R_coverSize (hc : Cx p s m args c cc nL own meth ret D cl7 (tyX ca)) (hw : Wd D cl7 (wX ad ca) A s.heap σ H locs) {index : Nat} {v : Int} (lk : Cond.fieldLink own index "ProbeChoice$Rows" "coverSize" "I" ∈ lw_gd) (d : decode cc pc = .ok (.putfield index, 3)) (k : ∀ (H1 : Heap) (locs1 : List Loc), Wd D cl7 (wX ad ca) A s.heap (up σ 42 0 v) H1 locs1 → W p l e R s m args below meth c H1 locs1 cells slots Q (F0 m (pc + 3) ls rest)) : W p l e R s m args below meth c H locs cells slots Q (F0 m pc ls (.int (zI v) :: .ref (ad 104) :: rest)) :=
  va_put (D := D) (ci := 3) (C := R_R) (T := T_R) (N := 4) (ty := .int) hc.1 hc.2.1 (hc.2.2.2.2.1.hts args) in_R t_R t_R_ok n_R hc.2.2.2.1 hc.2.2.2.2.2.1 hw.1 hw.2.1 hw.2.2 4 rfl rfl 2 (by decide) (hc.2.2.2.2.1.hts args _ lk) (fun _ h => h) rfl (by decide +kernel) rfl rfl (Nat.le_of_ble_eq_true rfl) d (fun H1 locs1 hP hD hS => k H1 locs1 ⟨hP, hD, hS⟩)
theorem gX_R_isStale (hc : Cx p s m args c cc nL own meth ret D cl7 (tyX ca)) (hw : Wd D cl7 (wX ad ca) A s.heap σ H locs) {index : Nat} (lk : Cond.fieldLink own index "ProbeChoice$Rows" "isStale" "Z" ∈ lw_gd) (d : decode cc pc = .ok (.getfield index, 3)) (k : W p l e R s m args below meth c H locs cells slots Q (F0 m (pc + 3) ls (.int (zI (σ 43 0)) :: rest))) : W p l e R s m args below meth c H locs cells slots Q (F0 m pc ls (.ref (ad 104) :: rest)) := va_get (D := D) (ci := 3) (C := R_R) (T := T_R) (N := 4) hc.1 hc.2.1 (hc.2.2.2.2.1.hts args) in_R hc.2.2.2.1 hc.2.2.2.2.2.1 hw.1 4 rfl rfl 3 (by decide) (hc.2.2.2.2.1.hts args _ lk) (fun _ h => h) rfl d k
theorem pX_R_isStale (hc : Cx p s m args c cc nL own meth ret D cl7 (tyX ca)) (hw : Wd D cl7 (wX ad ca) A s.heap σ H locs) {index : Nat} {v : Int} (lk : Cond.fieldLink own index "ProbeChoice$Rows" "isStale" "Z" ∈ lw_gd) (d : decode cc pc = .ok (.putfield index, 3)) (h01 : v = 0 ∨ v = 1) (k : ∀ (H1 : Heap) (locs1 : List Loc), Wd D cl7 (wX ad ca) A s.heap (up σ 43 0 v) H1 locs1 → W p l e R s m args below meth c H1 locs1 cells slots Q (F0 m (pc + 3) ls rest)) : W p l e R s m args below meth c H locs cells slots Q (F0 m pc ls (.int (zI v) :: .ref (ad 104) :: rest)) :=
  va_put (D := D) (ci := 3) (C := R_R) (T := T_R) (N := 4) (ty := .boolean) hc.1 hc.2.1 (hc.2.2.2.2.1.hts args) in_R t_R t_R_ok n_R hc.2.2.2.1 hc.2.2.2.2.2.1 hw.1 hw.2.1 hw.2.2 4 rfl rfl 3 (by decide) (hc.2.2.2.2.1.hts args _ lk) (fun _ h => h) rfl (by decide +kernel) (by rcases h01 with rfl | rfl <;> decide) (by rcases h01 with rfl | rfl <;> decide) (Nat.le_of_ble_eq_true rfl) d (fun H1 locs1 hP hD hS => k H1 locs1 ⟨hP, hD, hS⟩)
theorem gX_S_nets (hc : Cx p s m args c cc nL own meth ret D cl7 (tyX ca)) (hw : Wd D cl7 (wX ad ca) A s.heap σ H locs) {index : Nat} (lk : Cond.fieldLink own index "ProbeChoice$Search" "nets" "[I" ∈ lw_gd) (d : decode cc pc = .ok (.getfield index, 3)) (k : W p l e R s m args below meth c H locs cells slots Q (F0 m (pc + 3) ls (.ref (ad 10) :: rest))) : W p l e R s m args below meth c H locs cells slots Q (F0 m pc ls (.ref (ad 105) :: rest)) := va_get (D := D) (ci := 4) (C := R_S) (T := T_S) (N := 9) hc.1 hc.2.1 (hc.2.2.2.2.1.hts args) in_S hc.2.2.2.1 hc.2.2.2.2.2.1 hw.1 5 rfl rfl 0 (by decide) (hc.2.2.2.2.1.hts args _ lk) (fun _ h => h) rfl d k
theorem gnX_S_nets (hc : Cx p s m args c cc nL own meth ret D cl7 (tyX ca)) (hw : Wd D cl7 (wX ad ca) A s.heap σ H locs) {index : Nat} (lk : Cond.fieldLinkNest own index "ProbeChoice$Search" "nets" "[I" "ProbeChoice" ∈ lw_gd) (d : decode cc pc = .ok (.getfield index, 3)) (k : W p l e R s m args below meth c H locs cells slots Q (F0 m (pc + 3) ls (.ref (ad 10) :: rest))) : W p l e R s m args below meth c H locs cells slots Q (F0 m pc ls (.ref (ad 105) :: rest)) := va_getN (D := D) (ci := 4) (C := R_S) (T := T_S) (N := 9) hc.1 hc.2.1 (hc.2.2.2.2.1.hts args) in_S hc.2.2.2.1 hc.2.2.2.2.2.1 hw.1 5 rfl rfl 0 (by decide) (hc.2.2.2.2.1.hts args _ lk) (fun _ h => h) rfl d k
theorem ldX_S_nets (hc : Cx p s m args c cc nL own meth ret D cl7 (tyX ca)) (hw : Wd D cl7 (wX ad ca) A s.heap σ H locs) {i : Int} (d : decode cc pc = .ok (.iaload, 1)) (hi : 0 ≤ i ∧ i < 8) (k : W p l e R s m args below meth c H locs cells slots Q (F0 m (pc + 1) ls (.int (zI (σ 10 i)) :: rest))) : W p l e R s m args below meth c H locs cells slots Q (F0 m pc ls (.int (zI i) :: .ref (ad 10) :: rest)) := by
  refine va_iald (D := D) hc.1 hc.2.1 hc.2.2.2.2.2.1 hw.1 27 21 rfl rfl (zI_in hi.1 hi.2 (by decide)) d ?_
  show W p l e R s m args below meth c H locs cells slots Q (F0 m (pc + 1) ls (.int (zI (σ 10 (((zI i).toNatClampNeg : Nat) : Int))) :: rest))
  rw [zI_ix (n := 8) hi.1 hi.2 (by decide)]
  exact k
theorem stX_S_nets (hc : Cx p s m args c cc nL own meth ret D cl7 (tyX ca)) (hw : Wd D cl7 (wX ad ca) A s.heap σ H locs) {i v : Int} (d : decode cc pc = .ok (.iastore, 1)) (hi : 0 ≤ i ∧ i < 8) (k : ∀ (H1 : Heap) (locs1 : List Loc), Wd D cl7 (wX ad ca) A s.heap (up σ 10 i v) H1 locs1 → W p l e R s m args below meth c H1 locs1 cells slots Q (F0 m (pc + 1) ls rest)) : W p l e R s m args below meth c H locs cells slots Q (F0 m pc ls (.int (zI v) :: .int (zI i) :: .ref (ad 10) :: rest)) := by
  refine va_iast (D := D) hc.1 hc.2.1 hc.2.2.2.2.2.1 hw.1 hw.2.1 hw.2.2 27 21 rfl rfl (zI_in hi.1 hi.2 (by decide)) d (fun H1 locs1 hP hD hS => ?_)
  rw [updI_z (n := 8) hi.1 hi.2 (by decide)] at hP hD
  exact k H1 locs1 ⟨hP, hD, hS⟩
theorem gX_S_sizes (hc : Cx p s m args c cc nL own meth ret D cl7 (tyX ca)) (hw : Wd D cl7 (wX ad ca) A s.heap σ H locs) {index : Nat} (lk : Cond.fieldLink own index "ProbeChoice$Search" "sizes" "[I" ∈ lw_gd) (d : decode cc pc = .ok (.getfield index, 3)) (k : W p l e R s m args below meth c H locs cells slots Q (F0 m (pc + 3) ls (.ref (ad 11) :: rest))) : W p l e R s m args below meth c H locs cells slots Q (F0 m pc ls (.ref (ad 105) :: rest)) := va_get (D := D) (ci := 4) (C := R_S) (T := T_S) (N := 9) hc.1 hc.2.1 (hc.2.2.2.2.1.hts args) in_S hc.2.2.2.1 hc.2.2.2.2.2.1 hw.1 5 rfl rfl 1 (by decide) (hc.2.2.2.2.1.hts args _ lk) (fun _ h => h) rfl d k
theorem ldX_S_sizes (hc : Cx p s m args c cc nL own meth ret D cl7 (tyX ca)) (hw : Wd D cl7 (wX ad ca) A s.heap σ H locs) {i : Int} (d : decode cc pc = .ok (.iaload, 1)) (hi : 0 ≤ i ∧ i < 8) (k : W p l e R s m args below meth c H locs cells slots Q (F0 m (pc + 1) ls (.int (zI (σ 11 i)) :: rest))) : W p l e R s m args below meth c H locs cells slots Q (F0 m pc ls (.int (zI i) :: .ref (ad 11) :: rest)) := by
  refine va_iald (D := D) hc.1 hc.2.1 hc.2.2.2.2.2.1 hw.1 28 22 rfl rfl (zI_in hi.1 hi.2 (by decide)) d ?_
  show W p l e R s m args below meth c H locs cells slots Q (F0 m (pc + 1) ls (.int (zI (σ 11 (((zI i).toNatClampNeg : Nat) : Int))) :: rest))
  rw [zI_ix (n := 8) hi.1 hi.2 (by decide)]
  exact k
theorem stX_S_sizes (hc : Cx p s m args c cc nL own meth ret D cl7 (tyX ca)) (hw : Wd D cl7 (wX ad ca) A s.heap σ H locs) {i v : Int} (d : decode cc pc = .ok (.iastore, 1)) (hi : 0 ≤ i ∧ i < 8) (k : ∀ (H1 : Heap) (locs1 : List Loc), Wd D cl7 (wX ad ca) A s.heap (up σ 11 i v) H1 locs1 → W p l e R s m args below meth c H1 locs1 cells slots Q (F0 m (pc + 1) ls rest)) : W p l e R s m args below meth c H locs cells slots Q (F0 m pc ls (.int (zI v) :: .int (zI i) :: .ref (ad 11) :: rest)) := by
  refine va_iast (D := D) hc.1 hc.2.1 hc.2.2.2.2.2.1 hw.1 hw.2.1 hw.2.2 28 22 rfl rfl (zI_in hi.1 hi.2 (by decide)) d (fun H1 locs1 hP hD hS => ?_)
  rw [updI_z (n := 8) hi.1 hi.2 (by decide)] at hP hD
  exact k H1 locs1 ⟨hP, hD, hS⟩
theorem gX_S_points (hc : Cx p s m args c cc nL own meth ret D cl7 (tyX ca)) (hw : Wd D cl7 (wX ad ca) A s.heap σ H locs) {index : Nat} (lk : Cond.fieldLink own index "ProbeChoice$Search" "points" "[I" ∈ lw_gd) (d : decode cc pc = .ok (.getfield index, 3)) (k : W p l e R s m args below meth c H locs cells slots Q (F0 m (pc + 3) ls (.ref (ad 12) :: rest))) : W p l e R s m args below meth c H locs cells slots Q (F0 m pc ls (.ref (ad 105) :: rest)) := va_get (D := D) (ci := 4) (C := R_S) (T := T_S) (N := 9) hc.1 hc.2.1 (hc.2.2.2.2.1.hts args) in_S hc.2.2.2.1 hc.2.2.2.2.2.1 hw.1 5 rfl rfl 2 (by decide) (hc.2.2.2.2.1.hts args _ lk) (fun _ h => h) rfl d k
theorem ldX_S_points (hc : Cx p s m args c cc nL own meth ret D cl7 (tyX ca)) (hw : Wd D cl7 (wX ad ca) A s.heap σ H locs) {i : Int} (d : decode cc pc = .ok (.iaload, 1)) (hi : 0 ≤ i ∧ i < 24) (k : W p l e R s m args below meth c H locs cells slots Q (F0 m (pc + 1) ls (.int (zI (σ 12 i)) :: rest))) : W p l e R s m args below meth c H locs cells slots Q (F0 m pc ls (.int (zI i) :: .ref (ad 12) :: rest)) := by
  refine va_iald (D := D) hc.1 hc.2.1 hc.2.2.2.2.2.1 hw.1 29 23 rfl rfl (zI_in hi.1 hi.2 (by decide)) d ?_
  show W p l e R s m args below meth c H locs cells slots Q (F0 m (pc + 1) ls (.int (zI (σ 12 (((zI i).toNatClampNeg : Nat) : Int))) :: rest))
  rw [zI_ix (n := 24) hi.1 hi.2 (by decide)]
  exact k
theorem stX_S_points (hc : Cx p s m args c cc nL own meth ret D cl7 (tyX ca)) (hw : Wd D cl7 (wX ad ca) A s.heap σ H locs) {i v : Int} (d : decode cc pc = .ok (.iastore, 1)) (hi : 0 ≤ i ∧ i < 24) (k : ∀ (H1 : Heap) (locs1 : List Loc), Wd D cl7 (wX ad ca) A s.heap (up σ 12 i v) H1 locs1 → W p l e R s m args below meth c H1 locs1 cells slots Q (F0 m (pc + 1) ls rest)) : W p l e R s m args below meth c H locs cells slots Q (F0 m pc ls (.int (zI v) :: .int (zI i) :: .ref (ad 12) :: rest)) := by
  refine va_iast (D := D) hc.1 hc.2.1 hc.2.2.2.2.2.1 hw.1 hw.2.1 hw.2.2 29 23 rfl rfl (zI_in hi.1 hi.2 (by decide)) d (fun H1 locs1 hP hD hS => ?_)
  rw [updI_z (n := 24) hi.1 hi.2 (by decide)] at hP hD
  exact k H1 locs1 ⟨hP, hD, hS⟩
theorem gX_S_worths (hc : Cx p s m args c cc nL own meth ret D cl7 (tyX ca)) (hw : Wd D cl7 (wX ad ca) A s.heap σ H locs) {index : Nat} (lk : Cond.fieldLink own index "ProbeChoice$Search" "worths" "[J" ∈ lw_gd) (d : decode cc pc = .ok (.getfield index, 3)) (k : W p l e R s m args below meth c H locs cells slots Q (F0 m (pc + 3) ls (.ref (ad 13) :: rest))) : W p l e R s m args below meth c H locs cells slots Q (F0 m pc ls (.ref (ad 105) :: rest)) := va_get (D := D) (ci := 4) (C := R_S) (T := T_S) (N := 9) hc.1 hc.2.1 (hc.2.2.2.2.1.hts args) in_S hc.2.2.2.1 hc.2.2.2.2.2.1 hw.1 5 rfl rfl 3 (by decide) (hc.2.2.2.2.1.hts args _ lk) (fun _ h => h) rfl d k
theorem ldX_S_worths (hc : Cx p s m args c cc nL own meth ret D cl7 (tyX ca)) (hw : Wd D cl7 (wX ad ca) A s.heap σ H locs) {i : Int} (d : decode cc pc = .ok (.laload, 1)) (hi : 0 ≤ i ∧ i < 24) (k : W p l e R s m args below meth c H locs cells slots Q (F0 m (pc + 1) ls (.long (zL (σ 13 i)) :: rest))) : W p l e R s m args below meth c H locs cells slots Q (F0 m pc ls (.int (zI i) :: .ref (ad 13) :: rest)) := by
  refine va_lald (D := D) hc.1 hc.2.1 hc.2.2.2.2.2.1 hw.1 30 24 rfl rfl (zI_in hi.1 hi.2 (by decide)) d ?_
  show W p l e R s m args below meth c H locs cells slots Q (F0 m (pc + 1) ls (.long (zL (σ 13 (((zI i).toNatClampNeg : Nat) : Int))) :: rest))
  rw [zI_ix (n := 24) hi.1 hi.2 (by decide)]
  exact k
theorem stX_S_worths (hc : Cx p s m args c cc nL own meth ret D cl7 (tyX ca)) (hw : Wd D cl7 (wX ad ca) A s.heap σ H locs) {i v : Int} (d : decode cc pc = .ok (.lastore, 1)) (hi : 0 ≤ i ∧ i < 24) (k : ∀ (H1 : Heap) (locs1 : List Loc), Wd D cl7 (wX ad ca) A s.heap (up σ 13 i v) H1 locs1 → W p l e R s m args below meth c H1 locs1 cells slots Q (F0 m (pc + 1) ls rest)) : W p l e R s m args below meth c H locs cells slots Q (F0 m pc ls (.long (zL v) :: .int (zI i) :: .ref (ad 13) :: rest)) := by
  refine va_last (D := D) hc.1 hc.2.1 hc.2.2.2.2.2.1 hw.1 hw.2.1 hw.2.2 30 24 rfl rfl (zI_in hi.1 hi.2 (by decide)) d (fun H1 locs1 hP hD hS => ?_)
  rw [updL_z (n := 24) hi.1 hi.2 (by decide)] at hP hD
  exact k H1 locs1 ⟨hP, hD, hS⟩
theorem gX_S_clashes (hc : Cx p s m args c cc nL own meth ret D cl7 (tyX ca)) (hw : Wd D cl7 (wX ad ca) A s.heap σ H locs) {index : Nat} (lk : Cond.fieldLink own index "ProbeChoice$Search" "clashes" "[I" ∈ lw_gd) (d : decode cc pc = .ok (.getfield index, 3)) (k : W p l e R s m args below meth c H locs cells slots Q (F0 m (pc + 3) ls (.ref (ad 14) :: rest))) : W p l e R s m args below meth c H locs cells slots Q (F0 m pc ls (.ref (ad 105) :: rest)) := va_get (D := D) (ci := 4) (C := R_S) (T := T_S) (N := 9) hc.1 hc.2.1 (hc.2.2.2.2.1.hts args) in_S hc.2.2.2.1 hc.2.2.2.2.2.1 hw.1 5 rfl rfl 4 (by decide) (hc.2.2.2.2.1.hts args _ lk) (fun _ h => h) rfl d k
theorem ldX_S_clashes (hc : Cx p s m args c cc nL own meth ret D cl7 (tyX ca)) (hw : Wd D cl7 (wX ad ca) A s.heap σ H locs) {i : Int} (d : decode cc pc = .ok (.iaload, 1)) (hi : 0 ≤ i ∧ i < 24) (k : W p l e R s m args below meth c H locs cells slots Q (F0 m (pc + 1) ls (.int (zI (σ 14 i)) :: rest))) : W p l e R s m args below meth c H locs cells slots Q (F0 m pc ls (.int (zI i) :: .ref (ad 14) :: rest)) := by
  refine va_iald (D := D) hc.1 hc.2.1 hc.2.2.2.2.2.1 hw.1 31 25 rfl rfl (zI_in hi.1 hi.2 (by decide)) d ?_
  show W p l e R s m args below meth c H locs cells slots Q (F0 m (pc + 1) ls (.int (zI (σ 14 (((zI i).toNatClampNeg : Nat) : Int))) :: rest))
  rw [zI_ix (n := 24) hi.1 hi.2 (by decide)]
  exact k
theorem stX_S_clashes (hc : Cx p s m args c cc nL own meth ret D cl7 (tyX ca)) (hw : Wd D cl7 (wX ad ca) A s.heap σ H locs) {i v : Int} (d : decode cc pc = .ok (.iastore, 1)) (hi : 0 ≤ i ∧ i < 24) (k : ∀ (H1 : Heap) (locs1 : List Loc), Wd D cl7 (wX ad ca) A s.heap (up σ 14 i v) H1 locs1 → W p l e R s m args below meth c H1 locs1 cells slots Q (F0 m (pc + 1) ls rest)) : W p l e R s m args below meth c H locs cells slots Q (F0 m pc ls (.int (zI v) :: .int (zI i) :: .ref (ad 14) :: rest)) := by
  refine va_iast (D := D) hc.1 hc.2.1 hc.2.2.2.2.2.1 hw.1 hw.2.1 hw.2.2 31 25 rfl rfl (zI_in hi.1 hi.2 (by decide)) d (fun H1 locs1 hP hD hS => ?_)
  rw [updI_z (n := 24) hi.1 hi.2 (by decide)] at hP hD
  exact k H1 locs1 ⟨hP, hD, hS⟩
theorem gX_S_tried (hc : Cx p s m args c cc nL own meth ret D cl7 (tyX ca)) (hw : Wd D cl7 (wX ad ca) A s.heap σ H locs) {index : Nat} (lk : Cond.fieldLink own index "ProbeChoice$Search" "tried" "[I" ∈ lw_gd) (d : decode cc pc = .ok (.getfield index, 3)) (k : W p l e R s m args below meth c H locs cells slots Q (F0 m (pc + 3) ls (.ref (ad 15) :: rest))) : W p l e R s m args below meth c H locs cells slots Q (F0 m pc ls (.ref (ad 105) :: rest)) := va_get (D := D) (ci := 4) (C := R_S) (T := T_S) (N := 9) hc.1 hc.2.1 (hc.2.2.2.2.1.hts args) in_S hc.2.2.2.1 hc.2.2.2.2.2.1 hw.1 5 rfl rfl 5 (by decide) (hc.2.2.2.2.1.hts args _ lk) (fun _ h => h) rfl d k
theorem ldX_S_tried (hc : Cx p s m args c cc nL own meth ret D cl7 (tyX ca)) (hw : Wd D cl7 (wX ad ca) A s.heap σ H locs) {i : Int} (d : decode cc pc = .ok (.iaload, 1)) (hi : 0 ≤ i ∧ i < 8) (k : W p l e R s m args below meth c H locs cells slots Q (F0 m (pc + 1) ls (.int (zI (σ 15 i)) :: rest))) : W p l e R s m args below meth c H locs cells slots Q (F0 m pc ls (.int (zI i) :: .ref (ad 15) :: rest)) := by
  refine va_iald (D := D) hc.1 hc.2.1 hc.2.2.2.2.2.1 hw.1 32 26 rfl rfl (zI_in hi.1 hi.2 (by decide)) d ?_
  show W p l e R s m args below meth c H locs cells slots Q (F0 m (pc + 1) ls (.int (zI (σ 15 (((zI i).toNatClampNeg : Nat) : Int))) :: rest))
  rw [zI_ix (n := 8) hi.1 hi.2 (by decide)]
  exact k
theorem stX_S_tried (hc : Cx p s m args c cc nL own meth ret D cl7 (tyX ca)) (hw : Wd D cl7 (wX ad ca) A s.heap σ H locs) {i v : Int} (d : decode cc pc = .ok (.iastore, 1)) (hi : 0 ≤ i ∧ i < 8) (k : ∀ (H1 : Heap) (locs1 : List Loc), Wd D cl7 (wX ad ca) A s.heap (up σ 15 i v) H1 locs1 → W p l e R s m args below meth c H1 locs1 cells slots Q (F0 m (pc + 1) ls rest)) : W p l e R s m args below meth c H locs cells slots Q (F0 m pc ls (.int (zI v) :: .int (zI i) :: .ref (ad 15) :: rest)) := by
  refine va_iast (D := D) hc.1 hc.2.1 hc.2.2.2.2.2.1 hw.1 hw.2.1 hw.2.2 32 26 rfl rfl (zI_in hi.1 hi.2 (by decide)) d (fun H1 locs1 hP hD hS => ?_)
  rw [updI_z (n := 8) hi.1 hi.2 (by decide)] at hP hD
  exact k H1 locs1 ⟨hP, hD, hS⟩
theorem gX_S_best (hc : Cx p s m args c cc nL own meth ret D cl7 (tyX ca)) (hw : Wd D cl7 (wX ad ca) A s.heap σ H locs) {index : Nat} (lk : Cond.fieldLink own index "ProbeChoice$Search" "best" "[I" ∈ lw_gd) (d : decode cc pc = .ok (.getfield index, 3)) (k : W p l e R s m args below meth c H locs cells slots Q (F0 m (pc + 3) ls (.ref (ad 16) :: rest))) : W p l e R s m args below meth c H locs cells slots Q (F0 m pc ls (.ref (ad 105) :: rest)) := va_get (D := D) (ci := 4) (C := R_S) (T := T_S) (N := 9) hc.1 hc.2.1 (hc.2.2.2.2.1.hts args) in_S hc.2.2.2.1 hc.2.2.2.2.2.1 hw.1 5 rfl rfl 6 (by decide) (hc.2.2.2.2.1.hts args _ lk) (fun _ h => h) rfl d k
theorem gnX_S_best (hc : Cx p s m args c cc nL own meth ret D cl7 (tyX ca)) (hw : Wd D cl7 (wX ad ca) A s.heap σ H locs) {index : Nat} (lk : Cond.fieldLinkNest own index "ProbeChoice$Search" "best" "[I" "ProbeChoice" ∈ lw_gd) (d : decode cc pc = .ok (.getfield index, 3)) (k : W p l e R s m args below meth c H locs cells slots Q (F0 m (pc + 3) ls (.ref (ad 16) :: rest))) : W p l e R s m args below meth c H locs cells slots Q (F0 m pc ls (.ref (ad 105) :: rest)) := va_getN (D := D) (ci := 4) (C := R_S) (T := T_S) (N := 9) hc.1 hc.2.1 (hc.2.2.2.2.1.hts args) in_S hc.2.2.2.1 hc.2.2.2.2.2.1 hw.1 5 rfl rfl 6 (by decide) (hc.2.2.2.2.1.hts args _ lk) (fun _ h => h) rfl d k
theorem ldX_S_best (hc : Cx p s m args c cc nL own meth ret D cl7 (tyX ca)) (hw : Wd D cl7 (wX ad ca) A s.heap σ H locs) {i : Int} (d : decode cc pc = .ok (.iaload, 1)) (hi : 0 ≤ i ∧ i < 8) (k : W p l e R s m args below meth c H locs cells slots Q (F0 m (pc + 1) ls (.int (zI (σ 16 i)) :: rest))) : W p l e R s m args below meth c H locs cells slots Q (F0 m pc ls (.int (zI i) :: .ref (ad 16) :: rest)) := by
  refine va_iald (D := D) hc.1 hc.2.1 hc.2.2.2.2.2.1 hw.1 33 27 rfl rfl (zI_in hi.1 hi.2 (by decide)) d ?_
  show W p l e R s m args below meth c H locs cells slots Q (F0 m (pc + 1) ls (.int (zI (σ 16 (((zI i).toNatClampNeg : Nat) : Int))) :: rest))
  rw [zI_ix (n := 8) hi.1 hi.2 (by decide)]
  exact k
theorem stX_S_best (hc : Cx p s m args c cc nL own meth ret D cl7 (tyX ca)) (hw : Wd D cl7 (wX ad ca) A s.heap σ H locs) {i v : Int} (d : decode cc pc = .ok (.iastore, 1)) (hi : 0 ≤ i ∧ i < 8) (k : ∀ (H1 : Heap) (locs1 : List Loc), Wd D cl7 (wX ad ca) A s.heap (up σ 16 i v) H1 locs1 → W p l e R s m args below meth c H1 locs1 cells slots Q (F0 m (pc + 1) ls rest)) : W p l e R s m args below meth c H locs cells slots Q (F0 m pc ls (.int (zI v) :: .int (zI i) :: .ref (ad 16) :: rest)) := by
  refine va_iast (D := D) hc.1 hc.2.1 hc.2.2.2.2.2.1 hw.1 hw.2.1 hw.2.2 33 27 rfl rfl (zI_in hi.1 hi.2 (by decide)) d (fun H1 locs1 hP hD hS => ?_)
  rw [updI_z (n := 8) hi.1 hi.2 (by decide)] at hP hD
  exact k H1 locs1 ⟨hP, hD, hS⟩
theorem gX_S_looked (hc : Cx p s m args c cc nL own meth ret D cl7 (tyX ca)) (hw : Wd D cl7 (wX ad ca) A s.heap σ H locs) {index : Nat} (lk : Cond.fieldLink own index "ProbeChoice$Search" "looked" "I" ∈ lw_gd) (d : decode cc pc = .ok (.getfield index, 3)) (k : W p l e R s m args below meth c H locs cells slots Q (F0 m (pc + 3) ls (.int (zI (σ 17 0)) :: rest))) : W p l e R s m args below meth c H locs cells slots Q (F0 m pc ls (.ref (ad 105) :: rest)) := va_get (D := D) (ci := 4) (C := R_S) (T := T_S) (N := 9) hc.1 hc.2.1 (hc.2.2.2.2.1.hts args) in_S hc.2.2.2.1 hc.2.2.2.2.2.1 hw.1 5 rfl rfl 7 (by decide) (hc.2.2.2.2.1.hts args _ lk) (fun _ h => h) rfl d k
theorem gnX_S_looked (hc : Cx p s m args c cc nL own meth ret D cl7 (tyX ca)) (hw : Wd D cl7 (wX ad ca) A s.heap σ H locs) {index : Nat} (lk : Cond.fieldLinkNest own index "ProbeChoice$Search" "looked" "I" "ProbeChoice" ∈ lw_gd) (d : decode cc pc = .ok (.getfield index, 3)) (k : W p l e R s m args below meth c H locs cells slots Q (F0 m (pc + 3) ls (.int (zI (σ 17 0)) :: rest))) : W p l e R s m args below meth c H locs cells slots Q (F0 m pc ls (.ref (ad 105) :: rest)) := va_getN (D := D) (ci := 4) (C := R_S) (T := T_S) (N := 9) hc.1 hc.2.1 (hc.2.2.2.2.1.hts args) in_S hc.2.2.2.1 hc.2.2.2.2.2.1 hw.1 5 rfl rfl 7 (by decide) (hc.2.2.2.2.1.hts args _ lk) (fun _ h => h) rfl d k
theorem pX_S_looked (hc : Cx p s m args c cc nL own meth ret D cl7 (tyX ca)) (hw : Wd D cl7 (wX ad ca) A s.heap σ H locs) {index : Nat} {v : Int} (lk : Cond.fieldLink own index "ProbeChoice$Search" "looked" "I" ∈ lw_gd) (d : decode cc pc = .ok (.putfield index, 3)) (k : ∀ (H1 : Heap) (locs1 : List Loc), Wd D cl7 (wX ad ca) A s.heap (up σ 17 0 v) H1 locs1 → W p l e R s m args below meth c H1 locs1 cells slots Q (F0 m (pc + 3) ls rest)) : W p l e R s m args below meth c H locs cells slots Q (F0 m pc ls (.int (zI v) :: .ref (ad 105) :: rest)) :=
  va_put (D := D) (ci := 4) (C := R_S) (T := T_S) (N := 9) (ty := .int) hc.1 hc.2.1 (hc.2.2.2.2.1.hts args) in_S t_S t_S_ok n_S hc.2.2.2.1 hc.2.2.2.2.2.1 hw.1 hw.2.1 hw.2.2 5 rfl rfl 7 (by decide) (hc.2.2.2.2.1.hts args _ lk) (fun _ h => h) rfl (by decide +kernel) rfl rfl (Nat.le_of_ble_eq_true rfl) d (fun H1 locs1 hP hD hS => k H1 locs1 ⟨hP, hD, hS⟩)
theorem gX_S_bestWorth (hc : Cx p s m args c cc nL own meth ret D cl7 (tyX ca)) (hw : Wd D cl7 (wX ad ca) A s.heap σ H locs) {index : Nat} (lk : Cond.fieldLink own index "ProbeChoice$Search" "bestWorth" "J" ∈ lw_gd) (d : decode cc pc = .ok (.getfield index, 3)) (k : W p l e R s m args below meth c H locs cells slots Q (F0 m (pc + 3) ls (.long (zL (σ 18 0)) :: rest))) : W p l e R s m args below meth c H locs cells slots Q (F0 m pc ls (.ref (ad 105) :: rest)) := va_get (D := D) (ci := 4) (C := R_S) (T := T_S) (N := 9) hc.1 hc.2.1 (hc.2.2.2.2.1.hts args) in_S hc.2.2.2.1 hc.2.2.2.2.2.1 hw.1 5 rfl rfl 8 (by decide) (hc.2.2.2.2.1.hts args _ lk) (fun _ h => h) rfl d k
theorem pX_S_bestWorth (hc : Cx p s m args c cc nL own meth ret D cl7 (tyX ca)) (hw : Wd D cl7 (wX ad ca) A s.heap σ H locs) {index : Nat} {v : Int} (lk : Cond.fieldLink own index "ProbeChoice$Search" "bestWorth" "J" ∈ lw_gd) (d : decode cc pc = .ok (.putfield index, 3)) (k : ∀ (H1 : Heap) (locs1 : List Loc), Wd D cl7 (wX ad ca) A s.heap (up σ 18 0 v) H1 locs1 → W p l e R s m args below meth c H1 locs1 cells slots Q (F0 m (pc + 3) ls rest)) : W p l e R s m args below meth c H locs cells slots Q (F0 m pc ls (.long (zL v) :: .ref (ad 105) :: rest)) :=
  va_put (D := D) (ci := 4) (C := R_S) (T := T_S) (N := 9) (ty := .long) hc.1 hc.2.1 (hc.2.2.2.2.1.hts args) in_S t_S t_S_ok n_S hc.2.2.2.1 hc.2.2.2.2.2.1 hw.1 hw.2.1 hw.2.2 5 rfl rfl 8 (by decide) (hc.2.2.2.2.1.hts args _ lk) (fun _ h => h) rfl (by decide +kernel) rfl rfl (Nat.le_of_ble_eq_true rfl) d (fun H1 locs1 hP hD hS => k H1 locs1 ⟨hP, hD, hS⟩)
end WX
section WM
variable {p : Program} {l : Launch} {e : Env} {R : Room} {s : State} {m : MethodId} {args : Array Value} {below : List Frame} {meth : Method} {c : Code} {H : Heap} {locs : List Loc} {cells slots : Nat} {Q : State → Prop}
variable {cc : ByteArray} {pc nL : Nat} {own : String} {ret : Option FieldType} {ls : Array Slot} {rest : List Value} {D : va_G} {ad : Nat → Nat} {ca : Nat → ClassId} {A : Nat → Prop} {σ : St}
theorem gM_M_thrown (hc : Cx p s m args c cc nL own meth ret D cl7 (tyM ca)) (hw : Wd D cl7 (wM ad ca) A s.heap σ H locs) {index : Nat} (lk : Cond.fieldLink own index "ProbeChoiceModel" "thrown" "I" ∈ lw_gd) (d : decode cc pc = .ok (.getfield index, 3)) (k : W p l e R s m args below meth c H locs cells slots Q (F0 m (pc + 3) ls (.int (zI (σ 0 0)) :: rest))) : W p l e R s m args below meth c H locs cells slots Q (F0 m pc ls (.ref (ad 100) :: rest)) := va_get (D := D) (ci := 6) (C := R_M) (T := T_M) (N := 26) hc.1 hc.2.1 (hc.2.2.2.2.1.hts args) in_M hc.2.2.2.1 hc.2.2.2.2.2.1 hw.1 0 rfl rfl 0 (by decide) (hc.2.2.2.2.1.hts args _ lk) (fun _ h => h) rfl d k
theorem pM_M_thrown (hc : Cx p s m args c cc nL own meth ret D cl7 (tyM ca)) (hw : Wd D cl7 (wM ad ca) A s.heap σ H locs) {index : Nat} {v : Int} (lk : Cond.fieldLink own index "ProbeChoiceModel" "thrown" "I" ∈ lw_gd) (d : decode cc pc = .ok (.putfield index, 3)) (k : ∀ (H1 : Heap) (locs1 : List Loc), Wd D cl7 (wM ad ca) A s.heap (up σ 0 0 v) H1 locs1 → W p l e R s m args below meth c H1 locs1 cells slots Q (F0 m (pc + 3) ls rest)) : W p l e R s m args below meth c H locs cells slots Q (F0 m pc ls (.int (zI v) :: .ref (ad 100) :: rest)) :=
  va_put (D := D) (ci := 6) (C := R_M) (T := T_M) (N := 26) (ty := .int) hc.1 hc.2.1 (hc.2.2.2.2.1.hts args) in_M t_M t_M_ok n_M hc.2.2.2.1 hc.2.2.2.2.2.1 hw.1 hw.2.1 hw.2.2 0 rfl rfl 0 (by decide) (hc.2.2.2.2.1.hts args _ lk) (fun _ h => h) rfl (by decide +kernel) rfl rfl (Nat.le_of_ble_eq_true rfl) d (fun H1 locs1 hP hD hS => k H1 locs1 ⟨hP, hD, hS⟩)
theorem gM_M_nets (hc : Cx p s m args c cc nL own meth ret D cl7 (tyM ca)) (hw : Wd D cl7 (wM ad ca) A s.heap σ H locs) {index : Nat} (lk : Cond.fieldLink own index "ProbeChoiceModel" "nets" "I" ∈ lw_gd) (d : decode cc pc = .ok (.getfield index, 3)) (k : W p l e R s m args below meth c H locs cells slots Q (F0 m (pc + 3) ls (.int (zI (σ 1 0)) :: rest))) : W p l e R s m args below meth c H locs cells slots Q (F0 m pc ls (.ref (ad 100) :: rest)) := va_get (D := D) (ci := 6) (C := R_M) (T := T_M) (N := 26) hc.1 hc.2.1 (hc.2.2.2.2.1.hts args) in_M hc.2.2.2.1 hc.2.2.2.2.2.1 hw.1 0 rfl rfl 1 (by decide) (hc.2.2.2.2.1.hts args _ lk) (fun _ h => h) rfl d k
theorem pM_M_nets (hc : Cx p s m args c cc nL own meth ret D cl7 (tyM ca)) (hw : Wd D cl7 (wM ad ca) A s.heap σ H locs) {index : Nat} {v : Int} (lk : Cond.fieldLink own index "ProbeChoiceModel" "nets" "I" ∈ lw_gd) (d : decode cc pc = .ok (.putfield index, 3)) (k : ∀ (H1 : Heap) (locs1 : List Loc), Wd D cl7 (wM ad ca) A s.heap (up σ 1 0 v) H1 locs1 → W p l e R s m args below meth c H1 locs1 cells slots Q (F0 m (pc + 3) ls rest)) : W p l e R s m args below meth c H locs cells slots Q (F0 m pc ls (.int (zI v) :: .ref (ad 100) :: rest)) :=
  va_put (D := D) (ci := 6) (C := R_M) (T := T_M) (N := 26) (ty := .int) hc.1 hc.2.1 (hc.2.2.2.2.1.hts args) in_M t_M t_M_ok n_M hc.2.2.2.1 hc.2.2.2.2.2.1 hw.1 hw.2.1 hw.2.2 0 rfl rfl 1 (by decide) (hc.2.2.2.2.1.hts args _ lk) (fun _ h => h) rfl (by decide +kernel) rfl rfl (Nat.le_of_ble_eq_true rfl) d (fun H1 locs1 hP hD hS => k H1 locs1 ⟨hP, hD, hS⟩)
theorem gM_M_must (hc : Cx p s m args c cc nL own meth ret D cl7 (tyM ca)) (hw : Wd D cl7 (wM ad ca) A s.heap σ H locs) {index : Nat} (lk : Cond.fieldLink own index "ProbeChoiceModel" "must" "[Z" ∈ lw_gd) (d : decode cc pc = .ok (.getfield index, 3)) (k : W p l e R s m args below meth c H locs cells slots Q (F0 m (pc + 3) ls (.ref (ad 2) :: rest))) : W p l e R s m args below meth c H locs cells slots Q (F0 m pc ls (.ref (ad 100) :: rest)) := va_get (D := D) (ci := 6) (C := R_M) (T := T_M) (N := 26) hc.1 hc.2.1 (hc.2.2.2.2.1.hts args) in_M hc.2.2.2.1 hc.2.2.2.2.2.1 hw.1 0 rfl rfl 2 (by decide) (hc.2.2.2.2.1.hts args _ lk) (fun _ h => h) rfl d k
theorem ldM_M_must (hc : Cx p s m args c cc nL own meth ret D cl7 (tyM ca)) (hw : Wd D cl7 (wM ad ca) A s.heap σ H locs) {i : Int} (d : decode cc pc = .ok (.baload, 1)) (hi : 0 ≤ i ∧ i < 12) (k : W p l e R s m args below meth c H locs cells slots Q (F0 m (pc + 1) ls (.int (zI (σ 2 i)) :: rest))) : W p l e R s m args below meth c H locs cells slots Q (F0 m pc ls (.int (zI i) :: .ref (ad 2) :: rest)) := by
  refine va_zald (D := D) hc.1 hc.2.1 hc.2.2.2.2.2.1 hw.1 1 0 rfl rfl (zI_in hi.1 hi.2 (by decide)) d ?_
  show W p l e R s m args below meth c H locs cells slots Q (F0 m (pc + 1) ls (.int (zI (σ 2 (((zI i).toNatClampNeg : Nat) : Int))) :: rest))
  rw [zI_ix (n := 12) hi.1 hi.2 (by decide)]
  exact k
theorem stM_M_must (hc : Cx p s m args c cc nL own meth ret D cl7 (tyM ca)) (hw : Wd D cl7 (wM ad ca) A s.heap σ H locs) {i v : Int} (d : decode cc pc = .ok (.bastore, 1)) (hi : 0 ≤ i ∧ i < 12) (h01 : v = 0 ∨ v = 1) (k : ∀ (H1 : Heap) (locs1 : List Loc), Wd D cl7 (wM ad ca) A s.heap (up σ 2 i v) H1 locs1 → W p l e R s m args below meth c H1 locs1 cells slots Q (F0 m (pc + 1) ls rest)) : W p l e R s m args below meth c H locs cells slots Q (F0 m pc ls (.int (zI v) :: .int (zI i) :: .ref (ad 2) :: rest)) := by
  refine va_zast (D := D) hc.1 hc.2.1 hc.2.2.2.2.2.1 hw.1 hw.2.1 hw.2.2 1 0 rfl rfl (zI_in hi.1 hi.2 (by decide)) d (fun H1 locs1 hP hD hS => ?_)
  rw [nar_z h01, updI_z (n := 12) hi.1 hi.2 (by decide)] at hP hD
  exact k H1 locs1 ⟨hP, hD, hS⟩
theorem gM_M_pointCount (hc : Cx p s m args c cc nL own meth ret D cl7 (tyM ca)) (hw : Wd D cl7 (wM ad ca) A s.heap σ H locs) {index : Nat} (lk : Cond.fieldLink own index "ProbeChoiceModel" "pointCount" "[I" ∈ lw_gd) (d : decode cc pc = .ok (.getfield index, 3)) (k : W p l e R s m args below meth c H locs cells slots Q (F0 m (pc + 3) ls (.ref (ad 3) :: rest))) : W p l e R s m args below meth c H locs cells slots Q (F0 m pc ls (.ref (ad 100) :: rest)) := va_get (D := D) (ci := 6) (C := R_M) (T := T_M) (N := 26) hc.1 hc.2.1 (hc.2.2.2.2.1.hts args) in_M hc.2.2.2.1 hc.2.2.2.2.2.1 hw.1 0 rfl rfl 3 (by decide) (hc.2.2.2.2.1.hts args _ lk) (fun _ h => h) rfl d k
theorem ldM_M_pointCount (hc : Cx p s m args c cc nL own meth ret D cl7 (tyM ca)) (hw : Wd D cl7 (wM ad ca) A s.heap σ H locs) {i : Int} (d : decode cc pc = .ok (.iaload, 1)) (hi : 0 ≤ i ∧ i < 12) (k : W p l e R s m args below meth c H locs cells slots Q (F0 m (pc + 1) ls (.int (zI (σ 3 i)) :: rest))) : W p l e R s m args below meth c H locs cells slots Q (F0 m pc ls (.int (zI i) :: .ref (ad 3) :: rest)) := by
  refine va_iald (D := D) hc.1 hc.2.1 hc.2.2.2.2.2.1 hw.1 2 1 rfl rfl (zI_in hi.1 hi.2 (by decide)) d ?_
  show W p l e R s m args below meth c H locs cells slots Q (F0 m (pc + 1) ls (.int (zI (σ 3 (((zI i).toNatClampNeg : Nat) : Int))) :: rest))
  rw [zI_ix (n := 12) hi.1 hi.2 (by decide)]
  exact k
theorem stM_M_pointCount (hc : Cx p s m args c cc nL own meth ret D cl7 (tyM ca)) (hw : Wd D cl7 (wM ad ca) A s.heap σ H locs) {i v : Int} (d : decode cc pc = .ok (.iastore, 1)) (hi : 0 ≤ i ∧ i < 12) (k : ∀ (H1 : Heap) (locs1 : List Loc), Wd D cl7 (wM ad ca) A s.heap (up σ 3 i v) H1 locs1 → W p l e R s m args below meth c H1 locs1 cells slots Q (F0 m (pc + 1) ls rest)) : W p l e R s m args below meth c H locs cells slots Q (F0 m pc ls (.int (zI v) :: .int (zI i) :: .ref (ad 3) :: rest)) := by
  refine va_iast (D := D) hc.1 hc.2.1 hc.2.2.2.2.2.1 hw.1 hw.2.1 hw.2.2 2 1 rfl rfl (zI_in hi.1 hi.2 (by decide)) d (fun H1 locs1 hP hD hS => ?_)
  rw [updI_z (n := 12) hi.1 hi.2 (by decide)] at hP hD
  exact k H1 locs1 ⟨hP, hD, hS⟩
theorem gM_M_pointsOf (hc : Cx p s m args c cc nL own meth ret D cl7 (tyM ca)) (hw : Wd D cl7 (wM ad ca) A s.heap σ H locs) {index : Nat} (lk : Cond.fieldLink own index "ProbeChoiceModel" "pointsOf" "[I" ∈ lw_gd) (d : decode cc pc = .ok (.getfield index, 3)) (k : W p l e R s m args below meth c H locs cells slots Q (F0 m (pc + 3) ls (.ref (ad 4) :: rest))) : W p l e R s m args below meth c H locs cells slots Q (F0 m pc ls (.ref (ad 100) :: rest)) := va_get (D := D) (ci := 6) (C := R_M) (T := T_M) (N := 26) hc.1 hc.2.1 (hc.2.2.2.2.1.hts args) in_M hc.2.2.2.1 hc.2.2.2.2.2.1 hw.1 0 rfl rfl 4 (by decide) (hc.2.2.2.2.1.hts args _ lk) (fun _ h => h) rfl d k
theorem ldM_M_pointsOf (hc : Cx p s m args c cc nL own meth ret D cl7 (tyM ca)) (hw : Wd D cl7 (wM ad ca) A s.heap σ H locs) {i : Int} (d : decode cc pc = .ok (.iaload, 1)) (hi : 0 ≤ i ∧ i < 36) (k : W p l e R s m args below meth c H locs cells slots Q (F0 m (pc + 1) ls (.int (zI (σ 4 i)) :: rest))) : W p l e R s m args below meth c H locs cells slots Q (F0 m pc ls (.int (zI i) :: .ref (ad 4) :: rest)) := by
  refine va_iald (D := D) hc.1 hc.2.1 hc.2.2.2.2.2.1 hw.1 3 2 rfl rfl (zI_in hi.1 hi.2 (by decide)) d ?_
  show W p l e R s m args below meth c H locs cells slots Q (F0 m (pc + 1) ls (.int (zI (σ 4 (((zI i).toNatClampNeg : Nat) : Int))) :: rest))
  rw [zI_ix (n := 36) hi.1 hi.2 (by decide)]
  exact k
theorem stM_M_pointsOf (hc : Cx p s m args c cc nL own meth ret D cl7 (tyM ca)) (hw : Wd D cl7 (wM ad ca) A s.heap σ H locs) {i v : Int} (d : decode cc pc = .ok (.iastore, 1)) (hi : 0 ≤ i ∧ i < 36) (k : ∀ (H1 : Heap) (locs1 : List Loc), Wd D cl7 (wM ad ca) A s.heap (up σ 4 i v) H1 locs1 → W p l e R s m args below meth c H1 locs1 cells slots Q (F0 m (pc + 1) ls rest)) : W p l e R s m args below meth c H locs cells slots Q (F0 m pc ls (.int (zI v) :: .int (zI i) :: .ref (ad 4) :: rest)) := by
  refine va_iast (D := D) hc.1 hc.2.1 hc.2.2.2.2.2.1 hw.1 hw.2.1 hw.2.2 3 2 rfl rfl (zI_in hi.1 hi.2 (by decide)) d (fun H1 locs1 hP hD hS => ?_)
  rw [updI_z (n := 36) hi.1 hi.2 (by decide)] at hP hD
  exact k H1 locs1 ⟨hP, hD, hS⟩
theorem gM_M_points (hc : Cx p s m args c cc nL own meth ret D cl7 (tyM ca)) (hw : Wd D cl7 (wM ad ca) A s.heap σ H locs) {index : Nat} (lk : Cond.fieldLink own index "ProbeChoiceModel" "points" "I" ∈ lw_gd) (d : decode cc pc = .ok (.getfield index, 3)) (k : W p l e R s m args below meth c H locs cells slots Q (F0 m (pc + 3) ls (.int (zI (σ 5 0)) :: rest))) : W p l e R s m args below meth c H locs cells slots Q (F0 m pc ls (.ref (ad 100) :: rest)) := va_get (D := D) (ci := 6) (C := R_M) (T := T_M) (N := 26) hc.1 hc.2.1 (hc.2.2.2.2.1.hts args) in_M hc.2.2.2.1 hc.2.2.2.2.2.1 hw.1 0 rfl rfl 5 (by decide) (hc.2.2.2.2.1.hts args _ lk) (fun _ h => h) rfl d k
theorem pM_M_points (hc : Cx p s m args c cc nL own meth ret D cl7 (tyM ca)) (hw : Wd D cl7 (wM ad ca) A s.heap σ H locs) {index : Nat} {v : Int} (lk : Cond.fieldLink own index "ProbeChoiceModel" "points" "I" ∈ lw_gd) (d : decode cc pc = .ok (.putfield index, 3)) (k : ∀ (H1 : Heap) (locs1 : List Loc), Wd D cl7 (wM ad ca) A s.heap (up σ 5 0 v) H1 locs1 → W p l e R s m args below meth c H1 locs1 cells slots Q (F0 m (pc + 3) ls rest)) : W p l e R s m args below meth c H locs cells slots Q (F0 m pc ls (.int (zI v) :: .ref (ad 100) :: rest)) :=
  va_put (D := D) (ci := 6) (C := R_M) (T := T_M) (N := 26) (ty := .int) hc.1 hc.2.1 (hc.2.2.2.2.1.hts args) in_M t_M t_M_ok n_M hc.2.2.2.1 hc.2.2.2.2.2.1 hw.1 hw.2.1 hw.2.2 0 rfl rfl 5 (by decide) (hc.2.2.2.2.1.hts args _ lk) (fun _ h => h) rfl (by decide +kernel) rfl rfl (Nat.le_of_ble_eq_true rfl) d (fun H1 locs1 hP hD hS => k H1 locs1 ⟨hP, hD, hS⟩)
theorem gM_M_x (hc : Cx p s m args c cc nL own meth ret D cl7 (tyM ca)) (hw : Wd D cl7 (wM ad ca) A s.heap σ H locs) {index : Nat} (lk : Cond.fieldLink own index "ProbeChoiceModel" "x" "[J" ∈ lw_gd) (d : decode cc pc = .ok (.getfield index, 3)) (k : W p l e R s m args below meth c H locs cells slots Q (F0 m (pc + 3) ls (.ref (ad 6) :: rest))) : W p l e R s m args below meth c H locs cells slots Q (F0 m pc ls (.ref (ad 100) :: rest)) := va_get (D := D) (ci := 6) (C := R_M) (T := T_M) (N := 26) hc.1 hc.2.1 (hc.2.2.2.2.1.hts args) in_M hc.2.2.2.1 hc.2.2.2.2.2.1 hw.1 0 rfl rfl 6 (by decide) (hc.2.2.2.2.1.hts args _ lk) (fun _ h => h) rfl d k
theorem ldM_M_x (hc : Cx p s m args c cc nL own meth ret D cl7 (tyM ca)) (hw : Wd D cl7 (wM ad ca) A s.heap σ H locs) {i : Int} (d : decode cc pc = .ok (.laload, 1)) (hi : 0 ≤ i ∧ i < 36) (k : W p l e R s m args below meth c H locs cells slots Q (F0 m (pc + 1) ls (.long (zL (σ 6 i)) :: rest))) : W p l e R s m args below meth c H locs cells slots Q (F0 m pc ls (.int (zI i) :: .ref (ad 6) :: rest)) := by
  refine va_lald (D := D) hc.1 hc.2.1 hc.2.2.2.2.2.1 hw.1 4 3 rfl rfl (zI_in hi.1 hi.2 (by decide)) d ?_
  show W p l e R s m args below meth c H locs cells slots Q (F0 m (pc + 1) ls (.long (zL (σ 6 (((zI i).toNatClampNeg : Nat) : Int))) :: rest))
  rw [zI_ix (n := 36) hi.1 hi.2 (by decide)]
  exact k
theorem stM_M_x (hc : Cx p s m args c cc nL own meth ret D cl7 (tyM ca)) (hw : Wd D cl7 (wM ad ca) A s.heap σ H locs) {i v : Int} (d : decode cc pc = .ok (.lastore, 1)) (hi : 0 ≤ i ∧ i < 36) (k : ∀ (H1 : Heap) (locs1 : List Loc), Wd D cl7 (wM ad ca) A s.heap (up σ 6 i v) H1 locs1 → W p l e R s m args below meth c H1 locs1 cells slots Q (F0 m (pc + 1) ls rest)) : W p l e R s m args below meth c H locs cells slots Q (F0 m pc ls (.long (zL v) :: .int (zI i) :: .ref (ad 6) :: rest)) := by
  refine va_last (D := D) hc.1 hc.2.1 hc.2.2.2.2.2.1 hw.1 hw.2.1 hw.2.2 4 3 rfl rfl (zI_in hi.1 hi.2 (by decide)) d (fun H1 locs1 hP hD hS => ?_)
  rw [updL_z (n := 36) hi.1 hi.2 (by decide)] at hP hD
  exact k H1 locs1 ⟨hP, hD, hS⟩
theorem gM_M_y (hc : Cx p s m args c cc nL own meth ret D cl7 (tyM ca)) (hw : Wd D cl7 (wM ad ca) A s.heap σ H locs) {index : Nat} (lk : Cond.fieldLink own index "ProbeChoiceModel" "y" "[J" ∈ lw_gd) (d : decode cc pc = .ok (.getfield index, 3)) (k : W p l e R s m args below meth c H locs cells slots Q (F0 m (pc + 3) ls (.ref (ad 7) :: rest))) : W p l e R s m args below meth c H locs cells slots Q (F0 m pc ls (.ref (ad 100) :: rest)) := va_get (D := D) (ci := 6) (C := R_M) (T := T_M) (N := 26) hc.1 hc.2.1 (hc.2.2.2.2.1.hts args) in_M hc.2.2.2.1 hc.2.2.2.2.2.1 hw.1 0 rfl rfl 7 (by decide) (hc.2.2.2.2.1.hts args _ lk) (fun _ h => h) rfl d k
theorem ldM_M_y (hc : Cx p s m args c cc nL own meth ret D cl7 (tyM ca)) (hw : Wd D cl7 (wM ad ca) A s.heap σ H locs) {i : Int} (d : decode cc pc = .ok (.laload, 1)) (hi : 0 ≤ i ∧ i < 36) (k : W p l e R s m args below meth c H locs cells slots Q (F0 m (pc + 1) ls (.long (zL (σ 7 i)) :: rest))) : W p l e R s m args below meth c H locs cells slots Q (F0 m pc ls (.int (zI i) :: .ref (ad 7) :: rest)) := by
  refine va_lald (D := D) hc.1 hc.2.1 hc.2.2.2.2.2.1 hw.1 5 4 rfl rfl (zI_in hi.1 hi.2 (by decide)) d ?_
  show W p l e R s m args below meth c H locs cells slots Q (F0 m (pc + 1) ls (.long (zL (σ 7 (((zI i).toNatClampNeg : Nat) : Int))) :: rest))
  rw [zI_ix (n := 36) hi.1 hi.2 (by decide)]
  exact k
theorem stM_M_y (hc : Cx p s m args c cc nL own meth ret D cl7 (tyM ca)) (hw : Wd D cl7 (wM ad ca) A s.heap σ H locs) {i v : Int} (d : decode cc pc = .ok (.lastore, 1)) (hi : 0 ≤ i ∧ i < 36) (k : ∀ (H1 : Heap) (locs1 : List Loc), Wd D cl7 (wM ad ca) A s.heap (up σ 7 i v) H1 locs1 → W p l e R s m args below meth c H1 locs1 cells slots Q (F0 m (pc + 1) ls rest)) : W p l e R s m args below meth c H locs cells slots Q (F0 m pc ls (.long (zL v) :: .int (zI i) :: .ref (ad 7) :: rest)) := by
  refine va_last (D := D) hc.1 hc.2.1 hc.2.2.2.2.2.1 hw.1 hw.2.1 hw.2.2 5 4 rfl rfl (zI_in hi.1 hi.2 (by decide)) d (fun H1 locs1 hP hD hS => ?_)
  rw [updL_z (n := 36) hi.1 hi.2 (by decide)] at hP hD
  exact k H1 locs1 ⟨hP, hD, hS⟩
theorem gM_M_radius (hc : Cx p s m args c cc nL own meth ret D cl7 (tyM ca)) (hw : Wd D cl7 (wM ad ca) A s.heap σ H locs) {index : Nat} (lk : Cond.fieldLink own index "ProbeChoiceModel" "radius" "[J" ∈ lw_gd) (d : decode cc pc = .ok (.getfield index, 3)) (k : W p l e R s m args below meth c H locs cells slots Q (F0 m (pc + 3) ls (.ref (ad 8) :: rest))) : W p l e R s m args below meth c H locs cells slots Q (F0 m pc ls (.ref (ad 100) :: rest)) := va_get (D := D) (ci := 6) (C := R_M) (T := T_M) (N := 26) hc.1 hc.2.1 (hc.2.2.2.2.1.hts args) in_M hc.2.2.2.1 hc.2.2.2.2.2.1 hw.1 0 rfl rfl 8 (by decide) (hc.2.2.2.2.1.hts args _ lk) (fun _ h => h) rfl d k
theorem ldM_M_radius (hc : Cx p s m args c cc nL own meth ret D cl7 (tyM ca)) (hw : Wd D cl7 (wM ad ca) A s.heap σ H locs) {i : Int} (d : decode cc pc = .ok (.laload, 1)) (hi : 0 ≤ i ∧ i < 36) (k : W p l e R s m args below meth c H locs cells slots Q (F0 m (pc + 1) ls (.long (zL (σ 8 i)) :: rest))) : W p l e R s m args below meth c H locs cells slots Q (F0 m pc ls (.int (zI i) :: .ref (ad 8) :: rest)) := by
  refine va_lald (D := D) hc.1 hc.2.1 hc.2.2.2.2.2.1 hw.1 6 5 rfl rfl (zI_in hi.1 hi.2 (by decide)) d ?_
  show W p l e R s m args below meth c H locs cells slots Q (F0 m (pc + 1) ls (.long (zL (σ 8 (((zI i).toNatClampNeg : Nat) : Int))) :: rest))
  rw [zI_ix (n := 36) hi.1 hi.2 (by decide)]
  exact k
theorem stM_M_radius (hc : Cx p s m args c cc nL own meth ret D cl7 (tyM ca)) (hw : Wd D cl7 (wM ad ca) A s.heap σ H locs) {i v : Int} (d : decode cc pc = .ok (.lastore, 1)) (hi : 0 ≤ i ∧ i < 36) (k : ∀ (H1 : Heap) (locs1 : List Loc), Wd D cl7 (wM ad ca) A s.heap (up σ 8 i v) H1 locs1 → W p l e R s m args below meth c H1 locs1 cells slots Q (F0 m (pc + 1) ls rest)) : W p l e R s m args below meth c H locs cells slots Q (F0 m pc ls (.long (zL v) :: .int (zI i) :: .ref (ad 8) :: rest)) := by
  refine va_last (D := D) hc.1 hc.2.1 hc.2.2.2.2.2.1 hw.1 hw.2.1 hw.2.2 6 5 rfl rfl (zI_in hi.1 hi.2 (by decide)) d (fun H1 locs1 hP hD hS => ?_)
  rw [updL_z (n := 36) hi.1 hi.2 (by decide)] at hP hD
  exact k H1 locs1 ⟨hP, hD, hS⟩
theorem gM_M_forces (hc : Cx p s m args c cc nL own meth ret D cl7 (tyM ca)) (hw : Wd D cl7 (wM ad ca) A s.heap σ H locs) {index : Nat} (lk : Cond.fieldLink own index "ProbeChoiceModel" "forces" "[J" ∈ lw_gd) (d : decode cc pc = .ok (.getfield index, 3)) (k : W p l e R s m args below meth c H locs cells slots Q (F0 m (pc + 3) ls (.ref (ad 9) :: rest))) : W p l e R s m args below meth c H locs cells slots Q (F0 m pc ls (.ref (ad 100) :: rest)) := va_get (D := D) (ci := 6) (C := R_M) (T := T_M) (N := 26) hc.1 hc.2.1 (hc.2.2.2.2.1.hts args) in_M hc.2.2.2.1 hc.2.2.2.2.2.1 hw.1 0 rfl rfl 9 (by decide) (hc.2.2.2.2.1.hts args _ lk) (fun _ h => h) rfl d k
theorem ldM_M_forces (hc : Cx p s m args c cc nL own meth ret D cl7 (tyM ca)) (hw : Wd D cl7 (wM ad ca) A s.heap σ H locs) {i : Int} (d : decode cc pc = .ok (.laload, 1)) (hi : 0 ≤ i ∧ i < 36) (k : W p l e R s m args below meth c H locs cells slots Q (F0 m (pc + 1) ls (.long (zL (σ 9 i)) :: rest))) : W p l e R s m args below meth c H locs cells slots Q (F0 m pc ls (.int (zI i) :: .ref (ad 9) :: rest)) := by
  refine va_lald (D := D) hc.1 hc.2.1 hc.2.2.2.2.2.1 hw.1 7 6 rfl rfl (zI_in hi.1 hi.2 (by decide)) d ?_
  show W p l e R s m args below meth c H locs cells slots Q (F0 m (pc + 1) ls (.long (zL (σ 9 (((zI i).toNatClampNeg : Nat) : Int))) :: rest))
  rw [zI_ix (n := 36) hi.1 hi.2 (by decide)]
  exact k
theorem stM_M_forces (hc : Cx p s m args c cc nL own meth ret D cl7 (tyM ca)) (hw : Wd D cl7 (wM ad ca) A s.heap σ H locs) {i v : Int} (d : decode cc pc = .ok (.lastore, 1)) (hi : 0 ≤ i ∧ i < 36) (k : ∀ (H1 : Heap) (locs1 : List Loc), Wd D cl7 (wM ad ca) A s.heap (up σ 9 i v) H1 locs1 → W p l e R s m args below meth c H1 locs1 cells slots Q (F0 m (pc + 1) ls rest)) : W p l e R s m args below meth c H locs cells slots Q (F0 m pc ls (.long (zL v) :: .int (zI i) :: .ref (ad 9) :: rest)) := by
  refine va_last (D := D) hc.1 hc.2.1 hc.2.2.2.2.2.1 hw.1 hw.2.1 hw.2.2 7 6 rfl rfl (zI_in hi.1 hi.2 (by decide)) d (fun H1 locs1 hP hD hS => ?_)
  rw [updL_z (n := 36) hi.1 hi.2 (by decide)] at hP hD
  exact k H1 locs1 ⟨hP, hD, hS⟩
theorem gM_M_gap (hc : Cx p s m args c cc nL own meth ret D cl7 (tyM ca)) (hw : Wd D cl7 (wM ad ca) A s.heap σ H locs) {index : Nat} (lk : Cond.fieldLink own index "ProbeChoiceModel" "gap" "J" ∈ lw_gd) (d : decode cc pc = .ok (.getfield index, 3)) (k : W p l e R s m args below meth c H locs cells slots Q (F0 m (pc + 3) ls (.long (zL (σ 10 0)) :: rest))) : W p l e R s m args below meth c H locs cells slots Q (F0 m pc ls (.ref (ad 100) :: rest)) := va_get (D := D) (ci := 6) (C := R_M) (T := T_M) (N := 26) hc.1 hc.2.1 (hc.2.2.2.2.1.hts args) in_M hc.2.2.2.1 hc.2.2.2.2.2.1 hw.1 0 rfl rfl 10 (by decide) (hc.2.2.2.2.1.hts args _ lk) (fun _ h => h) rfl d k
theorem pM_M_gap (hc : Cx p s m args c cc nL own meth ret D cl7 (tyM ca)) (hw : Wd D cl7 (wM ad ca) A s.heap σ H locs) {index : Nat} {v : Int} (lk : Cond.fieldLink own index "ProbeChoiceModel" "gap" "J" ∈ lw_gd) (d : decode cc pc = .ok (.putfield index, 3)) (k : ∀ (H1 : Heap) (locs1 : List Loc), Wd D cl7 (wM ad ca) A s.heap (up σ 10 0 v) H1 locs1 → W p l e R s m args below meth c H1 locs1 cells slots Q (F0 m (pc + 3) ls rest)) : W p l e R s m args below meth c H locs cells slots Q (F0 m pc ls (.long (zL v) :: .ref (ad 100) :: rest)) :=
  va_put (D := D) (ci := 6) (C := R_M) (T := T_M) (N := 26) (ty := .long) hc.1 hc.2.1 (hc.2.2.2.2.1.hts args) in_M t_M t_M_ok n_M hc.2.2.2.1 hc.2.2.2.2.2.1 hw.1 hw.2.1 hw.2.2 0 rfl rfl 10 (by decide) (hc.2.2.2.2.1.hts args _ lk) (fun _ h => h) rfl (by decide +kernel) rfl rfl (Nat.le_of_ble_eq_true rfl) d (fun H1 locs1 hP hD hS => k H1 locs1 ⟨hP, hD, hS⟩)
theorem gM_M_ran (hc : Cx p s m args c cc nL own meth ret D cl7 (tyM ca)) (hw : Wd D cl7 (wM ad ca) A s.heap σ H locs) {index : Nat} (lk : Cond.fieldLink own index "ProbeChoiceModel" "ran" "Z" ∈ lw_gd) (d : decode cc pc = .ok (.getfield index, 3)) (k : W p l e R s m args below meth c H locs cells slots Q (F0 m (pc + 3) ls (.int (zI (σ 11 0)) :: rest))) : W p l e R s m args below meth c H locs cells slots Q (F0 m pc ls (.ref (ad 100) :: rest)) := va_get (D := D) (ci := 6) (C := R_M) (T := T_M) (N := 26) hc.1 hc.2.1 (hc.2.2.2.2.1.hts args) in_M hc.2.2.2.1 hc.2.2.2.2.2.1 hw.1 0 rfl rfl 11 (by decide) (hc.2.2.2.2.1.hts args _ lk) (fun _ h => h) rfl d k
theorem pM_M_ran (hc : Cx p s m args c cc nL own meth ret D cl7 (tyM ca)) (hw : Wd D cl7 (wM ad ca) A s.heap σ H locs) {index : Nat} {v : Int} (lk : Cond.fieldLink own index "ProbeChoiceModel" "ran" "Z" ∈ lw_gd) (d : decode cc pc = .ok (.putfield index, 3)) (h01 : v = 0 ∨ v = 1) (k : ∀ (H1 : Heap) (locs1 : List Loc), Wd D cl7 (wM ad ca) A s.heap (up σ 11 0 v) H1 locs1 → W p l e R s m args below meth c H1 locs1 cells slots Q (F0 m (pc + 3) ls rest)) : W p l e R s m args below meth c H locs cells slots Q (F0 m pc ls (.int (zI v) :: .ref (ad 100) :: rest)) :=
  va_put (D := D) (ci := 6) (C := R_M) (T := T_M) (N := 26) (ty := .boolean) hc.1 hc.2.1 (hc.2.2.2.2.1.hts args) in_M t_M t_M_ok n_M hc.2.2.2.1 hc.2.2.2.2.2.1 hw.1 hw.2.1 hw.2.2 0 rfl rfl 11 (by decide) (hc.2.2.2.2.1.hts args _ lk) (fun _ h => h) rfl (by decide +kernel) (by rcases h01 with rfl | rfl <;> decide) (by rcases h01 with rfl | rfl <;> decide) (Nat.le_of_ble_eq_true rfl) d (fun H1 locs1 hP hD hS => k H1 locs1 ⟨hP, hD, hS⟩)
theorem gM_M_looked (hc : Cx p s m args c cc nL own meth ret D cl7 (tyM ca)) (hw : Wd D cl7 (wM ad ca) A s.heap σ H locs) {index : Nat} (lk : Cond.fieldLink own index "ProbeChoiceModel" "looked" "I" ∈ lw_gd) (d : decode cc pc = .ok (.getfield index, 3)) (k : W p l e R s m args below meth c H locs cells slots Q (F0 m (pc + 3) ls (.int (zI (σ 12 0)) :: rest))) : W p l e R s m args below meth c H locs cells slots Q (F0 m pc ls (.ref (ad 100) :: rest)) := va_get (D := D) (ci := 6) (C := R_M) (T := T_M) (N := 26) hc.1 hc.2.1 (hc.2.2.2.2.1.hts args) in_M hc.2.2.2.1 hc.2.2.2.2.2.1 hw.1 0 rfl rfl 12 (by decide) (hc.2.2.2.2.1.hts args _ lk) (fun _ h => h) rfl d k
theorem pM_M_looked (hc : Cx p s m args c cc nL own meth ret D cl7 (tyM ca)) (hw : Wd D cl7 (wM ad ca) A s.heap σ H locs) {index : Nat} {v : Int} (lk : Cond.fieldLink own index "ProbeChoiceModel" "looked" "I" ∈ lw_gd) (d : decode cc pc = .ok (.putfield index, 3)) (k : ∀ (H1 : Heap) (locs1 : List Loc), Wd D cl7 (wM ad ca) A s.heap (up σ 12 0 v) H1 locs1 → W p l e R s m args below meth c H1 locs1 cells slots Q (F0 m (pc + 3) ls rest)) : W p l e R s m args below meth c H locs cells slots Q (F0 m pc ls (.int (zI v) :: .ref (ad 100) :: rest)) :=
  va_put (D := D) (ci := 6) (C := R_M) (T := T_M) (N := 26) (ty := .int) hc.1 hc.2.1 (hc.2.2.2.2.1.hts args) in_M t_M t_M_ok n_M hc.2.2.2.1 hc.2.2.2.2.2.1 hw.1 hw.2.1 hw.2.2 0 rfl rfl 12 (by decide) (hc.2.2.2.2.1.hts args _ lk) (fun _ h => h) rfl (by decide +kernel) rfl rfl (Nat.le_of_ble_eq_true rfl) d (fun H1 locs1 hP hD hS => k H1 locs1 ⟨hP, hD, hS⟩)
theorem gM_M_netAt (hc : Cx p s m args c cc nL own meth ret D cl7 (tyM ca)) (hw : Wd D cl7 (wM ad ca) A s.heap σ H locs) {index : Nat} (lk : Cond.fieldLink own index "ProbeChoiceModel" "netAt" "[I" ∈ lw_gd) (d : decode cc pc = .ok (.getfield index, 3)) (k : W p l e R s m args below meth c H locs cells slots Q (F0 m (pc + 3) ls (.ref (ad 13) :: rest))) : W p l e R s m args below meth c H locs cells slots Q (F0 m pc ls (.ref (ad 100) :: rest)) := va_get (D := D) (ci := 6) (C := R_M) (T := T_M) (N := 26) hc.1 hc.2.1 (hc.2.2.2.2.1.hts args) in_M hc.2.2.2.1 hc.2.2.2.2.2.1 hw.1 0 rfl rfl 13 (by decide) (hc.2.2.2.2.1.hts args _ lk) (fun _ h => h) rfl d k
theorem ldM_M_netAt (hc : Cx p s m args c cc nL own meth ret D cl7 (tyM ca)) (hw : Wd D cl7 (wM ad ca) A s.heap σ H locs) {i : Int} (d : decode cc pc = .ok (.iaload, 1)) (hi : 0 ≤ i ∧ i < 8) (k : W p l e R s m args below meth c H locs cells slots Q (F0 m (pc + 1) ls (.int (zI (σ 13 i)) :: rest))) : W p l e R s m args below meth c H locs cells slots Q (F0 m pc ls (.int (zI i) :: .ref (ad 13) :: rest)) := by
  refine va_iald (D := D) hc.1 hc.2.1 hc.2.2.2.2.2.1 hw.1 8 7 rfl rfl (zI_in hi.1 hi.2 (by decide)) d ?_
  show W p l e R s m args below meth c H locs cells slots Q (F0 m (pc + 1) ls (.int (zI (σ 13 (((zI i).toNatClampNeg : Nat) : Int))) :: rest))
  rw [zI_ix (n := 8) hi.1 hi.2 (by decide)]
  exact k
theorem stM_M_netAt (hc : Cx p s m args c cc nL own meth ret D cl7 (tyM ca)) (hw : Wd D cl7 (wM ad ca) A s.heap σ H locs) {i v : Int} (d : decode cc pc = .ok (.iastore, 1)) (hi : 0 ≤ i ∧ i < 8) (k : ∀ (H1 : Heap) (locs1 : List Loc), Wd D cl7 (wM ad ca) A s.heap (up σ 13 i v) H1 locs1 → W p l e R s m args below meth c H1 locs1 cells slots Q (F0 m (pc + 1) ls rest)) : W p l e R s m args below meth c H locs cells slots Q (F0 m pc ls (.int (zI v) :: .int (zI i) :: .ref (ad 13) :: rest)) := by
  refine va_iast (D := D) hc.1 hc.2.1 hc.2.2.2.2.2.1 hw.1 hw.2.1 hw.2.2 8 7 rfl rfl (zI_in hi.1 hi.2 (by decide)) d (fun H1 locs1 hP hD hS => ?_)
  rw [updI_z (n := 8) hi.1 hi.2 (by decide)] at hP hD
  exact k H1 locs1 ⟨hP, hD, hS⟩
theorem gM_M_digit (hc : Cx p s m args c cc nL own meth ret D cl7 (tyM ca)) (hw : Wd D cl7 (wM ad ca) A s.heap σ H locs) {index : Nat} (lk : Cond.fieldLink own index "ProbeChoiceModel" "digit" "[I" ∈ lw_gd) (d : decode cc pc = .ok (.getfield index, 3)) (k : W p l e R s m args below meth c H locs cells slots Q (F0 m (pc + 3) ls (.ref (ad 14) :: rest))) : W p l e R s m args below meth c H locs cells slots Q (F0 m pc ls (.ref (ad 100) :: rest)) := va_get (D := D) (ci := 6) (C := R_M) (T := T_M) (N := 26) hc.1 hc.2.1 (hc.2.2.2.2.1.hts args) in_M hc.2.2.2.1 hc.2.2.2.2.2.1 hw.1 0 rfl rfl 14 (by decide) (hc.2.2.2.2.1.hts args _ lk) (fun _ h => h) rfl d k
theorem ldM_M_digit (hc : Cx p s m args c cc nL own meth ret D cl7 (tyM ca)) (hw : Wd D cl7 (wM ad ca) A s.heap σ H locs) {i : Int} (d : decode cc pc = .ok (.iaload, 1)) (hi : 0 ≤ i ∧ i < 8) (k : W p l e R s m args below meth c H locs cells slots Q (F0 m (pc + 1) ls (.int (zI (σ 14 i)) :: rest))) : W p l e R s m args below meth c H locs cells slots Q (F0 m pc ls (.int (zI i) :: .ref (ad 14) :: rest)) := by
  refine va_iald (D := D) hc.1 hc.2.1 hc.2.2.2.2.2.1 hw.1 9 8 rfl rfl (zI_in hi.1 hi.2 (by decide)) d ?_
  show W p l e R s m args below meth c H locs cells slots Q (F0 m (pc + 1) ls (.int (zI (σ 14 (((zI i).toNatClampNeg : Nat) : Int))) :: rest))
  rw [zI_ix (n := 8) hi.1 hi.2 (by decide)]
  exact k
theorem stM_M_digit (hc : Cx p s m args c cc nL own meth ret D cl7 (tyM ca)) (hw : Wd D cl7 (wM ad ca) A s.heap σ H locs) {i v : Int} (d : decode cc pc = .ok (.iastore, 1)) (hi : 0 ≤ i ∧ i < 8) (k : ∀ (H1 : Heap) (locs1 : List Loc), Wd D cl7 (wM ad ca) A s.heap (up σ 14 i v) H1 locs1 → W p l e R s m args below meth c H1 locs1 cells slots Q (F0 m (pc + 1) ls rest)) : W p l e R s m args below meth c H locs cells slots Q (F0 m pc ls (.int (zI v) :: .int (zI i) :: .ref (ad 14) :: rest)) := by
  refine va_iast (D := D) hc.1 hc.2.1 hc.2.2.2.2.2.1 hw.1 hw.2.1 hw.2.2 9 8 rfl rfl (zI_in hi.1 hi.2 (by decide)) d (fun H1 locs1 hP hD hS => ?_)
  rw [updI_z (n := 8) hi.1 hi.2 (by decide)] at hP hD
  exact k H1 locs1 ⟨hP, hD, hS⟩
theorem gM_M_best (hc : Cx p s m args c cc nL own meth ret D cl7 (tyM ca)) (hw : Wd D cl7 (wM ad ca) A s.heap σ H locs) {index : Nat} (lk : Cond.fieldLink own index "ProbeChoiceModel" "best" "[I" ∈ lw_gd) (d : decode cc pc = .ok (.getfield index, 3)) (k : W p l e R s m args below meth c H locs cells slots Q (F0 m (pc + 3) ls (.ref (ad 15) :: rest))) : W p l e R s m args below meth c H locs cells slots Q (F0 m pc ls (.ref (ad 100) :: rest)) := va_get (D := D) (ci := 6) (C := R_M) (T := T_M) (N := 26) hc.1 hc.2.1 (hc.2.2.2.2.1.hts args) in_M hc.2.2.2.1 hc.2.2.2.2.2.1 hw.1 0 rfl rfl 15 (by decide) (hc.2.2.2.2.1.hts args _ lk) (fun _ h => h) rfl d k
theorem ldM_M_best (hc : Cx p s m args c cc nL own meth ret D cl7 (tyM ca)) (hw : Wd D cl7 (wM ad ca) A s.heap σ H locs) {i : Int} (d : decode cc pc = .ok (.iaload, 1)) (hi : 0 ≤ i ∧ i < 8) (k : W p l e R s m args below meth c H locs cells slots Q (F0 m (pc + 1) ls (.int (zI (σ 15 i)) :: rest))) : W p l e R s m args below meth c H locs cells slots Q (F0 m pc ls (.int (zI i) :: .ref (ad 15) :: rest)) := by
  refine va_iald (D := D) hc.1 hc.2.1 hc.2.2.2.2.2.1 hw.1 10 9 rfl rfl (zI_in hi.1 hi.2 (by decide)) d ?_
  show W p l e R s m args below meth c H locs cells slots Q (F0 m (pc + 1) ls (.int (zI (σ 15 (((zI i).toNatClampNeg : Nat) : Int))) :: rest))
  rw [zI_ix (n := 8) hi.1 hi.2 (by decide)]
  exact k
theorem stM_M_best (hc : Cx p s m args c cc nL own meth ret D cl7 (tyM ca)) (hw : Wd D cl7 (wM ad ca) A s.heap σ H locs) {i v : Int} (d : decode cc pc = .ok (.iastore, 1)) (hi : 0 ≤ i ∧ i < 8) (k : ∀ (H1 : Heap) (locs1 : List Loc), Wd D cl7 (wM ad ca) A s.heap (up σ 15 i v) H1 locs1 → W p l e R s m args below meth c H1 locs1 cells slots Q (F0 m (pc + 1) ls rest)) : W p l e R s m args below meth c H locs cells slots Q (F0 m pc ls (.int (zI v) :: .int (zI i) :: .ref (ad 15) :: rest)) := by
  refine va_iast (D := D) hc.1 hc.2.1 hc.2.2.2.2.2.1 hw.1 hw.2.1 hw.2.2 10 9 rfl rfl (zI_in hi.1 hi.2 (by decide)) d (fun H1 locs1 hP hD hS => ?_)
  rw [updI_z (n := 8) hi.1 hi.2 (by decide)] at hP hD
  exact k H1 locs1 ⟨hP, hD, hS⟩
theorem gM_M_isProved (hc : Cx p s m args c cc nL own meth ret D cl7 (tyM ca)) (hw : Wd D cl7 (wM ad ca) A s.heap σ H locs) {index : Nat} (lk : Cond.fieldLink own index "ProbeChoiceModel" "isProved" "Z" ∈ lw_gd) (d : decode cc pc = .ok (.getfield index, 3)) (k : W p l e R s m args below meth c H locs cells slots Q (F0 m (pc + 3) ls (.int (zI (σ 16 0)) :: rest))) : W p l e R s m args below meth c H locs cells slots Q (F0 m pc ls (.ref (ad 100) :: rest)) := va_get (D := D) (ci := 6) (C := R_M) (T := T_M) (N := 26) hc.1 hc.2.1 (hc.2.2.2.2.1.hts args) in_M hc.2.2.2.1 hc.2.2.2.2.2.1 hw.1 0 rfl rfl 16 (by decide) (hc.2.2.2.2.1.hts args _ lk) (fun _ h => h) rfl d k
theorem pM_M_isProved (hc : Cx p s m args c cc nL own meth ret D cl7 (tyM ca)) (hw : Wd D cl7 (wM ad ca) A s.heap σ H locs) {index : Nat} {v : Int} (lk : Cond.fieldLink own index "ProbeChoiceModel" "isProved" "Z" ∈ lw_gd) (d : decode cc pc = .ok (.putfield index, 3)) (h01 : v = 0 ∨ v = 1) (k : ∀ (H1 : Heap) (locs1 : List Loc), Wd D cl7 (wM ad ca) A s.heap (up σ 16 0 v) H1 locs1 → W p l e R s m args below meth c H1 locs1 cells slots Q (F0 m (pc + 3) ls rest)) : W p l e R s m args below meth c H locs cells slots Q (F0 m pc ls (.int (zI v) :: .ref (ad 100) :: rest)) :=
  va_put (D := D) (ci := 6) (C := R_M) (T := T_M) (N := 26) (ty := .boolean) hc.1 hc.2.1 (hc.2.2.2.2.1.hts args) in_M t_M t_M_ok n_M hc.2.2.2.1 hc.2.2.2.2.2.1 hw.1 hw.2.1 hw.2.2 0 rfl rfl 16 (by decide) (hc.2.2.2.2.1.hts args _ lk) (fun _ h => h) rfl (by decide +kernel) (by rcases h01 with rfl | rfl <;> decide) (by rcases h01 with rfl | rfl <;> decide) (Nat.le_of_ble_eq_true rfl) d (fun H1 locs1 hP hD hS => k H1 locs1 ⟨hP, hD, hS⟩)
theorem gM_M_probes (hc : Cx p s m args c cc nL own meth ret D cl7 (tyM ca)) (hw : Wd D cl7 (wM ad ca) A s.heap σ H locs) {index : Nat} (lk : Cond.fieldLink own index "ProbeChoiceModel" "probes" "I" ∈ lw_gd) (d : decode cc pc = .ok (.getfield index, 3)) (k : W p l e R s m args below meth c H locs cells slots Q (F0 m (pc + 3) ls (.int (zI (σ 17 0)) :: rest))) : W p l e R s m args below meth c H locs cells slots Q (F0 m pc ls (.ref (ad 100) :: rest)) := va_get (D := D) (ci := 6) (C := R_M) (T := T_M) (N := 26) hc.1 hc.2.1 (hc.2.2.2.2.1.hts args) in_M hc.2.2.2.1 hc.2.2.2.2.2.1 hw.1 0 rfl rfl 17 (by decide) (hc.2.2.2.2.1.hts args _ lk) (fun _ h => h) rfl d k
theorem pM_M_probes (hc : Cx p s m args c cc nL own meth ret D cl7 (tyM ca)) (hw : Wd D cl7 (wM ad ca) A s.heap σ H locs) {index : Nat} {v : Int} (lk : Cond.fieldLink own index "ProbeChoiceModel" "probes" "I" ∈ lw_gd) (d : decode cc pc = .ok (.putfield index, 3)) (k : ∀ (H1 : Heap) (locs1 : List Loc), Wd D cl7 (wM ad ca) A s.heap (up σ 17 0 v) H1 locs1 → W p l e R s m args below meth c H1 locs1 cells slots Q (F0 m (pc + 3) ls rest)) : W p l e R s m args below meth c H locs cells slots Q (F0 m pc ls (.int (zI v) :: .ref (ad 100) :: rest)) :=
  va_put (D := D) (ci := 6) (C := R_M) (T := T_M) (N := 26) (ty := .int) hc.1 hc.2.1 (hc.2.2.2.2.1.hts args) in_M t_M t_M_ok n_M hc.2.2.2.1 hc.2.2.2.2.2.1 hw.1 hw.2.1 hw.2.2 0 rfl rfl 17 (by decide) (hc.2.2.2.2.1.hts args _ lk) (fun _ h => h) rfl (by decide +kernel) rfl rfl (Nat.le_of_ble_eq_true rfl) d (fun H1 locs1 hP hD hS => k H1 locs1 ⟨hP, hD, hS⟩)
theorem gM_M_probe (hc : Cx p s m args c cc nL own meth ret D cl7 (tyM ca)) (hw : Wd D cl7 (wM ad ca) A s.heap σ H locs) {index : Nat} (lk : Cond.fieldLink own index "ProbeChoiceModel" "probe" "[I" ∈ lw_gd) (d : decode cc pc = .ok (.getfield index, 3)) (k : W p l e R s m args below meth c H locs cells slots Q (F0 m (pc + 3) ls (.ref (ad 18) :: rest))) : W p l e R s m args below meth c H locs cells slots Q (F0 m pc ls (.ref (ad 100) :: rest)) := va_get (D := D) (ci := 6) (C := R_M) (T := T_M) (N := 26) hc.1 hc.2.1 (hc.2.2.2.2.1.hts args) in_M hc.2.2.2.1 hc.2.2.2.2.2.1 hw.1 0 rfl rfl 18 (by decide) (hc.2.2.2.2.1.hts args _ lk) (fun _ h => h) rfl d k
theorem ldM_M_probe (hc : Cx p s m args c cc nL own meth ret D cl7 (tyM ca)) (hw : Wd D cl7 (wM ad ca) A s.heap σ H locs) {i : Int} (d : decode cc pc = .ok (.iaload, 1)) (hi : 0 ≤ i ∧ i < 8) (k : W p l e R s m args below meth c H locs cells slots Q (F0 m (pc + 1) ls (.int (zI (σ 18 i)) :: rest))) : W p l e R s m args below meth c H locs cells slots Q (F0 m pc ls (.int (zI i) :: .ref (ad 18) :: rest)) := by
  refine va_iald (D := D) hc.1 hc.2.1 hc.2.2.2.2.2.1 hw.1 11 10 rfl rfl (zI_in hi.1 hi.2 (by decide)) d ?_
  show W p l e R s m args below meth c H locs cells slots Q (F0 m (pc + 1) ls (.int (zI (σ 18 (((zI i).toNatClampNeg : Nat) : Int))) :: rest))
  rw [zI_ix (n := 8) hi.1 hi.2 (by decide)]
  exact k
theorem stM_M_probe (hc : Cx p s m args c cc nL own meth ret D cl7 (tyM ca)) (hw : Wd D cl7 (wM ad ca) A s.heap σ H locs) {i v : Int} (d : decode cc pc = .ok (.iastore, 1)) (hi : 0 ≤ i ∧ i < 8) (k : ∀ (H1 : Heap) (locs1 : List Loc), Wd D cl7 (wM ad ca) A s.heap (up σ 18 i v) H1 locs1 → W p l e R s m args below meth c H1 locs1 cells slots Q (F0 m (pc + 1) ls rest)) : W p l e R s m args below meth c H locs cells slots Q (F0 m pc ls (.int (zI v) :: .int (zI i) :: .ref (ad 18) :: rest)) := by
  refine va_iast (D := D) hc.1 hc.2.1 hc.2.2.2.2.2.1 hw.1 hw.2.1 hw.2.2 11 10 rfl rfl (zI_in hi.1 hi.2 (by decide)) d (fun H1 locs1 hP hD hS => ?_)
  rw [updI_z (n := 8) hi.1 hi.2 (by decide)] at hP hD
  exact k H1 locs1 ⟨hP, hD, hS⟩
theorem gM_M_partCount (hc : Cx p s m args c cc nL own meth ret D cl7 (tyM ca)) (hw : Wd D cl7 (wM ad ca) A s.heap σ H locs) {index : Nat} (lk : Cond.fieldLink own index "ProbeChoiceModel" "partCount" "[I" ∈ lw_gd) (d : decode cc pc = .ok (.getfield index, 3)) (k : W p l e R s m args below meth c H locs cells slots Q (F0 m (pc + 3) ls (.ref (ad 19) :: rest))) : W p l e R s m args below meth c H locs cells slots Q (F0 m pc ls (.ref (ad 100) :: rest)) := va_get (D := D) (ci := 6) (C := R_M) (T := T_M) (N := 26) hc.1 hc.2.1 (hc.2.2.2.2.1.hts args) in_M hc.2.2.2.1 hc.2.2.2.2.2.1 hw.1 0 rfl rfl 19 (by decide) (hc.2.2.2.2.1.hts args _ lk) (fun _ h => h) rfl d k
theorem ldM_M_partCount (hc : Cx p s m args c cc nL own meth ret D cl7 (tyM ca)) (hw : Wd D cl7 (wM ad ca) A s.heap σ H locs) {i : Int} (d : decode cc pc = .ok (.iaload, 1)) (hi : 0 ≤ i ∧ i < 144) (k : W p l e R s m args below meth c H locs cells slots Q (F0 m (pc + 1) ls (.int (zI (σ 19 i)) :: rest))) : W p l e R s m args below meth c H locs cells slots Q (F0 m pc ls (.int (zI i) :: .ref (ad 19) :: rest)) := by
  refine va_iald (D := D) hc.1 hc.2.1 hc.2.2.2.2.2.1 hw.1 12 11 rfl rfl (zI_in hi.1 hi.2 (by decide)) d ?_
  show W p l e R s m args below meth c H locs cells slots Q (F0 m (pc + 1) ls (.int (zI (σ 19 (((zI i).toNatClampNeg : Nat) : Int))) :: rest))
  rw [zI_ix (n := 144) hi.1 hi.2 (by decide)]
  exact k
theorem stM_M_partCount (hc : Cx p s m args c cc nL own meth ret D cl7 (tyM ca)) (hw : Wd D cl7 (wM ad ca) A s.heap σ H locs) {i v : Int} (d : decode cc pc = .ok (.iastore, 1)) (hi : 0 ≤ i ∧ i < 144) (k : ∀ (H1 : Heap) (locs1 : List Loc), Wd D cl7 (wM ad ca) A s.heap (up σ 19 i v) H1 locs1 → W p l e R s m args below meth c H1 locs1 cells slots Q (F0 m (pc + 1) ls rest)) : W p l e R s m args below meth c H locs cells slots Q (F0 m pc ls (.int (zI v) :: .int (zI i) :: .ref (ad 19) :: rest)) := by
  refine va_iast (D := D) hc.1 hc.2.1 hc.2.2.2.2.2.1 hw.1 hw.2.1 hw.2.2 12 11 rfl rfl (zI_in hi.1 hi.2 (by decide)) d (fun H1 locs1 hP hD hS => ?_)
  rw [updI_z (n := 144) hi.1 hi.2 (by decide)] at hP hD
  exact k H1 locs1 ⟨hP, hD, hS⟩
theorem gM_M_parts (hc : Cx p s m args c cc nL own meth ret D cl7 (tyM ca)) (hw : Wd D cl7 (wM ad ca) A s.heap σ H locs) {index : Nat} (lk : Cond.fieldLink own index "ProbeChoiceModel" "parts" "[J" ∈ lw_gd) (d : decode cc pc = .ok (.getfield index, 3)) (k : W p l e R s m args below meth c H locs cells slots Q (F0 m (pc + 3) ls (.ref (ad 20) :: rest))) : W p l e R s m args below meth c H locs cells slots Q (F0 m pc ls (.ref (ad 100) :: rest)) := va_get (D := D) (ci := 6) (C := R_M) (T := T_M) (N := 26) hc.1 hc.2.1 (hc.2.2.2.2.1.hts args) in_M hc.2.2.2.1 hc.2.2.2.2.2.1 hw.1 0 rfl rfl 20 (by decide) (hc.2.2.2.2.1.hts args _ lk) (fun _ h => h) rfl d k
theorem ldM_M_parts (hc : Cx p s m args c cc nL own meth ret D cl7 (tyM ca)) (hw : Wd D cl7 (wM ad ca) A s.heap σ H locs) {i : Int} (d : decode cc pc = .ok (.laload, 1)) (hi : 0 ≤ i ∧ i < 1152) (k : W p l e R s m args below meth c H locs cells slots Q (F0 m (pc + 1) ls (.long (zL (σ 20 i)) :: rest))) : W p l e R s m args below meth c H locs cells slots Q (F0 m pc ls (.int (zI i) :: .ref (ad 20) :: rest)) := by
  refine va_lald (D := D) hc.1 hc.2.1 hc.2.2.2.2.2.1 hw.1 13 12 rfl rfl (zI_in hi.1 hi.2 (by decide)) d ?_
  show W p l e R s m args below meth c H locs cells slots Q (F0 m (pc + 1) ls (.long (zL (σ 20 (((zI i).toNatClampNeg : Nat) : Int))) :: rest))
  rw [zI_ix (n := 1152) hi.1 hi.2 (by decide)]
  exact k
theorem stM_M_parts (hc : Cx p s m args c cc nL own meth ret D cl7 (tyM ca)) (hw : Wd D cl7 (wM ad ca) A s.heap σ H locs) {i v : Int} (d : decode cc pc = .ok (.lastore, 1)) (hi : 0 ≤ i ∧ i < 1152) (k : ∀ (H1 : Heap) (locs1 : List Loc), Wd D cl7 (wM ad ca) A s.heap (up σ 20 i v) H1 locs1 → W p l e R s m args below meth c H1 locs1 cells slots Q (F0 m (pc + 1) ls rest)) : W p l e R s m args below meth c H locs cells slots Q (F0 m pc ls (.long (zL v) :: .int (zI i) :: .ref (ad 20) :: rest)) := by
  refine va_last (D := D) hc.1 hc.2.1 hc.2.2.2.2.2.1 hw.1 hw.2.1 hw.2.2 13 12 rfl rfl (zI_in hi.1 hi.2 (by decide)) d (fun H1 locs1 hP hD hS => ?_)
  rw [updL_z (n := 1152) hi.1 hi.2 (by decide)] at hP hD
  exact k H1 locs1 ⟨hP, hD, hS⟩
theorem gM_M_failed (hc : Cx p s m args c cc nL own meth ret D cl7 (tyM ca)) (hw : Wd D cl7 (wM ad ca) A s.heap σ H locs) {index : Nat} (lk : Cond.fieldLink own index "ProbeChoiceModel" "failed" "[I" ∈ lw_gd) (d : decode cc pc = .ok (.getfield index, 3)) (k : W p l e R s m args below meth c H locs cells slots Q (F0 m (pc + 3) ls (.ref (ad 21) :: rest))) : W p l e R s m args below meth c H locs cells slots Q (F0 m pc ls (.ref (ad 100) :: rest)) := va_get (D := D) (ci := 6) (C := R_M) (T := T_M) (N := 26) hc.1 hc.2.1 (hc.2.2.2.2.1.hts args) in_M hc.2.2.2.1 hc.2.2.2.2.2.1 hw.1 0 rfl rfl 21 (by decide) (hc.2.2.2.2.1.hts args _ lk) (fun _ h => h) rfl d k
theorem ldM_M_failed (hc : Cx p s m args c cc nL own meth ret D cl7 (tyM ca)) (hw : Wd D cl7 (wM ad ca) A s.heap σ H locs) {i : Int} (d : decode cc pc = .ok (.iaload, 1)) (hi : 0 ≤ i ∧ i < 12) (k : W p l e R s m args below meth c H locs cells slots Q (F0 m (pc + 1) ls (.int (zI (σ 21 i)) :: rest))) : W p l e R s m args below meth c H locs cells slots Q (F0 m pc ls (.int (zI i) :: .ref (ad 21) :: rest)) := by
  refine va_iald (D := D) hc.1 hc.2.1 hc.2.2.2.2.2.1 hw.1 14 13 rfl rfl (zI_in hi.1 hi.2 (by decide)) d ?_
  show W p l e R s m args below meth c H locs cells slots Q (F0 m (pc + 1) ls (.int (zI (σ 21 (((zI i).toNatClampNeg : Nat) : Int))) :: rest))
  rw [zI_ix (n := 12) hi.1 hi.2 (by decide)]
  exact k
theorem stM_M_failed (hc : Cx p s m args c cc nL own meth ret D cl7 (tyM ca)) (hw : Wd D cl7 (wM ad ca) A s.heap σ H locs) {i v : Int} (d : decode cc pc = .ok (.iastore, 1)) (hi : 0 ≤ i ∧ i < 12) (k : ∀ (H1 : Heap) (locs1 : List Loc), Wd D cl7 (wM ad ca) A s.heap (up σ 21 i v) H1 locs1 → W p l e R s m args below meth c H1 locs1 cells slots Q (F0 m (pc + 1) ls rest)) : W p l e R s m args below meth c H locs cells slots Q (F0 m pc ls (.int (zI v) :: .int (zI i) :: .ref (ad 21) :: rest)) := by
  refine va_iast (D := D) hc.1 hc.2.1 hc.2.2.2.2.2.1 hw.1 hw.2.1 hw.2.2 14 13 rfl rfl (zI_in hi.1 hi.2 (by decide)) d (fun H1 locs1 hP hD hS => ?_)
  rw [updI_z (n := 12) hi.1 hi.2 (by decide)] at hP hD
  exact k H1 locs1 ⟨hP, hD, hS⟩
theorem gM_M_flown (hc : Cx p s m args c cc nL own meth ret D cl7 (tyM ca)) (hw : Wd D cl7 (wM ad ca) A s.heap σ H locs) {index : Nat} (lk : Cond.fieldLink own index "ProbeChoiceModel" "flown" "[Z" ∈ lw_gd) (d : decode cc pc = .ok (.getfield index, 3)) (k : W p l e R s m args below meth c H locs cells slots Q (F0 m (pc + 3) ls (.ref (ad 22) :: rest))) : W p l e R s m args below meth c H locs cells slots Q (F0 m pc ls (.ref (ad 100) :: rest)) := va_get (D := D) (ci := 6) (C := R_M) (T := T_M) (N := 26) hc.1 hc.2.1 (hc.2.2.2.2.1.hts args) in_M hc.2.2.2.1 hc.2.2.2.2.2.1 hw.1 0 rfl rfl 22 (by decide) (hc.2.2.2.2.1.hts args _ lk) (fun _ h => h) rfl d k
theorem ldM_M_flown (hc : Cx p s m args c cc nL own meth ret D cl7 (tyM ca)) (hw : Wd D cl7 (wM ad ca) A s.heap σ H locs) {i : Int} (d : decode cc pc = .ok (.baload, 1)) (hi : 0 ≤ i ∧ i < 36) (k : W p l e R s m args below meth c H locs cells slots Q (F0 m (pc + 1) ls (.int (zI (σ 22 i)) :: rest))) : W p l e R s m args below meth c H locs cells slots Q (F0 m pc ls (.int (zI i) :: .ref (ad 22) :: rest)) := by
  refine va_zald (D := D) hc.1 hc.2.1 hc.2.2.2.2.2.1 hw.1 15 14 rfl rfl (zI_in hi.1 hi.2 (by decide)) d ?_
  show W p l e R s m args below meth c H locs cells slots Q (F0 m (pc + 1) ls (.int (zI (σ 22 (((zI i).toNatClampNeg : Nat) : Int))) :: rest))
  rw [zI_ix (n := 36) hi.1 hi.2 (by decide)]
  exact k
theorem stM_M_flown (hc : Cx p s m args c cc nL own meth ret D cl7 (tyM ca)) (hw : Wd D cl7 (wM ad ca) A s.heap σ H locs) {i v : Int} (d : decode cc pc = .ok (.bastore, 1)) (hi : 0 ≤ i ∧ i < 36) (h01 : v = 0 ∨ v = 1) (k : ∀ (H1 : Heap) (locs1 : List Loc), Wd D cl7 (wM ad ca) A s.heap (up σ 22 i v) H1 locs1 → W p l e R s m args below meth c H1 locs1 cells slots Q (F0 m (pc + 1) ls rest)) : W p l e R s m args below meth c H locs cells slots Q (F0 m pc ls (.int (zI v) :: .int (zI i) :: .ref (ad 22) :: rest)) := by
  refine va_zast (D := D) hc.1 hc.2.1 hc.2.2.2.2.2.1 hw.1 hw.2.1 hw.2.2 15 14 rfl rfl (zI_in hi.1 hi.2 (by decide)) d (fun H1 locs1 hP hD hS => ?_)
  rw [nar_z h01, updI_z (n := 36) hi.1 hi.2 (by decide)] at hP hD
  exact k H1 locs1 ⟨hP, hD, hS⟩
theorem gM_M_out (hc : Cx p s m args c cc nL own meth ret D cl7 (tyM ca)) (hw : Wd D cl7 (wM ad ca) A s.heap σ H locs) {index : Nat} (lk : Cond.fieldLink own index "ProbeChoiceModel" "out" "[I" ∈ lw_gd) (d : decode cc pc = .ok (.getfield index, 3)) (k : W p l e R s m args below meth c H locs cells slots Q (F0 m (pc + 3) ls (.ref (ad 23) :: rest))) : W p l e R s m args below meth c H locs cells slots Q (F0 m pc ls (.ref (ad 100) :: rest)) := va_get (D := D) (ci := 6) (C := R_M) (T := T_M) (N := 26) hc.1 hc.2.1 (hc.2.2.2.2.1.hts args) in_M hc.2.2.2.1 hc.2.2.2.2.2.1 hw.1 0 rfl rfl 23 (by decide) (hc.2.2.2.2.1.hts args _ lk) (fun _ h => h) rfl d k
theorem ldM_M_out (hc : Cx p s m args c cc nL own meth ret D cl7 (tyM ca)) (hw : Wd D cl7 (wM ad ca) A s.heap σ H locs) {i : Int} (d : decode cc pc = .ok (.iaload, 1)) (hi : 0 ≤ i ∧ i < 400) (k : W p l e R s m args below meth c H locs cells slots Q (F0 m (pc + 1) ls (.int (zI (σ 23 i)) :: rest))) : W p l e R s m args below meth c H locs cells slots Q (F0 m pc ls (.int (zI i) :: .ref (ad 23) :: rest)) := by
  refine va_iald (D := D) hc.1 hc.2.1 hc.2.2.2.2.2.1 hw.1 16 15 rfl rfl (zI_in hi.1 hi.2 (by decide)) d ?_
  show W p l e R s m args below meth c H locs cells slots Q (F0 m (pc + 1) ls (.int (zI (σ 23 (((zI i).toNatClampNeg : Nat) : Int))) :: rest))
  rw [zI_ix (n := 400) hi.1 hi.2 (by decide)]
  exact k
theorem stM_M_out (hc : Cx p s m args c cc nL own meth ret D cl7 (tyM ca)) (hw : Wd D cl7 (wM ad ca) A s.heap σ H locs) {i v : Int} (d : decode cc pc = .ok (.iastore, 1)) (hi : 0 ≤ i ∧ i < 400) (k : ∀ (H1 : Heap) (locs1 : List Loc), Wd D cl7 (wM ad ca) A s.heap (up σ 23 i v) H1 locs1 → W p l e R s m args below meth c H1 locs1 cells slots Q (F0 m (pc + 1) ls rest)) : W p l e R s m args below meth c H locs cells slots Q (F0 m pc ls (.int (zI v) :: .int (zI i) :: .ref (ad 23) :: rest)) := by
  refine va_iast (D := D) hc.1 hc.2.1 hc.2.2.2.2.2.1 hw.1 hw.2.1 hw.2.2 16 15 rfl rfl (zI_in hi.1 hi.2 (by decide)) d (fun H1 locs1 hP hD hS => ?_)
  rw [updI_z (n := 400) hi.1 hi.2 (by decide)] at hP hD
  exact k H1 locs1 ⟨hP, hD, hS⟩
theorem gM_M_written (hc : Cx p s m args c cc nL own meth ret D cl7 (tyM ca)) (hw : Wd D cl7 (wM ad ca) A s.heap σ H locs) {index : Nat} (lk : Cond.fieldLink own index "ProbeChoiceModel" "written" "I" ∈ lw_gd) (d : decode cc pc = .ok (.getfield index, 3)) (k : W p l e R s m args below meth c H locs cells slots Q (F0 m (pc + 3) ls (.int (zI (σ 24 0)) :: rest))) : W p l e R s m args below meth c H locs cells slots Q (F0 m pc ls (.ref (ad 100) :: rest)) := va_get (D := D) (ci := 6) (C := R_M) (T := T_M) (N := 26) hc.1 hc.2.1 (hc.2.2.2.2.1.hts args) in_M hc.2.2.2.1 hc.2.2.2.2.2.1 hw.1 0 rfl rfl 24 (by decide) (hc.2.2.2.2.1.hts args _ lk) (fun _ h => h) rfl d k
theorem pM_M_written (hc : Cx p s m args c cc nL own meth ret D cl7 (tyM ca)) (hw : Wd D cl7 (wM ad ca) A s.heap σ H locs) {index : Nat} {v : Int} (lk : Cond.fieldLink own index "ProbeChoiceModel" "written" "I" ∈ lw_gd) (d : decode cc pc = .ok (.putfield index, 3)) (k : ∀ (H1 : Heap) (locs1 : List Loc), Wd D cl7 (wM ad ca) A s.heap (up σ 24 0 v) H1 locs1 → W p l e R s m args below meth c H1 locs1 cells slots Q (F0 m (pc + 3) ls rest)) : W p l e R s m args below meth c H locs cells slots Q (F0 m pc ls (.int (zI v) :: .ref (ad 100) :: rest)) :=
  va_put (D := D) (ci := 6) (C := R_M) (T := T_M) (N := 26) (ty := .int) hc.1 hc.2.1 (hc.2.2.2.2.1.hts args) in_M t_M t_M_ok n_M hc.2.2.2.1 hc.2.2.2.2.2.1 hw.1 hw.2.1 hw.2.2 0 rfl rfl 24 (by decide) (hc.2.2.2.2.1.hts args _ lk) (fun _ h => h) rfl (by decide +kernel) rfl rfl (Nat.le_of_ble_eq_true rfl) d (fun H1 locs1 hP hD hS => k H1 locs1 ⟨hP, hD, hS⟩)
theorem gM_M_flight (hc : Cx p s m args c cc nL own meth ret D cl7 (tyM ca)) (hw : Wd D cl7 (wM ad ca) A s.heap σ H locs) {index : Nat} (lk : Cond.fieldLink own index "ProbeChoiceModel" "flight" "J" ∈ lw_gd) (d : decode cc pc = .ok (.getfield index, 3)) (k : W p l e R s m args below meth c H locs cells slots Q (F0 m (pc + 3) ls (.long (zL (σ 25 0)) :: rest))) : W p l e R s m args below meth c H locs cells slots Q (F0 m pc ls (.ref (ad 100) :: rest)) := va_get (D := D) (ci := 6) (C := R_M) (T := T_M) (N := 26) hc.1 hc.2.1 (hc.2.2.2.2.1.hts args) in_M hc.2.2.2.1 hc.2.2.2.2.2.1 hw.1 0 rfl rfl 25 (by decide) (hc.2.2.2.2.1.hts args _ lk) (fun _ h => h) rfl d k
theorem pM_M_flight (hc : Cx p s m args c cc nL own meth ret D cl7 (tyM ca)) (hw : Wd D cl7 (wM ad ca) A s.heap σ H locs) {index : Nat} {v : Int} (lk : Cond.fieldLink own index "ProbeChoiceModel" "flight" "J" ∈ lw_gd) (d : decode cc pc = .ok (.putfield index, 3)) (k : ∀ (H1 : Heap) (locs1 : List Loc), Wd D cl7 (wM ad ca) A s.heap (up σ 25 0 v) H1 locs1 → W p l e R s m args below meth c H1 locs1 cells slots Q (F0 m (pc + 3) ls rest)) : W p l e R s m args below meth c H locs cells slots Q (F0 m pc ls (.long (zL v) :: .ref (ad 100) :: rest)) :=
  va_put (D := D) (ci := 6) (C := R_M) (T := T_M) (N := 26) (ty := .long) hc.1 hc.2.1 (hc.2.2.2.2.1.hts args) in_M t_M t_M_ok n_M hc.2.2.2.1 hc.2.2.2.2.2.1 hw.1 hw.2.1 hw.2.2 0 rfl rfl 25 (by decide) (hc.2.2.2.2.1.hts args _ lk) (fun _ h => h) rfl (by decide +kernel) rfl rfl (Nat.le_of_ble_eq_true rfl) d (fun H1 locs1 hP hD hS => k H1 locs1 ⟨hP, hD, hS⟩)
end WM
end
