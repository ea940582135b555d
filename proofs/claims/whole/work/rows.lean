section
/-- a private method of a class that the tables say can be made, by its rows of tables_1 -/
def lw_okq (q : MethodName × Nat) : Prop := (q.1.cls ≠ "java/lang/invoke/MethodHandle" ∧ q.1.cls ≠ "java/lang/invoke/VarHandle") ∧ Cond.instantiable q.1.cls q.2 ∈ tables_1 ∧ Cond.privateMethod q.1 ∈ tables_1 ∧ Cond.instanceMethod q.1 ∈ tables_1
theorem lw_p0 : lw_okq (⟨"java/lang/Throwable", "fillInStackTrace", "(I)Ljava/lang/Throwable;"⟩, 6) := ⟨⟨by decide +kernel, by decide +kernel⟩, List.mem_of_getElem? (i := 112) (by decide +kernel), List.mem_of_getElem? (i := 110) (by decide +kernel), List.mem_of_getElem? (i := 111) (by decide +kernel)⟩
theorem lw_p1 : lw_okq (⟨"FormulaHouse", "keep", "(LFormulaHouse$Thing;)I"⟩, 3) := ⟨⟨by decide +kernel, by decide +kernel⟩, List.mem_of_getElem? (i := 18) (by decide +kernel), List.mem_of_getElem? (i := 198) (by decide +kernel), List.mem_of_getElem? (i := 199) (by decide +kernel)⟩
theorem lw_p2 : lw_okq (⟨"FormulaHouse", "found", "(I)LFormulaHouse$Thing;"⟩, 3) := ⟨⟨by decide +kernel, by decide +kernel⟩, List.mem_of_getElem? (i := 18) (by decide +kernel), List.mem_of_getElem? (i := 266) (by decide +kernel), List.mem_of_getElem? (i := 267) (by decide +kernel)⟩
theorem lw_p3 : lw_okq (⟨"FormulaHouse$LineSet", "combined", "(LFormulaHouse$LineSet;Z)LFormulaHouse$LineSet;"⟩, 2) := ⟨⟨by decide +kernel, by decide +kernel⟩, List.mem_of_getElem? (i := 31) (by decide +kernel), List.mem_of_getElem? (i := 462) (by decide +kernel), List.mem_of_getElem? (i := 463) (by decide +kernel)⟩
theorem lw_p4 : lw_okq (⟨"FormulaHouse$LineSet", "nextPlace", "(ILFormulaHouse$LineSet;I)I"⟩, 2) := ⟨⟨by decide +kernel, by decide +kernel⟩, List.mem_of_getElem? (i := 31) (by decide +kernel), List.mem_of_getElem? (i := 469) (by decide +kernel), List.mem_of_getElem? (i := 470) (by decide +kernel)⟩
theorem lw_p5 : lw_okq (⟨"FormulaHouse$LineSet", "startsPiece", "(I)Z"⟩, 2) := ⟨⟨by decide +kernel, by decide +kernel⟩, List.mem_of_getElem? (i := 31) (by decide +kernel), List.mem_of_getElem? (i := 545) (by decide +kernel), List.mem_of_getElem? (i := 546) (by decide +kernel)⟩
theorem lw_p6 : lw_okq (⟨"FormulaHouse$LineSet", "endPlace", "(II)I"⟩, 2) := ⟨⟨by decide +kernel, by decide +kernel⟩, List.mem_of_getElem? (i := 31) (by decide +kernel), List.mem_of_getElem? (i := 570) (by decide +kernel), List.mem_of_getElem? (i := 571) (by decide +kernel)⟩
theorem lw_p7 : lw_okq (⟨"FormulaHouse$LineSet", "hasCellsOf", "(LFormulaHouse$LineSet;)Z"⟩, 2) := ⟨⟨by decide +kernel, by decide +kernel⟩, List.mem_of_getElem? (i := 31) (by decide +kernel), List.mem_of_getElem? (i := 609) (by decide +kernel), List.mem_of_getElem? (i := 610) (by decide +kernel)⟩
theorem lw_p8 : lw_okq (⟨"FormulaHouse$Formula", "hasFractionsOf", "(LFormulaHouse$Formula;)Z"⟩, 2) := ⟨⟨by decide +kernel, by decide +kernel⟩, List.mem_of_getElem? (i := 180) (by decide +kernel), List.mem_of_getElem? (i := 633) (by decide +kernel), List.mem_of_getElem? (i := 634) (by decide +kernel)⟩
theorem lw_p9 : lw_okq (⟨"FormulaHouseModel", "raise", "(I)I"⟩, 24) := ⟨⟨by decide +kernel, by decide +kernel⟩, List.mem_of_getElem? (i := 639) (by decide +kernel), List.mem_of_getElem? (i := 727) (by decide +kernel), List.mem_of_getElem? (i := 728) (by decide +kernel)⟩
theorem lw_p10 : lw_okq (⟨"FormulaHouseModel", "clear", "()V"⟩, 24) := ⟨⟨by decide +kernel, by decide +kernel⟩, List.mem_of_getElem? (i := 639) (by decide +kernel), List.mem_of_getElem? (i := 731) (by decide +kernel), List.mem_of_getElem? (i := 732) (by decide +kernel)⟩
theorem lw_p11 : lw_okq (⟨"FormulaHouseModel", "lowest", "(JJ)V"⟩, 24) := ⟨⟨by decide +kernel, by decide +kernel⟩, List.mem_of_getElem? (i := 639) (by decide +kernel), List.mem_of_getElem? (i := 735) (by decide +kernel), List.mem_of_getElem? (i := 736) (by decide +kernel)⟩
theorem lw_p12 : lw_okq (⟨"FormulaHouseModel", "keep", "(I)I"⟩, 24) := ⟨⟨by decide +kernel, by decide +kernel⟩, List.mem_of_getElem? (i := 639) (by decide +kernel), List.mem_of_getElem? (i := 742) (by decide +kernel), List.mem_of_getElem? (i := 743) (by decide +kernel)⟩
theorem lw_p13 : lw_okq (⟨"FormulaHouseModel", "added", "(IIJ)I"⟩, 24) := ⟨⟨by decide +kernel, by decide +kernel⟩, List.mem_of_getElem? (i := 639) (by decide +kernel), List.mem_of_getElem? (i := 762) (by decide +kernel), List.mem_of_getElem? (i := 763) (by decide +kernel)⟩
theorem lw_p14 : lw_okq (⟨"FormulaHouseModel", "are", "(II)Z"⟩, 24) := ⟨⟨by decide +kernel, by decide +kernel⟩, List.mem_of_getElem? (i := 639) (by decide +kernel), List.mem_of_getElem? (i := 766) (by decide +kernel), List.mem_of_getElem? (i := 767) (by decide +kernel)⟩
theorem lw_p15 : lw_okq (⟨"FormulaHouseModel", "isThere", "(I)Z"⟩, 24) := ⟨⟨by decide +kernel, by decide +kernel⟩, List.mem_of_getElem? (i := 639) (by decide +kernel), List.mem_of_getElem? (i := 770) (by decide +kernel), List.mem_of_getElem? (i := 771) (by decide +kernel)⟩
def lw_privs_1 : List (MethodName × Nat) := [(⟨"java/lang/Throwable", "fillInStackTrace", "(I)Ljava/lang/Throwable;"⟩, 6), (⟨"FormulaHouse", "keep", "(LFormulaHouse$Thing;)I"⟩, 3), (⟨"FormulaHouse", "found", "(I)LFormulaHouse$Thing;"⟩, 3), (⟨"FormulaHouse$LineSet", "combined", "(LFormulaHouse$LineSet;Z)LFormulaHouse$LineSet;"⟩, 2), (⟨"FormulaHouse$LineSet", "nextPlace", "(ILFormulaHouse$LineSet;I)I"⟩, 2), (⟨"FormulaHouse$LineSet", "startsPiece", "(I)Z"⟩, 2), (⟨"FormulaHouse$LineSet", "endPlace", "(II)I"⟩, 2), (⟨"FormulaHouse$LineSet", "hasCellsOf", "(LFormulaHouse$LineSet;)Z"⟩, 2), (⟨"FormulaHouse$Formula", "hasFractionsOf", "(LFormulaHouse$Formula;)Z"⟩, 2), (⟨"FormulaHouseModel", "raise", "(I)I"⟩, 24), (⟨"FormulaHouseModel", "clear", "()V"⟩, 24), (⟨"FormulaHouseModel", "lowest", "(JJ)V"⟩, 24), (⟨"FormulaHouseModel", "keep", "(I)I"⟩, 24), (⟨"FormulaHouseModel", "added", "(IIJ)I"⟩, 24), (⟨"FormulaHouseModel", "are", "(II)Z"⟩, 24), (⟨"FormulaHouseModel", "isThere", "(I)Z"⟩, 24)]
theorem lw_r1 : ∀ q ∈ lw_privs_1, lw_okq q := List.forall_mem_cons.mpr ⟨lw_p0, List.forall_mem_cons.mpr ⟨lw_p1, List.forall_mem_cons.mpr ⟨lw_p2, List.forall_mem_cons.mpr ⟨lw_p3, List.forall_mem_cons.mpr ⟨lw_p4, List.forall_mem_cons.mpr ⟨lw_p5, List.forall_mem_cons.mpr ⟨lw_p6, List.forall_mem_cons.mpr ⟨lw_p7, List.forall_mem_cons.mpr ⟨lw_p8, List.forall_mem_cons.mpr ⟨lw_p9, List.forall_mem_cons.mpr ⟨lw_p10, List.forall_mem_cons.mpr ⟨lw_p11, List.forall_mem_cons.mpr ⟨lw_p12, List.forall_mem_cons.mpr ⟨lw_p13, List.forall_mem_cons.mpr ⟨lw_p14, List.forall_mem_cons.mpr ⟨lw_p15, fun _ h => absurd h List.not_mem_nil⟩⟩⟩⟩⟩⟩⟩⟩⟩⟩⟩⟩⟩⟩⟩⟩
theorem lw_p16 : lw_okq (⟨"FormulaHouseModel", "isFormula", "(I)Z"⟩, 24) := ⟨⟨by decide +kernel, by decide +kernel⟩, List.mem_of_getElem? (i := 639) (by decide +kernel), List.mem_of_getElem? (i := 774) (by decide +kernel), List.mem_of_getElem? (i := 775) (by decide +kernel)⟩
theorem lw_p17 : lw_okq (⟨"FormulaHouseModel", "load", "([J[JI)V"⟩, 24) := ⟨⟨by decide +kernel, by decide +kernel⟩, List.mem_of_getElem? (i := 639) (by decide +kernel), List.mem_of_getElem? (i := 778) (by decide +kernel), List.mem_of_getElem? (i := 779) (by decide +kernel)⟩
theorem lw_p18 : lw_okq (⟨"FormulaHouseModel", "sum", "(JJJJ)V"⟩, 24) := ⟨⟨by decide +kernel, by decide +kernel⟩, List.mem_of_getElem? (i := 639) (by decide +kernel), List.mem_of_getElem? (i := 782) (by decide +kernel), List.mem_of_getElem? (i := 783) (by decide +kernel)⟩
theorem lw_p19 : lw_okq (⟨"FormulaHouseModel", "multiply", "()V"⟩, 24) := ⟨⟨by decide +kernel, by decide +kernel⟩, List.mem_of_getElem? (i := 639) (by decide +kernel), List.mem_of_getElem? (i := 795) (by decide +kernel), List.mem_of_getElem? (i := 796) (by decide +kernel)⟩
theorem lw_p20 : lw_okq (⟨"FormulaHouseModel", "product", "(JJJJ)V"⟩, 24) := ⟨⟨by decide +kernel, by decide +kernel⟩, List.mem_of_getElem? (i := 639) (by decide +kernel), List.mem_of_getElem? (i := 799) (by decide +kernel), List.mem_of_getElem? (i := 800) (by decide +kernel)⟩
theorem lw_p21 : lw_okq (⟨"FormulaHouseModel", "tells", "(I)Z"⟩, 24) := ⟨⟨by decide +kernel, by decide +kernel⟩, List.mem_of_getElem? (i := 639) (by decide +kernel), List.mem_of_getElem? (i := 824) (by decide +kernel), List.mem_of_getElem? (i := 825) (by decide +kernel)⟩
theorem lw_p22 : lw_okq (⟨"FormulaHouseModel", "answer", "(JJ)V"⟩, 24) := ⟨⟨by decide +kernel, by decide +kernel⟩, List.mem_of_getElem? (i := 639) (by decide +kernel), List.mem_of_getElem? (i := 831) (by decide +kernel), List.mem_of_getElem? (i := 832) (by decide +kernel)⟩
theorem lw_p23 : lw_okq (⟨"FormulaHouseModel", "signBefore", "(I)I"⟩, 24) := ⟨⟨by decide +kernel, by decide +kernel⟩, List.mem_of_getElem? (i := 639) (by decide +kernel), List.mem_of_getElem? (i := 840) (by decide +kernel), List.mem_of_getElem? (i := 841) (by decide +kernel)⟩
theorem lw_p24 : lw_okq (⟨"FormulaHouseModel", "start", "(Z)V"⟩, 24) := ⟨⟨by decide +kernel, by decide +kernel⟩, List.mem_of_getElem? (i := 639) (by decide +kernel), List.mem_of_getElem? (i := 847) (by decide +kernel), List.mem_of_getElem? (i := 848) (by decide +kernel)⟩
theorem lw_p25 : lw_okq (⟨"FormulaHouseModel", "append", "(JJZZ)V"⟩, 24) := ⟨⟨by decide +kernel, by decide +kernel⟩, List.mem_of_getElem? (i := 639) (by decide +kernel), List.mem_of_getElem? (i := 851) (by decide +kernel), List.mem_of_getElem? (i := 852) (by decide +kernel)⟩
theorem lw_p26 : lw_okq (⟨"FormulaHouseModel", "mark", "(II)Z"⟩, 24) := ⟨⟨by decide +kernel, by decide +kernel⟩, List.mem_of_getElem? (i := 639) (by decide +kernel), List.mem_of_getElem? (i := 855) (by decide +kernel), List.mem_of_getElem? (i := 856) (by decide +kernel)⟩
theorem lw_p27 : lw_okq (⟨"FormulaHouseModel", "keepSet", "(I)I"⟩, 24) := ⟨⟨by decide +kernel, by decide +kernel⟩, List.mem_of_getElem? (i := 639) (by decide +kernel), List.mem_of_getElem? (i := 859) (by decide +kernel), List.mem_of_getElem? (i := 860) (by decide +kernel)⟩
theorem lw_p28 : lw_okq (⟨"FormulaHouseModel", "copySet", "(II)V"⟩, 24) := ⟨⟨by decide +kernel, by decide +kernel⟩, List.mem_of_getElem? (i := 639) (by decide +kernel), List.mem_of_getElem? (i := 863) (by decide +kernel), List.mem_of_getElem? (i := 864) (by decide +kernel)⟩
theorem lw_p29 : lw_okq (⟨"FormulaHouseModel", "join", "(III)I"⟩, 24) := ⟨⟨by decide +kernel, by decide +kernel⟩, List.mem_of_getElem? (i := 639) (by decide +kernel), List.mem_of_getElem? (i := 871) (by decide +kernel), List.mem_of_getElem? (i := 872) (by decide +kernel)⟩
theorem lw_p30 : lw_okq (⟨"FormulaHouseModel", "areSets", "(II)Z"⟩, 24) := ⟨⟨by decide +kernel, by decide +kernel⟩, List.mem_of_getElem? (i := 639) (by decide +kernel), List.mem_of_getElem? (i := 875) (by decide +kernel), List.mem_of_getElem? (i := 876) (by decide +kernel)⟩
theorem lw_p31 : lw_okq (⟨"FormulaHouseModel", "findPieces", "(I)V"⟩, 24) := ⟨⟨by decide +kernel, by decide +kernel⟩, List.mem_of_getElem? (i := 639) (by decide +kernel), List.mem_of_getElem? (i := 907) (by decide +kernel), List.mem_of_getElem? (i := 908) (by decide +kernel)⟩
def lw_privs_2 : List (MethodName × Nat) := [(⟨"FormulaHouseModel", "isFormula", "(I)Z"⟩, 24), (⟨"FormulaHouseModel", "load", "([J[JI)V"⟩, 24), (⟨"FormulaHouseModel", "sum", "(JJJJ)V"⟩, 24), (⟨"FormulaHouseModel", "multiply", "()V"⟩, 24), (⟨"FormulaHouseModel", "product", "(JJJJ)V"⟩, 24), (⟨"FormulaHouseModel", "tells", "(I)Z"⟩, 24), (⟨"FormulaHouseModel", "answer", "(JJ)V"⟩, 24), (⟨"FormulaHouseModel", "signBefore", "(I)I"⟩, 24), (⟨"FormulaHouseModel", "start", "(Z)V"⟩, 24), (⟨"FormulaHouseModel", "append", "(JJZZ)V"⟩, 24), (⟨"FormulaHouseModel", "mark", "(II)Z"⟩, 24), (⟨"FormulaHouseModel", "keepSet", "(I)I"⟩, 24), (⟨"FormulaHouseModel", "copySet", "(II)V"⟩, 24), (⟨"FormulaHouseModel", "join", "(III)I"⟩, 24), (⟨"FormulaHouseModel", "areSets", "(II)Z"⟩, 24), (⟨"FormulaHouseModel", "findPieces", "(I)V"⟩, 24)]
theorem lw_r2 : ∀ q ∈ lw_privs_2, lw_okq q := List.forall_mem_cons.mpr ⟨lw_p16, List.forall_mem_cons.mpr ⟨lw_p17, List.forall_mem_cons.mpr ⟨lw_p18, List.forall_mem_cons.mpr ⟨lw_p19, List.forall_mem_cons.mpr ⟨lw_p20, List.forall_mem_cons.mpr ⟨lw_p21, List.forall_mem_cons.mpr ⟨lw_p22, List.forall_mem_cons.mpr ⟨lw_p23, List.forall_mem_cons.mpr ⟨lw_p24, List.forall_mem_cons.mpr ⟨lw_p25, List.forall_mem_cons.mpr ⟨lw_p26, List.forall_mem_cons.mpr ⟨lw_p27, List.forall_mem_cons.mpr ⟨lw_p28, List.forall_mem_cons.mpr ⟨lw_p29, List.forall_mem_cons.mpr ⟨lw_p30, List.forall_mem_cons.mpr ⟨lw_p31, fun _ h => absurd h List.not_mem_nil⟩⟩⟩⟩⟩⟩⟩⟩⟩⟩⟩⟩⟩⟩⟩⟩
theorem lw_p32 : lw_okq (⟨"FormulaHouseModel", "placeOf", "(IJJ)I"⟩, 24) := ⟨⟨by decide +kernel, by decide +kernel⟩, List.mem_of_getElem? (i := 639) (by decide +kernel), List.mem_of_getElem? (i := 919) (by decide +kernel), List.mem_of_getElem? (i := 920) (by decide +kernel)⟩
theorem lw_p33 : lw_okq (⟨"FormulaHouseModel", "areSame", "(II)Z"⟩, 24) := ⟨⟨by decide +kernel, by decide +kernel⟩, List.mem_of_getElem? (i := 639) (by decide +kernel), List.mem_of_getElem? (i := 927) (by decide +kernel), List.mem_of_getElem? (i := 928) (by decide +kernel)⟩
def lw_privs_3 : List (MethodName × Nat) := [(⟨"FormulaHouseModel", "placeOf", "(IJJ)I"⟩, 24), (⟨"FormulaHouseModel", "areSame", "(II)Z"⟩, 24)]
theorem lw_r3 : ∀ q ∈ lw_privs_3, lw_okq q := List.forall_mem_cons.mpr ⟨lw_p32, List.forall_mem_cons.mpr ⟨lw_p33, fun _ h => absurd h List.not_mem_nil⟩⟩
def lw_privs : List (MethodName × Nat) := lw_privs_1 ++ (lw_privs_2 ++ (lw_privs_3))
def lw_tbl : List Cond := k2_sels lw_privs ++ tables_1
theorem lw_privs_ok : ∀ q ∈ lw_privs, lw_okq q := by
  show ∀ q ∈ lw_privs_1 ++ (lw_privs_2 ++ (lw_privs_3)), lw_okq q
  exact List.forall_mem_append.mpr ⟨lw_r1, List.forall_mem_append.mpr ⟨lw_r2, lw_r3⟩⟩
end
section
def RX0 : String := "FormulaHouse$Formula"
def TX0 : u_T := fun k => match k with
  | 0 => ("FormulaHouse$Formula", "fractions", "[LFormulaHouse$Fraction;", true)
  | _ => ("FormulaHouse$Formula", "degree", "I", true)
def tyX0 : Nat → FieldType := fun k => match k with
  | 0 => .array (.object "FormulaHouse$Fraction")
  | _ => .int
abbrev wsX00 : List Cond := u_ws RX0 TX0 2
theorem nmX0 : ∀ a, a < 2 → ∀ b, b < 2 → a ≠ b → (TX0 a).2.1 ≠ (TX0 b).2.1 := by decide +kernel
theorem tyX0_ok : ∀ k, k < 2 → parseFieldDescriptor (TX0 k).2.2.1 = some (tyX0 k) := by decide +kernel
abbrev cX0_init : ByteArray := prog_2_method_1_code
def yX0_init : MethodName := ⟨RX0, "<init>", "([LFormulaHouse$Fraction;)V"⟩
abbrev cX0_constant : ByteArray := prog_2_method_2_code
def yX0_constant : MethodName := ⟨RX0, "constant", "(LFormulaHouse$Fraction;)LFormulaHouse$Formula;"⟩
abbrev cX0_zeros : ByteArray := prog_2_method_3_code
def yX0_zeros : MethodName := ⟨RX0, "zeros", "()[LFormulaHouse$Fraction;"⟩
abbrev cX0_lastPower : ByteArray := prog_2_method_4_code
def yX0_lastPower : MethodName := ⟨RX0, "lastPower", "([LFormulaHouse$Fraction;)I"⟩
abbrev cX0_fraction : ByteArray := prog_2_method_5_code
def yX0_fraction : MethodName := ⟨RX0, "fraction", "(I)LFormulaHouse$Fraction;"⟩
abbrev cX0_plus : ByteArray := prog_2_method_6_code
def yX0_plus : MethodName := ⟨RX0, "plus", "(LFormulaHouse$Formula;)LFormulaHouse$Formula;"⟩
abbrev cX0_scaled : ByteArray := prog_2_method_7_code
def yX0_scaled : MethodName := ⟨RX0, "scaled", "(LFormulaHouse$Fraction;)LFormulaHouse$Formula;"⟩
abbrev cX0_multiplied : ByteArray := prog_2_method_8_code
def yX0_multiplied : MethodName := ⟨RX0, "multiplied", "(LFormulaHouse$Formula;)LFormulaHouse$Formula;"⟩
abbrev cX0_slope : ByteArray := prog_2_method_9_code
def yX0_slope : MethodName := ⟨RX0, "slope", "()LFormulaHouse$Formula;"⟩
abbrev cX0_antiSlope : ByteArray := prog_2_method_10_code
def yX0_antiSlope : MethodName := ⟨RX0, "antiSlope", "()LFormulaHouse$Formula;"⟩
abbrev cX0_withInside : ByteArray := prog_2_method_11_code
def yX0_withInside : MethodName := ⟨RX0, "withInside", "(LFormulaHouse$Formula;)LFormulaHouse$Formula;"⟩
abbrev cX0_whichKind : ByteArray := prog_2_method_12_code
def yX0_whichKind : MethodName := ⟨RX0, "whichKind", "()I"⟩
abbrev cX0_isTooGreat : ByteArray := prog_2_method_13_code
def yX0_isTooGreat : MethodName := ⟨RX0, "isTooGreat", "()Z"⟩
abbrev cX0_isSameAs : ByteArray := prog_2_method_14_code
def yX0_isSameAs : MethodName := ⟨RX0, "isSameAs", "(LFormulaHouse$Thing;)Z"⟩
abbrev cX0_hasFractionsOf : ByteArray := prog_2_method_15_code
def yX0_hasFractionsOf : MethodName := ⟨RX0, "hasFractionsOf", "(LFormulaHouse$Formula;)Z"⟩
def RX1 : String := "FormulaHouse$Fraction"
def TX1 : u_T := fun k => match k with
  | 0 => ("FormulaHouse$Fraction", "above", "J", true)
  | _ => ("FormulaHouse$Fraction", "below", "J", true)
def tyX1 : Nat → FieldType := fun k => match k with
  | 0 => .long
  | _ => .long
abbrev wsX10 : List Cond := u_ws RX1 TX1 2
theorem nmX1 : ∀ a, a < 2 → ∀ b, b < 2 → a ≠ b → (TX1 a).2.1 ≠ (TX1 b).2.1 := by decide +kernel
theorem tyX1_ok : ∀ k, k < 2 → parseFieldDescriptor (TX1 k).2.2.1 = some (tyX1 k) := by decide +kernel
abbrev cX1_init : ByteArray := prog_3_method_1_code
def yX1_init : MethodName := ⟨RX1, "<init>", "(JJ)V"⟩
abbrev cX1_of : ByteArray := prog_3_method_2_code
def yX1_of : MethodName := ⟨RX1, "of", "(JJ)LFormulaHouse$Fraction;"⟩
abbrev cX1_greatestShared : ByteArray := prog_3_method_3_code
def yX1_greatestShared : MethodName := ⟨RX1, "greatestShared", "(JJ)J"⟩
abbrev cX1_plus : ByteArray := prog_3_method_4_code
def yX1_plus : MethodName := ⟨RX1, "plus", "(LFormulaHouse$Fraction;)LFormulaHouse$Fraction;"⟩
abbrev cX1_multiplied : ByteArray := prog_3_method_5_code
def yX1_multiplied : MethodName := ⟨RX1, "multiplied", "(LFormulaHouse$Fraction;)LFormulaHouse$Fraction;"⟩
abbrev cX1_against : ByteArray := prog_3_method_6_code
def yX1_against : MethodName := ⟨RX1, "against", "(LFormulaHouse$Fraction;)I"⟩
abbrev cX1_isTooGreat : ByteArray := prog_3_method_7_code
def yX1_isTooGreat : MethodName := ⟨RX1, "isTooGreat", "()Z"⟩
def RX2 : String := "FormulaHouse$LineSet"
def TX2 : u_T := fun k => match k with
  | 0 => ("FormulaHouse$LineSet", "places", "[LFormulaHouse$Fraction;", true)
  | _ => ("FormulaHouse$LineSet", "cells", "[Z", true)
def tyX2 : Nat → FieldType := fun k => match k with
  | 0 => .array (.object "FormulaHouse$Fraction")
  | _ => .array .boolean
abbrev wsX20 : List Cond := u_ws RX2 TX2 2
theorem nmX2 : ∀ a, a < 2 → ∀ b, b < 2 → a ≠ b → (TX2 a).2.1 ≠ (TX2 b).2.1 := by decide +kernel
theorem tyX2_ok : ∀ k, k < 2 → parseFieldDescriptor (TX2 k).2.2.1 = some (tyX2 k) := by decide +kernel
abbrev cX2_init : ByteArray := prog_4_method_1_code
def yX2_init : MethodName := ⟨RX2, "<init>", "([LFormulaHouse$Fraction;[Z)V"⟩
abbrev cX2_wholeOrNone : ByteArray := prog_4_method_2_code
def yX2_wholeOrNone : MethodName := ⟨RX2, "wholeOrNone", "(Z)LFormulaHouse$LineSet;"⟩
abbrev cX2_ofCells : ByteArray := prog_4_method_3_code
def yX2_ofCells : MethodName := ⟨RX2, "ofCells", "([LFormulaHouse$Fraction;[ZI)LFormulaHouse$LineSet;"⟩
abbrev cX2_isChange : ByteArray := prog_4_method_4_code
def yX2_isChange : MethodName := ⟨RX2, "isChange", "([ZI)Z"⟩
abbrev cX2_met : ByteArray := prog_4_method_5_code
def yX2_met : MethodName := ⟨RX2, "met", "(LFormulaHouse$LineSet;)LFormulaHouse$LineSet;"⟩
abbrev cX2_joined : ByteArray := prog_4_method_6_code
def yX2_joined : MethodName := ⟨RX2, "joined", "(LFormulaHouse$LineSet;)LFormulaHouse$LineSet;"⟩
abbrev cX2_rest : ByteArray := prog_4_method_7_code
def yX2_rest : MethodName := ⟨RX2, "rest", "()LFormulaHouse$LineSet;"⟩
abbrev cX2_combined : ByteArray := prog_4_method_8_code
def yX2_combined : MethodName := ⟨RX2, "combined", "(LFormulaHouse$LineSet;Z)LFormulaHouse$LineSet;"⟩
abbrev cX2_decided : ByteArray := prog_4_method_9_code
def yX2_decided : MethodName := ⟨RX2, "decided", "(ZZZ)Z"⟩
abbrev cX2_nextPlace : ByteArray := prog_4_method_10_code
def yX2_nextPlace : MethodName := ⟨RX2, "nextPlace", "(ILFormulaHouse$LineSet;I)I"⟩
abbrev cX2_contains : ByteArray := prog_4_method_11_code
def yX2_contains : MethodName := ⟨RX2, "contains", "(LFormulaHouse$Fraction;)Z"⟩
abbrev cX2_isEmpty : ByteArray := prog_4_method_12_code
def yX2_isEmpty : MethodName := ⟨RX2, "isEmpty", "()Z"⟩
abbrev cX2_pieceCount : ByteArray := prog_4_method_13_code
def yX2_pieceCount : MethodName := ⟨RX2, "pieceCount", "()I"⟩
abbrev cX2_startsPiece : ByteArray := prog_4_method_14_code
def yX2_startsPiece : MethodName := ⟨RX2, "startsPiece", "(I)Z"⟩
abbrev cX2_firstCell : ByteArray := prog_4_method_15_code
def yX2_firstCell : MethodName := ⟨RX2, "firstCell", "(I)I"⟩
abbrev cX2_lastCell : ByteArray := prog_4_method_16_code
def yX2_lastCell : MethodName := ⟨RX2, "lastCell", "(I)I"⟩
abbrev cX2_endForm : ByteArray := prog_4_method_17_code
def yX2_endForm : MethodName := ⟨RX2, "endForm", "(II)I"⟩
abbrev cX2_endFraction : ByteArray := prog_4_method_18_code
def yX2_endFraction : MethodName := ⟨RX2, "endFraction", "(II)LFormulaHouse$Fraction;"⟩
abbrev cX2_endPlace : ByteArray := prog_4_method_19_code
def yX2_endPlace : MethodName := ⟨RX2, "endPlace", "(II)I"⟩
abbrev cX2_whichKind : ByteArray := prog_4_method_20_code
def yX2_whichKind : MethodName := ⟨RX2, "whichKind", "()I"⟩
abbrev cX2_isTooGreat : ByteArray := prog_4_method_21_code
def yX2_isTooGreat : MethodName := ⟨RX2, "isTooGreat", "()Z"⟩
abbrev cX2_isSameAs : ByteArray := prog_4_method_22_code
def yX2_isSameAs : MethodName := ⟨RX2, "isSameAs", "(LFormulaHouse$Thing;)Z"⟩
abbrev cX2_hasCellsOf : ByteArray := prog_4_method_23_code
def yX2_hasCellsOf : MethodName := ⟨RX2, "hasCellsOf", "(LFormulaHouse$LineSet;)Z"⟩
def RX3 : String := "FormulaHouse$Signs"
def TX3 : u_T := fun k => match k with
  | 0 => ("FormulaHouse$Signs", "places", "[LFormulaHouse$Fraction;", true)
  | _ => ("FormulaHouse$Signs", "cells", "[I", true)
def tyX3 : Nat → FieldType := fun k => match k with
  | 0 => .array (.object "FormulaHouse$Fraction")
  | _ => .array .int
abbrev wsX30 : List Cond := u_ws RX3 TX3 2
theorem nmX3 : ∀ a, a < 2 → ∀ b, b < 2 → a ≠ b → (TX3 a).2.1 ≠ (TX3 b).2.1 := by decide +kernel
theorem tyX3_ok : ∀ k, k < 2 → parseFieldDescriptor (TX3 k).2.2.1 = some (tyX3 k) := by decide +kernel
abbrev cX3_init : ByteArray := prog_5_method_1_code
def yX3_init : MethodName := ⟨RX3, "<init>", "([LFormulaHouse$Fraction;[I)V"⟩
abbrev cX3_told : ByteArray := prog_5_method_2_code
def yX3_told : MethodName := ⟨RX3, "told", "(LFormulaHouse$Formula;)LFormulaHouse$Signs;"⟩
abbrev cX3_ofFlat : ByteArray := prog_5_method_3_code
def yX3_ofFlat : MethodName := ⟨RX3, "ofFlat", "(J)LFormulaHouse$Signs;"⟩
abbrev cX3_ofSlant : ByteArray := prog_5_method_4_code
def yX3_ofSlant : MethodName := ⟨RX3, "ofSlant", "(LFormulaHouse$Formula;)LFormulaHouse$Signs;"⟩
abbrev cX3_ofSquare : ByteArray := prog_5_method_5_code
def yX3_ofSquare : MethodName := ⟨RX3, "ofSquare", "(LFormulaHouse$Formula;)LFormulaHouse$Signs;"⟩
abbrev cX3_wholeRoot : ByteArray := prog_5_method_6_code
def yX3_wholeRoot : MethodName := ⟨RX3, "wholeRoot", "(J)J"⟩
abbrev cX3_chosen : ByteArray := prog_5_method_7_code
def yX3_chosen : MethodName := ⟨RX3, "chosen", "(I)LFormulaHouse$LineSet;"⟩
def RX4 : String := "FormulaHouse$Thing"
def TX4 : u_T := fun k => match k with
  | _ => ("", "", "", false)
def tyX4 : Nat → FieldType := fun k => match k with
  | _ => .int
abbrev wsX40 : List Cond := u_ws RX4 TX4 0
theorem nmX4 : ∀ a, a < 0 → ∀ b, b < 0 → a ≠ b → (TX4 a).2.1 ≠ (TX4 b).2.1 := by decide +kernel
theorem tyX4_ok : ∀ k, k < 0 → parseFieldDescriptor (TX4 k).2.2.1 = some (tyX4 k) := by decide +kernel
abbrev cX4_init : ByteArray := prog_6_method_1_code
def yX4_init : MethodName := ⟨RX4, "<init>", "()V"⟩
def RX5 : String := "FormulaHouse"
def TX5 : u_T := fun k => match k with
  | 0 => ("FormulaHouse", "things", "[LFormulaHouse$Thing;", true)
  | 1 => ("FormulaHouse", "made", "I", false)
  | _ => ("FormulaHouse", "assumed", "LFormulaHouse$LineSet;", false)
def tyX5 : Nat → FieldType := fun k => match k with
  | 0 => .array (.object "FormulaHouse$Thing")
  | 1 => .int
  | _ => .object "FormulaHouse$LineSet"
abbrev wsX50 : List Cond := u_ws RX5 TX5 3
theorem nmX5 : ∀ a, a < 3 → ∀ b, b < 3 → a ≠ b → (TX5 a).2.1 ≠ (TX5 b).2.1 := by decide +kernel
theorem tyX5_ok : ∀ k, k < 3 → parseFieldDescriptor (TX5 k).2.2.1 = some (tyX5 k) := by decide +kernel
abbrev cX5_init : ByteArray := prog_1_method_1_code
def yX5_init : MethodName := ⟨RX5, "<init>", "()V"⟩
abbrev cX5_number : ByteArray := prog_1_method_2_code
def yX5_number : MethodName := ⟨RX5, "number", "(II)I"⟩
abbrev cX5_letter : ByteArray := prog_1_method_3_code
def yX5_letter : MethodName := ⟨RX5, "letter", "()I"⟩
abbrev cX5_add : ByteArray := prog_1_method_4_code
def yX5_add : MethodName := ⟨RX5, "add", "(II)I"⟩
abbrev cX5_less : ByteArray := prog_1_method_5_code
def yX5_less : MethodName := ⟨RX5, "less", "(II)I"⟩
abbrev cX5_times : ByteArray := prog_1_method_6_code
def yX5_times : MethodName := ⟨RX5, "times", "(II)I"⟩
abbrev cX5_over : ByteArray := prog_1_method_7_code
def yX5_over : MethodName := ⟨RX5, "over", "(II)I"⟩
abbrev cX5_derive : ByteArray := prog_1_method_8_code
def yX5_derive : MethodName := ⟨RX5, "derive", "(I)I"⟩
abbrev cX5_integral : ByteArray := prog_1_method_9_code
def yX5_integral : MethodName := ⟨RX5, "integral", "(I)I"⟩
abbrev cX5_put : ByteArray := prog_1_method_10_code
def yX5_put : MethodName := ⟨RX5, "put", "(II)I"⟩
abbrev cX5_where : ByteArray := prog_1_method_11_code
def yX5_where : MethodName := ⟨RX5, "where", "(II)I"⟩
abbrev cX5_both : ByteArray := prog_1_method_12_code
def yX5_both : MethodName := ⟨RX5, "both", "(II)I"⟩
abbrev cX5_either : ByteArray := prog_1_method_13_code
def yX5_either : MethodName := ⟨RX5, "either", "(II)I"⟩
abbrev cX5_other : ByteArray := prog_1_method_14_code
def yX5_other : MethodName := ⟨RX5, "other", "(I)I"⟩
abbrev cX5_kind : ByteArray := prog_1_method_15_code
def yX5_kind : MethodName := ⟨RX5, "kind", "(I)I"⟩
abbrev cX5_degree : ByteArray := prog_1_method_16_code
def yX5_degree : MethodName := ⟨RX5, "degree", "(I)I"⟩
abbrev cX5_at : ByteArray := prog_1_method_17_code
def yX5_at : MethodName := ⟨RX5, "at", "(III)I"⟩
abbrev cX5_pieces : ByteArray := prog_1_method_18_code
def yX5_pieces : MethodName := ⟨RX5, "pieces", "(I)I"⟩
abbrev cX5_end : ByteArray := prog_1_method_19_code
def yX5_end : MethodName := ⟨RX5, "end", "(IIII)I"⟩
abbrev cX5_holds : ByteArray := prog_1_method_20_code
def yX5_holds : MethodName := ⟨RX5, "holds", "(II)Z"⟩
abbrev cX5_assume : ByteArray := prog_1_method_21_code
def yX5_assume : MethodName := ⟨RX5, "assume", "(I)Z"⟩
abbrev cX5_sign : ByteArray := prog_1_method_22_code
def yX5_sign : MethodName := ⟨RX5, "sign", "(I)I"⟩
abbrev cX5_same : ByteArray := prog_1_method_23_code
def yX5_same : MethodName := ⟨RX5, "same", "(II)Z"⟩
abbrev cX5_count : ByteArray := prog_1_method_24_code
def yX5_count : MethodName := ⟨RX5, "count", "()I"⟩
abbrev cX5_found : ByteArray := prog_1_method_25_code
def yX5_found : MethodName := ⟨RX5, "found", "(I)LFormulaHouse$Thing;"⟩
abbrev cX5_asFormula : ByteArray := prog_1_method_26_code
def yX5_asFormula : MethodName := ⟨RX5, "asFormula", "(LFormulaHouse$Thing;)LFormulaHouse$Formula;"⟩
abbrev cX5_asNumber : ByteArray := prog_1_method_27_code
def yX5_asNumber : MethodName := ⟨RX5, "asNumber", "(LFormulaHouse$Thing;)LFormulaHouse$Fraction;"⟩
abbrev cX5_asSet : ByteArray := prog_1_method_28_code
def yX5_asSet : MethodName := ⟨RX5, "asSet", "(LFormulaHouse$Thing;)LFormulaHouse$LineSet;"⟩
abbrev cX5_refuseDegree : ByteArray := prog_1_method_29_code
def yX5_refuseDegree : MethodName := ⟨RX5, "refuseDegree", "(I)V"⟩
abbrev cX5_keep : ByteArray := prog_1_method_30_code
def yX5_keep : MethodName := ⟨RX5, "keep", "(LFormulaHouse$Thing;)I"⟩
def RX6 : String := "FormulaHouseModel"
def TX6 : u_T := fun k => match k with
  | 0 => ("FormulaHouseModel", "code", "I", false)
  | 1 => ("FormulaHouseModel", "many", "I", false)
  | 2 => ("FormulaHouseModel", "kind", "[I", true)
  | 3 => ("FormulaHouseModel", "above", "[J", true)
  | 4 => ("FormulaHouseModel", "below", "[J", true)
  | 5 => ("FormulaHouseModel", "points", "[I", true)
  | 6 => ("FormulaHouseModel", "pointUp", "[J", true)
  | 7 => ("FormulaHouseModel", "pointDown", "[J", true)
  | 8 => ("FormulaHouseModel", "marks", "[Z", true)
  | 9 => ("FormulaHouseModel", "a", "[J", true)
  | 10 => ("FormulaHouseModel", "b", "[J", true)
  | 11 => ("FormulaHouseModel", "c", "[J", true)
  | 12 => ("FormulaHouseModel", "d", "[J", true)
  | 13 => ("FormulaHouseModel", "up", "J", false)
  | 14 => ("FormulaHouseModel", "down", "J", false)
  | 15 => ("FormulaHouseModel", "answers", "I", false)
  | 16 => ("FormulaHouseModel", "answerUp", "[J", true)
  | 17 => ("FormulaHouseModel", "answerDown", "[J", true)
  | 18 => ("FormulaHouseModel", "beyond", "I", false)
  | 19 => ("FormulaHouseModel", "rowUp", "[J", true)
  | 20 => ("FormulaHouseModel", "rowDown", "[J", true)
  | 21 => ("FormulaHouseModel", "pieces", "I", false)
  | 22 => ("FormulaHouseModel", "from", "[I", true)
  | _ => ("FormulaHouseModel", "to", "[I", true)
def tyX6 : Nat → FieldType := fun k => match k with
  | 0 => .int
  | 1 => .int
  | 2 => .array .int
  | 3 => .array .long
  | 4 => .array .long
  | 5 => .array .int
  | 6 => .array .long
  | 7 => .array .long
  | 8 => .array .boolean
  | 9 => .array .long
  | 10 => .array .long
  | 11 => .array .long
  | 12 => .array .long
  | 13 => .long
  | 14 => .long
  | 15 => .int
  | 16 => .array .long
  | 17 => .array .long
  | 18 => .int
  | 19 => .array .long
  | 20 => .array .long
  | 21 => .int
  | 22 => .array .int
  | _ => .array .int
abbrev wsX60 : List Cond := u_ws RX6 TX6 24
theorem nmX6 : ∀ a, a < 24 → ∀ b, b < 24 → a ≠ b → (TX6 a).2.1 ≠ (TX6 b).2.1 := by decide +kernel
theorem tyX6_ok : ∀ k, k < 24 → parseFieldDescriptor (TX6 k).2.2.1 = some (tyX6 k) := by decide +kernel
abbrev cX6_init : ByteArray := prog_8_method_1_code
def yX6_init : MethodName := ⟨RX6, "<init>", "()V"⟩
abbrev cX6_thrown : ByteArray := prog_8_method_2_code
def yX6_thrown : MethodName := ⟨RX6, "thrown", "()I"⟩
abbrev cX6_raise : ByteArray := prog_8_method_3_code
def yX6_raise : MethodName := ⟨RX6, "raise", "(I)I"⟩
abbrev cX6_in : ByteArray := prog_8_method_4_code
def yX6_in : MethodName := ⟨RX6, "in", "(JJJ)Z"⟩
abbrev cX6_divisor : ByteArray := prog_8_method_5_code
def yX6_divisor : MethodName := ⟨RX6, "divisor", "(JJ)J"⟩
abbrev cX6_lowest : ByteArray := prog_8_method_6_code
def yX6_lowest : MethodName := ⟨RX6, "lowest", "(JJ)V"⟩
abbrev cX6_sum : ByteArray := prog_8_method_7_code
def yX6_sum : MethodName := ⟨RX6, "sum", "(JJJJ)V"⟩
abbrev cX6_product : ByteArray := prog_8_method_8_code
def yX6_product : MethodName := ⟨RX6, "product", "(JJJJ)V"⟩
abbrev cX6_signOf : ByteArray := prog_8_method_9_code
def yX6_signOf : MethodName := ⟨RX6, "signOf", "(J)I"⟩
abbrev cX6_isThere : ByteArray := prog_8_method_10_code
def yX6_isThere : MethodName := ⟨RX6, "isThere", "(I)Z"⟩
abbrev cX6_isFormula : ByteArray := prog_8_method_11_code
def yX6_isFormula : MethodName := ⟨RX6, "isFormula", "(I)Z"⟩
abbrev cX6_load : ByteArray := prog_8_method_12_code
def yX6_load : MethodName := ⟨RX6, "load", "([J[JI)V"⟩
abbrev cX6_high : ByteArray := prog_8_method_13_code
def yX6_high : MethodName := ⟨RX6, "high", "([J)I"⟩
abbrev cX6_keep : ByteArray := prog_8_method_14_code
def yX6_keep : MethodName := ⟨RX6, "keep", "(I)I"⟩
abbrev cX6_clear : ByteArray := prog_8_method_15_code
def yX6_clear : MethodName := ⟨RX6, "clear", "()V"⟩
abbrev cX6_number : ByteArray := prog_8_method_16_code
def yX6_number : MethodName := ⟨RX6, "number", "(II)I"⟩
abbrev cX6_letter : ByteArray := prog_8_method_17_code
def yX6_letter : MethodName := ⟨RX6, "letter", "()I"⟩
abbrev cX6_are : ByteArray := prog_8_method_18_code
def yX6_are : MethodName := ⟨RX6, "are", "(II)Z"⟩
abbrev cX6_added : ByteArray := prog_8_method_19_code
def yX6_added : MethodName := ⟨RX6, "added", "(IIJ)I"⟩
abbrev cX6_add : ByteArray := prog_8_method_20_code
def yX6_add : MethodName := ⟨RX6, "add", "(II)I"⟩
abbrev cX6_less : ByteArray := prog_8_method_21_code
def yX6_less : MethodName := ⟨RX6, "less", "(II)I"⟩
abbrev cX6_multiply : ByteArray := prog_8_method_22_code
def yX6_multiply : MethodName := ⟨RX6, "multiply", "()V"⟩
abbrev cX6_times : ByteArray := prog_8_method_23_code
def yX6_times : MethodName := ⟨RX6, "times", "(II)I"⟩
abbrev cX6_over : ByteArray := prog_8_method_24_code
def yX6_over : MethodName := ⟨RX6, "over", "(II)I"⟩
abbrev cX6_derive : ByteArray := prog_8_method_25_code
def yX6_derive : MethodName := ⟨RX6, "derive", "(I)I"⟩
abbrev cX6_integral : ByteArray := prog_8_method_26_code
def yX6_integral : MethodName := ⟨RX6, "integral", "(I)I"⟩
abbrev cX6_put : ByteArray := prog_8_method_27_code
def yX6_put : MethodName := ⟨RX6, "put", "(II)I"⟩
abbrev cX6_answer : ByteArray := prog_8_method_28_code
def yX6_answer : MethodName := ⟨RX6, "answer", "(JJ)V"⟩
abbrev cX6_tells : ByteArray := prog_8_method_29_code
def yX6_tells : MethodName := ⟨RX6, "tells", "(I)Z"⟩
abbrev cX6_rootOf : ByteArray := prog_8_method_30_code
def yX6_rootOf : MethodName := ⟨RX6, "rootOf", "(J)J"⟩
abbrev cX6_signBefore : ByteArray := prog_8_method_31_code
def yX6_signBefore : MethodName := ⟨RX6, "signBefore", "(I)I"⟩
abbrev cX6_mark : ByteArray := prog_8_method_32_code
def yX6_mark : MethodName := ⟨RX6, "mark", "(II)Z"⟩
abbrev cX6_placeOf : ByteArray := prog_8_method_33_code
def yX6_placeOf : MethodName := ⟨RX6, "placeOf", "(IJJ)I"⟩
abbrev cX6_start : ByteArray := prog_8_method_34_code
def yX6_start : MethodName := ⟨RX6, "start", "(Z)V"⟩
abbrev cX6_append : ByteArray := prog_8_method_35_code
def yX6_append : MethodName := ⟨RX6, "append", "(JJZZ)V"⟩
abbrev cX6_copySet : ByteArray := prog_8_method_36_code
def yX6_copySet : MethodName := ⟨RX6, "copySet", "(II)V"⟩
abbrev cX6_keepSet : ByteArray := prog_8_method_37_code
def yX6_keepSet : MethodName := ⟨RX6, "keepSet", "(I)I"⟩
abbrev cX6_is : ByteArray := prog_8_method_38_code
def yX6_is : MethodName := ⟨RX6, "is", "(II)Z"⟩
abbrev cX6_where : ByteArray := prog_8_method_39_code
def yX6_where : MethodName := ⟨RX6, "where", "(II)I"⟩
abbrev cX6_areSets : ByteArray := prog_8_method_40_code
def yX6_areSets : MethodName := ⟨RX6, "areSets", "(II)Z"⟩
abbrev cX6_joined : ByteArray := prog_8_method_41_code
def yX6_joined : MethodName := ⟨RX6, "joined", "(ZZI)Z"⟩
abbrev cX6_join : ByteArray := prog_8_method_42_code
def yX6_join : MethodName := ⟨RX6, "join", "(III)I"⟩
abbrev cX6_both : ByteArray := prog_8_method_43_code
def yX6_both : MethodName := ⟨RX6, "both", "(II)I"⟩
abbrev cX6_either : ByteArray := prog_8_method_44_code
def yX6_either : MethodName := ⟨RX6, "either", "(II)I"⟩
abbrev cX6_other : ByteArray := prog_8_method_45_code
def yX6_other : MethodName := ⟨RX6, "other", "(I)I"⟩
abbrev cX6_kind : ByteArray := prog_8_method_46_code
def yX6_kind : MethodName := ⟨RX6, "kind", "(I)I"⟩
abbrev cX6_degree : ByteArray := prog_8_method_47_code
def yX6_degree : MethodName := ⟨RX6, "degree", "(I)I"⟩
abbrev cX6_at : ByteArray := prog_8_method_48_code
def yX6_at : MethodName := ⟨RX6, "at", "(III)I"⟩
abbrev cX6_findPieces : ByteArray := prog_8_method_49_code
def yX6_findPieces : MethodName := ⟨RX6, "findPieces", "(I)V"⟩
abbrev cX6_pieces : ByteArray := prog_8_method_50_code
def yX6_pieces : MethodName := ⟨RX6, "pieces", "(I)I"⟩
abbrev cX6_end : ByteArray := prog_8_method_51_code
def yX6_end : MethodName := ⟨RX6, "end", "(IIII)I"⟩
abbrev cX6_holds : ByteArray := prog_8_method_52_code
def yX6_holds : MethodName := ⟨RX6, "holds", "(II)Z"⟩
abbrev cX6_areSame : ByteArray := prog_8_method_53_code
def yX6_areSame : MethodName := ⟨RX6, "areSame", "(II)Z"⟩
abbrev cX6_assume : ByteArray := prog_8_method_54_code
def yX6_assume : MethodName := ⟨RX6, "assume", "(I)Z"⟩
abbrev cX6_sign : ByteArray := prog_8_method_55_code
def yX6_sign : MethodName := ⟨RX6, "sign", "(I)I"⟩
abbrev cX6_same : ByteArray := prog_8_method_56_code
def yX6_same : MethodName := ⟨RX6, "same", "(II)Z"⟩
abbrev cX6_count : ByteArray := prog_8_method_57_code
def yX6_count : MethodName := ⟨RX6, "count", "()I"⟩
def RJ13 : String := "java/lang/Long"
def TJ13 : u_T := fun k => match k with
  | _ => ("", "", "", false)
def tyJ13 : Nat → FieldType := fun k => match k with
  | _ => .int
abbrev wsJ130 : List Cond := u_ws RJ13 TJ13 0
theorem nmJ13 : ∀ a, a < 0 → ∀ b, b < 0 → a ≠ b → (TJ13 a).2.1 ≠ (TJ13 b).2.1 := by decide +kernel
theorem tyJ13_ok : ∀ k, k < 0 → parseFieldDescriptor (TJ13 k).2.2.1 = some (tyJ13 k) := by decide +kernel
abbrev cJ13_compare_74951 : ByteArray := prog_14_method_42_code
def yJ13_compare_74951 : MethodName := ⟨RJ13, "compare", "(JJ)I"⟩
abbrev cJ13_signum_95d88 : ByteArray := prog_14_method_57_code
def yJ13_signum_95d88 : MethodName := ⟨RJ13, "signum", "(J)I"⟩
def RJ9 : String := "java/lang/Math"
def TJ9 : u_T := fun k => match k with
  | _ => ("", "", "", false)
def tyJ9 : Nat → FieldType := fun k => match k with
  | _ => .int
abbrev wsJ90 : List Cond := u_ws RJ9 TJ9 0
theorem nmJ9 : ∀ a, a < 0 → ∀ b, b < 0 → a ≠ b → (TJ9 a).2.1 ≠ (TJ9 b).2.1 := by decide +kernel
theorem tyJ9_ok : ∀ k, k < 0 → parseFieldDescriptor (TJ9 k).2.2.1 = some (tyJ9 k) := by decide +kernel
abbrev cJ9_floorDiv_7cf53 : ByteArray := prog_15_method_47_code
def yJ9_floorDiv_7cf53 : MethodName := ⟨RJ9, "floorDiv", "(II)I"⟩
abbrev cJ9_abs_067f4 : ByteArray := prog_15_method_61_code
def yJ9_abs_067f4 : MethodName := ⟨RJ9, "abs", "(J)J"⟩
abbrev cJ9_max_f86c9 : ByteArray := prog_15_method_66_code
def yJ9_max_f86c9 : MethodName := ⟨RJ9, "max", "(JJ)J"⟩
def RJ0 : String := "java/lang/String"
def TJ0 : u_T := fun k => match k with
  | _ => ("", "", "", false)
def tyJ0 : Nat → FieldType := fun k => match k with
  | _ => .int
abbrev wsJ00 : List Cond := u_ws RJ0 TJ0 0
theorem nmJ0 : ∀ a, a < 0 → ∀ b, b < 0 → a ≠ b → (TJ0 a).2.1 ≠ (TJ0 b).2.1 := by decide +kernel
theorem tyJ0_ok : ∀ k, k < 0 → parseFieldDescriptor (TJ0 k).2.2.1 = some (tyJ0 k) := by decide +kernel
def RL : String := "FormulaHouseLaw"
abbrev cL_number : ByteArray := method_3_code
def yL_number : MethodName := ⟨RL, "number", "(LFormulaHouse;II[J)I"⟩
abbrev cL_letter : ByteArray := method_4_code
def yL_letter : MethodName := ⟨RL, "letter", "(LFormulaHouse;[J)I"⟩
abbrev cL_add : ByteArray := method_5_code
def yL_add : MethodName := ⟨RL, "add", "(LFormulaHouse;II[J)I"⟩
abbrev cL_less : ByteArray := method_6_code
def yL_less : MethodName := ⟨RL, "less", "(LFormulaHouse;II[J)I"⟩
abbrev cL_times : ByteArray := method_7_code
def yL_times : MethodName := ⟨RL, "times", "(LFormulaHouse;II[J)I"⟩
abbrev cL_over : ByteArray := method_8_code
def yL_over : MethodName := ⟨RL, "over", "(LFormulaHouse;II[J)I"⟩
abbrev cL_derive : ByteArray := method_9_code
def yL_derive : MethodName := ⟨RL, "derive", "(LFormulaHouse;I[J)I"⟩
abbrev cL_integral : ByteArray := method_10_code
def yL_integral : MethodName := ⟨RL, "integral", "(LFormulaHouse;I[J)I"⟩
abbrev cL_put : ByteArray := method_11_code
def yL_put : MethodName := ⟨RL, "put", "(LFormulaHouse;II[J)I"⟩
abbrev cL_where : ByteArray := method_12_code
def yL_where : MethodName := ⟨RL, "where", "(LFormulaHouse;II[J)I"⟩
abbrev cL_both : ByteArray := method_13_code
def yL_both : MethodName := ⟨RL, "both", "(LFormulaHouse;II[J)I"⟩
abbrev cL_either : ByteArray := method_14_code
def yL_either : MethodName := ⟨RL, "either", "(LFormulaHouse;II[J)I"⟩
abbrev cL_other : ByteArray := method_15_code
def yL_other : MethodName := ⟨RL, "other", "(LFormulaHouse;I[J)I"⟩
abbrev cL_kind : ByteArray := method_16_code
def yL_kind : MethodName := ⟨RL, "kind", "(LFormulaHouse;I[J)I"⟩
abbrev cL_degree : ByteArray := method_17_code
def yL_degree : MethodName := ⟨RL, "degree", "(LFormulaHouse;I[J)I"⟩
abbrev cL_at : ByteArray := method_18_code
def yL_at : MethodName := ⟨RL, "at", "(LFormulaHouse;III[J)I"⟩
abbrev cL_pieces : ByteArray := method_19_code
def yL_pieces : MethodName := ⟨RL, "pieces", "(LFormulaHouse;I[J)I"⟩
abbrev cL_end : ByteArray := method_20_code
def yL_end : MethodName := ⟨RL, "end", "(LFormulaHouse;IIII[J)I"⟩
abbrev cL_holds : ByteArray := method_21_code
def yL_holds : MethodName := ⟨RL, "holds", "(LFormulaHouse;II[J)I"⟩
abbrev cL_assume : ByteArray := method_22_code
def yL_assume : MethodName := ⟨RL, "assume", "(LFormulaHouse;I[J)I"⟩
abbrev cL_sign : ByteArray := method_23_code
def yL_sign : MethodName := ⟨RL, "sign", "(LFormulaHouse;I[J)I"⟩
abbrev cL_same : ByteArray := method_24_code
def yL_same : MethodName := ⟨RL, "same", "(LFormulaHouse;II[J)I"⟩
abbrev cL_law : ByteArray := code
def yL_law : MethodName := ⟨RL, "law", "([I)Z"⟩
abbrev vwCl : List vw_C := [(RX0, TX0, 2), (RX1, TX1, 2), (RX2, TX2, 2), (RX3, TX3, 2), (RX5, TX5, 3), (RX6, TX6, 24)]
end
section
/-! blocks of instructions that touch nothing but locals and stack: run by a function -/
def pb_look (lv : List (Nat × Value)) (i : Nat) : Option Value := match lv with
  | [] => none
  | (j, v) :: t => match decide (j = i) with
    | true => some v
    | false => pb_look t i
def pb_put1 (lv : List (Nat × Value)) (i : Nat) (v : Value) : List (Nat × Value) := (i, v) :: lv.filter (fun q => !(q.1 == i) && !(q.1 + 1 == i && q.2.category == 2))
def pb_put2 (lv : List (Nat × Value)) (i : Nat) (v : Value) : List (Nat × Value) := (i, v) :: lv.filter (fun q => !(q.1 == i) && (!(q.1 == i + 1) && !(q.1 + 1 == i && q.2.category == 2)))
/-- the int constants, small ones spelled -/
def pb_ic (n : Int) : Int32 := match n with
  | 0 => 0
  | 1 => 1
  | 2 => 2
  | 3 => 3
  | 4 => 4
  | 5 => 5
  | -1 => -1
  | n => Int32.ofInt n
theorem pb_ic_eq (n : Int) : Int32.ofInt n = pb_ic n := by
  unfold pb_ic
  split <;> first | rfl | decide
def pb_lc (n : Nat) : Int64 := match n with
  | 0 => 0
  | 1 => 1
  | n => Int64.ofNat n
theorem pb_lc_eq (n : Nat) : Int64.ofNat n = pb_lc n := by
  unfold pb_lc
  split <;> first | rfl | decide
def pb_step (nL : Nat) (i : Instr) (lv : List (Nat × Value)) (st : List Value) : Option (List (Nat × Value) × List Value) :=
  match i, st with
  | .iconst n, st => some (lv, .int (pb_ic n) :: st)
  | .lconst n, st => some (lv, .long (pb_lc n) :: st)
  | .bipush n, st => some (lv, .int (Int8.ofInt n).toInt32 :: st)
  | .sipush n, st => some (lv, .int (Int16.ofInt n).toInt32 :: st)
  | .aconst_null, st => some (lv, .null :: st)
  | .iload_n k, st => match pb_look lv k.val with | some (.int x) => some (lv, .int x :: st) | _ => none
  | .iload k, st => match pb_look lv k with | some (.int x) => some (lv, .int x :: st) | _ => none
  | .lload_n k, st => match pb_look lv k.val with | some (.long x) => some (lv, .long x :: st) | _ => none
  | .lload k, st => match pb_look lv k with | some (.long x) => some (lv, .long x :: st) | _ => none
  | .aload_n k, st => match pb_look lv k.val with | some (.ref x) => some (lv, .ref x :: st) | _ => none
  | .aload k, st => match pb_look lv k with | some (.ref x) => some (lv, .ref x :: st) | _ => none
  | .istore_n k, .int x :: st => match decide (k.val < nL) with | true => some (pb_put1 lv k.val (.int x), st) | false => none
  | .istore k, .int x :: st => match decide (k < nL) with | true => some (pb_put1 lv k (.int x), st) | false => none
  | .astore_n k, .ref x :: st => match decide (k.val < nL) with | true => some (pb_put1 lv k.val (.ref x), st) | false => none
  | .astore k, .ref x :: st => match decide (k < nL) with | true => some (pb_put1 lv k (.ref x), st) | false => none
  | .lstore_n k, .long x :: st => match decide (k.val + 1 < nL) with | true => some (pb_put2 lv k.val (.long x), st) | false => none
  | .lstore k, .long x :: st => match decide (k + 1 < nL) with | true => some (pb_put2 lv k (.long x), st) | false => none
  | .iinc k n, st => match pb_look lv k with
    | some (.int x) => match decide (k < nL) with | true => some (pb_put1 lv k (.int (x + pb_ic n)), st) | false => none
    | _ => none
  | .iadd, .int y :: .int x :: st => some (lv, .int (x + y) :: st)
  | .isub, .int y :: .int x :: st => some (lv, .int (x - y) :: st)
  | .imul, .int y :: .int x :: st => some (lv, .int (x * y) :: st)
  | .iand, .int y :: .int x :: st => some (lv, .int (x &&& y) :: st)
  | .ixor, .int y :: .int x :: st => some (lv, .int (x ^^^ y) :: st)
  | .ineg, .int x :: st => some (lv, .int (-x) :: st)
  | .ladd, .long y :: .long x :: st => some (lv, .long (x + y) :: st)
  | .lsub, .long y :: .long x :: st => some (lv, .long (x - y) :: st)
  | .lmul, .long y :: .long x :: st => some (lv, .long (x * y) :: st)
  | .lor, .long y :: .long x :: st => some (lv, .long (x ||| y) :: st)
  | .lneg, .long x :: st => some (lv, .long (-x) :: st)
  | .lcmp, .long y :: .long x :: st => some (lv, .int (lg_cmp x y) :: st)
  | .i2l, .int x :: st => some (lv, .long x.toInt64 :: st)
  | .l2i, .long x :: st => some (lv, .int x.toInt32 :: st)
  | .lshr, .int y :: .long x :: st => some (lv, .long (x >>> (y.toInt64 &&& 63)) :: st)
  | .dup, .int x :: st => some (lv, .int x :: .int x :: st)
  | .dup, .ref x :: st => some (lv, .ref x :: .ref x :: st)
  | .pop, .int _ :: st => some (lv, st)
  | .pop, .ref _ :: st => some (lv, st)
  | .goto _, st => some (lv, st)
  | _, _ => none
/-- an instruction's length, where it stands in a block -/
def pb_len (i : Instr) : Nat := match i with
  | .bipush _ | .iload _ | .lload _ | .aload _ | .istore _ | .lstore _ | .astore _ => 2
  | .sipush _ | .iinc _ _ | .goto _ => 3
  | _ => 1
def pb_to (pc : Nat) (i : Instr) : Nat := match i with
  | .goto off => ((pc : Int) + off).toNat
  | _ => pc + pb_len i
def pb_ok (pc : Nat) (i : Instr) : Bool := match i with
  | .goto off => decide (0 ≤ (pc : Int) + off)
  | _ => true
/-- the instructions from pc on as they are listed: the pc behind them -/
def pb_chk (cc : ByteArray) (pc : Nat) (is : List Instr) : Option Nat := match is with
  | [] => some pc
  | i :: t => match decide (decode cc pc = .ok (i, pb_len i)) && pb_ok pc i with
    | true => pb_chk cc (pb_to pc i) t
    | false => none
def pb_run (nL : Nat) (is : List Instr) (lv : List (Nat × Value)) (st : List Value) : Option (List (Nat × Value) × List Value) := match is with
  | [] => some (lv, st)
  | i :: t => match pb_step nL i lv st with
    | some (lv1, st1) => pb_run nL t lv1 st1
    | none => none
theorem pb_look_at {ls : Array Slot} {nL : Nat} {lv : List (Nat × Value)} (h : lv_has ls nL lv) {i : Nat} {v : Value} (hv : pb_look lv i = some v) : ls[i]? = some (.val v) := by
  refine h.2.2 (i, v) ?_
  clear h
  induction lv with
  | nil => simp [pb_look] at hv
  | cons q t ih =>
    obtain ⟨j, w⟩ := q
    simp only [pb_look] at hv
    by_cases e : j = i
    · subst e
      simp at hv
      subst hv
      exact List.mem_cons_self
    · simp [e] at hv
      exact List.mem_cons_of_mem _ (ih hv)
section PB
variable {p : Program} {l : Launch} {e : Env} {R : Room} {s : State} {m : MethodId} {args : Array Value} {below : List Frame} {meth : Method} {c : Code} {H : Heap} {locs : List Loc} {cells slots : Nat} {Q : State → Prop} {cc : ByteArray}
theorem pb_iinc (hx : p.tables.exec = Jvm.exec) (hb : c.code = cc) {k nL : Nat} {n : Int} {pc : Nat} {ls : Array Slot} {lv : List (Nat × Value)} {rest : List Value} {x : Int32} (hd : decode cc pc = .ok (.iinc k n, 3)) (hl : lv_has ls nL lv) (hk : ls[k]? = some (.val (.int x))) (hn : k < nL)
    (kk : ∀ ls', lv_has ls' nL (pb_put1 lv k (.int (x + pb_ic n))) → W p l e R s m args below meth c H locs cells slots Q (F0 m (pc + 3) ls' rest)) : W p l e R s m args below meth c H locs cells slots Q (F0 m pc ls rest) := by
  have hl2 : lv_has ls nL ((k, .int x) :: lv) := ⟨hl.1, hl.2.1, fun q hq => by
    rcases List.mem_cons.mp hq with h | h
    · subst h; exact hk
    · exact hl.2.2 q h⟩
  refine lv_iinc (v := x + pb_ic n) (lv' := pb_put1 lv k (.int (x + pb_ic n))) hx hb hd hl2 (k := 0) rfl (by rw [pb_ic_eq]) hn ?_ kk
  simp [pb_put1, List.filter_cons]
set_option maxHeartbeats 4000000 in
theorem pb_one (hx : p.tables.exec = Jvm.exec) (hb : c.code = cc) {i : Instr} {nL : Nat} {pc : Nat} {ls : Array Slot} {lv lv1 : List (Nat × Value)} {st st1 : List Value} (hl : lv_has ls nL lv) (hd : decode cc pc = .ok (i, pb_len i)) (ho : pb_ok pc i = true) (hs : pb_step nL i lv st = some (lv1, st1))
    (kk : ∀ ls', lv_has ls' nL lv1 → W p l e R s m args below meth c H locs cells slots Q (F0 m (pb_to pc i) ls' st1)) : W p l e R s m args below meth c H locs cells slots Q (F0 m pc ls st) := by
  unfold pb_step at hs
  split at hs
  case h_1 => cases hs; exact lv_iconst hx hb hd (pb_ic_eq _) (kk ls hl)
  case h_2 => cases hs; exact lv_lconst hx hb hd (pb_lc_eq _) (kk ls hl)
  case h_3 => cases hs; exact lv_bipush hx hb hd rfl (kk ls hl)
  case h_4 => cases hs; exact lv_sipush hx hb hd rfl (kk ls hl)
  case h_5 => cases hs; exact lv_null hx hb hd (kk ls hl)
  case h_6 => split at hs <;> cases hs; exact lv_iload_n hx hb hd rfl (pb_look_at hl ‹_›) (kk ls hl)
  case h_7 => split at hs <;> cases hs; exact lv_iload hx hb hd (pb_look_at hl ‹_›) (kk ls hl)
  case h_8 => split at hs <;> cases hs; exact lv_lload_n hx hb hd rfl (pb_look_at hl ‹_›) (kk ls hl)
  case h_9 => split at hs <;> cases hs; exact lv_lload hx hb hd (pb_look_at hl ‹_›) (kk ls hl)
  case h_10 => split at hs <;> cases hs; exact lv_aload_n hx hb hd rfl (pb_look_at hl ‹_›) (kk ls hl)
  case h_11 => split at hs <;> cases hs; exact lv_aload hx hb hd (pb_look_at hl ‹_›) (kk ls hl)
  case h_12 => split at hs <;> cases hs; exact lv_istore_n hx hb hd rfl hl (of_decide_eq_true ‹_›) rfl kk
  case h_13 => split at hs <;> cases hs; exact lv_istore hx hb hd hl (of_decide_eq_true ‹_›) rfl kk
  case h_14 => split at hs <;> cases hs; exact lv_astore_n hx hb hd rfl hl (of_decide_eq_true ‹_›) rfl kk
  case h_15 => split at hs <;> cases hs; exact lv_astore hx hb hd hl (of_decide_eq_true ‹_›) rfl kk
  case h_16 => split at hs <;> cases hs; exact lv_lstore_n hx hb hd rfl hl (of_decide_eq_true ‹_›) rfl kk
  case h_17 => split at hs <;> cases hs; exact lv_lstore hx hb hd hl (of_decide_eq_true ‹_›) rfl kk
  case h_18 =>
    split at hs
    · next h1 =>
      split at hs <;> cases hs
      exact pb_iinc hx hb hd hl (pb_look_at hl h1) (of_decide_eq_true ‹_›) kk
    · cases hs
  case h_19 => cases hs; exact lv_iadd hx hb hd (kk ls hl)
  case h_20 => cases hs; exact lv_isub hx hb hd (kk ls hl)
  case h_21 => cases hs; exact lv_imul hx hb hd (kk ls hl)
  case h_22 => cases hs; exact lv_iand hx hb hd (kk ls hl)
  case h_23 => cases hs; exact lv_ixor hx hb hd (kk ls hl)
  case h_24 => cases hs; exact lv_ineg hx hb hd (kk ls hl)
  case h_25 => cases hs; exact lv_ladd hx hb hd (kk ls hl)
  case h_26 => cases hs; exact lv_lsub hx hb hd (kk ls hl)
  case h_27 => cases hs; exact lv_lmul hx hb hd (kk ls hl)
  case h_28 => cases hs; exact lv_lor hx hb hd (kk ls hl)
  case h_29 => cases hs; exact lv_lneg hx hb hd (kk ls hl)
  case h_30 => cases hs; exact W.lcmp hx hb hd (kk ls hl)
  case h_31 => cases hs; exact lv_i2l hx hb hd rfl (kk ls hl)
  case h_32 => cases hs; exact lv_l2i hx hb hd rfl (kk ls hl)
  case h_33 => cases hs; exact lv_lshr hx hb hd rfl (kk ls hl)
  case h_34 => cases hs; exact lv_dup hx hb hd rfl (kk ls hl)
  case h_35 => cases hs; exact lv_dup hx hb hd rfl (kk ls hl)
  case h_36 => cases hs; exact lv_pop hx hb hd rfl (kk ls hl)
  case h_37 => cases hs; exact lv_pop hx hb hd rfl (kk ls hl)
  case h_38 =>
    cases hs
    refine lv_goto hx hb hd ?_ (kk ls hl)
    have := of_decide_eq_true ho
    simp only [pb_to]
    omega
  case h_39 => cases hs
theorem pb_blk (hx : p.tables.exec = Jvm.exec) (hb : c.code = cc) {is : List Instr} {pc' nL : Nat} : ∀ {pc : Nat} {ls : Array Slot} {lv lv' : List (Nat × Value)} {st st' : List Value}, lv_has ls nL lv → pb_chk cc pc is = some pc' → pb_run nL is lv st = some (lv', st') →
    (∀ ls', lv_has ls' nL lv' → W p l e R s m args below meth c H locs cells slots Q (F0 m pc' ls' st')) → W p l e R s m args below meth c H locs cells slots Q (F0 m pc ls st) := by
  induction is with
  | nil =>
    intro pc ls lv lv' st st' hl hd hr kk
    simp only [pb_run, Option.some.injEq, Prod.mk.injEq] at hr
    obtain ⟨rfl, rfl⟩ := hr
    simp only [pb_chk, Option.some.injEq] at hd
    subst hd
    exact kk ls hl
  | cons i t ih =>
    intro pc ls lv lv' st st' hl hd hr kk
    simp only [pb_chk] at hd
    split at hd
    · next h =>
      obtain ⟨h1, h2⟩ := Bool.and_eq_true_iff.mp h
      simp only [pb_run] at hr
      split at hr
      · next lv1 st1 h3 =>
        exact pb_one hx hb hl (of_decide_eq_true h1) h2 h3 (fun ls' hl' => ih hl' hd hr kk)
      · cases hr
    · cases hd
end PB
end
section
/-! the words, the classes, the cells: what every contract here speaks of -/
def WS : List Cond := lw_tbl.filter goodWord
theorem WS_in {w : Cond} (h : w ∈ lw_tbl) (hg : goodWord w = true) : w ∈ WS := List.mem_filter.mpr ⟨h, hg⟩
def mws (y : MethodName) (cc : ByteArray) (n : Nat) (r : Option FieldType) : List Cond := .code y cc n r :: WS
theorem WS_good {w x : Cond} (h : w ∈ WS) : w ∈ x :: WS ∧ ((w.onTables && w.keeps) = true ∨ ∃ ty, w = .arrayClass ty) := ⟨List.mem_cons_of_mem _ h, good_of_word (List.mem_filter.mp h).2⟩
theorem mws_in {y : MethodName} {cc : ByteArray} {n : Nat} {r : Option FieldType} {x : Cond} (h : Cond.code y cc n r ∈ WS) : GoodIn (x :: WS) (mws y cc n r) := fun w hw => by
  rcases List.mem_cons.mp hw with e | e
  · subst e; exact WS_good h
  · exact WS_good e
theorem mws_in' {y : MethodName} {cc : ByteArray} {n : Nat} {r : Option FieldType} (h : Cond.code y cc n r ∈ WS) : GoodIn WS (mws y cc n r) := fun w hw => by
  have h0 : w ∈ WS := by
    rcases List.mem_cons.mp hw with e | e
    · subst e; exact h
    · exact e
  exact ⟨h0, good_of_word (List.mem_filter.mp h0).2⟩
/-- the class ids: objects' classes and slots, then the arrays' classes: int, long, boolean, Fraction, Thing -/
abbrev Gm : Type := va_G × (Nat → ClassId)
def tyl (G : Gm) : List (ClassId × FieldType) := [(G.2 0, .int), (G.2 1, .long), (G.2 2, .boolean), (G.2 3, .object RX1), (G.2 4, .object RX4)]
def KX (U : State) : Prop := va_Nw (.methodLinkNest RX0 3 yX4_init "FormulaHouse") U ∧ va_Nw (.methodLinkNest RX2 3 yX4_init "FormulaHouse") U ∧ va_AO RX1 U ∧ va_AO RX4 U ∧ va_Nw (.declares ⟨RX4, "whichKind", "()I"⟩) U ∧ va_Nw (.declares ⟨RX4, "isTooGreat", "()Z"⟩) U ∧ va_Nw (.declares ⟨RX4, "isSameAs", "(LFormulaHouse$Thing;)Z"⟩) U ∧
  va_Nw (.castable RX0 RX0) U ∧ va_Nw (.castable RX2 RX2) U ∧ va_Nw (.castable RX0 RX4) U ∧ va_Nw (.castable RX2 RX4) U ∧ va_Nc RX0 RX2 U ∧ va_Nc RX2 RX0 U
theorem KX.warm {s U : State} (hW : s.WarmedH U.vm) (h : KX s) : KX U := by
  obtain ⟨h1, h2, h3, h4, h5, h6, h7, h8, h9, h10, h11, h12, h13⟩ := h
  exact ⟨h1.warmM hW, h2.warmM hW, h3.moved hW.alike, h4.moved hW.alike, h5.warmD hW, h6.warmD hW, h7.warmD hW, h8.warmC hW, h9.warmC hW, h10.warmC hW, h11.warmC hW, h12.moved hW.alike, h13.moved hW.alike⟩
theorem KX.same {s U : State} (hW : s.vm = U.vm) (h : KX s) : KX U := by
  have ha : s.vm.Alike U.vm := by rw [hW]; exact Vm.Alike.refl _
  obtain ⟨h1, h2, h3, h4, h5, h6, h7, h8, h9, h10, h11, h12, h13⟩ := h
  exact ⟨h1.same rfl hW, h2.same rfl hW, h3.moved ha, h4.moved ha, h5.same rfl hW, h6.same rfl hW, h7.same rfl hW, h8.same rfl hW, h9.same rfl hW, h10.same rfl hW, h11.same rfl hW, h12.moved ha, h13.moved ha⟩
def KK (G : Gm) (U : State) : Prop := va_K G.1 vwCl (tyl G) U ∧ KX U
theorem KK.warm {G : Gm} {s U : State} (hW : s.WarmedH U.vm) (h : KK G s) : KK G U := ⟨va_K.moved hW.alike h.1, h.2.warm hW⟩
theorem KK.same {G : Gm} {s U : State} (hW : s.vm = U.vm) (h : KK G s) : KK G U := ⟨va_K.moved (by rw [hW]; exact Vm.Alike.refl _) h.1, h.2.same hW⟩
/-- what was there outside A is there outside A', as it was -/
def Mv (A : Nat → Prop) (H : Heap) (A' : Nat → Prop) (H' : Heap) : Prop := H.size ≤ H'.size ∧ ∀ q : Nat, q < H.size → ¬ A q → ¬ A' q ∧ H'[q]? = H[q]?
/-- nothing that was there has changed -/
def Ex (H H' : Heap) : Prop := H.size ≤ H'.size ∧ ∀ q : Nat, q < H.size → H'[q]? = H[q]?
theorem Ex.rf {H : Heap} : Ex H H := ⟨Nat.le_refl _, fun _ _ => rfl⟩
theorem Ex.trans {H H1 H2 : Heap} (h : Ex H H1) (h' : Ex H1 H2) : Ex H H2 := ⟨Nat.le_trans h.1 h'.1, fun q hq => (h'.2 q (Nat.lt_of_lt_of_le hq h.1)).trans (h.2 q hq)⟩
theorem Ex.mv {H H' : Heap} (h : Ex H H') (A : Nat → Prop) : Mv A H A H' := ⟨h.1, fun q hq hA => ⟨hA, h.2 q hq⟩⟩
theorem Mv.trans {A A1 A2 : Nat → Prop} {H H1 H2 : Heap} (h : Mv A H A1 H1) (h' : Mv A1 H1 A2 H2) : Mv A H A2 H2 := ⟨Nat.le_trans h.1 h'.1, fun q hq hA => by
  obtain ⟨a, b⟩ := h.2 q hq hA
  obtain ⟨c, d⟩ := h'.2 q (Nat.lt_of_lt_of_le hq h.1) a
  exact ⟨c, d.trans b⟩⟩
/-- one address more -/
def Aq (A : Nat → Prop) (a : Nat) : Nat → Prop := fun q => A q ∨ q = a
theorem Mv.grow {A : Nat → Prop} {H : Heap} : Mv A H (Aq A H.size) H := ⟨Nat.le_refl _, fun q hq hA => ⟨fun h => h.elim hA (fun e => absurd e (Nat.ne_of_lt hq)), rfl⟩⟩
theorem Mv.shrink {A : Nat → Prop} {H : Heap} {a : Nat} : Mv (Aq A a) H A H := ⟨Nat.le_refl _, fun _ _ hA => ⟨fun h => hA (Or.inl h), rfl⟩⟩
/-- a write at a place that may change -/
theorem Mv.put {A : Nat → Prop} {H H' : Heap} {a : Nat} (hz : H'.size = H.size) (hq : ∀ q, q ≠ a → H'[q]? = H[q]?) (ha : A a) : Mv A H A H' := ⟨Nat.le_of_eq hz.symm, fun q _ hA => ⟨hA, hq q (fun e => hA (by rw [e]; exact ha))⟩⟩
def Ob (G : Gm) (A : Nat → Prop) (H : Heap) (q ci : Nat) (fs : List Value) : Prop := ¬ A q ∧ va_at G.1 vwCl (q, .inr (ci, fs)) H
def Ar (A : Nat → Prop) (H : Heap) (q : Nat) (cA : ClassId) (n : Nat) (f : Nat → Value) : Prop := ¬ A q ∧ H[q]? = some (arrV cA n f)
theorem Ob.lt {G : Gm} {A : Nat → Prop} {H : Heap} {q ci : Nat} {fs : List Value} (h : Ob G A H q ci fs) : q < H.size := h.2.lt
theorem Ar.lt {A : Nat → Prop} {H : Heap} {q : Nat} {cA : ClassId} {n : Nat} {f : Nat → Value} (h : Ar A H q cA n f) : q < H.size := (Array.getElem?_eq_some_iff.mp h.2).1
theorem Ob.mv {G : Gm} {A A' : Nat → Prop} {H H' : Heap} {q ci : Nat} {fs : List Value} (h : Ob G A H q ci fs) (m : Mv A H A' H') : Ob G A' H' q ci fs := by
  obtain ⟨a, b⟩ := m.2 q h.lt h.1
  exact ⟨a, h.2.kept b⟩
theorem Ar.mv {A A' : Nat → Prop} {H H' : Heap} {q : Nat} {cA : ClassId} {n : Nat} {f : Nat → Value} (h : Ar A H q cA n f) (m : Mv A H A' H') : Ar A' H' q cA n f := by
  obtain ⟨a, b⟩ := m.2 q h.lt h.1
  exact ⟨a, b.trans h.2⟩
/-- the body of a method: machine, code, class, words -/
def Bd (p : Program) (s : State) (m : MethodId) (args : Array Value) (meth : Method) (c : Code) (G : Gm) (y : MethodName) (cc : ByteArray) (nL : Nat) (ret : Option FieldType) : Prop :=
  p.tables.exec = Jvm.exec ∧ c.code = cc ∧ c.maxLocals = nL ∧ s.vm.findClass y.cls = some m.cls ∧ (∀ w ∈ WS, w.before args s = true) ∧ KK G s ∧ meth.sig.returnType = ret ∧ meth.locks = false ∧ meth.name = y.name
section BD
variable {p : Program} {s : State} {m : MethodId} {args : Array Value} {meth : Method} {c : Code} {G : Gm} {y : MethodName} {cc : ByteArray} {nL : Nat} {ret : Option FieldType}
theorem Bd.hx (B : Bd p s m args meth c G y cc nL ret) : p.tables.exec = Jvm.exec := B.1
theorem Bd.hb (B : Bd p s m args meth c G y cc nL ret) : c.code = cc := B.2.1
theorem Bd.hml (B : Bd p s m args meth c G y cc nL ret) : c.maxLocals = nL := B.2.2.1
theorem Bd.hown (B : Bd p s m args meth c G y cc nL ret) : s.vm.findClass y.cls = some m.cls := B.2.2.2.1
theorem Bd.hts (B : Bd p s m args meth c G y cc nL ret) : ∀ w ∈ WS, w.before args s = true := B.2.2.2.2.1
theorem Bd.hK (B : Bd p s m args meth c G y cc nL ret) : KK G s := B.2.2.2.2.2.1
theorem Bd.hr (B : Bd p s m args meth c G y cc nL ret) : meth.sig.returnType = ret := B.2.2.2.2.2.2.1
theorem Bd.hlk (B : Bd p s m args meth c G y cc nL ret) : meth.locks = false := B.2.2.2.2.2.2.2.1
theorem Bd.hnm (B : Bd p s m args meth c G y cc nL ret) : meth.name = y.name := B.2.2.2.2.2.2.2.2
end BD
/-- a contract's start: the arguments, the classes, what may change lies below, a picture of the heap -/
def Pz (G : Gm) (A : Nat → Prop) (av : List Value) (P : Heap → Prop) : Array Value → State → Prop := fun v U => v = av.toArray ∧ KK G U ∧ (∀ q, A q → q < U.heap.size) ∧ P U.heap
theorem Pz.blind {G : Gm} {A : Nat → Prop} {av : List Value} {P : Heap → Prop} : FrameBlind (Pz G A av P) := fun a U g mk h => ⟨h.1, h.2.1.same rfl, h.2.2⟩
/-- its end, where nothing old has changed -/
def Qz (post : Option Value → Heap → Prop) : Array Value → State → Outcome → State → Prop := fun _ st o t => ∃ v, o = .returned v ∧ Ex st.heap t.heap ∧ post v t.heap
/-- its end, where one cell has changed and no other has come -/
def Qk (q : Nat) (post : Heap → Prop) : Array Value → State → Outcome → State → Prop := fun _ st o t => o = .returned none ∧ t.heap.size = st.heap.size ∧ (∀ x, x ≠ q → t.heap[x]? = st.heap[x]?) ∧ post t.heap
def Mz (l : Launch) (y : MethodName) (cc : ByteArray) (n : Nat) (r : Option FieldType) (rm : Room) (G : Gm) (A : Nat → Prop) (av : List Value) (P : Heap → Prop) (post : Option Value → Heap → Prop) : Prop := Met l y (mws y cc n r) rm (Pz G A av P) (Qz post) rm.cells rm.slots (fun _ => False)
def Mk (l : Launch) (y : MethodName) (cc : ByteArray) (n : Nat) (rm : Room) (G : Gm) (A : Nat → Prop) (q : Nat) (av : List Value) (P : Heap → Prop) (post : Heap → Prop) : Prop := Met l y (mws y cc n none) rm (Pz G A av P) (Qk q post) rm.cells rm.slots (fun x => x = q)
theorem of_met {l : Launch} {y : MethodName} {cc : ByteArray} {n : Nat} {r : Option FieldType} {rm : Room} {G : Gm} {A : Nat → Prop} {av : List Value} {P : Heap → Prop} {Qc : Array Value → State → Outcome → State → Prop} {mc ms : Nat} {free : Addr → Prop}
    (hy : plainName y.cls = true) (hsz : (lg_sl av).length ≤ n)
    (body : ∀ p e s m below meth c ls, Bd p s m av.toArray meth c G y cc n r → (∀ q, A q → q < s.heap.size) → P s.heap → lv_has ls n (lv_args 0 av) → W p l e rm s m av.toArray below meth c s.heap [] 0 0 (MQ below Qc av.toArray s mc ms free) (F0 m 0 ls [])) :
    Met l y (mws y cc n r) rm (Pz G A av P) Qc mc ms free := by
  refine Met.ofW (cc := cc) (maxL := n) (ret := r) hy rfl ?_
  intro p e s m args below meth c s₁ B hml hv
  obtain ⟨rfl, hK, hA, hP⟩ := hv
  have hts := atoms_spec (ws := mws y cc n r) B.pre
  have hl := lv_entry av hsz
  rw [lg_entry_eq]
  exact body p e s m below meth c _ ⟨B.exec, B.bytes, hml, findClass_of_methodNamed B.named, fun w hw => hts w (List.mem_cons_of_mem _ hw), hK, B.returns, B.notSynchronized, (name_of_methodNamed B.named B.method).1⟩ hA hP hl
/-- what is known of a class of ours -/
def CI (ci : Nat) (C : String) (T : u_T) (N : Nat) (ty : Nat → FieldType) : Prop := vwCl[ci]? = some (C, T, N) ∧ (∀ w ∈ u_ws C T N, w ∈ WS) ∧ (∀ k, k < N → parseFieldDescriptor (T k).2.2.1 = some (ty k)) ∧ (∀ a, a < N → ∀ b, b < N → a ≠ b → (T a).2.1 ≠ (T b).2.1) ∧ Cond.instantiable C N ∈ WS ∧ Cond.initialized C ∈ WS
section ROWS
variable {p : Program} {l : Launch} {e : Env} {R : Room} {s : State} {m : MethodId} {args : Array Value} {below : List Frame} {meth : Method} {c : Code} {H : Heap} {locs : List Loc} {cells slots : Nat} {Q : State → Prop} {cc : ByteArray} {pc nL : Nat} {ls : Array Slot} {rest st : List Value} {G : Gm} {A : Nat → Prop} {y : MethodName} {ret : Option FieldType} {mc ms : Nat} {post : Option Value → Heap → Prop}
theorem z_iret (B : Bd p s m args meth c G y cc nL (some .int)) (hd : decode cc pc = .ok (.ireturn, 1)) {v : Int32} (hE : Ex s.heap H) (hp : post (some (.int v)) H) (hc : cells ≤ mc) (hs : slots ≤ ms) : W p l e R s m args below meth c H [] cells slots (MQ below (Qz post) args s mc ms (fun _ => False)) (F0 m pc ls [.int v]) :=
  W.widen hc hs (W.iret B.hx B.hb B.hr (fun t ht _ => ⟨_, rfl, by rw [ht]; exact hE, by rw [ht]; exact hp⟩) (fun q h => nomatch h) hd B.hlk)
theorem z_zret (B : Bd p s m args meth c G y cc nL (some .boolean)) (hd : decode cc pc = .ok (.ireturn, 1)) {v : Int32} (hn : narrow .boolean (.int v) = .int v) (hE : Ex s.heap H) (hp : post (some (.int v)) H) (hc : cells ≤ mc) (hs : slots ≤ ms) : W p l e R s m args below meth c H [] cells slots (MQ below (Qz post) args s mc ms (fun _ => False)) (F0 m pc ls [.int v]) :=
  W.widen hc hs (W.zret B.hx B.hb B.hr hn (fun t ht _ => ⟨_, rfl, by rw [ht]; exact hE, by rw [ht]; exact hp⟩) (fun q h => nomatch h) hd B.hlk)
theorem z_lret (B : Bd p s m args meth c G y cc nL (some .long)) (hd : decode cc pc = .ok (.lreturn, 1)) {v : Int64} (hE : Ex s.heap H) (hp : post (some (.long v)) H) (hc : cells ≤ mc) (hs : slots ≤ ms) : W p l e R s m args below meth c H [] cells slots (MQ below (Qz post) args s mc ms (fun _ => False)) (F0 m pc ls [.long v]) :=
  W.widen hc hs (W.lret B.hx B.hb B.hr (fun t ht _ => ⟨_, rfl, by rw [ht]; exact hE, by rw [ht]; exact hp⟩) (fun q h => nomatch h) hd B.hlk)
theorem z_aret {rt : FieldType} (B : Bd p s m args meth c G y cc nL (some rt)) (hrt : (∃ n, rt = .object n) ∨ ∃ t, rt = .array t) (hd : decode cc pc = .ok (.areturn, 1)) {v : Nat} (hE : Ex s.heap H) (hp : post (some (.ref v)) H) (hc : cells ≤ mc) (hs : slots ≤ ms) : W p l e R s m args below meth c H [] cells slots (MQ below (Qz post) args s mc ms (fun _ => False)) (F0 m pc ls [.ref v]) :=
  W.widen hc hs (W.aret B.hx B.hb B.hr hrt (Or.inr ⟨_, rfl⟩) (fun t ht _ => ⟨_, rfl, by rw [ht]; exact hE, by rw [ht]; exact hp⟩) (fun q h => nomatch h) hd B.hlk)
/-- a constructor's end -/
theorem z_kret {q : Nat} {pk : Heap → Prop} (B : Bd p s m args meth c G y cc nL none) (hd : decode cc pc = .ok (.return_, 1)) (hz : H.size = s.heap.size) (hq : ∀ x, x ≠ q → H[x]? = s.heap[x]?) (hp : pk H) (hl : ∀ z ∈ locs, z.base = q) (hc : cells ≤ mc) (hs : slots ≤ ms) : W p l e R s m args below meth c H locs cells slots (MQ below (Qk q pk) args s mc ms (fun x => x = q)) (F0 m pc ls []) :=
  W.widen hc hs (W.vret B.hx B.hb B.hr (fun t ht _ => ⟨rfl, by rw [ht]; exact hz, by rw [ht]; exact hq, by rw [ht]; exact hp⟩) hl hd B.hlk)
/-- a field is read -/
theorem z_get (B : Bd p s m args meth c G y cc nL ret) {q ci index N : Nat} {C : String} {T : u_T} {ty : Nat → FieldType} {fs : List Value} (K : CI ci C T N ty) (k : Nat) (hk : k < N) (ob : Ob G A H q ci fs) (hl : Cond.fieldLink y.cls index (T k).1 (T k).2.1 (T k).2.2.1 ∈ WS) {v : Value} (hv : fs[k]? = some v) (hd : decode cc pc = .ok (.getfield index, 3))
    (kk : W p l e R s m args below meth c H locs cells slots Q (F0 m (pc + 3) ls (v :: rest))) : W p l e R s m args below meth c H locs cells slots Q (F0 m pc ls (.ref q :: rest)) :=
  va_get (D := G.1) (ci := ci) (ws := [(q, .inr (ci, fs))]) B.hx B.hb B.hts K.2.1 B.hown B.hK.1 (fun j x hj => by
    rcases j with _ | j
    · cases hj; exact ob.2
    · cases hj) 0 rfl K.1 k hk (B.hts _ hl) (fun _ h => h) hv hd kk
/-- a field that isn't final is written; a final one in a constructor -/
theorem z_put0 (B : Bd p s m args meth c G y cc nL ret) {q ci index N : Nat} {C : String} {T : u_T} {ty : Nat → FieldType} {fs : List Value} (K : CI ci C T N ty) (k : Nat) (hk : k < N) (ob : va_at G.1 vwCl (q, .inr (ci, fs)) H) (hl : Cond.fieldLink y.cls index (T k).1 (T k).2.1 (T k).2.2.1 ∈ WS) (hfin : (T k).2.2.2 = false ∨ (T k).2.2.2 = true ∧ y.name = "<init>" ∧ (T k).1 = y.cls) {v : Value} (hn : narrow (ty k) v = v) (hf : fits (ty k) v = true) (hlen : k < fs.length) (hd : decode cc pc = .ok (.putfield index, 3))
    (kk : ∀ (H1 : Heap) (i : Nat), va_at G.1 vwCl (q, .inr (ci, fs.set k v)) H1 → H1.size = H.size → (∀ x, x ≠ q → H1[x]? = H[x]?) → W p l e R s m args below meth c H1 (locs ++ [⟨q, i⟩]) cells slots Q (F0 m (pc + 3) ls rest)) : W p l e R s m args below meth c H locs cells slots Q (F0 m pc ls (v :: .ref q :: rest)) := by
  have hap := va_apart (own := y.cls) B.hts K.2.1 ty K.2.2.1 K.2.2.2.1 B.hK.1 K.1
  obtain ⟨r, h1, cell, q1, q2, q3, q4⟩ := ob
  have hr : r = (C, T, N) := Option.some.inj (h1.symm.trans K.1)
  subst hr
  obtain ⟨hS, hfc, kC, hkC, hkind⟩ := B.hK.1.1 ci _ K.1
  obtain ⟨cf, kf, fi, f, hi, hsl⟩ := hS k hk
  have hst := (u_facts hfc hkC (u_lays B.hts K.2.1 hk) hi).1
  have hlay := B.hts _ (K.2.1 _ (u_in_lay hk))
  unfold u_lay at hlay
  have h6 := u_fits hfc hkC hkind (u_lays B.hts K.2.1 hk) hi (K.2.2.1 k hk) hn hf
  have hfin2 : hasFlag f.accessFlags Acc.final = false ∨ (m.cls = cf ∧ meth.name = "<init>") := by
    rcases hfin with hf0 | ⟨hf0, hn0, hc0⟩
    · rw [if_neg (by rw [hf0]; decide)] at hlay
      exact Or.inl (u_store hfc hkC hkind hlay hi (K.2.2.1 k hk) hn hf).1
    · rw [if_pos hf0] at hlay
      refine Or.inr ⟨?_, by rw [B.hnm]; exact hn0⟩
      obtain ⟨_, _, c', _, _, _, -, -, hf', -, -, -, hown2, -⟩ := Cond.laysFinal_spec hlay
      have e1 : c' = cf := by have := hi.symm.trans hf'; simp at this; exact this.1.symm
      rw [hc0] at hown2
      have := B.hown.symm.trans hown2
      rw [← e1]
      exact Option.some.inj this
  refine W.putf B.hx B.hb B.hown (B.hts _ hl) hi hst hfin2 q1 (by rw [q3]; exact fun h => by cases h) (by rw [hsl]; exact k2_hasslot (q4 k hk)) h6.1 (by rw [q3, q2]; exact h6.2) rfl rfl hd ?_
  have ha : q < H.size := (Array.getElem?_eq_some_iff.mp q1).1
  refine kk _ f.slot ?_ (by simp) (fun x hx => by simp [Array.getElem?_setIfInBounds, Ne.symm hx])
  rw [hsl]
  exact ⟨(C, T, N), K.1, t_OB.to (V := updV (vp_V fs) k v) ⟨cell.setSlot (G.1.2 ci k) v, by simp [Array.getElem?_setIfInBounds, ha], q2, q3, t_set q4 hap hk v⟩ (fun j _ => vp_updV_set hlen v j)⟩
/-- a new object -/
theorem z_new (B : Bd p s m args meth c G y cc nL ret) {ci index N : Nat} {C : String} {T : u_T} {ty : Nat → FieldType} (K : CI ci C T N ty) (hl : Cond.classLink y.cls index C ∈ WS) {fs : List Value} (hfs : ∀ j, j < N → defaultValue (ty j) = vp_V fs j) (hc : cells + 1 ≤ R.cells) (hs : slots + N ≤ R.slots) (hd : decode cc pc = .ok (.new index, 3))
    (kk : ∀ H1 : Heap, va_at G.1 vwCl (H.size, .inr (ci, fs)) H1 → H1.size = H.size + 1 → (∀ q, q < H.size → H1[q]? = H[q]?) → W p l e R s m args below meth c H1 locs (cells + 1) (slots + N) Q (F0 m (pc + 3) ls (.ref H.size :: rest))) : W p l e R s m args below meth c H locs cells slots Q (F0 m pc ls rest) := by
  have hKn := B.hK.1.1 ci _ K.1
  refine W.newcK B.hx B.hb B.hown (B.hts _ hl) (B.hts _ K.2.2.2.2.1) (B.hts _ K.2.2.2.2.2) rfl hd hc hs hKn.2.1 rfl fun H1 kC hkC e1 z1 o1 => ?_
  exact kk H1 ⟨_, K.1, (u_born ty B.hts K.2.1 hKn hkC e1 K.2.2.1).to hfs⟩ z1 o1
/-- a new array of numbers -/
theorem z_newa (B : Bd p s m args meth c G y cc nL ret) {atype : ArrayType} (t0 : Nat) {ty : FieldType} (hty : newarray.typeOf atype = ty) (ht : (tyl G)[t0]? = some (G.2 t0, ty)) (hp : va_RA s (G.2 t0) ty → s.vm.findClass ("[" ++ ty.toString) = some (G.2 t0)) (harr : Cond.arrayClass ty ∈ WS) {n : Int32} {N : Nat} (hn : ¬ n < 0) (hN : n.toNatClampNeg = N) (hby : N * componentBytes ty ≤ 536870912) (hc : cells + 1 ≤ R.cells) (hs : slots + N ≤ R.slots) (hd : decode cc pc = .ok (.newarray atype, 2))
    (kk : ∀ H1 : Heap, H1[H.size]? = some (arrV (G.2 t0) N (fun _ => defaultValue ty)) → H1.size = H.size + 1 → (∀ q, q < H.size → H1[q]? = H[q]?) → W p l e R s m args below meth c H1 locs (cells + 1) (slots + N) Q (F0 m (pc + 2) ls (.ref H.size :: rest))) : W p l e R s m args below meth c H locs cells slots Q (F0 m pc ls (.int n :: rest)) := by
  subst hty
  refine va_newaK B.hx B.hb (B.hts _ harr) rfl hd rfl hn hN hby hc hs rfl fun H1 cA e1 z1 o1 _ hNm => ?_
  have e0 := hp (B.hK.1.2 t0 _ ht).2
  have e : cA = G.2 t0 := Option.some.inj (hNm.symm.trans e0)
  subst e
  exact kk H1 e1 z1 o1
/-- a new array of references -/
theorem z_newq (B : Bd p s m args meth c G y cc nL ret) {C : String} {index : Nat} (t0 : Nat) (ht : (tyl G)[t0]? = some (G.2 t0, .object C)) (hl : Cond.classLink y.cls index C ∈ WS) (hov : va_AO C s) {n : Int32} {N : Nat} (hn : ¬ n < 0) (hN : n.toNatClampNeg = N) (hby : N * 4 ≤ 536870912) (hc : cells + 1 ≤ R.cells) (hs : slots + N ≤ R.slots) (hd : decode cc pc = .ok (.anewarray index, 3))
    (kk : ∀ H1 : Heap, H1[H.size]? = some (arrV (G.2 t0) N (fun _ => .null)) → H1.size = H.size + 1 → (∀ q, q < H.size → H1[q]? = H[q]?) → W p l e R s m args below meth c H1 locs (cells + 1) (slots + N) Q (F0 m (pc + 3) ls (.ref H.size :: rest))) : W p l e R s m args below meth c H locs cells slots Q (F0 m pc ls (.int n :: rest)) := by
  subst hN
  refine W.anew B.hx B.hb B.hown (B.hts _ hl) (va_AO.use hov) rfl hd rfl hn hby hc hs fun cA kA comp f1 f2 f3 f4 => ?_
  obtain ⟨kA', comp', g1, g2, g3, g4⟩ := (B.hK.1.2 t0 _ ht).2
  have e : cA = G.2 t0 := Option.some.inj (f1.symm.trans g4)
  subst e
  refine kk _ (by rw [Array.getElem?_push_size, ← arrV_new]) (by simp) (fun q hq => by rw [Array.getElem?_push, if_neg (Nat.ne_of_lt hq)])
theorem z_inlen {i : Int32} {n : Nat} (h : vp_in i n) (cA : ClassId) (f : Nat → Value) : ¬ (i < 0 ∨ (arrV cA n f).slots.size ≤ i.toNatClampNeg) := by rw [arrV_size]; exact h
theorem z_inrd {i : Int32} {n : Nat} (h : vp_in i n) (cA : ClassId) (f : Nat → Value) : (arrV cA n f).slots[i.toNatClampNeg]? = some (f i.toNatClampNeg) := arrV_read _ _ (Nat.not_le.mp fun q => h (Or.inr q))
theorem z_alen (B : Bd p s m args meth c G y cc nL ret) (t0 : Nat) {ty : FieldType} (ht : (tyl G)[t0]? = some (G.2 t0, ty)) {q n : Nat} {f : Nat → Value} (hr : H[q]? = some (arrV (G.2 t0) n f)) (hd : decode cc pc = .ok (.arraylength, 1))
    (kk : W p l e R s m args below meth c H locs cells slots Q (F0 m (pc + 1) ls (.int (nI n) :: rest))) : W p l e R s m args below meth c H locs cells slots Q (F0 m pc ls (.ref q :: rest)) :=
  W.alen B.hx B.hb hr ((B.hK.1.2 t0 _ ht).1 n f) (by rw [arrV_size]; rfl) rfl rfl hd kk
theorem z_iald (B : Bd p s m args meth c G y cc nL ret) {q n : Nat} {f : Nat → Value} (hr : H[q]? = some (arrV (G.2 0) n f)) {i : Int32} (hi : vp_in i n) {v : Value} (hv : f i.toNatClampNeg = v) (hd : decode cc pc = .ok (.iaload, 1))
    (kk : W p l e R s m args below meth c H locs cells slots Q (F0 m (pc + 1) ls (v :: rest))) : W p l e R s m args below meth c H locs cells slots Q (F0 m pc ls (.int i :: .ref q :: rest)) := by
  subst hv
  exact W.iald B.hx B.hb hr ((B.hK.1.2 0 _ rfl).1 n f) (fun q => by cases q) (z_inlen hi _ _) (z_inrd hi _ _) rfl rfl hd kk
theorem z_lald (B : Bd p s m args meth c G y cc nL ret) {q n : Nat} {f : Nat → Value} (hr : H[q]? = some (arrV (G.2 1) n f)) {i : Int32} (hi : vp_in i n) {v : Value} (hv : f i.toNatClampNeg = v) (hd : decode cc pc = .ok (.laload, 1))
    (kk : W p l e R s m args below meth c H locs cells slots Q (F0 m (pc + 1) ls (v :: rest))) : W p l e R s m args below meth c H locs cells slots Q (F0 m pc ls (.int i :: .ref q :: rest)) := by
  subst hv
  exact W.lald B.hx B.hb hr ((B.hK.1.2 1 _ rfl).1 n f) (fun q => by cases q) (z_inlen hi _ _) (z_inrd hi _ _) rfl rfl hd kk
theorem z_zald (B : Bd p s m args meth c G y cc nL ret) {q n : Nat} {f : Nat → Value} (hr : H[q]? = some (arrV (G.2 2) n f)) {i : Int32} (hi : vp_in i n) {v : Value} (hv : f i.toNatClampNeg = v) (hd : decode cc pc = .ok (.baload, 1))
    (kk : W p l e R s m args below meth c H locs cells slots Q (F0 m (pc + 1) ls (v :: rest))) : W p l e R s m args below meth c H locs cells slots Q (F0 m pc ls (.int i :: .ref q :: rest)) := by
  subst hv
  exact W.zald B.hx B.hb hr ((B.hK.1.2 2 _ rfl).1 n f) (fun q => by cases q) (z_inlen hi _ _) (z_inrd hi _ _) rfl rfl hd kk
theorem z_aald (B : Bd p s m args meth c G y cc nL ret) (t0 : Nat) {C : String} (ht : (tyl G)[t0]? = some (G.2 t0, .object C)) {q n : Nat} {f : Nat → Value} (hr : H[q]? = some (arrV (G.2 t0) n f)) {i : Int32} (hi : vp_in i n) {v : Value} (hv : f i.toNatClampNeg = v) (hd : decode cc pc = .ok (.aaload, 1))
    (kk : W p l e R s m args below meth c H locs cells slots Q (F0 m (pc + 1) ls (v :: rest))) : W p l e R s m args below meth c H locs cells slots Q (F0 m pc ls (.int i :: .ref q :: rest)) := by
  subst hv
  exact W.aald (ty := .object C) B.hx B.hb hr ((B.hK.1.2 t0 _ ht).1 n f) rfl (fun q => by cases q) (z_inlen hi _ _) (z_inrd hi _ _) rfl rfl hd kk
theorem z_iast (B : Bd p s m args meth c G y cc nL ret) {q n : Nat} {f : Nat → Value} (hr : H[q]? = some (arrV (G.2 0) n f)) {i x : Int32} (hi : vp_in i n) (hd : decode cc pc = .ok (.iastore, 1))
    (kk : ∀ H1 : Heap, H1[q]? = some (arrV (G.2 0) n (updV f i.toNatClampNeg (.int x))) → H1.size = H.size → (∀ z, z ≠ q → H1[z]? = H[z]?) → W p l e R s m args below meth c H1 (locs ++ [⟨q, i.toNatClampNeg⟩]) cells slots Q (F0 m (pc + 1) ls rest)) : W p l e R s m args below meth c H locs cells slots Q (F0 m pc ls (.int x :: .int i :: .ref q :: rest)) :=
  W.iast B.hx B.hb hr ((B.hK.1.2 0 _ rfl).1 n f) (fun q => by cases q) (z_inlen hi _ _) rfl rfl hd fun H1 e z oq => kk H1 (by rw [e, arrV_store]) z oq
theorem z_last (B : Bd p s m args meth c G y cc nL ret) {q n : Nat} {f : Nat → Value} (hr : H[q]? = some (arrV (G.2 1) n f)) {i : Int32} {x : Int64} (hi : vp_in i n) (hd : decode cc pc = .ok (.lastore, 1))
    (kk : ∀ H1 : Heap, H1[q]? = some (arrV (G.2 1) n (updV f i.toNatClampNeg (.long x))) → H1.size = H.size → (∀ z, z ≠ q → H1[z]? = H[z]?) → W p l e R s m args below meth c H1 (locs ++ [⟨q, i.toNatClampNeg⟩]) cells slots Q (F0 m (pc + 1) ls rest)) : W p l e R s m args below meth c H locs cells slots Q (F0 m pc ls (.long x :: .int i :: .ref q :: rest)) :=
  W.last B.hx B.hb hr ((B.hK.1.2 1 _ rfl).1 n f) (fun q => by cases q) (z_inlen hi _ _) rfl rfl hd fun H1 e z oq => kk H1 (by rw [e, arrV_store]) z oq
theorem z_zast (B : Bd p s m args meth c G y cc nL ret) {q n : Nat} {f : Nat → Value} (hr : H[q]? = some (arrV (G.2 2) n f)) {i x : Int32} (hi : vp_in i n) (hn : narrow .boolean (.int x) = .int x) (hd : decode cc pc = .ok (.bastore, 1))
    (kk : ∀ H1 : Heap, H1[q]? = some (arrV (G.2 2) n (updV f i.toNatClampNeg (.int x))) → H1.size = H.size → (∀ z, z ≠ q → H1[z]? = H[z]?) → W p l e R s m args below meth c H1 (locs ++ [⟨q, i.toNatClampNeg⟩]) cells slots Q (F0 m (pc + 1) ls rest)) : W p l e R s m args below meth c H locs cells slots Q (F0 m pc ls (.int x :: .int i :: .ref q :: rest)) :=
  W.zast B.hx B.hb hr ((B.hK.1.2 2 _ rfl).1 n f) (fun q => by cases q) (z_inlen hi _ _) rfl rfl hd fun H1 e z oq => kk H1 (by rw [e, hn, arrV_store]) z oq
/-- a Fraction into an array of Fractions -/
theorem z_aastF (B : Bd p s m args meth c G y cc nL ret) {q n v : Nat} {f : Nat → Value} {fs : List Value} (hr : H[q]? = some (arrV (G.2 3) n f)) (ob : Ob G A H v 1 fs) {i : Int32} (hi : vp_in i n) (hd : decode cc pc = .ok (.aastore, 1))
    (kk : ∀ H1 : Heap, H1[q]? = some (arrV (G.2 3) n (updV f i.toNatClampNeg (.ref v))) → H1.size = H.size → (∀ z, z ≠ q → H1[z]? = H[z]?) → W p l e R s m args below meth c H1 (locs ++ [⟨q, i.toNatClampNeg⟩]) cells slots Q (F0 m (pc + 1) ls rest)) : W p l e R s m args below meth c H locs cells slots Q (F0 m pc ls (.ref v :: .int i :: .ref q :: rest)) := by
  have hlt : i.toNatClampNeg < n := Nat.not_le.mp fun q => hi (Or.inr q)
  have h0 : ¬ i < 0 := fun q => hi (Or.inl q)
  obtain ⟨r', hr', cellV, g1, g2, g3, -⟩ := ob.2
  have hcls := (B.hK.1.1 1 (RX1, TX1, 2) rfl).2
  obtain ⟨kA, comp, k1, k2, k3, -⟩ := (B.hK.1.2 3 _ rfl).2
  have hcomp : comp = G.1.1 1 := Option.some.inj (k3.symm.trans hcls.1)
  subst hcomp
  obtain ⟨kC, hkC, -⟩ := hcls.2
  exact W.aast B.hx B.hb hr (fun q h => by cases h) (fun h => by cases h) k1 k2 rfl hkC ⟨h0, by show _ < (arrV _ _ _).slots.size; rw [arrV_size]; exact hlt⟩ g1 (fun q h => by rw [g3] at h; cases h) (by rw [g2]; exact hkC) (by rw [g2]; exact va_assign hcls) rfl rfl hd fun H1 e z oq => kk H1 (by rw [e, arrV_store]) z oq
theorem z_forget {g : JFrame} {x : Loc} (hx : s.heap.size ≤ x.base) (kk : W p l e R s m args below meth c H locs cells slots Q g) : W p l e R s m args below meth c H (locs ++ [x]) cells slots Q g := W.forget (L := [x]) (fun q hq => by rw [List.mem_singleton.mp hq]; exact hx) kk
/-- what a call needs of the method that it names -/
def CY (y : MethodName) (cc : ByteArray) (n : Nat) (r : Option FieldType) (np : Nat) : Prop := Cond.code y cc n r ∈ WS ∧ Cond.initialized y.cls ∈ WS ∧ (y.cls ≠ "java/lang/invoke/MethodHandle" ∧ y.cls ≠ "java/lang/invoke/VarHandle" ∧ (parseMethodDescriptor y.desc).map (fun d => d.parameters.length) = some np)
theorem z_cb {y' : MethodName} {bytes : ByteArray} {maxL np index : Nat} {r' : Option FieldType} {rm : Room} (B : Bd p s m args meth c G y cc nL ret) (K : CY y' bytes maxL r' np) (hl : Cond.methodLink y.cls index y' ∈ WS) (hR : rm.frames + 1 ≤ R.frames ∧ 8 + (maxL + 11) + rm.locals ≤ R.locals) : CallB R s args y.cls index y' bytes maxL r' (mws y' bytes maxL r') rm rm.cells rm.slots np :=
  callB_of np B.hts (mws_in' K.1) rfl rfl rfl (B.hts _ K.2.1) (B.hts _ hl) K.2.2 hR
theorem z_after {rm : Room} {a : Array Value} {g : JFrame} {ps : Option Value → Heap → Prop} (hr : CallRun p l e R s m args below meth c H locs cells slots rm.cells rm.slots g rest (Qz ps a) (fun _ => False))
    (kk : ∀ (v : Option Value) (H1 : Heap), Ex H H1 → ps v H1 → W p l e R s m args below meth c H1 locs (cells + rm.cells) (slots + rm.slots) Q { g with pc := g.pc + 3, stack := v.toList ++ rest }) : W p l e R s m args below meth c H locs cells slots Q g := by
  refine W.callX hr (fun _ h => h.elim) fun v st0 t h0 hq => ?_
  obtain ⟨v', e, hE, hp⟩ := hq
  cases e
  subst h0
  exact kk v t.heap hE hp
/-- a call of an object's method -/
theorem z_callV {y' : MethodName} {bytes : ByteArray} {maxL np index b ci N : Nat} {r' : Option FieldType} {rm : Room} {A' : Nat → Prop} {As : List Value} {P : Heap → Prop} {ps : Option Value → Heap → Prop} {C : String} {T : u_T} {fs : List Value} (B : Bd p s m args meth c G y cc nL ret) (hM : Mz l y' bytes maxL r' rm G A' (.ref b :: As) P ps) (K : CY y' bytes maxL r' np) (hi : Cond.instanceMethod y' ∈ WS) (hse : Cond.selects C y' y' ∈ WS) (hl : Cond.methodLink y.cls index y' ∈ WS)
    (hci : vwCl[ci]? = some (C, T, N)) (ob : va_at G.1 vwCl (b, .inr (ci, fs)) H) (hA : ∀ q, A' q → q < H.size) (hP : P H) (hn : As.length = np) (hls : ls.size = nL) (hst : st = As.reverse ++ .ref b :: rest) (hw : (rest.map fun v => v.category).sum ≤ 8) (hR : rm.frames + 1 ≤ R.frames ∧ 8 + (maxL + 11) + rm.locals ≤ R.locals) (hf : cells + rm.cells ≤ R.cells ∧ slots + rm.slots ≤ R.slots) (hd : decode cc pc = .ok (.invokevirtual index, 3))
    (kk : ∀ (v : Option Value) (H1 : Heap), Ex H H1 → ps v H1 → W p l e R s m args below meth c H1 locs (cells + rm.cells) (slots + rm.slots) Q (F0 m (pc + 3) ls (v.toList ++ rest))) : W p l e R s m args below meth c H locs cells slots Q (F0 m pc ls st) := by
  subst hst
  obtain ⟨r, h1, cell, q1, q2, q3, q4⟩ := ob
  have hcl : s.vm.findClass C = some cell.cls := by rw [q2]; exact (B.hK.1.1 ci _ hci).2.1
  exact z_after (W.runV (Ts := WS) ⟨B.hx, B.hb, B.hml, B.hown, B.hts⟩ hM ⟨z_cb B K hl hR, B.hts _ hi, B.hts _ hse⟩ ⟨Pz.blind, ⟨cell, q1, by rw [q3]; rfl, hcl⟩, fun U hU hW => ⟨rfl, B.hK.warm hW, by rw [hU]; exact hA, by rw [hU]; exact hP⟩⟩ rfl hn hls rfl (lv_room hw) hd hf) kk
/-- a call of a static method -/
theorem z_callS {y' : MethodName} {bytes : ByteArray} {maxL np index : Nat} {r' : Option FieldType} {rm : Room} {A' : Nat → Prop} {As : List Value} {P : Heap → Prop} {ps : Option Value → Heap → Prop} (B : Bd p s m args meth c G y cc nL ret) (hM : Mz l y' bytes maxL r' rm G A' As P ps) (K : CY y' bytes maxL r' np) (hi : Cond.static y' ∈ WS) (hl : Cond.methodLink y.cls index y' ∈ WS)
    (hA : ∀ q, A' q → q < H.size) (hP : P H) (hn : As.length = np) (hls : ls.size = nL) (hst : st = As.reverse ++ rest) (hw : (rest.map fun v => v.category).sum ≤ 8) (hR : rm.frames + 1 ≤ R.frames ∧ 8 + (maxL + 11) + rm.locals ≤ R.locals) (hf : cells + rm.cells ≤ R.cells ∧ slots + rm.slots ≤ R.slots) (hd : decode cc pc = .ok (.invokestatic index, 3))
    (kk : ∀ (v : Option Value) (H1 : Heap), Ex H H1 → ps v H1 → W p l e R s m args below meth c H1 locs (cells + rm.cells) (slots + rm.slots) Q (F0 m (pc + 3) ls (v.toList ++ rest))) : W p l e R s m args below meth c H locs cells slots Q (F0 m pc ls st) := by
  subst hst
  exact z_after (W.runS (Ts := WS) ⟨B.hx, B.hb, B.hml, B.hown, B.hts⟩ hM ⟨z_cb B K hl hR, B.hts _ hi⟩ ⟨Pz.blind, fun U hU hW => ⟨rfl, B.hK.warm hW, by rw [hU]; exact hA, by rw [hU]; exact hP⟩⟩ rfl hn hls rfl (lv_room hw) hd hf) kk
theorem z_afterK {rm : Room} {a : Array Value} {g : JFrame} {b : Nat} {ps : Heap → Prop} (hr : CallRun p l e R s m args below meth c H locs cells slots rm.cells rm.slots g rest (Qk b ps a) (fun x => x = b)) (hb : s.heap.size ≤ b)
    (kk : ∀ H1 : Heap, H1.size = H.size → (∀ x, x ≠ b → H1[x]? = H[x]?) → ps H1 → W p l e R s m args below meth c H1 locs (cells + rm.cells) (slots + rm.slots) Q { g with pc := g.pc + 3, stack := rest }) : W p l e R s m args below meth c H locs cells slots Q g := by
  refine W.callX hr (fun x h => by rw [h]; exact hb) fun v st0 t h0 hq => ?_
  obtain ⟨e, hz, hx, hp⟩ := hq
  cases e
  subst h0
  exact kk t.heap hz hx hp
/-- a call of a constructor on a cell that is new here -/
theorem z_ctor {y' : MethodName} {bytes : ByteArray} {maxL np index b : Nat} {rm : Room} {A' : Nat → Prop} {As : List Value} {P : Heap → Prop} {ps : Heap → Prop} (B : Bd p s m args meth c G y cc nL ret) (hM : Mk l y' bytes maxL rm G A' b (.ref b :: As) P ps) (K : CY y' bytes maxL none np) (hi : Cond.instanceMethod y' ∈ WS) (hin : y'.name = "<init>") (hl : Cond.methodLink y.cls index y' ∈ WS)
    (hb : s.heap.size ≤ b) (hA : ∀ q, A' q → q < H.size) (hP : P H) (hn : As.length = np) (hls : ls.size = nL) (hst : st = As.reverse ++ .ref b :: rest) (hw : (rest.map fun v => v.category).sum ≤ 8) (hR : rm.frames + 1 ≤ R.frames ∧ 8 + (maxL + 11) + rm.locals ≤ R.locals) (hf : cells + rm.cells ≤ R.cells ∧ slots + rm.slots ≤ R.slots) (hd : decode cc pc = .ok (.invokespecial index, 3))
    (kk : ∀ H1 : Heap, H1.size = H.size → (∀ x, x ≠ b → H1[x]? = H[x]?) → ps H1 → W p l e R s m args below meth c H1 locs (cells + rm.cells) (slots + rm.slots) Q (F0 m (pc + 3) ls rest)) : W p l e R s m args below meth c H locs cells slots Q (F0 m pc ls st) := by
  subst hst
  exact z_afterK (W.runI (Ts := WS) ⟨B.hx, B.hb, B.hml, B.hown, B.hts⟩ hM ⟨z_cb B K hl hR, hin, B.hts _ hi⟩ ⟨Pz.blind, fun U hU hW => ⟨rfl, B.hK.warm hW, by rw [hU]; exact hA, by rw [hU]; exact hP⟩⟩ rfl hn hls rfl (lv_room hw) hd hf) hb kk
end ROWS
end
