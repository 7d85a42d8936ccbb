section
-- ===== PART A: goes FIRST, ahead of the names: the tables' words, and 'selects' of the private methods out of them =====
/-- a private method of a class that the tables say can be made, by its rows of tables_1 -/
def lw_okq (q : MethodName × Nat) : Prop := (q.1.cls ≠ "java/lang/invoke/MethodHandle" ∧ q.1.cls ≠ "java/lang/invoke/VarHandle") ∧ Cond.instantiable q.1.cls q.2 ∈ tables_1 ∧ Cond.privateMethod q.1 ∈ tables_1 ∧ Cond.instanceMethod q.1 ∈ tables_1
theorem lw_p0 : lw_okq (⟨"SpectrumDesk", "upToDate", "()LSpectrumDesk$Spectrum;"⟩, 7) := ⟨⟨by decide +kernel, by decide +kernel⟩, List.mem_of_getElem? (i := 28) (by decide +kernel), List.mem_of_getElem? (i := 257) (by decide +kernel), List.mem_of_getElem? (i := 258) (by decide +kernel)⟩
theorem lw_p1 : lw_okq (⟨"SpectrumDesk$Spectrum", "measure", "([[I)V"⟩, 14) := ⟨⟨by decide +kernel, by decide +kernel⟩, List.mem_of_getElem? (i := 57) (by decide +kernel), List.mem_of_getElem? (i := 265) (by decide +kernel), List.mem_of_getElem? (i := 266) (by decide +kernel)⟩
theorem lw_p2 : lw_okq (⟨"SpectrumDesk$Border", "advance", "([I[[II)V"⟩, 2) := ⟨⟨by decide +kernel, by decide +kernel⟩, List.mem_of_getElem? (i := 102) (by decide +kernel), List.mem_of_getElem? (i := 294) (by decide +kernel), List.mem_of_getElem? (i := 295) (by decide +kernel)⟩
theorem lw_p3 : lw_okq (⟨"SpectrumDesk$Spectrum", "limbsForEdges", "()I"⟩, 14) := ⟨⟨by decide +kernel, by decide +kernel⟩, List.mem_of_getElem? (i := 57) (by decide +kernel), List.mem_of_getElem? (i := 298) (by decide +kernel), List.mem_of_getElem? (i := 299) (by decide +kernel)⟩
theorem lw_p4 : lw_okq (⟨"java/lang/Throwable", "fillInStackTrace", "(I)Ljava/lang/Throwable;"⟩, 6) := ⟨⟨by decide +kernel, by decide +kernel⟩, List.mem_of_getElem? (i := 360) (by decide +kernel), List.mem_of_getElem? (i := 358) (by decide +kernel), List.mem_of_getElem? (i := 359) (by decide +kernel)⟩
theorem lw_p5 : lw_okq (⟨"SpectrumDesk$Printer", "takeDigits", "()I"⟩, 4) := ⟨⟨by decide +kernel, by decide +kernel⟩, List.mem_of_getElem? (i := 180) (by decide +kernel), List.mem_of_getElem? (i := 668) (by decide +kernel), List.mem_of_getElem? (i := 669) (by decide +kernel)⟩
theorem lw_p6 : lw_okq (⟨"SpectrumDesk$Euclid", "reduce", "(LSpectrumDesk$Polynomial;LSpectrumDesk$Polynomial;)V"⟩, 3) := ⟨⟨by decide +kernel, by decide +kernel⟩, List.mem_of_getElem? (i := 116) (by decide +kernel), List.mem_of_getElem? (i := 702) (by decide +kernel), List.mem_of_getElem? (i := 703) (by decide +kernel)⟩
theorem lw_p7 : lw_okq (⟨"SpectrumDesk$Euclid", "divideAll", "(LSpectrumDesk$Polynomial;I)V"⟩, 3) := ⟨⟨by decide +kernel, by decide +kernel⟩, List.mem_of_getElem? (i := 116) (by decide +kernel), List.mem_of_getElem? (i := 716) (by decide +kernel), List.mem_of_getElem? (i := 717) (by decide +kernel)⟩
theorem lw_p8 : lw_okq (⟨"SpectrumDesk$Spectrum", "howManyBelowEdge", "(J)I"⟩, 14) := ⟨⟨by decide +kernel, by decide +kernel⟩, List.mem_of_getElem? (i := 57) (by decide +kernel), List.mem_of_getElem? (i := 753) (by decide +kernel), List.mem_of_getElem? (i := 754) (by decide +kernel)⟩
theorem lw_p9 : lw_okq (⟨"SpectrumDesk", "isIndex", "(I)Z"⟩, 7) := ⟨⟨by decide +kernel, by decide +kernel⟩, List.mem_of_getElem? (i := 28) (by decide +kernel), List.mem_of_getElem? (i := 815) (by decide +kernel), List.mem_of_getElem? (i := 816) (by decide +kernel)⟩
theorem lw_p10 : lw_okq (⟨"SpectrumDesk$Spectrum", "rootsBelowOne", "(LSpectrumDesk$Polynomial;)I"⟩, 14) := ⟨⟨by decide +kernel, by decide +kernel⟩, List.mem_of_getElem? (i := 57) (by decide +kernel), List.mem_of_getElem? (i := 878) (by decide +kernel), List.mem_of_getElem? (i := 879) (by decide +kernel)⟩
theorem lw_p11 : lw_okq (⟨"SpectrumDeskModel", "isPlace", "(II)Z"⟩, 14) := ⟨⟨by decide +kernel, by decide +kernel⟩, List.mem_of_getElem? (i := 894) (by decide +kernel), List.mem_of_getElem? (i := 956) (by decide +kernel), List.mem_of_getElem? (i := 957) (by decide +kernel)⟩
theorem lw_p12 : lw_okq (⟨"SpectrumDeskModel", "spreadOf", "(II)J"⟩, 14) := ⟨⟨by decide +kernel, by decide +kernel⟩, List.mem_of_getElem? (i := 894) (by decide +kernel), List.mem_of_getElem? (i := 981) (by decide +kernel), List.mem_of_getElem? (i := 982) (by decide +kernel)⟩
theorem lw_p13 : lw_okq (⟨"SpectrumDeskModel", "characterize", "(II)V"⟩, 14) := ⟨⟨by decide +kernel, by decide +kernel⟩, List.mem_of_getElem? (i := 894) (by decide +kernel), List.mem_of_getElem? (i := 993) (by decide +kernel), List.mem_of_getElem? (i := 994) (by decide +kernel)⟩
theorem lw_p14 : lw_okq (⟨"SpectrumDeskModel", "bigSet", "(IJ)V"⟩, 14) := ⟨⟨by decide +kernel, by decide +kernel⟩, List.mem_of_getElem? (i := 894) (by decide +kernel), List.mem_of_getElem? (i := 997) (by decide +kernel), List.mem_of_getElem? (i := 998) (by decide +kernel)⟩
theorem lw_p15 : lw_okq (⟨"SpectrumDeskModel", "findMinor", "(I)V"⟩, 14) := ⟨⟨by decide +kernel, by decide +kernel⟩, List.mem_of_getElem? (i := 894) (by decide +kernel), List.mem_of_getElem? (i := 1002) (by decide +kernel), List.mem_of_getElem? (i := 1003) (by decide +kernel)⟩
def lw_privs_1 : List (MethodName × Nat) := [(⟨"SpectrumDesk", "upToDate", "()LSpectrumDesk$Spectrum;"⟩, 7), (⟨"SpectrumDesk$Spectrum", "measure", "([[I)V"⟩, 14), (⟨"SpectrumDesk$Border", "advance", "([I[[II)V"⟩, 2), (⟨"SpectrumDesk$Spectrum", "limbsForEdges", "()I"⟩, 14), (⟨"java/lang/Throwable", "fillInStackTrace", "(I)Ljava/lang/Throwable;"⟩, 6), (⟨"SpectrumDesk$Printer", "takeDigits", "()I"⟩, 4), (⟨"SpectrumDesk$Euclid", "reduce", "(LSpectrumDesk$Polynomial;LSpectrumDesk$Polynomial;)V"⟩, 3), (⟨"SpectrumDesk$Euclid", "divideAll", "(LSpectrumDesk$Polynomial;I)V"⟩, 3), (⟨"SpectrumDesk$Spectrum", "howManyBelowEdge", "(J)I"⟩, 14), (⟨"SpectrumDesk", "isIndex", "(I)Z"⟩, 7), (⟨"SpectrumDesk$Spectrum", "rootsBelowOne", "(LSpectrumDesk$Polynomial;)I"⟩, 14), (⟨"SpectrumDeskModel", "isPlace", "(II)Z"⟩, 14), (⟨"SpectrumDeskModel", "spreadOf", "(II)J"⟩, 14), (⟨"SpectrumDeskModel", "characterize", "(II)V"⟩, 14), (⟨"SpectrumDeskModel", "bigSet", "(IJ)V"⟩, 14), (⟨"SpectrumDeskModel", "findMinor", "(I)V"⟩, 14)]
theorem lw_r1 : ∀ q ∈ lw_privs_1, lw_okq q := List.forall_mem_cons.mpr ⟨lw_p0, List.forall_mem_cons.mpr ⟨lw_p1, List.forall_mem_cons.mpr ⟨lw_p2, List.forall_mem_cons.mpr ⟨lw_p3, List.forall_mem_cons.mpr ⟨lw_p4, List.forall_mem_cons.mpr ⟨lw_p5, List.forall_mem_cons.mpr ⟨lw_p6, List.forall_mem_cons.mpr ⟨lw_p7, List.forall_mem_cons.mpr ⟨lw_p8, List.forall_mem_cons.mpr ⟨lw_p9, List.forall_mem_cons.mpr ⟨lw_p10, List.forall_mem_cons.mpr ⟨lw_p11, List.forall_mem_cons.mpr ⟨lw_p12, List.forall_mem_cons.mpr ⟨lw_p13, List.forall_mem_cons.mpr ⟨lw_p14, List.forall_mem_cons.mpr ⟨lw_p15, fun _ h => absurd h List.not_mem_nil⟩⟩⟩⟩⟩⟩⟩⟩⟩⟩⟩⟩⟩⟩⟩⟩
theorem lw_p16 : lw_okq (⟨"SpectrumDeskModel", "bigProduct", "(III)V"⟩, 14) := ⟨⟨by decide +kernel, by decide +kernel⟩, List.mem_of_getElem? (i := 894) (by decide +kernel), List.mem_of_getElem? (i := 1012) (by decide +kernel), List.mem_of_getElem? (i := 1013) (by decide +kernel)⟩
theorem lw_p17 : lw_okq (⟨"SpectrumDeskModel", "bigTrim", "(I)V"⟩, 14) := ⟨⟨by decide +kernel, by decide +kernel⟩, List.mem_of_getElem? (i := 894) (by decide +kernel), List.mem_of_getElem? (i := 1017) (by decide +kernel), List.mem_of_getElem? (i := 1018) (by decide +kernel)⟩
theorem lw_p18 : lw_okq (⟨"SpectrumDeskModel", "bigAdd", "(IIZ)V"⟩, 14) := ⟨⟨by decide +kernel, by decide +kernel⟩, List.mem_of_getElem? (i := 894) (by decide +kernel), List.mem_of_getElem? (i := 1021) (by decide +kernel), List.mem_of_getElem? (i := 1022) (by decide +kernel)⟩
theorem lw_p19 : lw_okq (⟨"SpectrumDeskModel", "bigMore", "(II)V"⟩, 14) := ⟨⟨by decide +kernel, by decide +kernel⟩, List.mem_of_getElem? (i := 894) (by decide +kernel), List.mem_of_getElem? (i := 1025) (by decide +kernel), List.mem_of_getElem? (i := 1026) (by decide +kernel)⟩
theorem lw_p20 : lw_okq (⟨"SpectrumDeskModel", "bigAt", "(II)I"⟩, 14) := ⟨⟨by decide +kernel, by decide +kernel⟩, List.mem_of_getElem? (i := 894) (by decide +kernel), List.mem_of_getElem? (i := 1029) (by decide +kernel), List.mem_of_getElem? (i := 1030) (by decide +kernel)⟩
theorem lw_p21 : lw_okq (⟨"SpectrumDeskModel", "bigSizes", "(II)I"⟩, 14) := ⟨⟨by decide +kernel, by decide +kernel⟩, List.mem_of_getElem? (i := 894) (by decide +kernel), List.mem_of_getElem? (i := 1034) (by decide +kernel), List.mem_of_getElem? (i := 1035) (by decide +kernel)⟩
theorem lw_p22 : lw_okq (⟨"SpectrumDeskModel", "bigDiffer", "(IIZ)V"⟩, 14) := ⟨⟨by decide +kernel, by decide +kernel⟩, List.mem_of_getElem? (i := 894) (by decide +kernel), List.mem_of_getElem? (i := 1038) (by decide +kernel), List.mem_of_getElem? (i := 1039) (by decide +kernel)⟩
theorem lw_p23 : lw_okq (⟨"SpectrumDeskModel", "bigSign", "(I)I"⟩, 14) := ⟨⟨by decide +kernel, by decide +kernel⟩, List.mem_of_getElem? (i := 894) (by decide +kernel), List.mem_of_getElem? (i := 1042) (by decide +kernel), List.mem_of_getElem? (i := 1043) (by decide +kernel)⟩
theorem lw_p24 : lw_okq (⟨"SpectrumDeskModel", "bigCopy", "(II)V"⟩, 14) := ⟨⟨by decide +kernel, by decide +kernel⟩, List.mem_of_getElem? (i := 894) (by decide +kernel), List.mem_of_getElem? (i := 1046) (by decide +kernel), List.mem_of_getElem? (i := 1047) (by decide +kernel)⟩
theorem lw_p25 : lw_okq (⟨"SpectrumDeskModel", "bigTenth", "(I)I"⟩, 14) := ⟨⟨by decide +kernel, by decide +kernel⟩, List.mem_of_getElem? (i := 894) (by decide +kernel), List.mem_of_getElem? (i := 1050) (by decide +kernel), List.mem_of_getElem? (i := 1051) (by decide +kernel)⟩
theorem lw_p26 : lw_okq (⟨"SpectrumDeskModel", "weigh", "(I)V"⟩, 14) := ⟨⟨by decide +kernel, by decide +kernel⟩, List.mem_of_getElem? (i := 894) (by decide +kernel), List.mem_of_getElem? (i := 1062) (by decide +kernel), List.mem_of_getElem? (i := 1063) (by decide +kernel)⟩
theorem lw_p27 : lw_okq (⟨"SpectrumDeskModel", "rowCopy", "(II)V"⟩, 14) := ⟨⟨by decide +kernel, by decide +kernel⟩, List.mem_of_getElem? (i := 894) (by decide +kernel), List.mem_of_getElem? (i := 1066) (by decide +kernel), List.mem_of_getElem? (i := 1067) (by decide +kernel)⟩
theorem lw_p28 : lw_okq (⟨"SpectrumDeskModel", "cellOf", "(II)J"⟩, 14) := ⟨⟨by decide +kernel, by decide +kernel⟩, List.mem_of_getElem? (i := 894) (by decide +kernel), List.mem_of_getElem? (i := 1074) (by decide +kernel), List.mem_of_getElem? (i := 1075) (by decide +kernel)⟩
theorem lw_p29 : lw_okq (⟨"SpectrumDeskModel", "isAtLeast", "(I)Z"⟩, 14) := ⟨⟨by decide +kernel, by decide +kernel⟩, List.mem_of_getElem? (i := 894) (by decide +kernel), List.mem_of_getElem? (i := 1080) (by decide +kernel), List.mem_of_getElem? (i := 1081) (by decide +kernel)⟩
theorem lw_p30 : lw_okq (⟨"SpectrumDeskModel", "lessThan", "(I)I"⟩, 14) := ⟨⟨by decide +kernel, by decide +kernel⟩, List.mem_of_getElem? (i := 894) (by decide +kernel), List.mem_of_getElem? (i := 1084) (by decide +kernel), List.mem_of_getElem? (i := 1085) (by decide +kernel)⟩
theorem lw_p31 : lw_okq (⟨"SpectrumDeskModel", "findCommon", "()V"⟩, 14) := ⟨⟨by decide +kernel, by decide +kernel⟩, List.mem_of_getElem? (i := 894) (by decide +kernel), List.mem_of_getElem? (i := 1092) (by decide +kernel), List.mem_of_getElem? (i := 1093) (by decide +kernel)⟩
def lw_privs_2 : List (MethodName × Nat) := [(⟨"SpectrumDeskModel", "bigProduct", "(III)V"⟩, 14), (⟨"SpectrumDeskModel", "bigTrim", "(I)V"⟩, 14), (⟨"SpectrumDeskModel", "bigAdd", "(IIZ)V"⟩, 14), (⟨"SpectrumDeskModel", "bigMore", "(II)V"⟩, 14), (⟨"SpectrumDeskModel", "bigAt", "(II)I"⟩, 14), (⟨"SpectrumDeskModel", "bigSizes", "(II)I"⟩, 14), (⟨"SpectrumDeskModel", "bigDiffer", "(IIZ)V"⟩, 14), (⟨"SpectrumDeskModel", "bigSign", "(I)I"⟩, 14), (⟨"SpectrumDeskModel", "bigCopy", "(II)V"⟩, 14), (⟨"SpectrumDeskModel", "bigTenth", "(I)I"⟩, 14), (⟨"SpectrumDeskModel", "weigh", "(I)V"⟩, 14), (⟨"SpectrumDeskModel", "rowCopy", "(II)V"⟩, 14), (⟨"SpectrumDeskModel", "cellOf", "(II)J"⟩, 14), (⟨"SpectrumDeskModel", "isAtLeast", "(I)Z"⟩, 14), (⟨"SpectrumDeskModel", "lessThan", "(I)I"⟩, 14), (⟨"SpectrumDeskModel", "findCommon", "()V"⟩, 14)]
theorem lw_r2 : ∀ q ∈ lw_privs_2, lw_okq q := List.forall_mem_cons.mpr ⟨lw_p16, List.forall_mem_cons.mpr ⟨lw_p17, List.forall_mem_cons.mpr ⟨lw_p18, List.forall_mem_cons.mpr ⟨lw_p19, List.forall_mem_cons.mpr ⟨lw_p20, List.forall_mem_cons.mpr ⟨lw_p21, List.forall_mem_cons.mpr ⟨lw_p22, List.forall_mem_cons.mpr ⟨lw_p23, List.forall_mem_cons.mpr ⟨lw_p24, List.forall_mem_cons.mpr ⟨lw_p25, List.forall_mem_cons.mpr ⟨lw_p26, List.forall_mem_cons.mpr ⟨lw_p27, List.forall_mem_cons.mpr ⟨lw_p28, List.forall_mem_cons.mpr ⟨lw_p29, List.forall_mem_cons.mpr ⟨lw_p30, List.forall_mem_cons.mpr ⟨lw_p31, fun _ h => absurd h List.not_mem_nil⟩⟩⟩⟩⟩⟩⟩⟩⟩⟩⟩⟩⟩⟩⟩⟩
theorem lw_p32 : lw_okq (⟨"SpectrumDeskModel", "simplify", "(I)V"⟩, 14) := ⟨⟨by decide +kernel, by decide +kernel⟩, List.mem_of_getElem? (i := 894) (by decide +kernel), List.mem_of_getElem? (i := 1096) (by decide +kernel), List.mem_of_getElem? (i := 1097) (by decide +kernel)⟩
theorem lw_p33 : lw_okq (⟨"SpectrumDeskModel", "bigDivide", "(III)V"⟩, 14) := ⟨⟨by decide +kernel, by decide +kernel⟩, List.mem_of_getElem? (i := 894) (by decide +kernel), List.mem_of_getElem? (i := 1100) (by decide +kernel), List.mem_of_getElem? (i := 1101) (by decide +kernel)⟩
theorem lw_p34 : lw_okq (⟨"SpectrumDeskModel", "bigHolds", "(III)Z"⟩, 14) := ⟨⟨by decide +kernel, by decide +kernel⟩, List.mem_of_getElem? (i := 894) (by decide +kernel), List.mem_of_getElem? (i := 1104) (by decide +kernel), List.mem_of_getElem? (i := 1105) (by decide +kernel)⟩
theorem lw_p35 : lw_okq (⟨"SpectrumDeskModel", "bigLose", "(IIJI)V"⟩, 14) := ⟨⟨by decide +kernel, by decide +kernel⟩, List.mem_of_getElem? (i := 894) (by decide +kernel), List.mem_of_getElem? (i := 1108) (by decide +kernel), List.mem_of_getElem? (i := 1109) (by decide +kernel)⟩
theorem lw_p36 : lw_okq (⟨"SpectrumDeskModel", "lower", "()V"⟩, 14) := ⟨⟨by decide +kernel, by decide +kernel⟩, List.mem_of_getElem? (i := 894) (by decide +kernel), List.mem_of_getElem? (i := 1112) (by decide +kernel), List.mem_of_getElem? (i := 1113) (by decide +kernel)⟩
theorem lw_p37 : lw_okq (⟨"SpectrumDeskModel", "rowTrim", "(I)V"⟩, 14) := ⟨⟨by decide +kernel, by decide +kernel⟩, List.mem_of_getElem? (i := 894) (by decide +kernel), List.mem_of_getElem? (i := 1116) (by decide +kernel), List.mem_of_getElem? (i := 1117) (by decide +kernel)⟩
theorem lw_p38 : lw_okq (⟨"SpectrumDeskModel", "within", "(I)I"⟩, 14) := ⟨⟨by decide +kernel, by decide +kernel⟩, List.mem_of_getElem? (i := 894) (by decide +kernel), List.mem_of_getElem? (i := 1120) (by decide +kernel), List.mem_of_getElem? (i := 1121) (by decide +kernel)⟩
theorem lw_p39 : lw_okq (⟨"SpectrumDeskModel", "halve", "(I)V"⟩, 14) := ⟨⟨by decide +kernel, by decide +kernel⟩, List.mem_of_getElem? (i := 894) (by decide +kernel), List.mem_of_getElem? (i := 1124) (by decide +kernel), List.mem_of_getElem? (i := 1125) (by decide +kernel)⟩
def lw_privs_3 : List (MethodName × Nat) := [(⟨"SpectrumDeskModel", "simplify", "(I)V"⟩, 14), (⟨"SpectrumDeskModel", "bigDivide", "(III)V"⟩, 14), (⟨"SpectrumDeskModel", "bigHolds", "(III)Z"⟩, 14), (⟨"SpectrumDeskModel", "bigLose", "(IIJI)V"⟩, 14), (⟨"SpectrumDeskModel", "lower", "()V"⟩, 14), (⟨"SpectrumDeskModel", "rowTrim", "(I)V"⟩, 14), (⟨"SpectrumDeskModel", "within", "(I)I"⟩, 14), (⟨"SpectrumDeskModel", "halve", "(I)V"⟩, 14)]
theorem lw_r3 : ∀ q ∈ lw_privs_3, lw_okq q := List.forall_mem_cons.mpr ⟨lw_p32, List.forall_mem_cons.mpr ⟨lw_p33, List.forall_mem_cons.mpr ⟨lw_p34, List.forall_mem_cons.mpr ⟨lw_p35, List.forall_mem_cons.mpr ⟨lw_p36, List.forall_mem_cons.mpr ⟨lw_p37, List.forall_mem_cons.mpr ⟨lw_p38, List.forall_mem_cons.mpr ⟨lw_p39, fun _ h => absurd h List.not_mem_nil⟩⟩⟩⟩⟩⟩⟩⟩
def lw_privs : List (MethodName × Nat) := lw_privs_1 ++ (lw_privs_2 ++ (lw_privs_3))
def lw_tbl : List Cond := k2_sels lw_privs ++ tables_1
theorem lw_privs_ok : ∀ q ∈ lw_privs, lw_okq q := by
  show ∀ q ∈ lw_privs_1 ++ (lw_privs_2 ++ (lw_privs_3)), lw_okq q
  exact List.forall_mem_append.mpr ⟨lw_r1, List.forall_mem_append.mpr ⟨lw_r2, lw_r3⟩⟩
end
section
/-! the good words of the tables; every method takes them all -/
def AW : List Cond := lw_tbl.filter goodWord
theorem aw_t {w : Cond} (h : w ∈ tables_1) (g : goodWord w = true) : w ∈ AW := List.mem_filter.mpr ⟨List.mem_append_right _ h, g⟩
theorem aw_p {w : Cond} (h : w ∈ k2_sels lw_privs) (g : goodWord w = true) : w ∈ AW := List.mem_filter.mpr ⟨List.mem_append_left _ h, g⟩
theorem aw_1 {w : Cond} (h : w ∈ tables_1_1) (g : goodWord w = true) : w ∈ AW := aw_t (List.mem_append_left _ h) g
theorem aw_2 {w : Cond} (h : w ∈ tables_1_2) (g : goodWord w = true) : w ∈ AW := aw_t (List.mem_append_right _ (List.mem_append_left _ h)) g
theorem aw_3 {w : Cond} (h : w ∈ tables_1_3) (g : goodWord w = true) : w ∈ AW := aw_t (List.mem_append_right _ (List.mem_append_right _ (List.mem_append_left _ h))) g
theorem aw_4 {w : Cond} (h : w ∈ tables_1_4) (g : goodWord w = true) : w ∈ AW := aw_t (List.mem_append_right _ (List.mem_append_right _ (List.mem_append_right _ (List.mem_append_left _ h)))) g
theorem aw_5 {w : Cond} (h : w ∈ tables_1_5) (g : goodWord w = true) : w ∈ AW := aw_t (List.mem_append_right _ (List.mem_append_right _ (List.mem_append_right _ (List.mem_append_right _ h)))) g
theorem xg {c d : Cond} (h : d ∈ AW) : GoodIn (c :: AW) (d :: AW) := by
  have k : ∀ w ∈ d :: AW, w ∈ AW := fun w hw => (List.mem_cons.mp hw).elim (fun q => q ▸ h) id
  exact fun w hw => ⟨List.mem_cons_of_mem _ (k w hw), good_of_word (List.mem_filter.mp (k w hw)).2⟩
abbrev R_S : String := "SpectrumDesk"
def T_S : u_T := fun k => match k with
  | 0 => ("SpectrumDesk", "matrix", "[[I", true)
  | 1 => ("SpectrumDesk", "given", "[I", true)
  | 2 => ("SpectrumDesk", "sums", "LSpectrumDesk$Sums;", true)
  | 3 => ("SpectrumDesk", "spectrum", "LSpectrumDesk$Spectrum;", true)
  | 4 => ("SpectrumDesk", "printer", "LSpectrumDesk$Printer;", true)
  | 5 => ("SpectrumDesk", "n", "I", false)
  | _ => ("SpectrumDesk", "stale", "Z", false)
def t_S : Nat → FieldType := fun k => match k with
  | 0 => .array (.array .int)
  | 1 => .array .int
  | 2 => .object "SpectrumDesk$Sums"
  | 3 => .object "SpectrumDesk$Spectrum"
  | 4 => .object "SpectrumDesk$Printer"
  | 5 => .int
  | _ => .boolean
theorem n_S : ∀ a, a < 7 → ∀ b, b < 7 → a ≠ b → (T_S a).2.1 ≠ (T_S b).2.1 := by decide +kernel
theorem t_S_ok : ∀ k, k < 7 → parseFieldDescriptor (T_S k).2.2.1 = some (t_S k) := by decide +kernel
theorem k_ac74ca53a2 : (Jvm.Cond.laysFinal "SpectrumDesk" "SpectrumDesk" "matrix" "[[I") ∈ AW := aw_1 (List.mem_of_getElem? (i := 208) (by decide +kernel)) (by decide +kernel)
theorem k_17c0142678 : (Jvm.Cond.laysFinal "SpectrumDesk" "SpectrumDesk" "given" "[I") ∈ AW := aw_1 (List.mem_of_getElem? (i := 210) (by decide +kernel)) (by decide +kernel)
theorem k_aee1005605 : (Jvm.Cond.laysFinal "SpectrumDesk" "SpectrumDesk" "sums" "LSpectrumDesk$Sums;") ∈ AW := aw_1 (List.mem_of_getElem? (i := 212) (by decide +kernel)) (by decide +kernel)
theorem k_6651bbffd0 : (Jvm.Cond.laysFinal "SpectrumDesk" "SpectrumDesk" "spectrum" "LSpectrumDesk$Spectrum;") ∈ AW := aw_1 (List.mem_of_getElem? (i := 214) (by decide +kernel)) (by decide +kernel)
theorem k_bdd9b62c44 : (Jvm.Cond.laysFinal "SpectrumDesk" "SpectrumDesk" "printer" "LSpectrumDesk$Printer;") ∈ AW := aw_1 (List.mem_of_getElem? (i := 216) (by decide +kernel)) (by decide +kernel)
theorem k_8a327984d8 : (Jvm.Cond.lays "SpectrumDesk" "SpectrumDesk" "n" "I") ∈ AW := aw_1 (List.mem_of_getElem? (i := 218) (by decide +kernel)) (by decide +kernel)
theorem k_5667f8c7d6 : (Jvm.Cond.lays "SpectrumDesk" "SpectrumDesk" "stale" "Z") ∈ AW := aw_1 (List.mem_of_getElem? (i := 220) (by decide +kernel)) (by decide +kernel)
theorem fw_S : ∀ w ∈ u_ws R_S T_S 7, w ∈ AW := by
  intro w hw
  obtain ⟨k, hk, rfl⟩ := List.mem_map.mp hw
  have hk := List.mem_range.mp hk
  match k, hk with
  | 0, _ => exact k_ac74ca53a2
  | 1, _ => exact k_17c0142678
  | 2, _ => exact k_aee1005605
  | 3, _ => exact k_6651bbffd0
  | 4, _ => exact k_bdd9b62c44
  | 5, _ => exact k_8a327984d8
  | 6, _ => exact k_5667f8c7d6
theorem fin_S {c : Cond} : ∀ w ∈ u_ws R_S T_S 7, w ∈ c :: AW := fun w h => List.mem_cons_of_mem _ (fw_S w h)
abbrev R_U : String := "SpectrumDesk$Sums"
def T_U : u_T := fun k => match k with
  | 0 => ("SpectrumDesk$Sums", "single", "[I", true)
  | 1 => ("SpectrumDesk$Sums", "paired", "[[I", true)
  | _ => ("SpectrumDesk$Sums", "rows", "I", false)
def t_U : Nat → FieldType := fun k => match k with
  | 0 => .array .int
  | 1 => .array (.array .int)
  | _ => .int
theorem n_U : ∀ a, a < 3 → ∀ b, b < 3 → a ≠ b → (T_U a).2.1 ≠ (T_U b).2.1 := by decide +kernel
theorem t_U_ok : ∀ k, k < 3 → parseFieldDescriptor (T_U k).2.2.1 = some (t_U k) := by decide +kernel
theorem k_65402ed6c8 : (Jvm.Cond.laysFinal "SpectrumDesk$Sums" "SpectrumDesk$Sums" "single" "[I") ∈ AW := aw_1 (List.mem_of_getElem? (i := 48) (by decide +kernel)) (by decide +kernel)
theorem k_abb336511d : (Jvm.Cond.laysFinal "SpectrumDesk$Sums" "SpectrumDesk$Sums" "paired" "[[I") ∈ AW := aw_1 (List.mem_of_getElem? (i := 50) (by decide +kernel)) (by decide +kernel)
theorem k_7d34d9bed9 : (Jvm.Cond.lays "SpectrumDesk$Sums" "SpectrumDesk$Sums" "rows" "I") ∈ AW := aw_1 (List.mem_of_getElem? (i := 52) (by decide +kernel)) (by decide +kernel)
theorem fw_U : ∀ w ∈ u_ws R_U T_U 3, w ∈ AW := by
  intro w hw
  obtain ⟨k, hk, rfl⟩ := List.mem_map.mp hw
  have hk := List.mem_range.mp hk
  match k, hk with
  | 0, _ => exact k_65402ed6c8
  | 1, _ => exact k_abb336511d
  | 2, _ => exact k_7d34d9bed9
theorem fin_U {c : Cond} : ∀ w ∈ u_ws R_U T_U 3, w ∈ c :: AW := fun w h => List.mem_cons_of_mem _ (fw_U w h)
abbrev R_E : String := "SpectrumDesk$Spectrum"
def T_E : u_T := fun k => match k with
  | 0 => ("SpectrumDesk$Spectrum", "blocks", "[LSpectrumDesk$Polynomial;", true)
  | 1 => ("SpectrumDesk$Spectrum", "repeated", "LSpectrumDesk$Polynomial;", true)
  | 2 => ("SpectrumDesk$Spectrum", "fine", "LSpectrumDesk$Polynomial;", true)
  | 3 => ("SpectrumDesk$Spectrum", "probe", "LSpectrumDesk$Polynomial;", true)
  | 4 => ("SpectrumDesk$Spectrum", "inner", "LSpectrumDesk$Polynomial;", true)
  | 5 => ("SpectrumDesk$Spectrum", "innerRepeated", "LSpectrumDesk$Polynomial;", true)
  | 6 => ("SpectrumDesk$Spectrum", "border", "LSpectrumDesk$Border;", true)
  | 7 => ("SpectrumDesk$Spectrum", "euclid", "LSpectrumDesk$Euclid;", true)
  | 8 => ("SpectrumDesk$Spectrum", "cells", "[J", true)
  | 9 => ("SpectrumDesk$Spectrum", "cellKnown", "[Z", true)
  | 10 => ("SpectrumDesk$Spectrum", "repeatedKnown", "Z", false)
  | 11 => ("SpectrumDesk$Spectrum", "n", "I", false)
  | 12 => ("SpectrumDesk$Spectrum", "bound", "I", false)
  | _ => ("SpectrumDesk$Spectrum", "trace", "J", false)
def t_E : Nat → FieldType := fun k => match k with
  | 0 => .array (.object "SpectrumDesk$Polynomial")
  | 1 => .object "SpectrumDesk$Polynomial"
  | 2 => .object "SpectrumDesk$Polynomial"
  | 3 => .object "SpectrumDesk$Polynomial"
  | 4 => .object "SpectrumDesk$Polynomial"
  | 5 => .object "SpectrumDesk$Polynomial"
  | 6 => .object "SpectrumDesk$Border"
  | 7 => .object "SpectrumDesk$Euclid"
  | 8 => .array .long
  | 9 => .array .boolean
  | 10 => .boolean
  | 11 => .int
  | 12 => .int
  | _ => .long
theorem n_E : ∀ a, a < 14 → ∀ b, b < 14 → a ≠ b → (T_E a).2.1 ≠ (T_E b).2.1 := by decide +kernel
theorem t_E_ok : ∀ k, k < 14 → parseFieldDescriptor (T_E k).2.2.1 = some (t_E k) := by decide +kernel
theorem k_3595d11100 : (Jvm.Cond.laysFinal "SpectrumDesk$Spectrum" "SpectrumDesk$Spectrum" "blocks" "[LSpectrumDesk$Polynomial;") ∈ AW := aw_1 (List.mem_of_getElem? (i := 148) (by decide +kernel)) (by decide +kernel)
theorem k_c049a52341 : (Jvm.Cond.laysFinal "SpectrumDesk$Spectrum" "SpectrumDesk$Spectrum" "repeated" "LSpectrumDesk$Polynomial;") ∈ AW := aw_1 (List.mem_of_getElem? (i := 150) (by decide +kernel)) (by decide +kernel)
theorem k_4fc12ca64c : (Jvm.Cond.laysFinal "SpectrumDesk$Spectrum" "SpectrumDesk$Spectrum" "fine" "LSpectrumDesk$Polynomial;") ∈ AW := aw_1 (List.mem_of_getElem? (i := 152) (by decide +kernel)) (by decide +kernel)
theorem k_02db5a9147 : (Jvm.Cond.laysFinal "SpectrumDesk$Spectrum" "SpectrumDesk$Spectrum" "probe" "LSpectrumDesk$Polynomial;") ∈ AW := aw_1 (List.mem_of_getElem? (i := 154) (by decide +kernel)) (by decide +kernel)
theorem k_8d5137de43 : (Jvm.Cond.laysFinal "SpectrumDesk$Spectrum" "SpectrumDesk$Spectrum" "inner" "LSpectrumDesk$Polynomial;") ∈ AW := aw_1 (List.mem_of_getElem? (i := 156) (by decide +kernel)) (by decide +kernel)
theorem k_3a0921f545 : (Jvm.Cond.laysFinal "SpectrumDesk$Spectrum" "SpectrumDesk$Spectrum" "innerRepeated" "LSpectrumDesk$Polynomial;") ∈ AW := aw_1 (List.mem_of_getElem? (i := 158) (by decide +kernel)) (by decide +kernel)
theorem k_c27f1a3858 : (Jvm.Cond.laysFinal "SpectrumDesk$Spectrum" "SpectrumDesk$Spectrum" "border" "LSpectrumDesk$Border;") ∈ AW := aw_1 (List.mem_of_getElem? (i := 160) (by decide +kernel)) (by decide +kernel)
theorem k_1542c45d60 : (Jvm.Cond.laysFinal "SpectrumDesk$Spectrum" "SpectrumDesk$Spectrum" "euclid" "LSpectrumDesk$Euclid;") ∈ AW := aw_1 (List.mem_of_getElem? (i := 162) (by decide +kernel)) (by decide +kernel)
theorem k_3c6a07a1c8 : (Jvm.Cond.laysFinal "SpectrumDesk$Spectrum" "SpectrumDesk$Spectrum" "cells" "[J") ∈ AW := aw_1 (List.mem_of_getElem? (i := 164) (by decide +kernel)) (by decide +kernel)
theorem k_2908d444bd : (Jvm.Cond.laysFinal "SpectrumDesk$Spectrum" "SpectrumDesk$Spectrum" "cellKnown" "[Z") ∈ AW := aw_1 (List.mem_of_getElem? (i := 166) (by decide +kernel)) (by decide +kernel)
theorem k_424938fd00 : (Jvm.Cond.lays "SpectrumDesk$Spectrum" "SpectrumDesk$Spectrum" "repeatedKnown" "Z") ∈ AW := aw_1 (List.mem_of_getElem? (i := 168) (by decide +kernel)) (by decide +kernel)
theorem k_95022299bb : (Jvm.Cond.lays "SpectrumDesk$Spectrum" "SpectrumDesk$Spectrum" "n" "I") ∈ AW := aw_1 (List.mem_of_getElem? (i := 170) (by decide +kernel)) (by decide +kernel)
theorem k_bb6a15222e : (Jvm.Cond.lays "SpectrumDesk$Spectrum" "SpectrumDesk$Spectrum" "bound" "I") ∈ AW := aw_1 (List.mem_of_getElem? (i := 172) (by decide +kernel)) (by decide +kernel)
theorem k_eea58785a3 : (Jvm.Cond.lays "SpectrumDesk$Spectrum" "SpectrumDesk$Spectrum" "trace" "J") ∈ AW := aw_1 (List.mem_of_getElem? (i := 174) (by decide +kernel)) (by decide +kernel)
theorem fw_E : ∀ w ∈ u_ws R_E T_E 14, w ∈ AW := by
  intro w hw
  obtain ⟨k, hk, rfl⟩ := List.mem_map.mp hw
  have hk := List.mem_range.mp hk
  match k, hk with
  | 0, _ => exact k_3595d11100
  | 1, _ => exact k_c049a52341
  | 2, _ => exact k_4fc12ca64c
  | 3, _ => exact k_02db5a9147
  | 4, _ => exact k_8d5137de43
  | 5, _ => exact k_3a0921f545
  | 6, _ => exact k_c27f1a3858
  | 7, _ => exact k_1542c45d60
  | 8, _ => exact k_3c6a07a1c8
  | 9, _ => exact k_2908d444bd
  | 10, _ => exact k_424938fd00
  | 11, _ => exact k_95022299bb
  | 12, _ => exact k_bb6a15222e
  | 13, _ => exact k_eea58785a3
theorem fin_E {c : Cond} : ∀ w ∈ u_ws R_E T_E 14, w ∈ c :: AW := fun w h => List.mem_cons_of_mem _ (fw_E w h)
abbrev R_P : String := "SpectrumDesk$Polynomial"
def T_P : u_T := fun k => match k with
  | 0 => ("SpectrumDesk$Polynomial", "c", "[[I", true)
  | 1 => ("SpectrumDesk$Polynomial", "spare", "[I", true)
  | 2 => ("SpectrumDesk$Polynomial", "degree", "I", false)
  | _ => ("SpectrumDesk$Polynomial", "limbs", "I", false)
def t_P : Nat → FieldType := fun k => match k with
  | 0 => .array (.array .int)
  | 1 => .array .int
  | 2 => .int
  | _ => .int
theorem n_P : ∀ a, a < 4 → ∀ b, b < 4 → a ≠ b → (T_P a).2.1 ≠ (T_P b).2.1 := by decide +kernel
theorem t_P_ok : ∀ k, k < 4 → parseFieldDescriptor (T_P k).2.2.1 = some (t_P k) := by decide +kernel
theorem k_00d427be68 : (Jvm.Cond.laysFinal "SpectrumDesk$Polynomial" "SpectrumDesk$Polynomial" "c" "[[I") ∈ AW := aw_1 (List.mem_of_getElem? (i := 85) (by decide +kernel)) (by decide +kernel)
theorem k_2315bbbb5d : (Jvm.Cond.laysFinal "SpectrumDesk$Polynomial" "SpectrumDesk$Polynomial" "spare" "[I") ∈ AW := aw_1 (List.mem_of_getElem? (i := 87) (by decide +kernel)) (by decide +kernel)
theorem k_5aa5399019 : (Jvm.Cond.lays "SpectrumDesk$Polynomial" "SpectrumDesk$Polynomial" "degree" "I") ∈ AW := aw_1 (List.mem_of_getElem? (i := 89) (by decide +kernel)) (by decide +kernel)
theorem k_cffe1686d7 : (Jvm.Cond.lays "SpectrumDesk$Polynomial" "SpectrumDesk$Polynomial" "limbs" "I") ∈ AW := aw_1 (List.mem_of_getElem? (i := 91) (by decide +kernel)) (by decide +kernel)
theorem fw_P : ∀ w ∈ u_ws R_P T_P 4, w ∈ AW := by
  intro w hw
  obtain ⟨k, hk, rfl⟩ := List.mem_map.mp hw
  have hk := List.mem_range.mp hk
  match k, hk with
  | 0, _ => exact k_00d427be68
  | 1, _ => exact k_2315bbbb5d
  | 2, _ => exact k_5aa5399019
  | 3, _ => exact k_cffe1686d7
theorem fin_P {c : Cond} : ∀ w ∈ u_ws R_P T_P 4, w ∈ c :: AW := fun w h => List.mem_cons_of_mem _ (fw_P w h)
abbrev R_B : String := "SpectrumDesk$Border"
def T_B : u_T := fun k => match k with
  | 0 => ("SpectrumDesk$Border", "vector", "[[I", true)
  | _ => ("SpectrumDesk$Border", "next", "[[I", true)
def t_B : Nat → FieldType := fun k => match k with
  | 0 => .array (.array .int)
  | _ => .array (.array .int)
theorem n_B : ∀ a, a < 2 → ∀ b, b < 2 → a ≠ b → (T_B a).2.1 ≠ (T_B b).2.1 := by decide +kernel
theorem t_B_ok : ∀ k, k < 2 → parseFieldDescriptor (T_B k).2.2.1 = some (t_B k) := by decide +kernel
theorem k_c35a091c1a : (Jvm.Cond.laysFinal "SpectrumDesk$Border" "SpectrumDesk$Border" "vector" "[[I") ∈ AW := aw_1 (List.mem_of_getElem? (i := 110) (by decide +kernel)) (by decide +kernel)
theorem k_e5b583f0e2 : (Jvm.Cond.laysFinal "SpectrumDesk$Border" "SpectrumDesk$Border" "next" "[[I") ∈ AW := aw_1 (List.mem_of_getElem? (i := 112) (by decide +kernel)) (by decide +kernel)
theorem fw_B : ∀ w ∈ u_ws R_B T_B 2, w ∈ AW := by
  intro w hw
  obtain ⟨k, hk, rfl⟩ := List.mem_map.mp hw
  have hk := List.mem_range.mp hk
  match k, hk with
  | 0, _ => exact k_c35a091c1a
  | 1, _ => exact k_e5b583f0e2
theorem fin_B {c : Cond} : ∀ w ∈ u_ws R_B T_B 2, w ∈ c :: AW := fun w h => List.mem_cons_of_mem _ (fw_B w h)
abbrev R_C : String := "SpectrumDesk$Euclid"
def T_C : u_T := fun k => match k with
  | 0 => ("SpectrumDesk$Euclid", "first", "LSpectrumDesk$Polynomial;", true)
  | 1 => ("SpectrumDesk$Euclid", "second", "LSpectrumDesk$Polynomial;", true)
  | _ => ("SpectrumDesk$Euclid", "divisor", "[I", true)
def t_C : Nat → FieldType := fun k => match k with
  | 0 => .object "SpectrumDesk$Polynomial"
  | 1 => .object "SpectrumDesk$Polynomial"
  | _ => .array .int
theorem n_C : ∀ a, a < 3 → ∀ b, b < 3 → a ≠ b → (T_C a).2.1 ≠ (T_C b).2.1 := by decide +kernel
theorem t_C_ok : ∀ k, k < 3 → parseFieldDescriptor (T_C k).2.2.1 = some (t_C k) := by decide +kernel
theorem k_806aad2331 : (Jvm.Cond.laysFinal "SpectrumDesk$Euclid" "SpectrumDesk$Euclid" "first" "LSpectrumDesk$Polynomial;") ∈ AW := aw_1 (List.mem_of_getElem? (i := 126) (by decide +kernel)) (by decide +kernel)
theorem k_9c600eeba6 : (Jvm.Cond.laysFinal "SpectrumDesk$Euclid" "SpectrumDesk$Euclid" "second" "LSpectrumDesk$Polynomial;") ∈ AW := aw_1 (List.mem_of_getElem? (i := 128) (by decide +kernel)) (by decide +kernel)
theorem k_b576ffd9f2 : (Jvm.Cond.laysFinal "SpectrumDesk$Euclid" "SpectrumDesk$Euclid" "divisor" "[I") ∈ AW := aw_1 (List.mem_of_getElem? (i := 130) (by decide +kernel)) (by decide +kernel)
theorem fw_C : ∀ w ∈ u_ws R_C T_C 3, w ∈ AW := by
  intro w hw
  obtain ⟨k, hk, rfl⟩ := List.mem_map.mp hw
  have hk := List.mem_range.mp hk
  match k, hk with
  | 0, _ => exact k_806aad2331
  | 1, _ => exact k_9c600eeba6
  | 2, _ => exact k_b576ffd9f2
theorem fin_C {c : Cond} : ∀ w ∈ u_ws R_C T_C 3, w ∈ c :: AW := fun w h => List.mem_cons_of_mem _ (fw_C w h)
abbrev R_R : String := "SpectrumDesk$Printer"
def T_R : u_T := fun k => match k with
  | 0 => ("SpectrumDesk$Printer", "text", "[C", true)
  | 1 => ("SpectrumDesk$Printer", "digits", "[I", true)
  | 2 => ("SpectrumDesk$Printer", "rest", "[I", true)
  | _ => ("SpectrumDesk$Printer", "length", "I", false)
def t_R : Nat → FieldType := fun k => match k with
  | 0 => .array .char
  | 1 => .array .int
  | 2 => .array .int
  | _ => .int
theorem n_R : ∀ a, a < 4 → ∀ b, b < 4 → a ≠ b → (T_R a).2.1 ≠ (T_R b).2.1 := by decide +kernel
theorem t_R_ok : ∀ k, k < 4 → parseFieldDescriptor (T_R k).2.2.1 = some (t_R k) := by decide +kernel
theorem k_4a422192e9 : (Jvm.Cond.laysFinal "SpectrumDesk$Printer" "SpectrumDesk$Printer" "text" "[C") ∈ AW := aw_1 (List.mem_of_getElem? (i := 191) (by decide +kernel)) (by decide +kernel)
theorem k_0ed47bcff3 : (Jvm.Cond.laysFinal "SpectrumDesk$Printer" "SpectrumDesk$Printer" "digits" "[I") ∈ AW := aw_1 (List.mem_of_getElem? (i := 193) (by decide +kernel)) (by decide +kernel)
theorem k_626d1e33f8 : (Jvm.Cond.laysFinal "SpectrumDesk$Printer" "SpectrumDesk$Printer" "rest" "[I") ∈ AW := aw_1 (List.mem_of_getElem? (i := 195) (by decide +kernel)) (by decide +kernel)
theorem k_4a99df3542 : (Jvm.Cond.lays "SpectrumDesk$Printer" "SpectrumDesk$Printer" "length" "I") ∈ AW := aw_1 (List.mem_of_getElem? (i := 197) (by decide +kernel)) (by decide +kernel)
theorem fw_R : ∀ w ∈ u_ws R_R T_R 4, w ∈ AW := by
  intro w hw
  obtain ⟨k, hk, rfl⟩ := List.mem_map.mp hw
  have hk := List.mem_range.mp hk
  match k, hk with
  | 0, _ => exact k_4a422192e9
  | 1, _ => exact k_0ed47bcff3
  | 2, _ => exact k_626d1e33f8
  | 3, _ => exact k_4a99df3542
theorem fin_R {c : Cond} : ∀ w ∈ u_ws R_R T_R 4, w ∈ c :: AW := fun w h => List.mem_cons_of_mem _ (fw_R w h)
abbrev R_M : String := "SpectrumDeskModel"
def T_M : u_T := fun k => match k with
  | 0 => ("SpectrumDeskModel", "parts", "[I", true)
  | 1 => ("SpectrumDeskModel", "lengths", "[I", true)
  | 2 => ("SpectrumDeskModel", "minus", "[Z", true)
  | 3 => ("SpectrumDeskModel", "degrees", "[I", true)
  | 4 => ("SpectrumDeskModel", "thrown", "I", false)
  | 5 => ("SpectrumDeskModel", "n", "I", false)
  | 6 => ("SpectrumDeskModel", "matrix", "[I", true)
  | 7 => ("SpectrumDeskModel", "data", "[I", true)
  | 8 => ("SpectrumDeskModel", "rows", "I", false)
  | 9 => ("SpectrumDeskModel", "printed", "[I", true)
  | 10 => ("SpectrumDeskModel", "printedSize", "I", false)
  | 11 => ("SpectrumDeskModel", "digits", "[I", true)
  | 12 => ("SpectrumDeskModel", "less", "I", false)
  | _ => ("SpectrumDeskModel", "equal", "I", false)
def t_M : Nat → FieldType := fun k => match k with
  | 0 => .array .int
  | 1 => .array .int
  | 2 => .array .boolean
  | 3 => .array .int
  | 4 => .int
  | 5 => .int
  | 6 => .array .int
  | 7 => .array .int
  | 8 => .int
  | 9 => .array .int
  | 10 => .int
  | 11 => .array .int
  | 12 => .int
  | _ => .int
theorem n_M : ∀ a, a < 14 → ∀ b, b < 14 → a ≠ b → (T_M a).2.1 ≠ (T_M b).2.1 := by decide +kernel
theorem t_M_ok : ∀ k, k < 14 → parseFieldDescriptor (T_M k).2.2.1 = some (t_M k) := by decide +kernel
theorem k_e569212bd4 : (Jvm.Cond.laysFinal "SpectrumDeskModel" "SpectrumDeskModel" "parts" "[I") ∈ AW := aw_4 (List.mem_of_getElem? (i := 194) (by decide +kernel)) (by decide +kernel)
theorem k_b160cd46aa : (Jvm.Cond.laysFinal "SpectrumDeskModel" "SpectrumDeskModel" "lengths" "[I") ∈ AW := aw_4 (List.mem_of_getElem? (i := 196) (by decide +kernel)) (by decide +kernel)
theorem k_7341ba7d64 : (Jvm.Cond.laysFinal "SpectrumDeskModel" "SpectrumDeskModel" "minus" "[Z") ∈ AW := aw_4 (List.mem_of_getElem? (i := 198) (by decide +kernel)) (by decide +kernel)
theorem k_b7e5360cb7 : (Jvm.Cond.laysFinal "SpectrumDeskModel" "SpectrumDeskModel" "degrees" "[I") ∈ AW := aw_4 (List.mem_of_getElem? (i := 200) (by decide +kernel)) (by decide +kernel)
theorem k_c348b3e7c3 : (Jvm.Cond.lays "SpectrumDeskModel" "SpectrumDeskModel" "thrown" "I") ∈ AW := aw_4 (List.mem_of_getElem? (i := 202) (by decide +kernel)) (by decide +kernel)
theorem k_f2a1c7d050 : (Jvm.Cond.lays "SpectrumDeskModel" "SpectrumDeskModel" "n" "I") ∈ AW := aw_4 (List.mem_of_getElem? (i := 204) (by decide +kernel)) (by decide +kernel)
theorem k_1a66ab061b : (Jvm.Cond.laysFinal "SpectrumDeskModel" "SpectrumDeskModel" "matrix" "[I") ∈ AW := aw_4 (List.mem_of_getElem? (i := 206) (by decide +kernel)) (by decide +kernel)
theorem k_da63b5dbd3 : (Jvm.Cond.laysFinal "SpectrumDeskModel" "SpectrumDeskModel" "data" "[I") ∈ AW := aw_4 (List.mem_of_getElem? (i := 208) (by decide +kernel)) (by decide +kernel)
theorem k_5fce158635 : (Jvm.Cond.lays "SpectrumDeskModel" "SpectrumDeskModel" "rows" "I") ∈ AW := aw_4 (List.mem_of_getElem? (i := 210) (by decide +kernel)) (by decide +kernel)
theorem k_1fc4da73ee : (Jvm.Cond.laysFinal "SpectrumDeskModel" "SpectrumDeskModel" "printed" "[I") ∈ AW := aw_4 (List.mem_of_getElem? (i := 212) (by decide +kernel)) (by decide +kernel)
theorem k_e6ad21fbf4 : (Jvm.Cond.lays "SpectrumDeskModel" "SpectrumDeskModel" "printedSize" "I") ∈ AW := aw_4 (List.mem_of_getElem? (i := 214) (by decide +kernel)) (by decide +kernel)
theorem k_b066e3c72f : (Jvm.Cond.laysFinal "SpectrumDeskModel" "SpectrumDeskModel" "digits" "[I") ∈ AW := aw_4 (List.mem_of_getElem? (i := 216) (by decide +kernel)) (by decide +kernel)
theorem k_07865fd9a3 : (Jvm.Cond.lays "SpectrumDeskModel" "SpectrumDeskModel" "less" "I") ∈ AW := aw_4 (List.mem_of_getElem? (i := 218) (by decide +kernel)) (by decide +kernel)
theorem k_04ca3567c2 : (Jvm.Cond.lays "SpectrumDeskModel" "SpectrumDeskModel" "equal" "I") ∈ AW := aw_4 (List.mem_of_getElem? (i := 220) (by decide +kernel)) (by decide +kernel)
theorem fw_M : ∀ w ∈ u_ws R_M T_M 14, w ∈ AW := by
  intro w hw
  obtain ⟨k, hk, rfl⟩ := List.mem_map.mp hw
  have hk := List.mem_range.mp hk
  match k, hk with
  | 0, _ => exact k_e569212bd4
  | 1, _ => exact k_b160cd46aa
  | 2, _ => exact k_7341ba7d64
  | 3, _ => exact k_b7e5360cb7
  | 4, _ => exact k_c348b3e7c3
  | 5, _ => exact k_f2a1c7d050
  | 6, _ => exact k_1a66ab061b
  | 7, _ => exact k_da63b5dbd3
  | 8, _ => exact k_5fce158635
  | 9, _ => exact k_1fc4da73ee
  | 10, _ => exact k_e6ad21fbf4
  | 11, _ => exact k_b066e3c72f
  | 12, _ => exact k_07865fd9a3
  | 13, _ => exact k_04ca3567c2
theorem fin_M {c : Cond} : ∀ w ∈ u_ws R_M T_M 14, w ∈ c :: AW := fun w h => List.mem_cons_of_mem _ (fw_M w h)
abbrev classes : List vw_C := [(R_S, T_S, 7), (R_U, T_U, 3), (R_E, T_E, 14), (R_P, T_P, 4), (R_B, T_B, 2), (R_C, T_C, 3), (R_R, T_R, 4), (R_M, T_M, 14)]
abbrev ciS : Nat := 0
abbrev ciU : Nat := 1
abbrev ciE : Nat := 2
abbrev ciP : Nat := 3
abbrev ciB : Nat := 4
abbrev ciC : Nat := 5
abbrev ciR : Nat := 6
abbrev ciM : Nat := 7
end
section
/-! One world for all methods: N cells, the k-th at the address ad k, holding σ k. A method takes σ to σ'. -/
def xw (N : Nat) (ad : Nat → Nat) (σ : Nat → va_E) : va_W := (List.range N).map (fun k => (ad k, σ k))
theorem xw_len {N : Nat} {ad : Nat → Nat} {σ : Nat → va_E} : (xw N ad σ).length = N := by simp [xw]
theorem xw_get {N : Nat} {ad : Nat → Nat} {σ : Nat → va_E} {k : Nat} {e : va_E} (hk : k < N) (he : σ k = e) : (xw N ad σ)[k]? = some (ad k, e) := by
  subst he
  simp [xw, List.getElem?_range hk]
theorem xw_set {N : Nat} {ad : Nat → Nat} {σ : Nat → va_E} {k : Nat} {e : va_E} : (xw N ad σ).set k (ad k, e) = xw N ad (va_up σ k e) := by
  apply List.ext_getElem?
  intro j
  by_cases hj : j < N
  · by_cases h : k = j
    · subst h
      rw [List.getElem?_set_self (by rw [xw_len]; exact hj), xw_get hj (va_up_self _ _ _)]
    · rw [List.getElem?_set_ne h, xw_get hj rfl, xw_get hj (va_up_ne _ _ (Ne.symm h))]
  · rw [List.getElem?_eq_none (by rw [List.length_set, xw_len]; omega), List.getElem?_eq_none (by rw [xw_len]; omega)]
/-- the addresses of the world -/
def xA (N : Nat) (ad : Nat → Nat) : Nat → Prop := fun q => ∃ k, k < N ∧ ad k = q
/-- the world of a state -/
def xS (D : va_G) (cl : List vw_C) (tys : List (ClassId × FieldType)) (N : Nat) (ad : Nat → Nat) (σ : Nat → va_E) (U : State) : Prop :=
  va_P D cl (xw N ad σ) U.heap ∧ va_K D cl tys U ∧ va_D (xA N ad) (xw N ad σ)
/-- the world in the midst of a method -/
def xI (D : va_G) (cl : List vw_C) (N : Nat) (ad : Nat → Nat) (H0 : Heap) (σ : Nat → va_E) (H : Heap) (locs : List Loc) : Prop :=
  va_P D cl (xw N ad σ) H ∧ va_D (xA N ad) (xw N ad σ) ∧ va_S (xA N ad) H0 H locs
/-- what stays all through a method -/
def xX (p : Program) (c : Code) (cc : ByteArray) (nL : Nat) (s : State) (args : Array Value) (Ts : List Cond) (own : String) (m : MethodId) (D : va_G) (cl : List vw_C) (tys : List (ClassId × FieldType)) : Prop :=
  CallFix p m c cc nL s args Ts own ∧ va_K D cl tys s
theorem va_up_up {α : Type} (f : Nat → α) (k : Nat) (v w : α) : va_up (va_up f k v) k w = va_up f k w := by
  funext j
  simp only [va_up]
  split <;> rfl
theorem xS_blind {D : va_G} {cl : List vw_C} {tys : List (ClassId × FieldType)} {N : Nat} {ad : Nat → Nat} {σ : Nat → va_E} {As : List Value} : FrameBlind (va_Pc As (xS D cl tys N ad σ)) :=
  fun a U g mk q => by
    obtain ⟨q0, qP, qK, qD⟩ := q
    exact ⟨q0, qP, va_K.moved (u := U) (U := U.calling g mk a) (Vm.Alike.refl U.vm) qK, qD⟩
section XR
variable {p : Program} {l : Launch} {e : Env} {R : Room} {s : State} {m : MethodId} {args : Array Value} {below : List Frame} {meth : Method} {c : Code} {H : Heap} {locs : List Loc} {cells slots : Nat} {Q : State → Prop}
variable {cc : ByteArray} {pc nL : Nat} {ls : Array Slot} {rest : List Value} {D : va_G} {cl : List vw_C} {tys : List (ClassId × FieldType)} {H0 : Heap} {N : Nat} {ad : Nat → Nat} {σ : Nat → va_E} {Ts : List Cond} {own : String}
theorem xS_pre {As : List Value} (X : xX p c cc nL s args Ts own m D cl tys) (I : xI D cl N ad H0 σ H locs) : PreS s H (va_Pc As (xS D cl tys N ad σ)) As :=
  ⟨xS_blind, fun _ hU hW => ⟨rfl, by rw [hU]; exact I.1, va_K.moved hW.alike X.2, I.2.1⟩⟩
/-- the top of the stack under another name -/
theorem xr_topi {x y : Int32} (h : x = y) (k : W p l e R s m args below meth c H locs cells slots Q (F0 m pc ls (.int y :: rest))) : W p l e R s m args below meth c H locs cells slots Q (F0 m pc ls (.int x :: rest)) := h ▸ k
theorem xr_topl {x y : Int64} (h : x = y) (k : W p l e R s m args below meth c H locs cells slots Q (F0 m pc ls (.long y :: rest))) : W p l e R s m args below meth c H locs cells slots Q (F0 m pc ls (.long x :: rest)) := h ▸ k
/-- a[j] of an int array -/
theorem xr_iald (X : xX p c cc nL s args Ts own m D cl tys) (I : xI D cl N ad H0 σ H locs) (k t0 : Nat) (hk : k < N) {cA : ClassId} {n : Nat} {f : Nat → Int32} (hσ : σ k = .inl (cA, n, .inl f)) (ht : tys[t0]? = some (cA, .int)) {j : Nat} (hj : j < n) (hn : n < 2 ^ 31) (hdg : decode cc pc = .ok (.iaload, 1))
    (kk : W p l e R s m args below meth c H locs cells slots Q (F0 m (pc + 1) ls (.int (f j) :: rest))) : W p l e R s m args below meth c H locs cells slots Q (F0 m pc ls (.int (nI j) :: .ref (ad k) :: rest)) := by
  refine va_iald X.1.1 X.1.2.1 X.2 I.1 k t0 (xw_get hk hσ) ht (vp_in_nI hj hn) hdg ?_
  rw [nI_clamp (Nat.lt_trans hj hn)]
  exact kk
theorem xr_zald (X : xX p c cc nL s args Ts own m D cl tys) (I : xI D cl N ad H0 σ H locs) (k t0 : Nat) (hk : k < N) {cA : ClassId} {n : Nat} {f : Nat → Int32} (hσ : σ k = .inl (cA, n, .inl f)) (ht : tys[t0]? = some (cA, .boolean)) {j : Nat} (hj : j < n) (hn : n < 2 ^ 31) (hdg : decode cc pc = .ok (.baload, 1))
    (kk : W p l e R s m args below meth c H locs cells slots Q (F0 m (pc + 1) ls (.int (f j) :: rest))) : W p l e R s m args below meth c H locs cells slots Q (F0 m pc ls (.int (nI j) :: .ref (ad k) :: rest)) := by
  refine va_zald X.1.1 X.1.2.1 X.2 I.1 k t0 (xw_get hk hσ) ht (vp_in_nI hj hn) hdg ?_
  rw [nI_clamp (Nat.lt_trans hj hn)]
  exact kk
theorem xr_cald (X : xX p c cc nL s args Ts own m D cl tys) (I : xI D cl N ad H0 σ H locs) (k t0 : Nat) (hk : k < N) {cA : ClassId} {n : Nat} {f : Nat → Int32} (hσ : σ k = .inl (cA, n, .inl f)) (ht : tys[t0]? = some (cA, .char)) {j : Nat} (hj : j < n) (hn : n < 2 ^ 31) (hdg : decode cc pc = .ok (.caload, 1))
    (kk : W p l e R s m args below meth c H locs cells slots Q (F0 m (pc + 1) ls (.int (f j) :: rest))) : W p l e R s m args below meth c H locs cells slots Q (F0 m pc ls (.int (nI j) :: .ref (ad k) :: rest)) := by
  refine va_cald X.1.1 X.1.2.1 X.2 I.1 k t0 (xw_get hk hσ) ht (vp_in_nI hj hn) hdg ?_
  rw [nI_clamp (Nat.lt_trans hj hn)]
  exact kk
theorem xr_lald (X : xX p c cc nL s args Ts own m D cl tys) (I : xI D cl N ad H0 σ H locs) (k t0 : Nat) (hk : k < N) {cA : ClassId} {n : Nat} {f : Nat → Int64} (hσ : σ k = .inl (cA, n, .inr (.inl f))) (ht : tys[t0]? = some (cA, .long)) {j : Nat} (hj : j < n) (hn : n < 2 ^ 31) (hdg : decode cc pc = .ok (.laload, 1))
    (kk : W p l e R s m args below meth c H locs cells slots Q (F0 m (pc + 1) ls (.long (f j) :: rest))) : W p l e R s m args below meth c H locs cells slots Q (F0 m pc ls (.int (nI j) :: .ref (ad k) :: rest)) := by
  refine va_lald X.1.1 X.1.2.1 X.2 I.1 k t0 (xw_get hk hσ) ht (vp_in_nI hj hn) hdg ?_
  rw [nI_clamp (Nat.lt_trans hj hn)]
  exact kk
/-- a[j] of an array of references: to the cell r -/
theorem xr_aald (X : xX p c cc nL s args Ts own m D cl tys) (I : xI D cl N ad H0 σ H locs) (k t0 : Nat) (hk : k < N) {cA : ClassId} {n : Nat} {ty : FieldType} {f : Nat → Option Nat} (hσ : σ k = .inl (cA, n, .inr (.inr (.inr (.inr f))))) (ht : tys[t0]? = some (cA, ty)) (hty : ty.isReference = true) {j r : Nat} (hj : j < n) (hn : n < 2 ^ 31) (hf : f j = some (ad r)) (hdg : decode cc pc = .ok (.aaload, 1))
    (kk : W p l e R s m args below meth c H locs cells slots Q (F0 m (pc + 1) ls (.ref (ad r) :: rest))) : W p l e R s m args below meth c H locs cells slots Q (F0 m pc ls (.int (nI j) :: .ref (ad k) :: rest)) := by
  have hin : vp_in (nI j) n := vp_in_nI hj hn
  have hcl : (nI j).toNatClampNeg = j := nI_clamp (Nat.lt_trans hj hn)
  refine W.aald (v := .ref (ad r)) (ty := ty) X.1.1 X.1.2.1 (I.1 k _ (xw_get hk hσ)) ((X.2.2 t0 _ ht).1 n (fun i => va_rf (f i))) hty (fun q => by cases q) ?_ ?_ rfl rfl hdg kk
  · show ¬ (nI j < 0 ∨ (arrV _ _ _).slots.size ≤ _)
    rw [arrV_size]
    exact hin
  · show (arrV _ _ _).slots[_]? = _
    rw [hcl, arrV_read _ _ hj, hf]
    rfl
theorem xr_alen (X : xX p c cc nL s args Ts own m D cl tys) (I : xI D cl N ad H0 σ H locs) (k t0 : Nat) (hk : k < N) {cA : ClassId} {x : vp_A} (hσ : σ k = .inl (cA, x)) {ty : FieldType} (ht : tys[t0]? = some (cA, ty)) (hdg : decode cc pc = .ok (.arraylength, 1))
    (kk : W p l e R s m args below meth c H locs cells slots Q (F0 m (pc + 1) ls (.int (nI x.1) :: rest))) : W p l e R s m args below meth c H locs cells slots Q (F0 m pc ls (.ref (ad k) :: rest)) :=
  va_alen X.1.1 X.1.2.1 X.2 I.1 k t0 (xw_get hk hσ) ht rfl hdg kk
theorem xr_iast (X : xX p c cc nL s args Ts own m D cl tys) (I : xI D cl N ad H0 σ H locs) (k t0 : Nat) (hk : k < N) {cA : ClassId} {n : Nat} {f : Nat → Int32} (hσ : σ k = .inl (cA, n, .inl f)) (ht : tys[t0]? = some (cA, .int)) {j : Nat} {x : Int32} (hj : j < n) (hn : n < 2 ^ 31) (hdg : decode cc pc = .ok (.iastore, 1))
    (kk : ∀ (H1 : Heap) (locs1 : List Loc), xI D cl N ad H0 (va_up σ k (.inl (cA, n, .inl (upd f j x)))) H1 locs1 → W p l e R s m args below meth c H1 locs1 cells slots Q (F0 m (pc + 1) ls rest)) : W p l e R s m args below meth c H locs cells slots Q (F0 m pc ls (.int x :: .int (nI j) :: .ref (ad k) :: rest)) := by
  refine va_iast X.1.1 X.1.2.1 X.2 I.1 I.2.1 I.2.2 k t0 (xw_get hk hσ) ht (vp_in_nI hj hn) hdg fun H1 locs1 h1 h2 h3 => ?_
  rw [nI_clamp (Nat.lt_trans hj hn), xw_set] at h1 h2
  exact kk H1 locs1 ⟨h1, h2, h3⟩
theorem xr_zast (X : xX p c cc nL s args Ts own m D cl tys) (I : xI D cl N ad H0 σ H locs) (k t0 : Nat) (hk : k < N) {cA : ClassId} {n : Nat} {f : Nat → Int32} (hσ : σ k = .inl (cA, n, .inl f)) (ht : tys[t0]? = some (cA, .boolean)) {j : Nat} {x : Int32} (hj : j < n) (hn : n < 2 ^ 31) (hdg : decode cc pc = .ok (.bastore, 1))
    (kk : ∀ (H1 : Heap) (locs1 : List Loc), xI D cl N ad H0 (va_up σ k (.inl (cA, n, .inl (upd f j (vp_nar .boolean x))))) H1 locs1 → W p l e R s m args below meth c H1 locs1 cells slots Q (F0 m (pc + 1) ls rest)) : W p l e R s m args below meth c H locs cells slots Q (F0 m pc ls (.int x :: .int (nI j) :: .ref (ad k) :: rest)) := by
  refine va_zast X.1.1 X.1.2.1 X.2 I.1 I.2.1 I.2.2 k t0 (xw_get hk hσ) ht (vp_in_nI hj hn) hdg fun H1 locs1 h1 h2 h3 => ?_
  rw [nI_clamp (Nat.lt_trans hj hn), xw_set] at h1 h2
  exact kk H1 locs1 ⟨h1, h2, h3⟩
theorem xr_cast (X : xX p c cc nL s args Ts own m D cl tys) (I : xI D cl N ad H0 σ H locs) (k t0 : Nat) (hk : k < N) {cA : ClassId} {n : Nat} {f : Nat → Int32} (hσ : σ k = .inl (cA, n, .inl f)) (ht : tys[t0]? = some (cA, .char)) {j : Nat} {x : Int32} (hj : j < n) (hn : n < 2 ^ 31) (hdg : decode cc pc = .ok (.castore, 1))
    (kk : ∀ (H1 : Heap) (locs1 : List Loc), xI D cl N ad H0 (va_up σ k (.inl (cA, n, .inl (upd f j (vp_nar .char x))))) H1 locs1 → W p l e R s m args below meth c H1 locs1 cells slots Q (F0 m (pc + 1) ls rest)) : W p l e R s m args below meth c H locs cells slots Q (F0 m pc ls (.int x :: .int (nI j) :: .ref (ad k) :: rest)) := by
  refine va_cast X.1.1 X.1.2.1 X.2 I.1 I.2.1 I.2.2 k t0 (xw_get hk hσ) ht (vp_in_nI hj hn) hdg fun H1 locs1 h1 h2 h3 => ?_
  rw [nI_clamp (Nat.lt_trans hj hn), xw_set] at h1 h2
  exact kk H1 locs1 ⟨h1, h2, h3⟩
theorem xr_last (X : xX p c cc nL s args Ts own m D cl tys) (I : xI D cl N ad H0 σ H locs) (k t0 : Nat) (hk : k < N) {cA : ClassId} {n : Nat} {f : Nat → Int64} (hσ : σ k = .inl (cA, n, .inr (.inl f))) (ht : tys[t0]? = some (cA, .long)) {j : Nat} {x : Int64} (hj : j < n) (hn : n < 2 ^ 31) (hdg : decode cc pc = .ok (.lastore, 1))
    (kk : ∀ (H1 : Heap) (locs1 : List Loc), xI D cl N ad H0 (va_up σ k (.inl (cA, n, .inr (.inl (vp_updL f j x))))) H1 locs1 → W p l e R s m args below meth c H1 locs1 cells slots Q (F0 m (pc + 1) ls rest)) : W p l e R s m args below meth c H locs cells slots Q (F0 m pc ls (.long x :: .int (nI j) :: .ref (ad k) :: rest)) := by
  refine va_last X.1.1 X.1.2.1 X.2 I.1 I.2.1 I.2.2 k t0 (xw_get hk hσ) ht (vp_in_nI hj hn) hdg fun H1 locs1 h1 h2 h3 => ?_
  rw [nI_clamp (Nat.lt_trans hj hn), xw_set] at h1 h2
  exact kk H1 locs1 ⟨h1, h2, h3⟩
/-- a field is read -/
theorem xr_get (X : xX p c cc nL s args Ts own m D cl tys) (I : xI D cl N ad H0 σ H locs) {ref C : String} {T : u_T} {NF ci index : Nat} (hin : ∀ w ∈ u_ws C T NF, w ∈ Ts) (k : Nat) (hk : k < N) {fs : List Value} (hσ : σ k = .inr (ci, fs)) (hc : cl[ci]? = some (C, T, NF)) (i : Nat) (hi : i < NF) (hlink : Cond.fieldLink own index ref (T i).2.1 (T i).2.2.1 ∈ Ts) (href : (T i).1 = ref) {v : Value} (hv : fs[i]? = some v) (hdg : decode cc pc = .ok (.getfield index, 3))
    (kk : W p l e R s m args below meth c H locs cells slots Q (F0 m (pc + 3) ls (v :: rest))) : W p l e R s m args below meth c H locs cells slots Q (F0 m pc ls (.ref (ad k) :: rest)) :=
  va_get X.1.1 X.1.2.1 X.1.2.2.2.2 hin X.1.2.2.2.1 X.2 I.1 k (xw_get hk hσ) hc i hi (X.1.2.2.2.2 _ hlink) (fun _ h => by rw [← href]; exact h) hv hdg kk
/-- a field is written (not final) -/
theorem xr_put (X : xX p c cc nL s args Ts own m D cl tys) (I : xI D cl N ad H0 σ H locs) {ref C : String} {T : u_T} {NF ci index : Nat} (hin : ∀ w ∈ u_ws C T NF, w ∈ Ts) (ty0 : Nat → FieldType) (hty : ∀ k, k < NF → parseFieldDescriptor (T k).2.2.1 = some (ty0 k)) (hnm : ∀ a, a < NF → ∀ b, b < NF → a ≠ b → (T a).2.1 ≠ (T b).2.1) (k : Nat) (hk : k < N) {fs : List Value} (hσ : σ k = .inr (ci, fs)) (hc : cl[ci]? = some (C, T, NF)) (i : Nat) (hi : i < NF) (hlink : Cond.fieldLink own index ref (T i).2.1 (T i).2.2.1 ∈ Ts) (href : (T i).1 = ref) (hfin : (T i).2.2.2 = false) {ty : FieldType} {v : Value} (hd : parseFieldDescriptor (T i).2.2.1 = some ty) (hnar : narrow ty v = v) (hfit : fits ty v = true) (hl : i < fs.length) (hdg : decode cc pc = .ok (.putfield index, 3))
    (kk : ∀ (H1 : Heap) (locs1 : List Loc), xI D cl N ad H0 (va_up σ k (.inr (ci, fs.set i v))) H1 locs1 → W p l e R s m args below meth c H1 locs1 cells slots Q (F0 m (pc + 3) ls rest)) : W p l e R s m args below meth c H locs cells slots Q (F0 m pc ls (v :: .ref (ad k) :: rest)) := by
  refine va_put X.1.1 X.1.2.1 X.1.2.2.2.2 hin ty0 hty hnm X.1.2.2.2.1 X.2 I.1 I.2.1 I.2.2 k (xw_get hk hσ) hc i hi (X.1.2.2.2.2 _ hlink) (fun _ h => by rw [← href]; exact h) hfin hd hnar hfit hl hdg fun H1 locs1 h1 h2 h3 => ?_
  rw [xw_set] at h1 h2
  exact kk H1 locs1 ⟨h1, h2, h3⟩
/-- the ends -/
theorem xr_vret {post : (Nat → va_E) → Prop} (X : xX p c cc nL s args Ts own m D cl tys) (I : xI D cl N ad s.heap σ H locs) (hr : meth.sig.returnType = none) (hlk : meth.locks = false) (hp : post σ) (hdg : decode cc pc = .ok (.return_, 1)) :
    W p l e R s m args below meth c H locs cells slots (MQ below (va_Qv post (xS D cl tys N ad) (xA N ad)) args s cells slots (xA N ad)) (F0 m pc ls []) :=
  W.vret X.1.1 X.1.2.1 hr (fun _ ht hW => ⟨⟨σ, rfl, hp, by rw [ht]; exact I.1, va_K.moved hW.alike X.2, I.2.1⟩, I.2.2.F ht⟩) I.2.2.2.2 hdg hlk
theorem xr_iret {v : Int32} {post : Int32 → (Nat → va_E) → Prop} (X : xX p c cc nL s args Ts own m D cl tys) (I : xI D cl N ad s.heap σ H locs) (hr : meth.sig.returnType = some .int) (hlk : meth.locks = false) (hp : post v σ) (hdg : decode cc pc = .ok (.ireturn, 1)) :
    W p l e R s m args below meth c H locs cells slots (MQ below (va_Qi post (xS D cl tys N ad) (xA N ad)) args s cells slots (xA N ad)) (F0 m pc ls [.int v]) :=
  W.iret X.1.1 X.1.2.1 hr (fun _ ht hW => ⟨⟨v, σ, rfl, hp, by rw [ht]; exact I.1, va_K.moved hW.alike X.2, I.2.1⟩, I.2.2.F ht⟩) I.2.2.2.2 hdg hlk
/-- calls that give nothing back -/
theorem xr_callv {post : (Nat → va_E) → Prop} {a : Array Value} {st0 : List Value} (hr : va_Run p l e R s m args below meth c H locs cells slots 0 0 (F0 m pc ls st0) rest (va_Qv post (xS D cl tys N ad) (xA N ad) a) (xA N ad)) (I : xI D cl N ad H0 σ H locs)
    (kk : ∀ (σ' : Nat → va_E) (H1 : Heap) (locs1 : List Loc), post σ' → xI D cl N ad H0 σ' H1 locs1 → W p l e R s m args below meth c H1 locs1 cells slots Q (F0 m (pc + 3) ls rest)) : W p l e R s m args below meth c H locs cells slots Q (F0 m pc ls st0) := by
  refine va_callv hr I.2.2 (fun _ _ h => h) (fun _ h => h) fun σ' t H1 locs1 ht _ hp hB _ _ hS => ?_
  exact kk σ' H1 locs1 hp ⟨by rw [← ht]; exact hB.1, hB.2.2, hS⟩
theorem xr_calli {post : Int32 → (Nat → va_E) → Prop} {a : Array Value} {st0 : List Value} (hr : va_Run p l e R s m args below meth c H locs cells slots 0 0 (F0 m pc ls st0) rest (va_Qi post (xS D cl tys N ad) (xA N ad) a) (xA N ad)) (I : xI D cl N ad H0 σ H locs)
    (kk : ∀ (r : Int32) (σ' : Nat → va_E) (H1 : Heap) (locs1 : List Loc), post r σ' → xI D cl N ad H0 σ' H1 locs1 → W p l e R s m args below meth c H1 locs1 cells slots Q (F0 m (pc + 3) ls (.int r :: rest))) : W p l e R s m args below meth c H locs cells slots Q (F0 m pc ls st0) := by
  refine va_calli hr I.2.2 (fun _ _ h => h) (fun _ h => h) fun r σ' t H1 locs1 ht _ hp hB _ _ hS => ?_
  exact kk r σ' H1 locs1 hp ⟨by rw [← ht]; exact hB.1, hB.2.2, hS⟩
theorem xr_calll {post : Int64 → (Nat → va_E) → Prop} {a : Array Value} {st0 : List Value} (hr : va_Run p l e R s m args below meth c H locs cells slots 0 0 (F0 m pc ls st0) rest (va_Ql post (xS D cl tys N ad) (xA N ad) a) (xA N ad)) (I : xI D cl N ad H0 σ H locs)
    (kk : ∀ (r : Int64) (σ' : Nat → va_E) (H1 : Heap) (locs1 : List Loc), post r σ' → xI D cl N ad H0 σ' H1 locs1 → W p l e R s m args below meth c H1 locs1 cells slots Q (F0 m (pc + 3) ls (.long r :: rest))) : W p l e R s m args below meth c H locs cells slots Q (F0 m pc ls st0) := by
  refine va_calll hr I.2.2 (fun _ _ h => h) (fun _ h => h) fun r σ' t H1 locs1 ht _ hp hB _ _ hS => ?_
  exact kk r σ' H1 locs1 hp ⟨by rw [← ht]; exact hB.1, hB.2.2, hS⟩
end XR
section XM
variable {l : Launch} {D : va_G} {cl : List vw_C} {tys : List (ClassId × FieldType)} {N : Nat} {ad : Nat → Nat} {σ : Nat → va_E}
/-- a method's contract from the walk of its body -/
theorem xr_met {y : MethodName} {ws' : List Cond} {rm : Room} {Qc : Array Value → State → Outcome → State → Prop} {free : Addr → Prop} {cc : ByteArray} {maxL : Nat} {ret : Option FieldType} {avs : List Value}
    (hy : plainName y.cls = true) (hlen : (lg_sl avs).length ≤ maxL)
    (body : ∀ (p : Program) (e : Env) (s : State) (m : MethodId) (args : Array Value) (below : List Frame) (meth : Method) (c : Code) (ls : Array Slot), p.tables.exec = Jvm.exec → c.code = cc → xX p c cc maxL s args (Cond.code y cc maxL ret :: ws') y.cls m D cl tys → meth.sig.returnType = ret → meth.locks = false → lv_has ls maxL (lv_args 0 avs) → xI D cl N ad s.heap σ s.heap [] →
      W p l e rm s m args below meth c s.heap [] 0 0 (MQ below Qc args s 0 0 free) (F0 m 0 ls [])) : Met l y (Cond.code y cc maxL ret :: ws') rm (va_Pc avs (xS D cl tys N ad σ)) Qc 0 0 free := by
  refine Met.ofW (cc := cc) (maxL := maxL) (ret := ret) hy rfl ?_
  intro p e s m args below meth c s₁ B hml hv
  obtain ⟨rfl, hP, hK, hD⟩ := hv
  rw [lg_entry_eq]
  exact body p e s m _ below meth c _ B.exec B.bytes ⟨⟨B.exec, B.bytes, hml, findClass_of_methodNamed B.named, atoms_spec (ws := Cond.code y cc maxL ret :: ws') B.pre⟩, hK⟩ B.returns B.notSynchronized (lv_entry avs hlen) ⟨hP, hD, va_S.rf⟩
end XM
end
section
/-! rooms by depth; words by one list -/
abbrev xrm (k : Nat) : Room := { frames := k, cells := 0, slots := 0, locals := 64 * k }
abbrev xT (cI cJ cZ cC cG cP : ClassId) : List (ClassId × FieldType) := [(cI, .int), (cJ, .long), (cZ, .boolean), (cC, .char), (cG, .array .int), (cP, .object "SpectrumDesk$Polynomial")]
theorem va_up_same {α : Type} {f : Nat → α} {k : Nat} {v : α} (h : f k = v) : va_up f k v = f := by
  funext j
  simp only [va_up]
  split
  · next e => rw [e, h]
  · rfl
section XCALL
variable {p : Program} {l : Launch} {e : Env} {s : State} {m : MethodId} {args : Array Value} {below : List Frame} {meth : Method} {c : Code} {H : Heap} {locs : List Loc} {Q : State → Prop}
variable {cc : ByteArray} {pc nL : Nat} {ls : Array Slot} {rest : List Value} {D : va_G} {cl : List vw_C} {tys : List (ClassId × FieldType)} {H0 : Heap} {N : Nat} {ad : Nat → Nat} {σ : Nat → va_E} {Ts : List Cond} {own : String}
variable {y : MethodName} {bytes : ByteArray} {maxL kc kr n idx : Nat} {ret : Option FieldType} {ws' : List Cond} {As st0 : List Value} {Qc : Array Value → State → Outcome → State → Prop} {free : Addr → Prop}
/-- a call of a static method -/
theorem xr_runS (X : xX p c cc nL s args Ts own m D cl tys) (I : xI D cl N ad H0 σ H locs) (hM : Met l y (Cond.code y bytes maxL ret :: ws') (xrm kc) (va_Pc As (xS D cl tys N ad σ)) Qc 0 0 free) (hG : GoodIn Ts (Cond.code y bytes maxL ret :: ws')) (hl : Cond.methodLink own idx y ∈ Ts) (hst : Cond.static y ∈ Ts) (hini : Cond.initialized y.cls ∈ Ts)
    (hd : y.cls ≠ "java/lang/invoke/MethodHandle" ∧ y.cls ≠ "java/lang/invoke/VarHandle" ∧ (parseMethodDescriptor y.desc).map (fun d => d.parameters.length) = some n) (hk : kc + 1 ≤ kr ∧ 8 + (maxL + 11) + 64 * kc ≤ 64 * kr) (hn : As.length = n) (hsize : ls.size = nL) (hs0 : st0 = As.reverse ++ rest) (hW : (rest.map fun v => v.category).sum ≤ 8) (hdg : decode cc pc = .ok (.invokestatic idx, 3)) :
    va_Run p l e (xrm kr) s m args below meth c H locs 0 0 0 0 (F0 m pc ls st0) rest (Qc As.toArray) free :=
  va_runS X.1 hM ⟨callB_of n X.1.2.2.2.2 hG rfl rfl rfl (X.1.2.2.2.2 _ hini) (X.1.2.2.2.2 _ hl) hd hk, X.1.2.2.2.2 _ hst⟩ (xS_pre X I) rfl hn hsize hs0 (lv_room hW) hdg ⟨Nat.le_refl _, Nat.le_refl _⟩
/-- a call of an instance method of the class C, on the cell b -/
theorem xr_runV (X : xX p c cc nL s args Ts own m D cl tys) (I : xI D cl N ad H0 σ H locs) {b ci NF : Nat} {T : u_T} {fs : List Value} (hb' : b < N) (hσ : σ b = .inr (ci, fs)) (hc : cl[ci]? = some (y.cls, T, NF)) (hM : Met l y (Cond.code y bytes maxL ret :: ws') (xrm kc) (va_Pc (.ref (ad b) :: As) (xS D cl tys N ad σ)) Qc 0 0 free) (hG : GoodIn Ts (Cond.code y bytes maxL ret :: ws')) (hl : Cond.methodLink own idx y ∈ Ts) (hin : Cond.instanceMethod y ∈ Ts) (hsel : Cond.selects y.cls y y ∈ Ts) (hini : Cond.initialized y.cls ∈ Ts)
    (hd : y.cls ≠ "java/lang/invoke/MethodHandle" ∧ y.cls ≠ "java/lang/invoke/VarHandle" ∧ (parseMethodDescriptor y.desc).map (fun d => d.parameters.length) = some n) (hk : kc + 1 ≤ kr ∧ 8 + (maxL + 11) + 64 * kc ≤ 64 * kr) (hn : As.length = n) (hsize : ls.size = nL) (hs0 : st0 = As.reverse ++ .ref (ad b) :: rest) (hW : (rest.map fun v => v.category).sum ≤ 8) (hdg : decode cc pc = .ok (.invokevirtual idx, 3)) :
    va_Run p l e (xrm kr) s m args below meth c H locs 0 0 0 0 (F0 m pc ls st0) rest (Qc (Value.ref (ad b) :: As).toArray) free := by
  obtain ⟨r, h1, cell, q1, q2, q3, q4⟩ := I.1 b _ (xw_get hb' hσ)
  have hr : r = (y.cls, T, NF) := Option.some.inj (h1.symm.trans hc)
  have hcls : s.vm.findClass y.cls = some cell.cls := by
    have h := (X.2.1 ci _ hc).2.1
    rw [q2]
    exact h
  have hP := xS_pre (As := .ref (ad b) :: As) X I
  exact va_runV X.1 hM ⟨callB_of n X.1.2.2.2.2 hG rfl rfl rfl (X.1.2.2.2.2 _ hini) (X.1.2.2.2.2 _ hl) hd hk, X.1.2.2.2.2 _ hin, X.1.2.2.2.2 _ hsel⟩ ⟨hP.1, ⟨cell, q1, by rw [q3]; rfl, hcls⟩, hP.2⟩ rfl hn hsize hs0 (lv_room hW) hdg ⟨Nat.le_refl _, Nat.le_refl _⟩
end XCALL
end
section
/-! longs to 2^64 as naturals: rows of kit/laws/BITS.to-paste, the family wb_ and lN_ti -/
theorem wb_tb (n : Nat) : (lN n).toBitVec = BitVec.ofNat 64 n := rfl
theorem wb_inj {a b : Int64} (h : a.toBitVec = b.toBitVec) : a = b := Int64.toBitVec_inj.mp h
theorem wb_tn {n : Nat} (h : n < 2 ^ 64) : (lN n).toBitVec.toNat = n := by rw [wb_tb, BitVec.toNat_ofNat, Nat.mod_eq_of_lt h]
theorem wb_of (x : Int64) : ∃ n, n < 2 ^ 64 ∧ x = lN n := ⟨x.toBitVec.toNat, x.toBitVec.isLt, wb_inj (by rw [wb_tb]; simp)⟩
theorem wb_of32 (x : Int32) : ∃ n, n < 2 ^ 32 ∧ x = nI n := ⟨x.toBitVec.toNat, x.toBitVec.isLt, Int32.toBitVec_inj.mp (by show _ = BitVec.ofNat 32 _; simp)⟩
theorem wb_c : ∀ k, k < 64 → ((nI k).toInt64 &&& 63) = lN k := by decide +kernel
theorem wb_cu : ∀ k, k < 64 → ((nI k).toInt64.toUInt64 &&& Int64.toUInt64 63) = UInt64.ofNat k := by decide +kernel
theorem wb_sm : ∀ k, k < 64 → (BitVec.ofNat 64 k).smod 64 = BitVec.ofNat 64 k := by decide +kernel
theorem wb_pw {a b : Nat} (h : a ≤ b) : 2 ^ b = 2 ^ a * 2 ^ (b - a) := by rw [← Nat.pow_add]; congr 1; omega
theorem wb_lt2 {a b : Nat} (h : a < b) : 2 ^ a < 2 ^ b := Nat.pow_lt_pow_right (by decide) h
theorem wb_mod (n : Nat) : lN n = lN (n % 2 ^ 64) := wb_inj (by rw [wb_tb, wb_tb]; apply BitVec.eq_of_toNat_eq; rw [BitVec.toNat_ofNat, BitVec.toNat_ofNat, Nat.mod_mod])
theorem wb_shr {n k : Nat} (hn : n < 2 ^ 64) (hk : k < 64) : ((lN n).toUInt64 >>> ((nI k).toInt64.toUInt64 &&& Int64.toUInt64 63)).toInt64 = lN (n / 2 ^ k) := by
  rw [wb_cu k hk]
  apply wb_inj
  apply BitVec.eq_of_toNat_eq
  show ((lN n).toUInt64 >>> UInt64.ofNat k).toNat = (BitVec.ofNat 64 _).toNat
  have h1 : (UInt64.ofNat k).toNat = k := by
    show (BitVec.ofNat 64 k).toNat = k
    rw [BitVec.toNat_ofNat, Nat.mod_eq_of_lt (by omega)]
  have h2 : (lN n).toUInt64.toNat = n := wb_tn hn
  rw [UInt64.toNat_shiftRight, h1, h2, Nat.mod_eq_of_lt hk, Nat.shiftRight_eq_div_pow, BitVec.toNat_ofNat, Nat.mod_eq_of_lt (Nat.lt_of_le_of_lt (Nat.div_le_self _ _) hn)]
theorem wb_shl (n : Nat) {k : Nat} (hk : k < 64) : lN n <<< ((nI k).toInt64 &&& 63) = lN (n * 2 ^ k) := by
  rw [wb_c k hk]
  apply wb_inj
  rw [Int64.toBitVec_shiftLeft, wb_tb, wb_tb, wb_tb, wb_sm k hk]
  apply BitVec.eq_of_toNat_eq
  rw [BitVec.shiftLeft_eq', BitVec.toNat_shiftLeft, BitVec.toNat_ofNat, BitVec.toNat_ofNat, BitVec.toNat_ofNat, Nat.mod_eq_of_lt (show k < 2 ^ 64 by omega), Nat.shiftLeft_eq, Nat.mul_mod, Nat.mod_mod, ← Nat.mul_mod]
theorem wb_and {a b : Nat} (ha : a < 2 ^ 64) (hb : b < 2 ^ 64) : lN a &&& lN b = lN (a &&& b) := by
  apply wb_inj
  rw [Int64.toBitVec_and, wb_tb, wb_tb, wb_tb]
  apply BitVec.eq_of_toNat_eq
  rw [BitVec.toNat_and, BitVec.toNat_ofNat, BitVec.toNat_ofNat, BitVec.toNat_ofNat, Nat.mod_eq_of_lt ha, Nat.mod_eq_of_lt hb, Nat.mod_eq_of_lt (Nat.and_lt_two_pow _ hb)]
theorem wb_or {a b : Nat} (ha : a < 2 ^ 64) (hb : b < 2 ^ 64) : lN a ||| lN b = lN (a ||| b) := by
  apply wb_inj
  rw [Int64.toBitVec_or, wb_tb, wb_tb, wb_tb]
  apply BitVec.eq_of_toNat_eq
  rw [BitVec.toNat_or, BitVec.toNat_ofNat, BitVec.toNat_ofNat, BitVec.toNat_ofNat, Nat.mod_eq_of_lt ha, Nat.mod_eq_of_lt hb, Nat.mod_eq_of_lt (Nat.or_lt_two_pow ha hb)]
theorem wb_mask {n k : Nat} (hn : n < 2 ^ 64) (hk : k < 64) : lN n &&& lN (2 ^ k - 1) = lN (n % 2 ^ k) := by
  rw [wb_and hn (by have := wb_lt2 hk; omega), Nat.and_two_pow_sub_one_eq_mod]
theorem lN_bv (n : Nat) : (lN n).toBitVec = BitVec.ofNat 64 n := rfl
theorem lN_nat {n : Nat} (h : n < 2 ^ 64) : (lN n).toBitVec.toNat = n := by rw [lN_bv, BitVec.toNat_ofNat]; exact Nat.mod_eq_of_lt h
theorem lN_ti {m : Nat} (h : m < 2 ^ 64) : (lN m).toInt = if m < 2 ^ 63 then (m : Int) else (m : Int) - 2 ^ 64 := by
  have c := BitVec.toInt_eq_toNat_cond (lN m).toBitVec
  rw [lN_nat h] at c
  show (lN m).toBitVec.toInt = _
  rw [c]
  split <;> split <;> omega
/-! ints and longs as whole numbers, where nothing overflows -/
theorem q_ladd {a b : Int64} (h1 : -9223372036854775808 ≤ a.toInt + b.toInt) (h2 : a.toInt + b.toInt < 9223372036854775808) : (a + b).toInt = a.toInt + b.toInt := by
  rw [Int64.toInt_add]; exact Int.bmod_eq_of_le (by omega) (by omega)
theorem q_lsub {a b : Int64} (h1 : -9223372036854775808 ≤ a.toInt - b.toInt) (h2 : a.toInt - b.toInt < 9223372036854775808) : (a - b).toInt = a.toInt - b.toInt := by
  rw [Int64.toInt_sub]; exact Int.bmod_eq_of_le (by omega) (by omega)
theorem q_lmul {a b : Int64} (h1 : -9223372036854775808 ≤ a.toInt * b.toInt) (h2 : a.toInt * b.toInt < 9223372036854775808) : (a * b).toInt = a.toInt * b.toInt := by
  rw [Int64.toInt_mul]; exact Int.bmod_eq_of_le (by omega) (by omega)
theorem q_iadd {a b : Int32} (h1 : -2147483648 ≤ a.toInt + b.toInt) (h2 : a.toInt + b.toInt < 2147483648) : (a + b).toInt = a.toInt + b.toInt := by
  rw [Int32.toInt_add]; exact Int.bmod_eq_of_le (by omega) (by omega)
theorem q_isub {a b : Int32} (h1 : -2147483648 ≤ a.toInt - b.toInt) (h2 : a.toInt - b.toInt < 2147483648) : (a - b).toInt = a.toInt - b.toInt := by
  rw [Int32.toInt_sub]; exact Int.bmod_eq_of_le (by omega) (by omega)
theorem q_imul {a b : Int32} (h1 : -2147483648 ≤ a.toInt * b.toInt) (h2 : a.toInt * b.toInt < 2147483648) : (a * b).toInt = a.toInt * b.toInt := by
  rw [Int32.toInt_mul]; exact Int.bmod_eq_of_le (by omega) (by omega)
theorem q_i2l (x : Int32) : x.toInt64.toInt = x.toInt := Int32.toInt_toInt64 x
theorem q_l2i {x : Int64} (h1 : -2147483648 ≤ x.toInt) (h2 : x.toInt < 2147483648) : x.toInt32.toInt = x.toInt := by
  rw [Int64.toInt_toInt32]; exact Int.bmod_eq_of_le (by omega) (by omega)
theorem q_land30 (x : Int64) : (x &&& 1073741823).toInt = x.toInt % 1073741824 := by
  obtain ⟨n, hn, rfl⟩ := wb_of x
  have h := wb_mask (k := 30) hn (by decide)
  have e : lN (2 ^ 30 - 1) = 1073741823 := by decide
  rw [e] at h
  rw [h, pk_lT (by omega), lN_ti hn]
  split <;> omega
theorem q_land24 (x : Int64) : (x &&& 16777215).toInt = x.toInt % 16777216 := by
  obtain ⟨n, hn, rfl⟩ := wb_of x
  have h := wb_mask (k := 24) hn (by decide)
  have e : lN (2 ^ 24 - 1) = 16777215 := by decide
  rw [e] at h
  rw [h, pk_lT (by omega), lN_ti hn]
  split <;> omega
theorem q_lshr {x D : Int64} {d : Nat} (hD : (D.toBitVec.smod 64).toNat = d) : (x >>> D).toInt = x.toInt / ((2 ^ d : Nat) : Int) := by
  have e : (x >>> D).toInt = x.toInt >>> d := by
    rw [← hD]
    exact BitVec.toInt_sshiftRight ..
  rw [e, Int.shiftRight_eq_div_pow]
theorem q_shr30 (x : Int64) : (x >>> ((nI 30 : Int32).toInt64 &&& 63)).toInt = x.toInt / 1073741824 := q_lshr (d := 30) (by decide)
theorem q_shr24 (x : Int64) : (x >>> ((nI 24 : Int32).toInt64 &&& 63)).toInt = x.toInt / 16777216 := q_lshr (d := 24) (by decide)
theorem q_iinj {x y : Int32} (h : x.toInt = y.toInt) : x = y := Int32.toInt_inj.mp h
theorem q_linj {x y : Int64} (h : x.toInt = y.toInt) : x = y := Int64.toInt_inj.mp h
/-! the class's numbers: limbs of 30 bits -/
def lm_u (f : Nat → Int32) : Nat → Int
  | 0 => 0
  | n + 1 => lm_u f n + (f n).toInt * 1073741824 ^ n
def lm_ok (f : Nat → Int32) (n : Nat) : Prop := ∀ j, j < n → 0 ≤ (f j).toInt ∧ (f j).toInt < 1073741824
/-- the first n limbs of f are x, up to multiples of the base to the n -/
def lm_is (f : Nat → Int32) (n : Nat) (x : Int) : Prop := lm_ok f n ∧ ∃ q : Int, x = lm_u f n + q * 1073741824 ^ n
theorem lm_u_congr {f g : Nat → Int32} : ∀ {n : Nat}, (∀ j, j < n → f j = g j) → lm_u f n = lm_u g n
  | 0, _ => rfl
  | n + 1, h => by rw [lm_u, lm_u, lm_u_congr (fun j hj => h j (by omega)), h n (by omega)]
theorem lm_ok_congr {f g : Nat → Int32} {n : Nat} (h : ∀ j, j < n → f j = g j) (k : lm_ok g n) : lm_ok f n := fun j hj => by rw [h j hj]; exact k j hj
theorem lm_ok_le {f : Nat → Int32} {n k : Nat} (h : lm_ok f n) (hk : k ≤ n) : lm_ok f k := fun j hj => h j (by omega)
theorem lm_is_congr {f g : Nat → Int32} {n : Nat} {x : Int} (h : ∀ j, j < n → f j = g j) (k : lm_is g n x) : lm_is f n x := ⟨lm_ok_congr h k.1, by rw [lm_u_congr h]; exact k.2⟩
theorem lm_u_upd {f : Nat → Int32} {k n : Nat} {x : Int32} (h : n ≤ k) : lm_u (upd f k x) n = lm_u f n := lm_u_congr fun j hj => by
  unfold upd
  rw [if_neg (by omega)]
theorem lm_B (n : Nat) : (0 : Int) < 1073741824 ^ n := Int.pow_pos (by decide)
theorem lm_u_range {f : Nat → Int32} : ∀ {n : Nat}, lm_ok f n → 0 ≤ lm_u f n ∧ lm_u f n < 1073741824 ^ n
  | 0, _ => by simp [lm_u]
  | n + 1, h => by
    have ⟨h1, h2⟩ := lm_u_range (lm_ok_le h (Nat.le_succ n))
    have ⟨h3, h4⟩ := h n (by omega)
    have hB := lm_B n
    have e1 : 0 ≤ (f n).toInt * 1073741824 ^ n := Int.mul_nonneg h3 (Int.le_of_lt hB)
    have e2 : ((f n).toInt + 1) * 1073741824 ^ n ≤ 1073741824 * 1073741824 ^ n := Int.mul_le_mul_of_nonneg_right (by omega) (Int.le_of_lt hB)
    rw [lm_u, Int.pow_succ]
    constructor
    · omega
    · have e3 : ((f n).toInt + 1) * 1073741824 ^ n = (f n).toInt * 1073741824 ^ n + 1073741824 ^ n := by rw [Int.add_mul, Int.one_mul]
      have e4 : (1073741824 : Int) ^ n * 1073741824 = 1073741824 * 1073741824 ^ n := Int.mul_comm _ _
      omega
/-- fewer limbs of the same number -/
theorem lm_u_split (f : Nat → Int32) (k : Nat) : ∀ n, lm_u f (k + n) = lm_u f k + 1073741824 ^ k * lm_u (fun j => f (k + j)) n
  | 0 => by simp [lm_u]
  | n + 1 => by
    rw [← Nat.add_assoc, lm_u, lm_u_split f k n, lm_u, Int.pow_add]
    grind
theorem lm_is_le {f : Nat → Int32} {n k : Nat} {x : Int} (h : lm_is f n x) (hk : k ≤ n) : lm_is f k x := by
  obtain ⟨h1, q, h2⟩ := h
  obtain ⟨d, rfl⟩ : ∃ d, n = k + d := ⟨n - k, by omega⟩
  refine ⟨lm_ok_le h1 hk, lm_u (fun j => f (k + j)) d + q * 1073741824 ^ d, ?_⟩
  rw [h2, lm_u_split, Int.pow_add]
  grind
/-- a limb of a sum: what is left, what is carried -/
theorem lm_carry {c d : Int64} {x y : Int32} (hc : -1073741824 ≤ c.toInt ∧ c.toInt ≤ 1073741824) (hd : -1073741824 ≤ d.toInt ∧ d.toInt ≤ 1073741824) (hx : 0 ≤ x.toInt ∧ x.toInt < 1073741824) (hy : 0 ≤ y.toInt ∧ y.toInt < 1073741824) :
    (c + (x.toInt64 + y.toInt64 * d)).toInt = c.toInt + (x.toInt + y.toInt * d.toInt) ∧ -1152921504606846976 ≤ (c + (x.toInt64 + y.toInt64 * d)).toInt ∧ (c + (x.toInt64 + y.toInt64 * d)).toInt < 1152921505680588800 := by
  have m1 : y.toInt * d.toInt ≤ 1073741823 * 1073741824 := by
    rcases Int.le_total 0 d.toInt with h | h
    · exact Int.le_trans (Int.mul_le_mul_of_nonneg_right (show y.toInt ≤ 1073741823 by omega) h) (Int.mul_le_mul_of_nonneg_left hd.2 (by decide))
    · have := Int.mul_nonneg hy.1 (show 0 ≤ -d.toInt by omega)
      rw [Int.mul_neg] at this
      omega
  have m2 : -(1073741823 * 1073741824) ≤ y.toInt * d.toInt := by
    rcases Int.le_total 0 d.toInt with h | h
    · have := Int.mul_nonneg hy.1 h
      omega
    · have h1 : y.toInt * (-d.toInt) ≤ 1073741823 * 1073741824 := Int.le_trans (Int.mul_le_mul_of_nonneg_right (show y.toInt ≤ 1073741823 by omega) (show 0 ≤ -d.toInt by omega)) (Int.mul_le_mul_of_nonneg_left (show -d.toInt ≤ 1073741824 by omega) (by decide))
      rw [Int.mul_neg] at h1
      omega
  have e1 : (y.toInt64 * d).toInt = y.toInt * d.toInt := by
    rw [q_lmul (by rw [q_i2l]; omega) (by rw [q_i2l]; omega), q_i2l]
  have e2 : (x.toInt64 + y.toInt64 * d).toInt = x.toInt + y.toInt * d.toInt := by
    rw [q_ladd (by rw [q_i2l, e1]; omega) (by rw [q_i2l, e1]; omega), q_i2l, e1]
  have e3 : (c + (x.toInt64 + y.toInt64 * d)).toInt = c.toInt + (x.toInt + y.toInt * d.toInt) := by
    rw [q_ladd (by rw [e2]; omega) (by rw [e2]; omega), e2]
  rw [e3]
  omega
theorem lm_limb {T : Int64} (h : -1152921504606846976 ≤ T.toInt ∧ T.toInt < 1152921505680588800) :
    ((T &&& 1073741823).toInt32).toInt = T.toInt % 1073741824 ∧ (T >>> ((nI 30 : Int32).toInt64 &&& 63)).toInt = T.toInt / 1073741824 ∧ -1073741824 ≤ (T >>> ((nI 30 : Int32).toInt64 &&& 63)).toInt ∧ (T >>> ((nI 30 : Int32).toInt64 &&& 63)).toInt ≤ 1073741824 := by
  have e : ((T &&& 1073741823).toInt32).toInt = T.toInt % 1073741824 := by
    rw [q_l2i (by rw [q_land30]; omega) (by rw [q_land30]; omega), q_land30]
  rw [e, q_shr30]
  omega
/-- the sum so far -/
theorem lm_step {f f' g : Nat → Int32} {off i : Nat} {d c c' : Int} {v : Int32} (hi : off ≤ i) (inv : lm_u f' i + c * 1073741824 ^ i = lm_u f i + d * 1073741824 ^ off * lm_u g (i - off))
    (hT : c + ((f i).toInt + (g (i - off)).toInt * d) = v.toInt + c' * 1073741824) : lm_u (upd f' i v) (i + 1) + c' * 1073741824 ^ (i + 1) = lm_u f (i + 1) + d * 1073741824 ^ off * lm_u g (i + 1 - off) := by
  obtain ⟨k, rfl⟩ : ∃ k, i = off + k := ⟨i - off, by omega⟩
  have e1 : off + k - off = k := by omega
  have e2 : off + k + 1 - off = k + 1 := by omega
  rw [e1] at inv hT
  rw [e2, lm_u, lm_u_upd (Nat.le_refl _), lm_u, lm_u]
  have e3 : upd f' (off + k) v (off + k) = v := by simp [upd]
  rw [e3, Int.pow_succ]
  have e4 : (1073741824 : Int) ^ (off + k) = 1073741824 ^ off * 1073741824 ^ k := Int.pow_add ..
  rw [e4] at inv ⊢
  grind
end
section
theorem lm_ok_upd {f : Nat → Int32} {n k : Nat} {v : Int32} (h : lm_ok f n) (hv : 0 ≤ v.toInt ∧ v.toInt < 1073741824) : lm_ok (upd f k v) n := fun j hj => by
  unfold upd
  split
  · exact hv
  · exact h j hj
/-- a number with its sign -/
def lm_si (f : Nat → Int32) (n : Nat) (x : Int) : Prop := lm_is f n x ∧ -(1073741824 ^ n) ≤ 2 * x ∧ 2 * x < 1073741824 ^ n
theorem lm_si_cases {f : Nat → Int32} {n : Nat} {x : Int} (h : lm_si f n x) : (0 ≤ x ∧ lm_u f n = x) ∨ (x < 0 ∧ lm_u f n = x + 1073741824 ^ n) := by
  obtain ⟨⟨hok, q, hq⟩, h1, h2⟩ := h
  obtain ⟨u1, u2⟩ := lm_u_range hok
  have hP := lm_B n
  generalize (1073741824 : Int) ^ n = P at *
  have hq1 : q < 1 := by
    rcases Int.lt_or_le q 1 with h | h
    · exact h
    · have := Int.mul_le_mul_of_nonneg_right h (Int.le_of_lt hP)
      omega
  have hq2 : -2 < q := by
    rcases Int.lt_or_le (-2) q with h | h
    · exact h
    · have := Int.mul_le_mul_of_nonneg_right h (Int.le_of_lt hP)
      omega
  have : q = 0 ∨ q = -1 := by omega
  rcases this with rfl | rfl
  · left; omega
  · right; omega
theorem lm_si_top {f : Nat → Int32} {k : Nat} {x : Int} (h : lm_si f (k + 1) x) : 536870912 ≤ (f k).toInt ↔ x < 0 := by
  have hok := h.1.1
  obtain ⟨u1, u2⟩ := lm_u_range (lm_ok_le hok (Nat.le_succ k))
  have hP := lm_B k
  have hc := lm_si_cases h
  obtain ⟨-, h1, h2⟩ := h
  rw [lm_u, Int.pow_succ] at hc
  rw [Int.pow_succ] at h1 h2
  generalize (1073741824 : Int) ^ k = P at *
  generalize (f k).toInt = t at *
  constructor
  · intro ht
    have := Int.mul_le_mul_of_nonneg_right ht (Int.le_of_lt hP)
    rcases hc with hc | hc <;> omega
  · intro hx
    rcases Int.lt_or_le t 536870912 with ht | ht
    · have := Int.mul_le_mul_of_nonneg_right (show t + 1 ≤ 536870912 by omega) (Int.le_of_lt hP)
      rw [Int.add_mul] at this
      rcases hc with hc | hc <;> omega
    · exact ht
theorem lm_u_zero {f : Nat → Int32} : ∀ {n : Nat}, lm_ok f n → (∀ j, j < n → f j = 0) → lm_u f n = 0
  | 0, _, _ => rfl
  | n + 1, h, hz => by
    rw [lm_u, lm_u_zero (lm_ok_le h (Nat.le_succ n)) (fun j hj => hz j (by omega)), hz n (by omega)]
    simp
theorem lm_u_pos {f : Nat → Int32} {k : Nat} : ∀ {n : Nat}, lm_ok f n → k < n → f k ≠ 0 → 0 < lm_u f n
  | 0, _, hk, _ => absurd hk (Nat.not_lt_zero _)
  | n + 1, h, hk, hz => by
    have hP := lm_B n
    have h0 := h n (by omega)
    have hu := (lm_u_range (lm_ok_le h (Nat.le_succ n))).1
    rw [lm_u]
    by_cases e : k = n
    · subst e
      have : 0 < (f k).toInt := by
        rcases Int.lt_or_eq_of_le h0.1 with h | h
        · exact h
        · exact absurd (q_iinj (by rw [← h]; rfl)) hz
      have := Int.mul_pos this hP
      omega
    · have := lm_u_pos (lm_ok_le h (Nat.le_succ n)) (show k < n by omega) hz
      have := Int.mul_nonneg h0.1 (Int.le_of_lt hP)
      omega
/-- the sign as an int -/
def sg (x : Int) : Int32 := if x < 0 then -1 else if x = 0 then 0 else 1
/-- k - 1 as an int: the place of a loop that goes down -/
def nP (k : Nat) : Int32 := nI k - nI 1
theorem nP_succ (k : Nat) : nP (k + 1) = nI k := pk_sub (a := k + 1) (b := 1) (by omega)
theorem nP_dec (k : Nat) : nP (k + 1) + Int32.ofInt (-1) = nP k := by
  rw [nP_succ]
  have e : Int32.ofInt (-1) = -nI 1 := by decide
  rw [e, nP, Int32.sub_eq_add_neg]
theorem nP_0 : nP 0 < 0 := by decide
/-- the cell a, whose first n limbs become x; nothing else changes -/
def lm_up (σ : Nat → va_E) (a : Nat) (cI : ClassId) (La : Nat) (f : Nat → Int32) (n : Nat) (x : Int) : (Nat → va_E) → Prop := fun σ' =>
  ∃ f' : Nat → Int32, σ' = va_up σ a (.inl (cI, La, .inl f')) ∧ (∀ j, n ≤ j → f' j = f j) ∧ lm_is f' n x
theorem lm_add_is {f f' g : Nat → Int32} {off n : Nat} {d q x y : Int} (ho : off ≤ n) (hok : lm_ok f' n) (h : lm_u f' n = lm_u f n + d * 1073741824 ^ off * lm_u g (n - off) + q * 1073741824 ^ n) (hx : lm_is f n x) (hy : lm_is g (n - off) y) : lm_is f' n (x + d * 1073741824 ^ off * y) := by
  obtain ⟨-, q1, e1⟩ := hx
  obtain ⟨-, q2, e2⟩ := hy
  obtain ⟨k, rfl⟩ : ∃ k, n = off + k := ⟨n - off, by omega⟩
  have e : off + k - off = k := by omega
  rw [e] at h e2
  refine ⟨hok, q1 + d * q2 - q, ?_⟩
  have e4 : (1073741824 : Int) ^ (off + k) = 1073741824 ^ off * 1073741824 ^ k := Int.pow_add ..
  rw [e4] at h e1 ⊢
  rw [h, e1, e2]
  grind
/-- a long's digits -/
theorem lm_digit (r : Int64) : (r &&& 1073741823).toInt = r.toInt % 1073741824 ∧ (r >>> ((nI 30 : Int32).toInt64 &&& 63)).toInt = r.toInt / 1073741824 := ⟨q_land30 r, q_shr30 r⟩
def lm_bd : Nat → Int
  | 0 => 9223372036854775808
  | 1 => 8589934593
  | 2 => 9
  | _ => 0
/-- limbs that are all the mask from the second on -/
theorem lm_u_fill {f : Nat → Int32} : ∀ {n : Nat}, (∀ j, 1 ≤ j → j ≤ n → (f j).toInt = 1073741823) → lm_u f (n + 1) = (f 0).toInt - 1073741824 + 1073741824 ^ (n + 1)
  | 0, _ => by simp [lm_u]
  | n + 1, h => by
    rw [lm_u, lm_u_fill (fun j h1 h2 => h j h1 (by omega)), h (n + 1) (by omega) (by omega)]
    have e : (1073741824 : Int) ^ (n + 1 + 1) = 1073741824 ^ (n + 1) * 1073741824 := Int.pow_succ ..
    rw [e]
    grind
theorem lm_u_fill0 {f : Nat → Int32} : ∀ {n : Nat}, (∀ j, 1 ≤ j → j ≤ n → f j = 0) → lm_u f (n + 1) = (f 0).toInt
  | 0, _ => by simp [lm_u]
  | n + 1, h => by
    rw [lm_u, lm_u_fill0 (fun j h1 h2 => h j h1 (by omega)), h (n + 1) (by omega) (by omega)]
    simp
/-- the same number in more limbs -/
theorem lm_u_ext {f : Nat → Int32} {k : Nat} : ∀ {n : Nat}, (∀ j, k ≤ j → j < k + n → (f j).toInt = 1073741823) → lm_u f (k + n) = lm_u f k - 1073741824 ^ k + 1073741824 ^ (k + n)
  | 0, _ => by simp
  | n + 1, h => by
    have e : k + (n + 1) = k + n + 1 := rfl
    rw [e, lm_u, lm_u_ext (fun j h1 h2 => h j h1 (by omega)), h (k + n) (by omega) (by omega), Int.pow_succ]
    grind
theorem lm_u_ext0 {f : Nat → Int32} {k : Nat} : ∀ {n : Nat}, (∀ j, k ≤ j → j < k + n → f j = 0) → lm_u f (k + n) = lm_u f k
  | 0, _ => by simp
  | n + 1, h => by
    have e : k + (n + 1) = k + n + 1 := rfl
    rw [e, lm_u, lm_u_ext0 (fun j h1 h2 => h j h1 (by omega)), h (k + n) (by omega) (by omega)]
    simp
theorem lm_widen {f g : Nat → Int32} {k n : Nat} {x : Int} (h : lm_si f k x) (hk : k ≤ n) (h0 : ∀ j, j < k → g j = f j) (h1 : ∀ j, k ≤ j → j < n → (x < 0 → (g j).toInt = 1073741823) ∧ (0 ≤ x → g j = 0)) : lm_is g n x := by
  obtain ⟨d, rfl⟩ : ∃ d, n = k + d := ⟨n - k, by omega⟩
  have hc := lm_si_cases h
  have hg : lm_u g k = lm_u f k := lm_u_congr h0
  have hok : lm_ok g (k + d) := fun j hj => by
    by_cases e : j < k
    · rw [h0 j e]; exact h.1.1 j e
    · rcases Int.lt_or_le x 0 with hx | hx
      · rw [(h1 j (by omega) hj).1 hx]; decide
      · rw [(h1 j (by omega) hj).2 hx]; decide
  rcases hc with ⟨hx, hu⟩ | ⟨hx, hu⟩
  · exact ⟨hok, 0, by rw [lm_u_ext0 (fun j a b => (h1 j a b).2 hx), hg, hu]; simp⟩
  · exact ⟨hok, -1, by rw [lm_u_ext (fun j a b => (h1 j a b).1 hx), hg, hu]; omega⟩
theorem lm_assign {f : Nat → Int32} {n : Nat} {v : Int32} (hv : -1073741824 ≤ v.toInt ∧ v.toInt < 1073741824) (h0 : (f 0).toInt = v.toInt % 1073741824) (h1 : ∀ j, 1 ≤ j → j ≤ n → (v.toInt < 0 → (f j).toInt = 1073741823) ∧ (0 ≤ v.toInt → f j = 0)) : lm_is f (n + 1) v.toInt := by
  have hok : lm_ok f (n + 1) := fun j hj => by
    by_cases e : j = 0
    · rw [e, h0]; omega
    · rcases Int.lt_or_le v.toInt 0 with hx | hx
      · rw [(h1 j (by omega) (by omega)).1 hx]; decide
      · rw [(h1 j (by omega) (by omega)).2 hx]; decide
  rcases Int.lt_or_le v.toInt 0 with hx | hx
  · exact ⟨hok, -1, by rw [lm_u_fill (fun j a b => (h1 j a b).1 hx), h0]; omega⟩
  · exact ⟨hok, 0, by rw [lm_u_fill0 (fun j a b => (h1 j a b).2 hx), h0]; omega⟩
/-- the balanced digits of a number in limbs: the carry into limb i -/
theorem lm_prod {c : Nat → Int32} {i : Nat} {cy dg cy' : Int} (h : (c i).toInt + cy = dg + cy' * 1073741824) (S : Int) (hS : S + cy * 1073741824 ^ i = lm_u c i) : (S + dg * 1073741824 ^ i) + cy' * 1073741824 ^ (i + 1) = lm_u c (i + 1) := by
  rw [lm_u, Int.pow_succ]
  grind
theorem lm_bd_step {i : Nat} {r d r2 : Int} (hi : i < 3) (hr : -lm_bd i ≤ r ∧ r ≤ lm_bd i) (e : r = d + r2 * 1073741824) (hd : -536870912 ≤ d ∧ d ≤ 536870912) : -lm_bd (i + 1) ≤ r2 ∧ r2 ≤ lm_bd (i + 1) := by
  have : i = 0 ∨ i = 1 ∨ i = 2 := by omega
  rcases this with rfl | rfl | rfl <;> simp only [lm_bd] at hr ⊢ <;> omega
theorem lm_is_mod {f : Nat → Int32} {n : Nat} {x x' : Int} (h : lm_is f n x) (q : Int) (e : x' = x + q * 1073741824 ^ n) : lm_is f n x' := by
  obtain ⟨h1, q1, h2⟩ := h
  exact ⟨h1, q1 + q, by rw [e, h2]; grind⟩
theorem q_iand30 (x : Int32) : (x &&& nI 1073741823).toInt = x.toInt % 1073741824 := by
  have h := pk_and x (m := nI 1073741823) 30 (by decide)
  rw [h, nI_toInt (by omega)]
  have c := BitVec.toInt_eq_toNat_cond x.toBitVec
  have c' : x.toInt = x.toBitVec.toInt := rfl
  have hl := x.toBitVec.isLt
  rw [c', c]
  split <;> omega
theorem nP_lt {k : Nat} (h : k < 2 ^ 31) : nP k < nI k := by
  cases k with
  | zero => decide
  | succ k => rw [nP_succ]; exact nI_lt (Nat.lt_succ_self k) h
end
section
section XR2
variable {p : Program} {l : Launch} {e : Env} {R : Room} {s : State} {m : MethodId} {args : Array Value} {below : List Frame} {meth : Method} {c : Code} {H : Heap} {locs : List Loc} {cells slots : Nat} {Q : State → Prop}
variable {cc : ByteArray} {pc nL : Nat} {ls : Array Slot} {rest : List Value} {D : va_G} {cl : List vw_C} {tys : List (ClassId × FieldType)} {H0 : Heap} {N : Nat} {ad : Nat → Nat} {σ : Nat → va_E} {Ts : List Cond} {own : String}
/-- System.arraycopy between two int arrays -/
theorem xr_copy (X : xX p c cc nL s args Ts own m D cl tys) (I : xI D cl N ad H0 σ H locs) (hl1 : ls.size = nL) {idx : Nat} (hlink : Cond.methodLink own idx arraycopyName ∈ Ts) (hnat : Cond.native arraycopyName ∈ Ts) (hstat : Cond.static arraycopyName ∈ Ts) (hini : Cond.initialized "java/lang/System" ∈ Ts)
    (k1 k2 t0 : Nat) (hk1 : k1 < N) (hk2 : k2 < N) {c0 : ClassId} {n0 n1 sp dp n : Nat} {f g : Nat → Int32} (hσ1 : σ k1 = .inl (c0, n0, .inl f)) (hσ2 : σ k2 = .inl (c0, n1, .inl g)) (ht : tys[t0]? = some (c0, .int)) (h1 : sp + n ≤ n0) (h2 : dp + n ≤ n1) (hn0 : n0 < 2 ^ 31) (hn1 : n1 < 2 ^ 31)
    (hframes : 1 ≤ R.frames) (hlocals : (rest.map fun v => v.category).sum + (nativeFrameWords "java/lang/System" "arraycopy" 5 + 11) ≤ R.locals) (hdg : decode cc pc = .ok (.invokestatic idx, 3))
    (kk : ∀ (H1 : Heap) (locs1 : List Loc), xI D cl N ad H0 (va_up σ k2 (.inl (c0, n1, .inl (va_cpy f g sp dp n)))) H1 locs1 → W p l e R s m args below meth c H1 locs1 cells slots Q (F0 m (pc + 3) ls rest)) : W p l e R s m args below meth c H locs cells slots Q (F0 m pc ls (.int (nI n) :: .int (nI dp) :: .ref (ad k2) :: .int (nI sp) :: .ref (ad k1) :: rest)) := by
  have e1 : (nI sp).toNatClampNeg = sp := nI_clamp (by omega)
  have e2 : (nI dp).toNatClampNeg = dp := nI_clamp (by omega)
  have e3 : (nI n).toNatClampNeg = n := nI_clamp (by omega)
  refine va_copyi X.1.1 X.1.2.1 (X.1.2.2.1.trans hl1.symm) X.1.2.2.2.1 (X.1.2.2.2.2 _ hlink) (X.1.2.2.2.2 _ hnat) (X.1.2.2.2.2 _ hstat) (X.1.2.2.2.2 _ hini) X.2 I.1 I.2.1 I.2.2 k1 k2 t0 t0 (xw_get hk1 hσ1) (xw_get hk2 hσ2) ht ht rfl (nI_pos (by omega)) (nI_pos (by omega)) (nI_pos (by omega)) (by rw [e1, e3]; exact h1) (by rw [e2, e3]; exact h2) (fun _ _ => rfl) hframes hlocals hdg fun H1 locs1 g1 g2 g3 => ?_
  rw [xw_set, e1, e2, e3] at g1 g2
  exact kk H1 locs1 ⟨g1, g2, g3⟩
theorem xr_min (X : xX p c cc nL s args Ts own m D cl tys) (hl1 : ls.size = nL) {idx : Nat} (hlink : Cond.methodLink own idx Lib.Math.min.name ∈ Ts) (hstat : Cond.static Lib.Math.min.name ∈ Ts) (hini : Cond.initialized "java/lang/Math" ∈ Ts) (hcode : Cond.code Lib.Math.min.name Lib.Math.min.code 2 (some .int) ∈ Ts)
    (hframes : 1 ≤ R.frames) (hlocals : (rest.map fun v => v.category).sum + 13 ≤ R.locals) (hc : cells ≤ R.cells) (hs : slots ≤ R.slots) {x y : Nat} (hx : x < 2 ^ 31) (hy : y < 2 ^ 31) (hdg : decode cc pc = .ok (.invokestatic idx, 3))
    (kk : W p l e R s m args below meth c H locs cells slots Q (F0 m (pc + 3) ls (.int (nI (min x y)) :: rest))) : W p l e R s m args below meth c H locs cells slots Q (F0 m pc ls (.int (nI y) :: .int (nI x) :: rest)) := by
  refine va_mmin X.1.1 X.1.2.1 (X.1.2.2.1.trans hl1.symm) X.1.2.2.2.1 (X.1.2.2.2.2 _ hlink) (X.1.2.2.2.2 _ hstat) (X.1.2.2.2.2 _ hini) (X.1.2.2.2.2 _ hcode) hframes hlocals hc hs hdg ?_
  have e : (if nI y < nI x then nI y else nI x) = nI (min x y) := by
    split
    · next h => rw [Nat.min_eq_right (Nat.le_of_lt ((nI_ltI hy hx).mp h))]
    · next h => rw [Nat.min_eq_left (Nat.le_of_not_lt fun q => h ((nI_ltI hy hx).mpr q))]
  rw [e]
  exact kk
theorem xr_zret {v : Int32} {post : Int32 → (Nat → va_E) → Prop} (X : xX p c cc nL s args Ts own m D cl tys) (I : xI D cl N ad s.heap σ H locs) (hr : meth.sig.returnType = some .boolean) (hlk : meth.locks = false) (hn : narrow .boolean (.int v) = .int v) (hp : post v σ) (hdg : decode cc pc = .ok (.ireturn, 1)) :
    W p l e R s m args below meth c H locs cells slots (MQ below (va_Qi post (xS D cl tys N ad) (xA N ad)) args s cells slots (xA N ad)) (F0 m pc ls [.int v]) :=
  W.zret X.1.1 X.1.2.1 hr hn (fun _ ht hW => ⟨⟨v, σ, rfl, hp, by rw [ht]; exact I.1, va_K.moved hW.alike X.2, I.2.1⟩, I.2.2.F ht⟩) I.2.2.2.2 hdg hlk
theorem xr_lret {v : Int64} {post : Int64 → (Nat → va_E) → Prop} (X : xX p c cc nL s args Ts own m D cl tys) (I : xI D cl N ad s.heap σ H locs) (hr : meth.sig.returnType = some .long) (hlk : meth.locks = false) (hp : post v σ) (hdg : decode cc pc = .ok (.lreturn, 1)) :
    W p l e R s m args below meth c H locs cells slots (MQ below (va_Ql post (xS D cl tys N ad) (xA N ad)) args s cells slots (xA N ad)) (F0 m pc ls [.long v]) :=
  W.lret X.1.1 X.1.2.1 hr (fun _ ht hW => ⟨⟨v, σ, rfl, hp, by rw [ht]; exact I.1, va_K.moved hW.alike X.2, I.2.1⟩, I.2.2.F ht⟩) I.2.2.2.2 hdg hlk
end XR2
end
section
/-! the reference's numbers: parts of 24 bits at the place o, the least first -/
def rg (P : Nat → Int32) (o : Nat) : Nat → Int
  | 0 => 0
  | n + 1 => rg P o n + (P (o + n)).toInt * 16777216 ^ n
def rg_ok (P : Nat → Int32) (o n : Nat) : Prop := ∀ j, j < n → 0 ≤ (P (o + j)).toInt ∧ (P (o + j)).toInt < 16777216
theorem rg_B (n : Nat) : (0 : Int) < 16777216 ^ n := Int.pow_pos (by decide)
theorem rg_congr {P P' : Nat → Int32} {o o' : Nat} : ∀ {n : Nat}, (∀ j, j < n → P (o + j) = P' (o' + j)) → rg P o n = rg P' o' n
  | 0, _ => rfl
  | n + 1, h => by rw [rg, rg, rg_congr (fun j hj => h j (by omega)), h n (by omega)]
theorem rg_ok_congr {P P' : Nat → Int32} {o o' n : Nat} (h : ∀ j, j < n → P (o + j) = P' (o' + j)) (k : rg_ok P' o' n) : rg_ok P o n := fun j hj => by rw [h j hj]; exact k j hj
theorem rg_ok_le {P : Nat → Int32} {o n k : Nat} (h : rg_ok P o n) (hk : k ≤ n) : rg_ok P o k := fun j hj => h j (by omega)
theorem rg_range {P : Nat → Int32} {o : Nat} : ∀ {n : Nat}, rg_ok P o n → 0 ≤ rg P o n ∧ rg P o n < 16777216 ^ n
  | 0, _ => by simp [rg]
  | n + 1, h => by
    have ⟨h1, h2⟩ := rg_range (rg_ok_le h (Nat.le_succ n))
    have ⟨h3, h4⟩ := h n (by omega)
    have hB := rg_B n
    have e1 : 0 ≤ (P (o + n)).toInt * 16777216 ^ n := Int.mul_nonneg h3 (Int.le_of_lt hB)
    have e2 : ((P (o + n)).toInt + 1) * 16777216 ^ n ≤ 16777216 * 16777216 ^ n := Int.mul_le_mul_of_nonneg_right (by omega) (Int.le_of_lt hB)
    rw [rg, Int.pow_succ]
    constructor
    · omega
    · have e3 : ((P (o + n)).toInt + 1) * 16777216 ^ n = (P (o + n)).toInt * 16777216 ^ n + 16777216 ^ n := by rw [Int.add_mul, Int.one_mul]
      have e4 : (16777216 : Int) ^ n * 16777216 = 16777216 * 16777216 ^ n := Int.mul_comm _ _
      omega
/-- the number w is x: so long, its last part not 0, its sign -/
def rb (P L M : Nat → Int32) (w : Nat) (x : Int) : Prop := ∃ n, n ≤ 300 ∧ L w = nI n ∧ rg_ok P (300 * w) n ∧ (0 < n → P (300 * w + (n - 1)) ≠ 0) ∧ ((M w = 0 ∧ x = rg P (300 * w) n) ∨ (M w = 1 ∧ x = -rg P (300 * w) n))
def RB (P L M : Nat → Int32) (X : Nat → Int) : Prop := ∀ w, w < 112 → rb P L M w (X w)
/-- only the number w has changed -/
def rb_fr (P L M P' L' M' : Nat → Int32) (w : Nat) : Prop := (∀ j, j < 300 * w ∨ 300 * w + 300 ≤ j → P' j = P j) ∧ (∀ j, j ≠ w → L' j = L j) ∧ ∀ j, j ≠ w → M' j = M j
theorem rb_keep {P L M P' L' M' : Nat → Int32} {w v : Nat} {x : Int} (h : rb_fr P L M P' L' M' w) (hv : v ≠ w) (k : rb P L M v x) : rb P' L' M' v x := by
  obtain ⟨n, h1, h2, h3, h4, h5⟩ := k
  have hP : ∀ j, j < 300 → P' (300 * v + j) = P (300 * v + j) := fun j hj => h.1 _ (by omega)
  refine ⟨n, h1, by rw [h.2.1 v hv]; exact h2, rg_ok_congr (fun j hj => hP j (by omega)) h3, fun hn => by rw [hP _ (by omega)]; exact h4 hn, ?_⟩
  rw [h.2.2 v hv, rg_congr (P' := P) (o' := 300 * v) (fun j hj => hP j (by omega))]
  exact h5
theorem RB_up {P L M P' L' M' : Nat → Int32} {X : Nat → Int} {w : Nat} {x : Int} (h : RB P L M X) (f : rb_fr P L M P' L' M' w) (k : rb P' L' M' w x) : RB P' L' M' (va_up X w x) := fun v hv => by
  by_cases e : v = w
  · subst e
    rw [va_up_self]
    exact k
  · rw [va_up_ne _ _ e]
    exact rb_keep f e (h v hv)
theorem rb_fr_rf {P L M : Nat → Int32} {w : Nat} : rb_fr P L M P L M w := ⟨fun _ _ => rfl, fun _ _ => rfl, fun _ _ => rfl⟩
theorem rb_fr_tr {P L M P' L' M' P2 L2 M2 : Nat → Int32} {w : Nat} (a : rb_fr P L M P' L' M' w) (b : rb_fr P' L' M' P2 L2 M2 w) : rb_fr P L M P2 L2 M2 w := ⟨fun j hj => (b.1 j hj).trans (a.1 j hj), fun j hj => (b.2.1 j hj).trans (a.2.1 j hj), fun j hj => (b.2.2 j hj).trans (a.2.2 j hj)⟩
theorem rb_fr_P {P L M : Nat → Int32} {w k : Nat} {v : Int32} (h : 300 * w ≤ k ∧ k < 300 * w + 300) : rb_fr P L M (upd P k v) L M w := ⟨fun j hj => if_neg (by omega), fun _ _ => rfl, fun _ _ => rfl⟩
theorem rb_fr_L {P L M : Nat → Int32} {w : Nat} {v : Int32} : rb_fr P L M P (upd L w v) M w := ⟨fun _ _ => rfl, fun _ hj => if_neg hj, fun _ _ => rfl⟩
theorem rb_fr_M {P L M : Nat → Int32} {w : Nat} {v : Int32} : rb_fr P L M P L (upd M w v) w := ⟨fun _ _ => rfl, fun _ _ => rfl, fun _ hj => if_neg hj⟩
/-- the reference's cells in the world -/
def rw3 (σ0 : Nat → va_E) (ci : Nat) (cI cZ : ClassId) (fs : List Value) (P L M : Nat → Int32) : Nat → va_E := fun k =>
  if k = 183 then .inr (ci, fs) else if k = 184 then .inl (cI, 33600, .inl P) else if k = 185 then .inl (cI, 112, .inl L) else if k = 186 then .inl (cZ, 112, .inl M) else σ0 k
theorem rw3_P {σ0 : Nat → va_E} {ci : Nat} {cI cZ : ClassId} {fs : List Value} {P L M P' : Nat → Int32} : va_up (rw3 σ0 ci cI cZ fs P L M) 184 (.inl (cI, 33600, .inl P')) = rw3 σ0 ci cI cZ fs P' L M := by
  funext k
  simp only [va_up, rw3]
  by_cases h : k = 184
  · simp [h]
  · simp [h]
theorem rw3_L {σ0 : Nat → va_E} {ci : Nat} {cI cZ : ClassId} {fs : List Value} {P L M L' : Nat → Int32} : va_up (rw3 σ0 ci cI cZ fs P L M) 185 (.inl (cI, 112, .inl L')) = rw3 σ0 ci cI cZ fs P L' M := by
  funext k
  simp only [va_up, rw3]
  by_cases h : k = 185
  · simp [h]
  · simp [h]
theorem rw3_M {σ0 : Nat → va_E} {ci : Nat} {cI cZ : ClassId} {fs : List Value} {P L M M' : Nat → Int32} : va_up (rw3 σ0 ci cI cZ fs P L M) 186 (.inl (cZ, 112, .inl M')) = rw3 σ0 ci cI cZ fs P L M' := by
  funext k
  simp only [va_up, rw3]
  by_cases h : k = 186
  · simp [h]
  · simp [h]
theorem rw3_F {σ0 : Nat → va_E} {ci : Nat} {cI cZ : ClassId} {fs fs' : List Value} {P L M : Nat → Int32} : va_up (rw3 σ0 ci cI cZ fs P L M) 183 (.inr (ci, fs')) = rw3 σ0 ci cI cZ fs' P L M := by
  funext k
  simp only [va_up, rw3]
  by_cases h : k = 183
  · simp [h]
  · simp [h]
theorem rw3_o {σ0 : Nat → va_E} {ci : Nat} {cI cZ : ClassId} {fs : List Value} {P L M : Nat → Int32} {k : Nat} {e : va_E} (h : k < 183 ∨ 186 < k) : va_up (rw3 σ0 ci cI cZ fs P L M) k e = rw3 (va_up σ0 k e) ci cI cZ fs P L M := by
  funext j
  simp only [va_up, rw3]
  by_cases h' : j = k
  · subst h'
    rw [if_pos rfl, if_pos rfl, if_neg (by omega), if_neg (by omega), if_neg (by omega), if_neg (by omega)]
  · rw [if_neg h', if_neg h']
theorem r183 (σ0 : Nat → va_E) (ci : Nat) (cI cZ : ClassId) (fs : List Value) (P L M : Nat → Int32) : rw3 σ0 ci cI cZ fs P L M 183 = .inr (ci, fs) := by simp [rw3]
theorem r184 (σ0 : Nat → va_E) (ci : Nat) (cI cZ : ClassId) (fs : List Value) (P L M : Nat → Int32) : rw3 σ0 ci cI cZ fs P L M 184 = .inl (cI, 33600, .inl P) := by simp [rw3]
theorem r185 (σ0 : Nat → va_E) (ci : Nat) (cI cZ : ClassId) (fs : List Value) (P L M : Nat → Int32) : rw3 σ0 ci cI cZ fs P L M 185 = .inl (cI, 112, .inl L) := by simp [rw3]
theorem r186 (σ0 : Nat → va_E) (ci : Nat) (cI cZ : ClassId) (fs : List Value) (P L M : Nat → Int32) : rw3 σ0 ci cI cZ fs P L M 186 = .inl (cZ, 112, .inl M) := by simp [rw3]
/-- only the number w becomes another: x -/
def rb_up (σ0 : Nat → va_E) (ci : Nat) (cI cZ : ClassId) (fs : List Value) (P L M : Nat → Int32) (w : Nat) (x : Int) : (Nat → va_E) → Prop := fun σ' =>
  ∃ P' L' M' : Nat → Int32, σ' = rw3 σ0 ci cI cZ fs P' L' M' ∧ rb_fr P L M P' L' M' w ∧ rb P' L' M' w x
/-- a long's size as a natural -/
theorem q_abs {v : Int64} (h : v < 0) : ∃ u : Nat, u < 2 ^ 64 ∧ -v = lN u ∧ (u : Int) = -v.toInt := by
  have h0 : v.toInt < 0 := Int64.lt_iff_toInt_lt.mp h
  have h1 := v.le_toInt
  refine ⟨(-v.toInt).toNat, by omega, ?_, by omega⟩
  apply q_linj
  rw [Int64.toInt_neg, lN_ti (by omega)]
  split
  · rw [Int.bmod_eq_of_le (by omega) (by omega)]
    omega
  · have e : v.toInt = -9223372036854775808 := by omega
    rw [e]
    decide
theorem q_pos {v : Int64} (h : ¬ v < 0) : ∃ u : Nat, u < 2 ^ 64 ∧ v = lN u ∧ (u : Int) = v.toInt := by
  obtain ⟨u, h1, rfl⟩ := pk_lOf h
  exact ⟨u, by omega, rfl, (pk_lT h1).symm⟩
theorem q_u24 {u : Nat} (hu : u < 2 ^ 64) : ((lN u &&& 16777215).toInt32) = nI (u % 16777216) := by
  have h := wb_mask (k := 24) hu (by decide)
  have e : lN (2 ^ 24 - 1) = 16777215 := by decide
  rw [e] at h
  rw [h]
  exact lN_i _
theorem q_ushr24 {u : Nat} (hu : u < 2 ^ 64) : (((lN u).toUInt64 >>> ((nI 24 : Int32).toInt64.toUInt64 &&& Int64.toUInt64 63)).toInt64) = lN (u / 16777216) := wb_shr (k := 24) hu (by decide)
theorem q_lN0 {u : Nat} (hu : u < 2 ^ 64) : lN u = 0 ↔ u = 0 := by
  constructor
  · intro h
    have h2 := lN_ti hu
    rw [h] at h2
    have e : (0 : Int64).toInt = 0 := by decide
    rw [e] at h2
    split at h2 <;> omega
  · intro h
    rw [h]
    rfl
theorem rg_upd {P : Nat → Int32} {o k n : Nat} {v : Int32} (h : k < o ∨ o + n ≤ k) : rg (upd P k v) o n = rg P o n := rg_congr fun j hj => if_neg (by omega)
theorem rg_ok_upd {P : Nat → Int32} {o k n : Nat} {v : Int32} (h : rg_ok P o n) (hv : 0 ≤ v.toInt ∧ v.toInt < 16777216) : rg_ok (upd P k v) o n := fun j hj => by
  unfold upd
  split
  · exact hv
  · exact h j hj
theorem rg_push {P : Nat → Int32} {o n : Nat} {v : Int32} (h : rg_ok P o n) (hv : 0 ≤ v.toInt ∧ v.toInt < 16777216) : rg_ok (upd P (o + n) v) o (n + 1) ∧ rg (upd P (o + n) v) o (n + 1) = rg P o n + v.toInt * 16777216 ^ n := by
  have e : upd P (o + n) v (o + n) = v := if_pos rfl
  refine ⟨fun j hj => ?_, ?_⟩
  · by_cases ej : j = n
    · subst ej
      rw [e]
      exact hv
    · rw [show upd P (o + n) v (o + j) = P (o + j) from if_neg (by omega)]
      exact h j (by omega)
  · rw [rg, e, rg_upd (by omega)]
/-- the last part counts -/
theorem rg_top {P : Nat → Int32} {o n : Nat} (h : rg_ok P o n) (h0 : 0 < n) (ht : P (o + (n - 1)) ≠ 0) : 16777216 ^ (n - 1) ≤ rg P o n := by
  obtain ⟨k, rfl⟩ : ∃ k, n = k + 1 := ⟨n - 1, by omega⟩
  have e : k + 1 - 1 = k := rfl
  rw [e] at ht ⊢
  have h1 := (rg_range (rg_ok_le h (Nat.le_succ k))).1
  have h2 := h k (by omega)
  have h3 : 1 ≤ (P (o + k)).toInt := by
    rcases Int.lt_or_eq_of_le h2.1 with h | h
    · omega
    · exact absurd (q_iinj (by rw [← h]; rfl)) ht
  have := Int.mul_le_mul_of_nonneg_right h3 (Int.le_of_lt (rg_B k))
  rw [rg]
  omega
theorem rb_zero {P L M : Nat → Int32} {w : Nat} {x : Int} (h : rb P L M w x) : x = 0 ↔ L w = nI 0 := by
  obtain ⟨n, h1, h2, h3, h4, h5⟩ := h
  rw [h2, nI_eq (by omega) (by decide)]
  constructor
  · intro hx
    by_cases e : n = 0
    · exact e
    · have := rg_top h3 (by omega) (h4 (by omega))
      have := rg_B (n - 1)
      omega
  · intro e
    subst e
    simp [rg] at h5
    omega
theorem rb_sgp {P L M : Nat → Int32} {w n : Nat} {x : Int} (h2 : L w = nI n) (h3 : rg_ok P (300 * w) n) (h4 : 0 < n → P (300 * w + (n - 1)) ≠ 0) (h5 : (M w = 0 ∧ x = rg P (300 * w) n) ∨ (M w = 1 ∧ x = -rg P (300 * w) n)) (hc : ¬ L w = 0) (hm : M w = 0) : nI 1 = sg x := by
  have h0 : 0 < n := by
    rcases Nat.eq_zero_or_pos n with e | e
    · rw [e] at h2; exact absurd h2 hc
    · exact e
  have := rg_top h3 h0 (h4 h0)
  have := rg_B (n - 1)
  rcases h5 with ⟨-, h5⟩ | ⟨h5, -⟩
  · rw [sg, if_neg (by omega), if_neg (by omega)]; rfl
  · rw [hm] at h5; exact absurd h5 (by decide)
theorem rb_sgn {P L M : Nat → Int32} {w n : Nat} {x : Int} (h2 : L w = nI n) (h3 : rg_ok P (300 * w) n) (h4 : 0 < n → P (300 * w + (n - 1)) ≠ 0) (h5 : (M w = 0 ∧ x = rg P (300 * w) n) ∨ (M w = 1 ∧ x = -rg P (300 * w) n)) (hc : ¬ L w = 0) (hm : ¬ M w = 0) : (-1) = sg x := by
  have h0 : 0 < n := by
    rcases Nat.eq_zero_or_pos n with e | e
    · rw [e] at h2; exact absurd h2 hc
    · exact e
  have := rg_top h3 h0 (h4 h0)
  have := rg_B (n - 1)
  rcases h5 with ⟨h5, -⟩ | ⟨-, h5⟩
  · exact absurd h5 hm
  · rw [sg, if_pos (by omega)]
/-- where the reference's fields lie -/
def mF (ad : Nat → Nat) (fs : List Value) : Prop := fs[0]? = some (.ref (ad 184)) ∧ fs[1]? = some (.ref (ad 185)) ∧ fs[2]? = some (.ref (ad 186)) ∧ fs[3]? = some (.ref (ad 187)) ∧ fs[6]? = some (.ref (ad 188)) ∧ fs[7]? = some (.ref (ad 189)) ∧ fs[9]? = some (.ref (ad 190)) ∧ fs[11]? = some (.ref (ad 191))
theorem mF_parts {ad : Nat → Nat} {fs : List Value} (h : mF ad fs) : fs[0]? = some (.ref (ad 184)) := h.1
theorem mF_lengths {ad : Nat → Nat} {fs : List Value} (h : mF ad fs) : fs[1]? = some (.ref (ad 185)) := h.2.1
theorem mF_minus {ad : Nat → Nat} {fs : List Value} (h : mF ad fs) : fs[2]? = some (.ref (ad 186)) := h.2.2.1
theorem mF_degrees {ad : Nat → Nat} {fs : List Value} (h : mF ad fs) : fs[3]? = some (.ref (ad 187)) := h.2.2.2.1
theorem mF_matrix {ad : Nat → Nat} {fs : List Value} (h : mF ad fs) : fs[6]? = some (.ref (ad 188)) := h.2.2.2.2.1
theorem mF_data {ad : Nat → Nat} {fs : List Value} (h : mF ad fs) : fs[7]? = some (.ref (ad 189)) := h.2.2.2.2.2.1
theorem mF_printed {ad : Nat → Nat} {fs : List Value} (h : mF ad fs) : fs[9]? = some (.ref (ad 190)) := h.2.2.2.2.2.2.1
theorem mF_digits {ad : Nat → Nat} {fs : List Value} (h : mF ad fs) : fs[11]? = some (.ref (ad 191)) := h.2.2.2.2.2.2.2
theorem rb_at {P L M : Nat → Int32} {w n : Nat} (h2 : L w = nI n) : L w = nI n := h2
/-- what is written into a number: it is w's, in n parts -/
theorem rb_mk {P L M : Nat → Int32} {w n : Nat} {x : Int} (h1 : n ≤ 300) (h2 : L w = nI n) (h3 : rg_ok P (300 * w) n) (h4 : 0 < n → P (300 * w + (n - 1)) ≠ 0) (h5 : (M w = 0 ∧ x = rg P (300 * w) n) ∨ (M w = 1 ∧ x = -rg P (300 * w) n)) : rb P L M w x := ⟨n, h1, h2, h3, h4, h5⟩
theorem upd_s {f : Nat → Int32} {k : Nat} {x : Int32} : upd f k x k = x := if_pos rfl
theorem upd_n {f : Nat → Int32} {k j : Nat} {x : Int32} (h : j ≠ k) : upd f k x j = f j := if_neg h
/-- bigSet's loop -/
theorem rs_step {P : Nat → Int32} {o i u u0 : Nat} (hu : (rg P o i) + (u : Int) * 16777216 ^ i = (u0 : Int)) (hok : rg_ok P o i) :
    rg_ok (upd P (o + i) (nI (u % 16777216))) o (i + 1) ∧ rg (upd P (o + i) (nI (u % 16777216))) o (i + 1) + ((u / 16777216 : Nat) : Int) * 16777216 ^ (i + 1) = (u0 : Int) := by
  have hv : (nI (u % 16777216)).toInt = ((u % 16777216 : Nat) : Int) := nI_toInt (by omega)
  obtain ⟨h1, h2⟩ := rg_push (P := P) (v := nI (u % 16777216)) hok (by rw [hv]; omega)
  refine ⟨h1, ?_⟩
  rw [h2, hv, Int.pow_succ]
  have e : (u : Int) = ((u % 16777216 : Nat) : Int) + ((u / 16777216 : Nat) : Int) * 16777216 := by omega
  rw [e] at hu
  grind
theorem rs_few {P : Nat → Int32} {o i u u0 : Nat} (hu : (rg P o i) + (u : Int) * 16777216 ^ i = (u0 : Int)) (hok : rg_ok P o i) (h0 : u ≠ 0) (hb : u0 < 2 ^ 64) : i ≤ 2 := by
  rcases Nat.lt_or_ge 2 i with h | h
  · have h1 := (rg_range hok).1
    have h2 : (16777216 : Int) ^ 3 ≤ 16777216 ^ i := by
      obtain ⟨d, rfl⟩ : ∃ d, i = 3 + d := ⟨i - 3, by omega⟩
      rw [Int.pow_add]
      have := rg_B d
      have := Int.mul_le_mul_of_nonneg_left (show (1 : Int) ≤ 16777216 ^ d by omega) (show (0 : Int) ≤ 16777216 ^ 3 by decide)
      omega
    have h3 : (16777216 : Int) ^ i ≤ (u : Int) * 16777216 ^ i := by
      have := Int.mul_le_mul_of_nonneg_right (show (1 : Int) ≤ (u : Int) by omega) (Int.le_of_lt (rg_B i))
      omega
    have h4 : (16777216 : Int) ^ 3 = 4722366482869645213696 := by decide
    omega
  · exact h
theorem upd_upd {f : Nat → Int32} {k : Nat} {x y : Int32} : upd (upd f k x) k y = upd f k y := by
  funext j
  simp only [upd]
  split <;> rfl
theorem upd_same {f : Nat → Int32} {k : Nat} {x : Int32} (h : f k = x) : upd f k x = f := by
  funext j
  simp only [upd]
  split
  · next e => rw [e, h]
  · rfl
end
section
/-! digits to the base 2^24, followed by zeros -/
def dg (P : Nat → Int32) (o n j : Nat) : Int := if j < n then (P (o + j)).toInt else 0
def dv (f : Nat → Int) : Nat → Int
  | 0 => 0
  | i + 1 => dv f i + f i * 16777216 ^ i
theorem dv_in {P : Nat → Int32} {o n : Nat} : ∀ {i : Nat}, i ≤ n → dv (dg P o n) i = rg P o i
  | 0, _ => rfl
  | i + 1, h => by rw [dv, rg, dv_in (by omega), dg, if_pos (by omega)]
theorem dv_out {P : Nat → Int32} {o n : Nat} : ∀ {d : Nat}, dv (dg P o n) (n + d) = rg P o n
  | 0 => dv_in (Nat.le_refl _)
  | d + 1 => by rw [← Nat.add_assoc, dv, dv_out, dg, if_neg (by omega)]; simp
theorem dv_all {P : Nat → Int32} {o n i : Nat} (h : n ≤ i) : dv (dg P o n) i = rg P o n := by
  obtain ⟨d, rfl⟩ : ∃ d, i = n + d := ⟨i - n, by omega⟩
  exact dv_out
theorem dg_range {P : Nat → Int32} {o n j : Nat} (h : rg_ok P o n) : 0 ≤ dg P o n j ∧ dg P o n j < 16777216 := by
  unfold dg
  split
  · next hj => exact h j hj
  · decide
/-- bigAt's answer as a natural -/
theorem dg_nat {P : Nat → Int32} {o n j : Nat} {r : Int32} (h : rg_ok P o n) (hr : r = if j < n then P (o + j) else 0) : ∃ x : Nat, x < 16777216 ∧ r = nI x ∧ dg P o n j = (x : Int) := by
  have hd := dg_range (j := j) h
  have e : r.toInt = dg P o n j := by
    rw [hr]
    unfold dg
    split <;> rfl
  refine ⟨r.toInt.toNat, by omega, ?_, by omega⟩
  apply q_iinj
  rw [nI_toInt (by omega)]
  omega
theorem rg_conv {P : Nat → Int32} {o k : Nat} (h : rg_ok P o (k + 1)) (hv : 16777216 ^ k ≤ rg P o (k + 1)) : P (o + k) ≠ 0 := by
  intro e
  have h1 := (rg_range (rg_ok_le h (Nat.le_succ k))).2
  rw [rg, e] at hv
  simp at hv
  omega
theorem more_step {P : Nat → Int32} {o i c c' v : Nat} {f g : Nat → Int} (hok : rg_ok P o i) (hv : v < 16777216) (inv : rg P o i + (c : Int) * 16777216 ^ i = dv f i + dv g i) (h : f i + g i + (c : Int) = (v : Int) + (c' : Int) * 16777216) :
    rg_ok (upd P (o + i) (nI v)) o (i + 1) ∧ rg (upd P (o + i) (nI v)) o (i + 1) + (c' : Int) * 16777216 ^ (i + 1) = dv f (i + 1) + dv g (i + 1) := by
  have e : (nI v).toInt = (v : Int) := nI_toInt (by omega)
  obtain ⟨h1, h2⟩ := rg_push (P := P) (v := nI v) hok (by rw [e]; omega)
  refine ⟨h1, ?_⟩
  rw [h2, e, dv, dv, Int.pow_succ]
  grind
theorem less_step {P : Nat → Int32} {o i b b' v : Nat} {f g : Nat → Int} (hok : rg_ok P o i) (hv : v < 16777216) (inv : rg P o i = dv f i - dv g i + (b : Int) * 16777216 ^ i) (h : f i - g i - (b : Int) = (v : Int) - (b' : Int) * 16777216) :
    rg_ok (upd P (o + i) (nI v)) o (i + 1) ∧ rg (upd P (o + i) (nI v)) o (i + 1) = dv f (i + 1) - dv g (i + 1) + (b' : Int) * 16777216 ^ (i + 1) := by
  have e : (nI v).toInt = (v : Int) := nI_toInt (by omega)
  obtain ⟨h1, h2⟩ := rg_push (P := P) (v := nI v) hok (by rw [e]; omega)
  refine ⟨h1, ?_⟩
  rw [h2, e, dv, dv, Int.pow_succ]
  grind
/-- the size of the number w becomes y; its sign stays -/
def rm_up (σ0 : Nat → va_E) (ci : Nat) (cI cZ : ClassId) (fs : List Value) (P L M : Nat → Int32) (w : Nat) (y : Int) : (Nat → va_E) → Prop := fun σ' =>
  ∃ (P' : Nat → Int32) (n' : Nat), σ' = rw3 σ0 ci cI cZ fs P' (upd L w (nI n')) M ∧ n' ≤ 300 ∧ (∀ j, j < 300 * w ∨ 300 * w + 300 ≤ j → P' j = P j) ∧ rg_ok P' (300 * w) n' ∧ (0 < n' → P' (300 * w + (n' - 1)) ≠ 0) ∧ rg P' (300 * w) n' = y
theorem rg_lt_len {P Q : Nat → Int32} {o q a b : Nat} (ha : rg_ok P o a) (hb : rg_ok Q q b) (hab : a < b) (ht : 0 < b → Q (q + (b - 1)) ≠ 0) : rg P o a < rg Q q b := by
  have h1 := (rg_range ha).2
  have h2 := rg_top hb (by omega) (ht (by omega))
  have h3 : (16777216 : Int) ^ a ≤ 16777216 ^ (b - 1) := by
    obtain ⟨d, e⟩ : ∃ d, b - 1 = a + d := ⟨b - 1 - a, by omega⟩
    rw [e, Int.pow_add]
    have := rg_B d
    have := rg_B a
    have := Int.mul_le_mul_of_nonneg_left (show (1 : Int) ≤ 16777216 ^ d by omega) (show (0 : Int) ≤ 16777216 ^ a by omega)
    omega
  omega
/-- two numbers of one length that agree above place i: the part there decides -/
theorem rg_lt_at {P Q : Nat → Int32} {o q i : Nat} : ∀ {n : Nat}, i < n → rg_ok P o n → rg_ok Q q n → (∀ j, i < j → j < n → P (o + j) = Q (q + j)) → (P (o + i)).toInt < (Q (q + i)).toInt → rg P o n < rg Q q n
  | 0, h, _, _, _, _ => absurd h (Nat.not_lt_zero _)
  | n + 1, h, h1, h2, h3, h4 => by
    rw [rg, rg]
    by_cases e : i = n
    · subst e
      have a := (rg_range (rg_ok_le h1 (Nat.le_succ i))).2
      have b := (rg_range (rg_ok_le h2 (Nat.le_succ i))).1
      have := Int.mul_le_mul_of_nonneg_right (show (P (o + i)).toInt + 1 ≤ (Q (q + i)).toInt by omega) (Int.le_of_lt (rg_B i))
      rw [Int.add_mul] at this
      omega
    · have := rg_lt_at (show i < n by omega) (rg_ok_le h1 (Nat.le_succ n)) (rg_ok_le h2 (Nat.le_succ n)) (fun j a b => h3 j a (by omega)) h4
      rw [h3 n (by omega) (by omega)]
      omega
theorem rg_eq_all {P Q : Nat → Int32} {o q n : Nat} (h : ∀ j, j < n → P (o + j) = Q (q + j)) : rg P o n = rg Q q n := rg_congr h
theorem more_top {P P2 : Nat → Int32} {o q a b i : Nat} (hok : rg_ok P2 o i) (h : 0 < i) (inv : rg P2 o i = rg P o a + rg P q b) (hwo : rg_ok P o a) (huo : rg_ok P q b) (hwt : 0 < a → P (o + (a - 1)) ≠ 0) (hut : 0 < b → P (q + (b - 1)) ≠ 0) (hmx : (a = i ∧ b ≤ i) ∨ (b = i ∧ a ≤ i)) : P2 (o + (i - 1)) ≠ 0 := by
  obtain ⟨k, rfl⟩ : ∃ k, i = k + 1 := ⟨i - 1, by omega⟩
  show P2 (o + k) ≠ 0
  refine rg_conv hok ?_
  have ha := (rg_range hwo).1
  have hb := (rg_range huo).1
  rcases hmx with ⟨e, -⟩ | ⟨e, -⟩
  · subst e
    have := rg_top hwo (by omega) (hwt (by omega))
    rw [Nat.add_sub_cancel] at this
    omega
  · subst e
    have := rg_top huo (by omega) (hut (by omega))
    rw [Nat.add_sub_cancel] at this
    omega
theorem rb_len {P : Nat → Int32} {o n k : Nat} (hok : rg_ok P o n) (ht : 0 < n → P (o + (n - 1)) ≠ 0) (hk : rg P o n < 16777216 ^ k) : n ≤ k := by
  rcases Nat.lt_or_ge k n with h | h
  · have h1 := rg_top hok (by omega) (ht (by omega))
    have h3 : (16777216 : Int) ^ k ≤ 16777216 ^ (n - 1) := by
      obtain ⟨d, e⟩ : ∃ d, n - 1 = k + d := ⟨n - 1 - k, by omega⟩
      rw [e, Int.pow_add]
      have := rg_B d
      have := rg_B k
      have := Int.mul_le_mul_of_nonneg_left (show (1 : Int) ≤ 16777216 ^ d by omega) (show (0 : Int) ≤ 16777216 ^ k by omega)
      omega
    omega
  · exact h
/-- the bound that all numbers of the reference keep -/
def rBB : Int := 16777216 ^ 299
def rbd (x : Int) : Prop := -rBB < x ∧ x < rBB
theorem rm_rb {σ0 σ' : Nat → va_E} {ci : Nat} {cI cZ : ClassId} {fs : List Value} {P L M : Nat → Int32} {w : Nat} {x y : Int} (h : rm_up σ0 ci cI cZ fs P L M w y σ') (hs : (M w = 0 ∧ x = y) ∨ (M w = 1 ∧ x = -y)) : rb_up σ0 ci cI cZ fs P L M w x σ' := by
  obtain ⟨P', n', e, h1, h2, h3, h4, h5⟩ := h
  exact ⟨P', upd L w (nI n'), M, e, ⟨h2, fun j hj => upd_n hj, fun _ _ => rfl⟩, n', h1, upd_s, h3, h4, by rw [h5]; exact hs⟩
theorem sg_neg {x : Int} : sg x < 0 ↔ x < 0 := by
  unfold sg
  constructor
  · intro h
    rcases Int.lt_or_le x 0 with h1 | h1
    · exact h1
    · rw [if_neg (by omega)] at h
      split at h <;> exact absurd h (by decide)
  · intro h
    rw [if_pos h]
    decide
theorem rg_set {P : Nat → Int32} {o d : Nat} {v : Int32} : ∀ {n : Nat}, d < n → rg (upd P (o + d) v) o n = rg P o n + (v.toInt - (P (o + d)).toInt) * 16777216 ^ d
  | 0, h => absurd h (Nat.not_lt_zero _)
  | n + 1, h => by
    rw [rg, rg]
    by_cases e : d = n
    · subst e
      rw [rg_upd (by omega), upd_s]
      grind
    · rw [rg_set (show d < n by omega), upd_n (show o + n ≠ o + d by omega)]
      grind
theorem rg_nat {P : Nat → Int32} {o n j : Nat} (h : rg_ok P o n) (hj : j < n) : ∃ x : Nat, x < 16777216 ∧ P (o + j) = nI x ∧ (P (o + j)).toInt = (x : Int) := by
  have h1 := h j hj
  refine ⟨(P (o + j)).toInt.toNat, by omega, ?_, by omega⟩
  apply q_iinj
  rw [nI_toInt (by omega)]
  omega
theorem rg_zero {P : Nat → Int32} {o : Nat} : ∀ {n : Nat}, (∀ j, j < n → P (o + j) = 0) → rg P o n = 0
  | 0, _ => rfl
  | n + 1, h => by
    rw [rg, rg_zero (fun j hj => h j (by omega)), h n (by omega)]
    simp
/-- one place of a product -/
theorem prod_step {P : Nat → Int32} {o n i j cy x y z : Nat} {V : Int} {a b : Nat → Int} (hd : i + j < n) (hz : (P (o + (i + j))).toInt = (z : Int)) (inv : rg P o n + (cy : Int) * 16777216 ^ (i + j) = V + (x : Int) * dv b j * 16777216 ^ i) (hb : b j = (y : Int)) :
    rg (upd P (o + (i + j)) (nI ((cy + z + x * y) % 16777216))) o n + (((cy + z + x * y) / 16777216 : Nat) : Int) * 16777216 ^ (i + (j + 1)) = V + (x : Int) * dv b (j + 1) * 16777216 ^ i := by
  rw [rg_set hd, hz, nI_toInt (by omega), dv, hb]
  have e1 : (16777216 : Int) ^ (i + (j + 1)) = 16777216 ^ (i + j) * 16777216 := by rw [← Nat.add_assoc, Int.pow_succ]
  have e2 : (16777216 : Int) ^ (i + j) = 16777216 ^ i * 16777216 ^ j := Int.pow_add ..
  have e3 : (((cy + z + x * y) % 16777216 : Nat) : Int) + (((cy + z + x * y) / 16777216 : Nat) : Int) * 16777216 = (cy : Int) + z + x * y := by
    have : (x : Int) * y = ((x * y : Nat) : Int) := by simp
    omega
  rw [e1]
  rw [e2] at inv ⊢
  generalize (((cy + z + x * y) % 16777216 : Nat) : Int) = r at *
  generalize (((cy + z + x * y) / 16777216 : Nat) : Int) = q at *
  grind
theorem prod_carry {cy z x y : Nat} (h1 : cy < 16777216) (h2 : z < 16777216) (h3 : x < 16777216) (h4 : y < 16777216) : cy + z + x * y < 281474976710656 ∧ (cy + z + x * y) / 16777216 < 16777216 := by
  have : x * y ≤ 16777215 * 16777215 := Nat.mul_le_mul (by omega) (by omega)
  omega
end
section
/-! the class's polynomials: the cell i and the nine behind it -/
def pl_g (ad : Nat → Nat) (i : Nat) : Nat → Option Nat := fun k => if k < 7 then some (ad (i + 2 + k)) else none
def pl (ad : Nat → Nat) (cI cG : ClassId) (σ : Nat → va_E) (i most dgr lbs : Nat) (F : Nat → Nat → Int32) (sp : Nat → Int32) : Prop :=
  σ i = .inr (ciP, [.ref (ad (i + 1)), .ref (ad (i + 9)), .int (nI dgr), .int (nI lbs)]) ∧ σ (i + 1) = .inl (cG, 7, .inr (.inr (.inr (.inr (pl_g ad i))))) ∧ (∀ k, k < 7 → σ (i + 2 + k) = .inl (cI, most, .inl (F k))) ∧ σ (i + 9) = .inl (cI, most, .inl sp)
section PL
variable {ad : Nat → Nat} {cI cG : ClassId} {σ : Nat → va_E} {i most dgr lbs : Nat} {F : Nat → Nat → Int32} {sp : Nat → Int32}
theorem pl_o (h : pl ad cI cG σ i most dgr lbs F sp) : σ i = .inr (ciP, [.ref (ad (i + 1)), .ref (ad (i + 9)), .int (nI dgr), .int (nI lbs)]) := h.1
theorem pl_c (h : pl ad cI cG σ i most dgr lbs F sp) : σ (i + 1) = .inl (cG, 7, .inr (.inr (.inr (.inr (pl_g ad i))))) := h.2.1
theorem pl_r (h : pl ad cI cG σ i most dgr lbs F sp) {k : Nat} (hk : k < 7) : σ (i + 2 + k) = .inl (cI, most, .inl (F k)) := h.2.2.1 k hk
theorem pl_s (h : pl ad cI cG σ i most dgr lbs F sp) : σ (i + 9) = .inl (cI, most, .inl sp) := h.2.2.2
theorem pl_at {k : Nat} (hk : k < 7) : pl_g ad i k = some (ad (i + 2 + k)) := if_pos hk
theorem pl_row (h : pl ad cI cG σ i most dgr lbs F sp) {k : Nat} (hk : k < 7) (f : Nat → Int32) : pl ad cI cG (va_up σ (i + 2 + k) (.inl (cI, most, .inl f))) i most dgr lbs (va_up F k f) sp := by
  refine ⟨(va_up_ne _ _ (by omega)).trans h.1, (va_up_ne _ _ (by omega)).trans h.2.1, fun j hj => ?_, (va_up_ne _ _ (by omega)).trans h.2.2.2⟩
  by_cases e : j = k
  · subst e
    rw [va_up_self, va_up_self]
  · rw [va_up_ne _ _ (by omega), va_up_ne _ _ e]
    exact h.2.2.1 j hj
theorem pl_spare (h : pl ad cI cG σ i most dgr lbs F sp) (f : Nat → Int32) : pl ad cI cG (va_up σ (i + 9) (.inl (cI, most, .inl f))) i most dgr lbs F f := by
  refine ⟨(va_up_ne _ _ (by omega)).trans h.1, (va_up_ne _ _ (by omega)).trans h.2.1, fun j hj => ?_, va_up_self _ _ _⟩
  rw [va_up_ne _ _ (by omega)]
  exact h.2.2.1 j hj
theorem pl_else (h : pl ad cI cG σ i most dgr lbs F sp) {k : Nat} (hk : k < i ∨ i + 10 ≤ k) (e : va_E) : pl ad cI cG (va_up σ k e) i most dgr lbs F sp := by
  refine ⟨(va_up_ne _ _ (by omega)).trans h.1, (va_up_ne _ _ (by omega)).trans h.2.1, fun j hj => ?_, (va_up_ne _ _ (by omega)).trans h.2.2.2⟩
  rw [va_up_ne _ _ (by omega)]
  exact h.2.2.1 j hj
theorem pl_fields (h : pl ad cI cG σ i most dgr lbs F sp) (d2 l2 : Nat) : pl ad cI cG (va_up σ i (.inr (ciP, [.ref (ad (i + 1)), .ref (ad (i + 9)), .int (nI d2), .int (nI l2)]))) i most d2 l2 F sp := by
  refine ⟨va_up_self _ _ _, (va_up_ne _ _ (by omega)).trans h.2.1, fun j hj => ?_, (va_up_ne _ _ (by omega)).trans h.2.2.2⟩
  rw [va_up_ne _ _ (by omega)]
  exact h.2.2.1 j hj
theorem pl_same {σ' : Nat → va_E} (h : pl ad cI cG σ i most dgr lbs F sp) (hs : ∀ q, i ≤ q → q < i + 10 → σ' q = σ q) : pl ad cI cG σ' i most dgr lbs F sp :=
  ⟨(hs _ (by omega) (by omega)).trans h.1, (hs _ (by omega) (by omega)).trans h.2.1, fun j hj => (hs _ (by omega) (by omega)).trans (h.2.2.1 j hj), (hs _ (by omega) (by omega)).trans h.2.2.2⟩
end PL
/-- rows and spare of the polynomial i alone have changed -/
def pl_fr (σ σ' : Nat → va_E) (i : Nat) : Prop := ∀ q, q < i + 2 ∨ i + 10 ≤ q → σ' q = σ q
theorem pl_fr_rf {σ : Nat → va_E} {i : Nat} : pl_fr σ σ i := fun _ _ => rfl
theorem pl_fr_up {σ σ' : Nat → va_E} {i k : Nat} {e : va_E} (h : pl_fr σ σ' i) (hk : i + 2 ≤ k ∧ k < i + 10) : pl_fr σ (va_up σ' k e) i := fun q hq => (va_up_ne _ _ (by omega)).trans (h q hq)
/-- the coefficients -/
def pl_is (F : Nat → Nat → Int32) (dgr lbs : Nat) (p : Nat → Int) : Prop := ∀ k, k ≤ dgr → lm_is (F k) lbs (p k)
/-- a polynomial's rows become p' -/
def pl_up (ad : Nat → Nat) (cI cG : ClassId) (σ : Nat → va_E) (i most dgr lbs : Nat) (p : Nat → Int) : (Nat → va_E) → Prop := fun σ' =>
  ∃ (F : Nat → Nat → Int32) (sp : Nat → Int32), pl_fr σ σ' i ∧ pl ad cI cG σ' i most dgr lbs F sp ∧ pl_is F dgr lbs p
/-! what the moves of a polynomial do to its numbers -/
/-- j steps of a sweep from above: p_k + v p_(k+1) for k = d - 1, d - 2 .. -/
def swp (v : Int) (d : Nat) (p : Nat → Int) : Nat → Nat → Int
  | 0 => p
  | j + 1 => va_up (swp v d p j) (d - 1 - j) (swp v d p j (d - 1 - j) + v * swp v d p j (d - j))
/-- i sweeps -/
def low (v : Int) (d : Nat) (p : Nat → Int) : Nat → Nat → Int
  | 0 => p
  | i + 1 => swp v d (low v d p i) (d - i)
/-- p((t + top) / bottom), times bottom to the d -/
def mul (b : Int) (d : Nat) (p : Nat → Int) : Nat → Int := fun k => if k ≤ d then p k * b ^ (d - k) else p k
theorem lm_is_zero {f : Nat → Int32} {n : Nat} (h : ∀ j, j < n → f j = nI 0) : lm_is f n 0 := by
  have hok : lm_ok f n := fun j hj => by rw [h j hj]; decide
  exact ⟨hok, 0, by rw [lm_u_zero hok (fun j hj => h j hj)]; simp⟩
/-- the first a coefficients of multiplyRoots are done -/
def mulp (v : Int) (d : Nat) (p : Nat → Int) (a : Nat) : Nat → Int := fun k => if k < a then p k * v ^ (d - k) else p k
/-- the numbers fit their limbs, with their signs -/
def pl_sz (d lbs : Nat) (p : Nat → Int) : Prop := ∀ k, k ≤ d → -(1073741824 ^ lbs) ≤ 2 * p k ∧ 2 * p k < 1073741824 ^ lbs
/-- how many zeros at 0: the first k from a on, of d - a, whose number isn't 0 -/
def ez (p : Nat → Int) (a : Nat) : Nat → Nat
  | 0 => a
  | k + 1 => if p a = 0 then ez p (a + 1) k else a
/-- the changes of sign from above, behind the sign lt -/
def ra (p : Nat → Int) (lt : Int32) : Nat → Nat
  | 0 => 0
  | k + 1 => if sg (p k) = -lt then ra p (sg (p k)) k + 1 else ra p lt k
def lessI (p : Nat → Int) (d : Nat) : Int32 := nI d - nI (ez p 0 d) - nI (ra p (nI 1) (d + 1))
theorem sg_zero {x : Int} : sg x = 0 ↔ x = 0 := by
  unfold sg
  constructor
  · intro h
    rcases Int.lt_or_le x 0 with h1 | h1
    · rw [if_pos h1] at h; exact absurd h (by decide)
    · rw [if_neg (by omega)] at h
      split at h
      · assumption
      · exact absurd h (by decide)
  · intro h
    rw [h]
    rfl
/-- where a polynomial is loaded: its ten cells alone change -/
def pl_fr10 (σ σ' : Nat → va_E) (i : Nat) : Prop := ∀ q, q < i ∨ i + 10 ≤ q → σ' q = σ q
end
section
/-! the reference's fields and rows -/
abbrev mfs (ad : Nat → Nat) (th nn rws ps le eq : Int32) : List Value := [.ref (ad 184), .ref (ad 185), .ref (ad 186), .ref (ad 187), .int th, .int nn, .ref (ad 188), .ref (ad 189), .int rws, .ref (ad 190), .int ps, .ref (ad 191), .int le, .int eq]
theorem mfs_ok {ad : Nat → Nat} {th nn rws ps le eq : Int32} : mF ad (mfs ad th nn rws ps le eq) := ⟨rfl, rfl, rfl, rfl, rfl, rfl, rfl, rfl⟩
theorem r_o {σ0 : Nat → va_E} {ci : Nat} {cI cZ : ClassId} {fs : List Value} {P L M : Nat → Int32} {k : Nat} (h : k < 183 ∨ 186 < k) : rw3 σ0 ci cI cZ fs P L M k = σ0 k := by
  simp only [rw3]
  rw [if_neg (by omega), if_neg (by omega), if_neg (by omega), if_neg (by omega)]
theorem q_div8 {a : Nat} (h : a < 1000) : nI (8 * a) / nI 8 = nI a := by
  rw [pk_div (by omega) (by decide) (by decide)]
  congr 1
  omega
theorem nP_nlt {k c : Nat} (h : k < c) (hc : c < 2 ^ 31) : ¬ nP c < nI k := by
  obtain ⟨d, rfl⟩ : ∃ d, c = d + 1 := ⟨c - 1, by omega⟩
  rw [nP_succ]
  exact nI_nlt (by omega) (by omega)
/-- the numbers of the reference become X' -/
def RU (σ0 : Nat → va_E) (cI cZ : ClassId) (fs : List Value) (X' : Nat → Int) : (Nat → va_E) → Prop := fun σ' =>
  ∃ P' L' M' : Nat → Int32, σ' = rw3 σ0 ciM cI cZ fs P' L' M' ∧ RB P' L' M' X'
def cpX (X : Nat → Int) (r q c : Nat) : Nat → Int := fun k => if r ≤ k ∧ k < r + c then X (q + (k - r)) else X k
theorem cpX_0 {X : Nat → Int} {r q : Nat} : cpX X r q 0 = X := by
  funext k
  simp only [cpX]
  rw [if_neg (by omega)]
theorem cpX_s {X : Nat → Int} {r q c : Nat} : va_up (cpX X r q c) (r + c) (X (q + c)) = cpX X r q (c + 1) := by
  funext k
  simp only [cpX, va_up]
  by_cases h : k = r + c
  · rw [if_pos h, if_pos (by omega), h, show q + (r + c - r) = q + c by omega]
  · rw [if_neg h]
    by_cases h2 : r ≤ k ∧ k < r + c
    · rw [if_pos h2, if_pos (by omega)]
    · rw [if_neg h2, if_neg (by omega)]
/-- numbers that are small enough to be multiplied -/
def sBB : Int := 16777216 ^ 100
def sm (x : Int) : Prop := -sBB < x ∧ x < sBB
theorem sBB_pos : 0 < sBB := rg_B 100
theorem sm_rbd {x : Int} (h : sm x) : rbd x := by
  have e : rBB = sBB * 16777216 ^ 199 := Int.pow_add (16777216 : Int) 100 199
  have h1 := rg_B 199
  have h2 := sBB_pos
  have h3 := Int.mul_le_mul_of_nonneg_left (show (1 : Int) ≤ 16777216 ^ 199 by omega) (Int.le_of_lt h2)
  have h4 : -sBB < x := h.1
  have h5 : x < sBB := h.2
  constructor <;> omega
theorem sm_mul {x y : Int} (hx : sm x) (hy : sm y) : rbd (x * y) := by
  have e : rBB = sBB * (sBB * 16777216 ^ 99) := by
    have e1 : rBB = sBB * 16777216 ^ 199 := Int.pow_add (16777216 : Int) 100 199
    have e2 : (16777216 : Int) ^ 199 = sBB * 16777216 ^ 99 := Int.pow_add (16777216 : Int) 100 99
    rw [e1, e2]
  have h1 := rg_B 99
  have h2 := sBB_pos
  have hx1 : -sBB < x := hx.1
  have hx2 : x < sBB := hx.2
  have hy1 : -sBB < y := hy.1
  have hy2 : y < sBB := hy.2
  have h3 : sBB * sBB ≤ rBB := by
    rw [e]
    refine Int.mul_le_mul_of_nonneg_left ?_ (Int.le_of_lt h2)
    have := Int.mul_le_mul_of_nonneg_left (show (1 : Int) ≤ 16777216 ^ 99 by omega) (Int.le_of_lt h2)
    omega
  have hS : x * y < sBB * sBB ∧ -(sBB * sBB) < x * y := by
    generalize sBB = S at *
    have a1 : 0 ≤ (S - x) * (S + y) := Int.mul_nonneg (by omega) (by omega)
    have a2 : 0 ≤ (S + x) * (S - y) := Int.mul_nonneg (by omega) (by omega)
    have a3 : 0 ≤ (S - x) * (S - y) := Int.mul_nonneg (by omega) (by omega)
    have a4 : 0 ≤ (S + x) * (S + y) := Int.mul_nonneg (by omega) (by omega)
    have b1 : 0 < (S - x) * (S + y) := Int.mul_pos (by omega) (by omega)
    have b2 : 0 < (S + x) * (S - y) := Int.mul_pos (by omega) (by omega)
    have b3 : 0 < (S - x) * (S - y) := Int.mul_pos (by omega) (by omega)
    have b4 : 0 < (S + x) * (S + y) := Int.mul_pos (by omega) (by omega)
    constructor <;> grind
  constructor <;> omega
theorem rb_sm {P L M : Nat → Int32} {w : Nat} {x : Int} (h : rb P L M w x) (hx : sm x) : ∃ n, n ≤ 100 ∧ L w = nI n := by
  obtain ⟨n, h1, h2, h3, h4, h5⟩ := h
  have hr := (rg_range h3).1
  refine ⟨n, rb_len h3 h4 (show _ < sBB from ?_), h2⟩
  have hx1 : -sBB < x := hx.1
  have hx2 : x < sBB := hx.2
  omega
/-- agreement but for the number 106 -/
def eqX (X Y : Nat → Int) : Prop := ∀ w, w ≠ 106 → X w = Y w
def mvX (X : Nat → Int) (d : Nat) (f : Nat → Int) : Nat → Int := fun w => if 32 ≤ w ∧ w ≤ 32 + d then f (w - 32) else X w
theorem mvX_in {X : Nat → Int} {d k : Nat} {f : Nat → Int} (h : k ≤ d) : mvX X d f (32 + k) = f k := by
  simp only [mvX]
  rw [if_pos (by omega), show 32 + k - 32 = k by omega]
theorem mvX_out {X : Nat → Int} {d w : Nat} {f : Nat → Int} (h : w < 32 ∨ 32 + d < w) : mvX X d f w = X w := by
  simp only [mvX]
  rw [if_neg (by omega)]
theorem mvX_set {X Y : Nat → Int} {d k : Nat} {f : Nat → Int} {v z : Int} (hd : d ≤ 7) (h : k ≤ d) (e : eqX Y (mvX X d f)) : eqX (va_up (va_up Y 106 z) (32 + k) v) (mvX X d (va_up f k v)) := by
  intro w hw
  by_cases h1 : w = 32 + k
  · subst h1
    rw [va_up_self, mvX_in h, va_up_self]
  · rw [va_up_ne _ _ h1, va_up_ne _ _ hw, e w hw]
    simp only [mvX]
    by_cases h2 : 32 ≤ w ∧ w ≤ 32 + d
    · rw [if_pos h2, if_pos h2, va_up_ne _ _ (by omega)]
    · rw [if_neg h2, if_neg h2]
/-- k passes of the reference's products -/
def mA (b : Int) (p : Nat → Int) (k : Nat) : Nat → Int := fun j => if j < k then p j * b ^ (k - j) else p j
def mAe (b : Int) (p : Nat → Int) (k e : Nat) : Nat → Int := fun j => if j < e then mA b p (k + 1) j else mA b p k j
theorem mAe_0 {b : Int} {p : Nat → Int} {k : Nat} : mAe b p k 0 = mA b p k := by
  funext j
  simp [mAe]
theorem mAe_s {b : Int} {p : Nat → Int} {k e : Nat} (h : e ≤ k) : va_up (mAe b p k e) e (mAe b p k e e * b) = mAe b p k (e + 1) := by
  funext j
  simp only [va_up, mAe]
  by_cases h1 : j = e
  · subst h1
    rw [if_pos rfl, if_neg (Nat.lt_irrefl _), if_pos (Nat.lt_succ_self _)]
    simp only [mA]
    rw [if_pos (show j < k + 1 by omega)]
    by_cases h2 : j < k
    · rw [if_pos h2, show k + 1 - j = (k - j) + 1 by omega, Int.pow_succ, Int.mul_assoc]
    · rw [if_neg h2, show k + 1 - j = 1 by omega, Int.pow_one]
  · rw [if_neg h1]
    by_cases h2 : j < e
    · rw [if_pos h2, if_pos (by omega)]
    · rw [if_neg h2, if_neg (by omega)]
theorem mAe_e {b : Int} {p : Nat → Int} {k : Nat} : mAe b p k (k + 1) = mA b p (k + 1) := by
  funext j
  simp only [mAe]
  by_cases h : j < k + 1
  · rw [if_pos h]
  · rw [if_neg h]
    simp only [mA]
    rw [if_neg (by omega), if_neg (by omega)]
theorem mA_mulp {b : Int} {p : Nat → Int} {d : Nat} : mA b p d = mulp b d p d := rfl
/-- changes of sign from below: n numbers from k on, behind the sign bf -/
def fa (p : Nat → Int) (bf : Int32) (k : Nat) : Nat → Nat
  | 0 => 0
  | n + 1 => (if sg (p k) * bf < 0 then 1 else 0) + fa p (if sg (p k) = 0 then bf else sg (p k)) (k + 1) n
end
section
/-! SpectrumDesk$Limbs: addTimes, sign (written by wip/gen) -/
abbrev b_Limbs_addTimes : ByteArray := prog_4_method_6_code
abbrev y_Limbs_addTimes : MethodName := ⟨"SpectrumDesk$Limbs", "addTimes", "([I[IJII)V"⟩
abbrev v_Limbs_addTimes : List Cond := Cond.code y_Limbs_addTimes b_Limbs_addTimes 9 none :: AW
theorem d_Limbs_addTimes_0 : decode b_Limbs_addTimes 0 = .ok (.lload_n 2, 1) := by decide +kernel
theorem d_Limbs_addTimes_1 : decode b_Limbs_addTimes 1 = .ok (.lconst 0, 1) := by decide +kernel
theorem d_Limbs_addTimes_2 : decode b_Limbs_addTimes 2 = .ok (.lcmp, 1) := by decide +kernel
theorem d_Limbs_addTimes_3 : decode b_Limbs_addTimes 3 = .ok (.ifCond .ne (4), 3) := by decide +kernel
theorem d_Limbs_addTimes_6 : decode b_Limbs_addTimes 6 = .ok (.return_, 1) := by decide +kernel
theorem d_Limbs_addTimes_7 : decode b_Limbs_addTimes 7 = .ok (.lconst 0, 1) := by decide +kernel
theorem d_Limbs_addTimes_8 : decode b_Limbs_addTimes 8 = .ok (.lstore 6, 2) := by decide +kernel
theorem d_Limbs_addTimes_10 : decode b_Limbs_addTimes 10 = .ok (.iload 4, 2) := by decide +kernel
theorem d_Limbs_addTimes_12 : decode b_Limbs_addTimes 12 = .ok (.istore 8, 2) := by decide +kernel
theorem d_Limbs_addTimes_14 : decode b_Limbs_addTimes 14 = .ok (.iload 8, 2) := by decide +kernel
theorem d_Limbs_addTimes_16 : decode b_Limbs_addTimes 16 = .ok (.iload 5, 2) := by decide +kernel
theorem d_Limbs_addTimes_18 : decode b_Limbs_addTimes 18 = .ok (.if_icmp .ge (48), 3) := by decide +kernel
theorem d_Limbs_addTimes_21 : decode b_Limbs_addTimes 21 = .ok (.lload 6, 2) := by decide +kernel
theorem d_Limbs_addTimes_23 : decode b_Limbs_addTimes 23 = .ok (.aload_n 0, 1) := by decide +kernel
theorem d_Limbs_addTimes_24 : decode b_Limbs_addTimes 24 = .ok (.iload 8, 2) := by decide +kernel
theorem d_Limbs_addTimes_26 : decode b_Limbs_addTimes 26 = .ok (.iaload, 1) := by decide +kernel
theorem d_Limbs_addTimes_27 : decode b_Limbs_addTimes 27 = .ok (.i2l, 1) := by decide +kernel
theorem d_Limbs_addTimes_28 : decode b_Limbs_addTimes 28 = .ok (.aload_n 1, 1) := by decide +kernel
theorem d_Limbs_addTimes_29 : decode b_Limbs_addTimes 29 = .ok (.iload 8, 2) := by decide +kernel
theorem d_Limbs_addTimes_31 : decode b_Limbs_addTimes 31 = .ok (.iload 4, 2) := by decide +kernel
theorem d_Limbs_addTimes_33 : decode b_Limbs_addTimes 33 = .ok (.isub, 1) := by decide +kernel
theorem d_Limbs_addTimes_34 : decode b_Limbs_addTimes 34 = .ok (.iaload, 1) := by decide +kernel
theorem d_Limbs_addTimes_35 : decode b_Limbs_addTimes 35 = .ok (.i2l, 1) := by decide +kernel
theorem d_Limbs_addTimes_36 : decode b_Limbs_addTimes 36 = .ok (.lload_n 2, 1) := by decide +kernel
theorem d_Limbs_addTimes_37 : decode b_Limbs_addTimes 37 = .ok (.lmul, 1) := by decide +kernel
theorem d_Limbs_addTimes_38 : decode b_Limbs_addTimes 38 = .ok (.ladd, 1) := by decide +kernel
theorem d_Limbs_addTimes_39 : decode b_Limbs_addTimes 39 = .ok (.ladd, 1) := by decide +kernel
theorem d_Limbs_addTimes_40 : decode b_Limbs_addTimes 40 = .ok (.lstore 6, 2) := by decide +kernel
theorem d_Limbs_addTimes_42 : decode b_Limbs_addTimes 42 = .ok (.aload_n 0, 1) := by decide +kernel
theorem d_Limbs_addTimes_43 : decode b_Limbs_addTimes 43 = .ok (.iload 8, 2) := by decide +kernel
theorem d_Limbs_addTimes_45 : decode b_Limbs_addTimes 45 = .ok (.lload 6, 2) := by decide +kernel
theorem d_Limbs_addTimes_47 : decode b_Limbs_addTimes 47 = .ok (.ldc2_w 32, 3) := by decide +kernel
theorem d_Limbs_addTimes_50 : decode b_Limbs_addTimes 50 = .ok (.land, 1) := by decide +kernel
theorem d_Limbs_addTimes_51 : decode b_Limbs_addTimes 51 = .ok (.l2i, 1) := by decide +kernel
theorem d_Limbs_addTimes_52 : decode b_Limbs_addTimes 52 = .ok (.iastore, 1) := by decide +kernel
theorem d_Limbs_addTimes_53 : decode b_Limbs_addTimes 53 = .ok (.lload 6, 2) := by decide +kernel
theorem d_Limbs_addTimes_55 : decode b_Limbs_addTimes 55 = .ok (.bipush (30), 2) := by decide +kernel
theorem d_Limbs_addTimes_57 : decode b_Limbs_addTimes 57 = .ok (.lshr, 1) := by decide +kernel
theorem d_Limbs_addTimes_58 : decode b_Limbs_addTimes 58 = .ok (.lstore 6, 2) := by decide +kernel
theorem d_Limbs_addTimes_60 : decode b_Limbs_addTimes 60 = .ok (.iinc 8 (1), 3) := by decide +kernel
theorem d_Limbs_addTimes_63 : decode b_Limbs_addTimes 63 = .ok (.goto (-49), 3) := by decide +kernel
theorem d_Limbs_addTimes_66 : decode b_Limbs_addTimes 66 = .ok (.return_, 1) := by decide +kernel
abbrev b_Limbs_sign : ByteArray := prog_4_method_5_code
abbrev y_Limbs_sign : MethodName := ⟨"SpectrumDesk$Limbs", "sign", "([II)I"⟩
abbrev v_Limbs_sign : List Cond := Cond.code y_Limbs_sign b_Limbs_sign 3 (some .int) :: AW
theorem d_Limbs_sign_0 : decode b_Limbs_sign 0 = .ok (.aload_n 0, 1) := by decide +kernel
theorem d_Limbs_sign_1 : decode b_Limbs_sign 1 = .ok (.iload_n 1, 1) := by decide +kernel
theorem d_Limbs_sign_2 : decode b_Limbs_sign 2 = .ok (.iconst 1, 1) := by decide +kernel
theorem d_Limbs_sign_3 : decode b_Limbs_sign 3 = .ok (.isub, 1) := by decide +kernel
theorem d_Limbs_sign_4 : decode b_Limbs_sign 4 = .ok (.iaload, 1) := by decide +kernel
theorem d_Limbs_sign_5 : decode b_Limbs_sign 5 = .ok (.ldc 28, 2) := by decide +kernel
theorem d_Limbs_sign_7 : decode b_Limbs_sign 7 = .ok (.if_icmp .lt (5), 3) := by decide +kernel
theorem d_Limbs_sign_10 : decode b_Limbs_sign 10 = .ok (.iconst (-1), 1) := by decide +kernel
theorem d_Limbs_sign_11 : decode b_Limbs_sign 11 = .ok (.ireturn, 1) := by decide +kernel
theorem d_Limbs_sign_12 : decode b_Limbs_sign 12 = .ok (.iload_n 1, 1) := by decide +kernel
theorem d_Limbs_sign_13 : decode b_Limbs_sign 13 = .ok (.iconst 1, 1) := by decide +kernel
theorem d_Limbs_sign_14 : decode b_Limbs_sign 14 = .ok (.isub, 1) := by decide +kernel
theorem d_Limbs_sign_15 : decode b_Limbs_sign 15 = .ok (.istore_n 2, 1) := by decide +kernel
theorem d_Limbs_sign_16 : decode b_Limbs_sign 16 = .ok (.iload_n 2, 1) := by decide +kernel
theorem d_Limbs_sign_17 : decode b_Limbs_sign 17 = .ok (.ifCond .lt (17), 3) := by decide +kernel
theorem d_Limbs_sign_20 : decode b_Limbs_sign 20 = .ok (.aload_n 0, 1) := by decide +kernel
theorem d_Limbs_sign_21 : decode b_Limbs_sign 21 = .ok (.iload_n 2, 1) := by decide +kernel
theorem d_Limbs_sign_22 : decode b_Limbs_sign 22 = .ok (.iaload, 1) := by decide +kernel
theorem d_Limbs_sign_23 : decode b_Limbs_sign 23 = .ok (.ifCond .eq (5), 3) := by decide +kernel
theorem d_Limbs_sign_26 : decode b_Limbs_sign 26 = .ok (.iconst 1, 1) := by decide +kernel
theorem d_Limbs_sign_27 : decode b_Limbs_sign 27 = .ok (.ireturn, 1) := by decide +kernel
theorem d_Limbs_sign_28 : decode b_Limbs_sign 28 = .ok (.iinc 2 (-1), 3) := by decide +kernel
theorem d_Limbs_sign_31 : decode b_Limbs_sign 31 = .ok (.goto (-15), 3) := by decide +kernel
theorem d_Limbs_sign_34 : decode b_Limbs_sign 34 = .ok (.iconst 0, 1) := by decide +kernel
theorem d_Limbs_sign_35 : decode b_Limbs_sign 35 = .ok (.ireturn, 1) := by decide +kernel
theorem k_4b4bee73ee : (Jvm.Cond.constantLong "SpectrumDesk$Limbs" (32 : Nat) (1073741823 : Int64)) ∈ AW := aw_2 (List.mem_of_getElem? (i := 51) (by decide +kernel)) (by decide +kernel)
theorem k_660c696ae3 : (Jvm.Cond.constant "SpectrumDesk$Limbs" (28 : Nat) (536870912 : Int32)) ∈ AW := aw_2 (List.mem_of_getElem? (i := 74) (by decide +kernel)) (by decide +kernel)
theorem k_c80bea473c : (Jvm.Cond.code ({ cls := "SpectrumDesk$Limbs", name := "addTimes", desc := "([I[IJII)V" } : Jvm.MethodName) prog_4_method_6_code (9 : Nat) (Option.none : Option Jvm.ClassFile.FieldType)) ∈ AW := aw_2 (List.mem_of_getElem? (i := 50) (by decide +kernel)) (by decide +kernel)
theorem k_507de67514 : (Jvm.Cond.code ({ cls := "SpectrumDesk$Limbs", name := "sign", desc := "([II)I" } : Jvm.MethodName) prog_4_method_5_code (3 : Nat) (Option.some Jvm.ClassFile.FieldType.int)) ∈ AW := aw_3 (List.mem_of_getElem? (i := 183) (by decide +kernel)) (by decide +kernel)
set_option maxHeartbeats 4000000 in
set_option maxRecDepth 100000 in
theorem c_Limbs_addTimes {l : Launch} {D : va_G} {cI cJ cZ cC cG cP : ClassId} {N : Nat} {ad : Nat → Nat} {σ : Nat → va_E} {a b La Lb off n : Nat} {f g : Nat → Int32} {d : Int64} {x y : Int} (hNa : a < N) (hNb : b < N) (hσa : σ a = .inl (cI, La, .inl f)) (hσb : σ b = .inl (cI, Lb, .inl g)) (hba : b ≠ a) (hd : -1073741824 ≤ d.toInt ∧ d.toInt ≤ 1073741824) (hoff : off ≤ n) (hn : n ≤ La) (hLa : La < 2 ^ 31) (hnb : n - off ≤ Lb) (hLb : Lb < 2 ^ 31) (hxf : lm_is f n x) (hyg : lm_is g (n - off) y) :
    Met l y_Limbs_addTimes v_Limbs_addTimes (xrm 0) (va_Pc [.ref (ad a), .ref (ad b), .long d, .int (nI off), .int (nI n)] (xS D classes (xT cI cJ cZ cC cG cP) N ad σ)) (va_Qv (lm_up σ a cI La f n (x + d.toInt * 1073741824 ^ off * y)) (xS D classes (xT cI cJ cZ cC cG cP) N ad) (xA N ad)) 0 0 (xA N ad) := by
  have hf := hxf.1
  have hg := hyg.1
  refine xr_met rfl (Nat.le_of_ble_eq_true rfl) ?_
  intro p e s m args below meth c ls hx hb X hr hlk hl I
  have hl : lv_has ls 9 [(0, .ref (ad a)), (1, .ref (ad b)), (2, .long d), (4, .int (nI off)), (5, .int (nI n))] := hl
  refine lv_lload_n hx hb d_Limbs_addTimes_0 rfl (lv_at hl 2 rfl) ?_
  refine lv_lconst (v := 0) hx hb d_Limbs_addTimes_1 (by decide) ?_
  refine W.lcmp hx hb d_Limbs_addTimes_2 ?_
  refine lv_if_ne hx hb d_Limbs_addTimes_3 rfl (fun hz => ?_) (fun hz => ?_)
  · refine lv_lconst (v := 0) hx hb d_Limbs_addTimes_7 (by decide) ?_
    refine lv_lstore (lv' := [(6, .long 0), (0, .ref (ad a)), (1, .ref (ad b)), (2, .long d), (4, .int (nI off)), (5, .int (nI n))]) hx hb d_Limbs_addTimes_8 hl (by decide) rfl (fun ls hl => ?_)
    refine lv_iload hx hb d_Limbs_addTimes_10 (lv_at hl 4 rfl) ?_
    refine lv_istore (lv' := [(8, .int (nI off)), (6, .long 0), (0, .ref (ad a)), (1, .ref (ad b)), (2, .long d), (4, .int (nI off)), (5, .int (nI n))]) hx hb d_Limbs_addTimes_12 hl (by decide) rfl (fun ls hl => ?_)
    have loop : ∀ (k i : Nat) (f' : Nat → Int32) (cy : Int64) (ls : Array Slot) (H : Heap) (locs : List Loc), i + k = n → off ≤ i → (-1073741824 ≤ cy.toInt ∧ cy.toInt ≤ 1073741824) → lm_ok f' n → (∀ j, i ≤ j → f' j = f j) → lm_u f' i + cy.toInt * 1073741824 ^ i = lm_u f i + d.toInt * 1073741824 ^ off * lm_u g (i - off) → lv_has ls 9 [(8, .int (nI i)), (6, .long cy), (0, .ref (ad a)), (1, .ref (ad b)), (2, .long d), (4, .int (nI off)), (5, .int (nI n))] → xI D classes N ad s.heap (va_up σ a (.inl (cI, La, .inl f'))) H locs → W p l e (xrm 0) s m args below meth c H locs 0 0 (MQ below (va_Qv (lm_up σ a cI La f n (x + d.toInt * 1073741824 ^ off * y)) (xS D classes (xT cI cJ cZ cC cG cP) N ad) (xA N ad)) args s 0 0 (xA N ad)) (F0 m 14 ls []) := by
        intro k
        induction k with
        | zero =>
          intro i f' cy ls H locs hik hoi hcy hok hge inv hl I
          obtain rfl : i = n := by omega
          refine lv_iload hx hb d_Limbs_addTimes_14 (lv_at hl 0 rfl) ?_
          refine lv_iload hx hb d_Limbs_addTimes_16 (lv_at hl 6 rfl) ?_
          refine lv_icmp_ge hx hb d_Limbs_addTimes_18 rfl (fun hc => ?_) (fun hc => ?_)
          · exact xr_vret X I hr hlk ⟨f', rfl, hge, lm_add_is (q := -cy.toInt) hoi hok (by rw [Int.neg_mul]; omega) hxf hyg⟩ d_Limbs_addTimes_66
          · exact absurd (nI_le (Nat.le_refl _) (by omega)) hc
        | succ k ih =>
          intro i f' cy ls H locs hik hoi hcy hok hge inv hl I
          refine lv_iload hx hb d_Limbs_addTimes_14 (lv_at hl 0 rfl) ?_
          refine lv_iload hx hb d_Limbs_addTimes_16 (lv_at hl 6 rfl) ?_
          refine lv_icmp_ge hx hb d_Limbs_addTimes_18 rfl (fun hc => ?_) (fun hc => ?_)
          · exact absurd hc (nI_ge (by omega) (by omega))
          · refine lv_lload hx hb d_Limbs_addTimes_21 (lv_at hl 1 rfl) ?_
            refine lv_aload_n hx hb d_Limbs_addTimes_23 rfl (lv_at hl 2 rfl) ?_
            refine lv_iload hx hb d_Limbs_addTimes_24 (lv_at hl 0 rfl) ?_
            refine xr_iald X I a 0 hNa (va_up_self _ _ _) rfl (by omega) hLa d_Limbs_addTimes_26 ?_
            refine lv_i2l hx hb d_Limbs_addTimes_27 rfl ?_
            refine lv_aload_n hx hb d_Limbs_addTimes_28 rfl (lv_at hl 3 rfl) ?_
            refine lv_iload hx hb d_Limbs_addTimes_29 (lv_at hl 0 rfl) ?_
            refine lv_iload hx hb d_Limbs_addTimes_31 (lv_at hl 5 rfl) ?_
            refine lv_isub hx hb d_Limbs_addTimes_33 (xr_topi (y := nI (i - off)) (pk_sub hoi) ?_)
            refine xr_iald X I b 0 hNb ((va_up_ne _ _ hba).trans hσb) rfl (by omega) hLb d_Limbs_addTimes_34 ?_
            refine lv_i2l hx hb d_Limbs_addTimes_35 rfl ?_
            refine lv_lload_n hx hb d_Limbs_addTimes_36 rfl (lv_at hl 4 rfl) ?_
            refine lv_lmul hx hb d_Limbs_addTimes_37 ?_
            refine lv_ladd hx hb d_Limbs_addTimes_38 ?_
            refine lv_ladd hx hb d_Limbs_addTimes_39 ?_
            refine lv_topl (fun T eT => ?_)
            have hT := lm_carry hcy hd (hok i (by omega)) (hg (i - off) (by omega))
            rw [← eT] at hT
            have hv := lm_limb hT.2
            refine lv_lstore (lv' := [(6, .long T), (8, .int (nI i)), (0, .ref (ad a)), (1, .ref (ad b)), (2, .long d), (4, .int (nI off)), (5, .int (nI n))]) hx hb d_Limbs_addTimes_40 hl (by decide) rfl (fun ls hl => ?_)
            refine lv_aload_n hx hb d_Limbs_addTimes_42 rfl (lv_at hl 2 rfl) ?_
            refine lv_iload hx hb d_Limbs_addTimes_43 (lv_at hl 1 rfl) ?_
            refine lv_lload hx hb d_Limbs_addTimes_45 (lv_at hl 0 rfl) ?_
            refine lv_ldc2 (v := 1073741823) hx hb X.1.2.2.2.1 (X.1.2.2.2.2 _ (List.mem_cons_of_mem _ k_4b4bee73ee)) d_Limbs_addTimes_47 ?_
            refine lv_land hx hb d_Limbs_addTimes_50 ?_
            refine lv_l2i hx hb d_Limbs_addTimes_51 rfl ?_
            refine lv_topi (fun v ev => ?_)
            refine xr_iast X I a 0 hNa (va_up_self _ _ _) rfl (by omega) hLa d_Limbs_addTimes_52 (fun H locs I => ?_)
            refine lv_lload hx hb d_Limbs_addTimes_53 (lv_at hl 0 rfl) ?_
            refine lv_bipush (v := nI 30) hx hb d_Limbs_addTimes_55 (by decide) ?_
            refine lv_lshr hx hb d_Limbs_addTimes_57 rfl ?_
            rw [va_up_up] at I
            refine lv_topl (fun c2 ec => ?_)
            refine lv_lstore (lv' := [(6, .long c2), (8, .int (nI i)), (0, .ref (ad a)), (1, .ref (ad b)), (2, .long d), (4, .int (nI off)), (5, .int (nI n))]) hx hb d_Limbs_addTimes_58 hl (by decide) rfl (fun ls hl => ?_)
            refine lv_iinc (k := 1) (v := nI (i + 1)) (lv' := [(8, .int (nI (i + 1))), (6, .long c2), (0, .ref (ad a)), (1, .ref (ad b)), (2, .long d), (4, .int (nI off)), (5, .int (nI n))]) hx hb d_Limbs_addTimes_60 hl rfl (nI_1 i) (by decide) rfl (fun ls hl => ?_)
            refine lv_goto hx hb d_Limbs_addTimes_63 rfl ?_
            rw [← ev, ← ec] at hv
            refine ih (i + 1) (upd f' i v) c2 ls H locs (by omega) (by omega) hv.2.2 (lm_ok_upd hok (by omega)) (fun j hj => ?_) (lm_step hoi inv ?_) hl I
            · rw [show upd f' i v j = f' j from if_neg (by omega)]; exact hge j (by omega)
            · have e := hge i (Nat.le_refl _); rw [e] at hT; omega
    exact loop (n - off) off f 0 ls _ _ (by omega) (Nat.le_refl _) (by decide) hf (fun _ _ => rfl) (by rw [Nat.sub_self]; simp [lm_u]) hl (by rw [va_up_same hσa]; exact I)
  · have hd0 : d = 0 := (lg_cmp_eq d 0).mp hz
    exact xr_vret X I hr hlk ⟨f, (va_up_same hσa).symm, fun _ _ => rfl, by rw [hd0]; simpa using hxf⟩ d_Limbs_addTimes_6
set_option maxHeartbeats 4000000 in
set_option maxRecDepth 100000 in
theorem c_Limbs_sign {l : Launch} {D : va_G} {cI cJ cZ cC cG cP : ClassId} {N : Nat} {ad : Nat → Nat} {σ : Nat → va_E} {a La n : Nat} {f : Nat → Int32} {x : Int} (hNa : a < N) (hσa : σ a = .inl (cI, La, .inl f)) (hn0 : 0 < n) (hn : n ≤ La) (hLa : La < 2 ^ 31) (hx0 : lm_si f n x) :
    Met l y_Limbs_sign v_Limbs_sign (xrm 0) (va_Pc [.ref (ad a), .int (nI n)] (xS D classes (xT cI cJ cZ cC cG cP) N ad σ)) (va_Qi (fun r σ2 => r = sg x ∧ σ2 = σ) (xS D classes (xT cI cJ cZ cC cG cP) N ad) (xA N ad)) 0 0 (xA N ad) := by
  obtain ⟨k, rfl⟩ : ∃ k, n = k + 1 := ⟨n - 1, by omega⟩
  have htop := lm_si_top hx0
  have hcs := lm_si_cases hx0
  have hok := hx0.1.1
  refine xr_met rfl (Nat.le_of_ble_eq_true rfl) ?_
  intro p e s m args below meth c ls hx hb X hr hlk hl I
  have hl : lv_has ls 3 [(0, .ref (ad a)), (1, .int (nI (k + 1)))] := hl
  refine lv_aload_n hx hb d_Limbs_sign_0 rfl (lv_at hl 0 rfl) ?_
  refine lv_iload_n hx hb d_Limbs_sign_1 rfl (lv_at hl 1 rfl) ?_
  refine lv_iconst (v := nI 1) hx hb d_Limbs_sign_2 (by decide) ?_
  refine lv_isub hx hb d_Limbs_sign_3 (xr_topi (y := nI k) (nP_succ k) ?_)
  refine xr_iald X I a 0 hNa hσa rfl (by omega) hLa d_Limbs_sign_4 ?_
  refine lv_ldc (v := nI 536870912) hx hb X.1.2.2.2.1 (X.1.2.2.2.2 _ (List.mem_cons_of_mem _ k_660c696ae3)) d_Limbs_sign_5 ?_
  refine lv_icmp_lt hx hb d_Limbs_sign_7 rfl (fun hc => ?_) (fun hc => ?_)
  · refine lv_iload_n hx hb d_Limbs_sign_12 rfl (lv_at hl 1 rfl) ?_
    refine lv_iconst (v := nI 1) hx hb d_Limbs_sign_13 (by decide) ?_
    refine lv_isub hx hb d_Limbs_sign_14 (xr_topi (y := nP (k + 1)) rfl ?_)
    refine lv_istore_n (lv' := [(2, .int (nP (k + 1))), (0, .ref (ad a)), (1, .int (nI (k + 1)))]) hx hb d_Limbs_sign_15 rfl hl (by decide) rfl (fun ls hl => ?_)
    have hpos : ¬ x < 0 := fun h => by have h1 := htop.mpr h; have h2 := Int32.lt_iff_toInt_lt.mp hc; rw [nI_toInt (by decide)] at h2; omega
    have hu : lm_u f (k + 1) = x := by omega
    have loop : ∀ (i : Nat) (ls : Array Slot), i ≤ k + 1 → (∀ j, i ≤ j → j < k + 1 → f j = 0) → lv_has ls 3 [(2, .int (nP i)), (0, .ref (ad a)), (1, .int (nI (k + 1)))] → W p l e (xrm 0) s m args below meth c s.heap [] 0 0 (MQ below (va_Qi (fun r σ2 => r = sg x ∧ σ2 = σ) (xS D classes (xT cI cJ cZ cC cG cP) N ad) (xA N ad)) args s 0 0 (xA N ad)) (F0 m 16 ls []) := by
        intro i
        induction i with
        | zero =>
          intro ls hi hz hl
          refine lv_iload_n hx hb d_Limbs_sign_16 rfl (lv_at hl 0 rfl) ?_
          refine lv_if_lt hx hb d_Limbs_sign_17 rfl (fun hc => ?_) (fun hc => ?_)
          · refine lv_iconst (v := nI 0) hx hb d_Limbs_sign_34 (by decide) ?_
            have hx00 : x = 0 := by rw [← hu]; exact lm_u_zero hok (fun j hj => hz j (by omega) hj)
            exact xr_iret X I hr hlk ⟨by rw [hx00]; rfl, rfl⟩ d_Limbs_sign_35
          · exact absurd nP_0 hc
        | succ i ih =>
          intro ls hi hz hl
          refine lv_iload_n hx hb d_Limbs_sign_16 rfl (lv_at hl 0 rfl) ?_
          refine xr_topi (y := nI i) (nP_succ i) ?_
          refine lv_if_lt hx hb d_Limbs_sign_17 rfl (fun hc => ?_) (fun hc => ?_)
          · exact absurd hc (nI_pos (by omega))
          · refine lv_aload_n hx hb d_Limbs_sign_20 rfl (lv_at hl 1 rfl) ?_
            refine lv_iload_n hx hb d_Limbs_sign_21 rfl (lv_at hl 0 rfl) ?_
            refine xr_topi (y := nI i) (nP_succ i) ?_
            refine xr_iald X I a 0 hNa hσa rfl (by omega) hLa d_Limbs_sign_22 ?_
            refine lv_if_eq hx hb d_Limbs_sign_23 rfl (fun hv => ?_) (fun hv => ?_)
            · refine lv_iinc (k := 0) (v := nP i) (lv' := [(2, .int (nP i)), (0, .ref (ad a)), (1, .int (nI (k + 1)))]) hx hb d_Limbs_sign_28 hl rfl (nP_dec i) (by decide) rfl (fun ls hl => ?_)
              refine lv_goto hx hb d_Limbs_sign_31 rfl ?_
              exact ih ls (by omega) (fun j h1 h2 => if ej : j = i then (by rw [ej]; exact hv) else hz j (by omega) h2) hl
            · refine lv_iconst (v := nI 1) hx hb d_Limbs_sign_26 (by decide) ?_
              have hx1 : 0 < x := by rw [← hu]; exact lm_u_pos hok (show i < k + 1 by omega) hv
              exact xr_iret X I hr hlk ⟨by rw [sg, if_neg hpos, if_neg (by omega)]; rfl, rfl⟩ d_Limbs_sign_27
    exact loop (k + 1) ls (Nat.le_refl _) (fun j h1 h2 => by omega) hl
  · refine lv_iconst (v := (-1)) hx hb d_Limbs_sign_10 (by decide) ?_
    have hneg : x < 0 := htop.mp (by have := Int32.not_lt.mp hc; have := Int32.le_iff_toInt_le.mp this; rw [nI_toInt (by decide)] at this; omega)
    exact xr_iret X I hr hlk ⟨by rw [sg, if_pos hneg], rfl⟩ d_Limbs_sign_11
end
section
/-! SpectrumDesk$Limbs: addLongTimes, addProduct (written by wip/gen) -/
abbrev b_Limbs_addLongTimes : ByteArray := prog_4_method_7_code
abbrev y_Limbs_addLongTimes : MethodName := ⟨"SpectrumDesk$Limbs", "addLongTimes", "([I[IJI)V"⟩
abbrev v_Limbs_addLongTimes : List Cond := Cond.code y_Limbs_addLongTimes b_Limbs_addLongTimes 10 none :: AW
theorem d_Limbs_addLongTimes_0 : decode b_Limbs_addLongTimes 0 = .ok (.lload_n 2, 1) := by decide +kernel
theorem d_Limbs_addLongTimes_1 : decode b_Limbs_addLongTimes 1 = .ok (.lstore 5, 2) := by decide +kernel
theorem d_Limbs_addLongTimes_3 : decode b_Limbs_addLongTimes 3 = .ok (.iconst 0, 1) := by decide +kernel
theorem d_Limbs_addLongTimes_4 : decode b_Limbs_addLongTimes 4 = .ok (.istore 7, 2) := by decide +kernel
theorem d_Limbs_addLongTimes_6 : decode b_Limbs_addLongTimes 6 = .ok (.iload 7, 2) := by decide +kernel
theorem d_Limbs_addLongTimes_8 : decode b_Limbs_addLongTimes 8 = .ok (.iconst 3, 1) := by decide +kernel
theorem d_Limbs_addLongTimes_9 : decode b_Limbs_addLongTimes 9 = .ok (.if_icmp .ge (58), 3) := by decide +kernel
theorem d_Limbs_addLongTimes_12 : decode b_Limbs_addLongTimes 12 = .ok (.lload 5, 2) := by decide +kernel
theorem d_Limbs_addLongTimes_14 : decode b_Limbs_addLongTimes 14 = .ok (.ldc2_w 32, 3) := by decide +kernel
theorem d_Limbs_addLongTimes_17 : decode b_Limbs_addLongTimes 17 = .ok (.land, 1) := by decide +kernel
theorem d_Limbs_addLongTimes_18 : decode b_Limbs_addLongTimes 18 = .ok (.lstore 8, 2) := by decide +kernel
theorem d_Limbs_addLongTimes_20 : decode b_Limbs_addLongTimes 20 = .ok (.lload 5, 2) := by decide +kernel
theorem d_Limbs_addLongTimes_22 : decode b_Limbs_addLongTimes 22 = .ok (.bipush (30), 2) := by decide +kernel
theorem d_Limbs_addLongTimes_24 : decode b_Limbs_addLongTimes 24 = .ok (.lshr, 1) := by decide +kernel
theorem d_Limbs_addLongTimes_25 : decode b_Limbs_addLongTimes 25 = .ok (.lstore 5, 2) := by decide +kernel
theorem d_Limbs_addLongTimes_27 : decode b_Limbs_addLongTimes 27 = .ok (.lload 8, 2) := by decide +kernel
theorem d_Limbs_addLongTimes_29 : decode b_Limbs_addLongTimes 29 = .ok (.ldc2_w 34, 3) := by decide +kernel
theorem d_Limbs_addLongTimes_32 : decode b_Limbs_addLongTimes 32 = .ok (.lcmp, 1) := by decide +kernel
theorem d_Limbs_addLongTimes_33 : decode b_Limbs_addLongTimes 33 = .ok (.ifCond .le (17), 3) := by decide +kernel
theorem d_Limbs_addLongTimes_36 : decode b_Limbs_addLongTimes 36 = .ok (.lload 8, 2) := by decide +kernel
theorem d_Limbs_addLongTimes_38 : decode b_Limbs_addLongTimes 38 = .ok (.ldc2_w 36, 3) := by decide +kernel
theorem d_Limbs_addLongTimes_41 : decode b_Limbs_addLongTimes 41 = .ok (.lsub, 1) := by decide +kernel
theorem d_Limbs_addLongTimes_42 : decode b_Limbs_addLongTimes 42 = .ok (.lstore 8, 2) := by decide +kernel
theorem d_Limbs_addLongTimes_44 : decode b_Limbs_addLongTimes 44 = .ok (.lload 5, 2) := by decide +kernel
theorem d_Limbs_addLongTimes_46 : decode b_Limbs_addLongTimes 46 = .ok (.lconst 1, 1) := by decide +kernel
theorem d_Limbs_addLongTimes_47 : decode b_Limbs_addLongTimes 47 = .ok (.ladd, 1) := by decide +kernel
theorem d_Limbs_addLongTimes_48 : decode b_Limbs_addLongTimes 48 = .ok (.lstore 5, 2) := by decide +kernel
theorem d_Limbs_addLongTimes_50 : decode b_Limbs_addLongTimes 50 = .ok (.aload_n 0, 1) := by decide +kernel
theorem d_Limbs_addLongTimes_51 : decode b_Limbs_addLongTimes 51 = .ok (.aload_n 1, 1) := by decide +kernel
theorem d_Limbs_addLongTimes_52 : decode b_Limbs_addLongTimes 52 = .ok (.lload 8, 2) := by decide +kernel
theorem d_Limbs_addLongTimes_54 : decode b_Limbs_addLongTimes 54 = .ok (.iload 7, 2) := by decide +kernel
theorem d_Limbs_addLongTimes_56 : decode b_Limbs_addLongTimes 56 = .ok (.iload 4, 2) := by decide +kernel
theorem d_Limbs_addLongTimes_58 : decode b_Limbs_addLongTimes 58 = .ok (.invokestatic 38, 3) := by decide +kernel
theorem d_Limbs_addLongTimes_61 : decode b_Limbs_addLongTimes 61 = .ok (.iinc 7 (1), 3) := by decide +kernel
theorem d_Limbs_addLongTimes_64 : decode b_Limbs_addLongTimes 64 = .ok (.goto (-58), 3) := by decide +kernel
theorem d_Limbs_addLongTimes_67 : decode b_Limbs_addLongTimes 67 = .ok (.return_, 1) := by decide +kernel
abbrev b_Limbs_addProduct : ByteArray := prog_4_method_8_code
abbrev y_Limbs_addProduct : MethodName := ⟨"SpectrumDesk$Limbs", "addProduct", "([I[I[III)V"⟩
abbrev v_Limbs_addProduct : List Cond := Cond.code y_Limbs_addProduct b_Limbs_addProduct 9 none :: AW
theorem d_Limbs_addProduct_0 : decode b_Limbs_addProduct 0 = .ok (.iconst 0, 1) := by decide +kernel
theorem d_Limbs_addProduct_1 : decode b_Limbs_addProduct 1 = .ok (.istore 5, 2) := by decide +kernel
theorem d_Limbs_addProduct_3 : decode b_Limbs_addProduct 3 = .ok (.iconst 0, 1) := by decide +kernel
theorem d_Limbs_addProduct_4 : decode b_Limbs_addProduct 4 = .ok (.istore 6, 2) := by decide +kernel
theorem d_Limbs_addProduct_6 : decode b_Limbs_addProduct 6 = .ok (.iload 6, 2) := by decide +kernel
theorem d_Limbs_addProduct_8 : decode b_Limbs_addProduct 8 = .ok (.iload 4, 2) := by decide +kernel
theorem d_Limbs_addProduct_10 : decode b_Limbs_addProduct 10 = .ok (.if_icmp .ge (57), 3) := by decide +kernel
theorem d_Limbs_addProduct_13 : decode b_Limbs_addProduct 13 = .ok (.aload_n 2, 1) := by decide +kernel
theorem d_Limbs_addProduct_14 : decode b_Limbs_addProduct 14 = .ok (.iload 6, 2) := by decide +kernel
theorem d_Limbs_addProduct_16 : decode b_Limbs_addProduct 16 = .ok (.iaload, 1) := by decide +kernel
theorem d_Limbs_addProduct_17 : decode b_Limbs_addProduct 17 = .ok (.i2l, 1) := by decide +kernel
theorem d_Limbs_addProduct_18 : decode b_Limbs_addProduct 18 = .ok (.iload 5, 2) := by decide +kernel
theorem d_Limbs_addProduct_20 : decode b_Limbs_addProduct 20 = .ok (.i2l, 1) := by decide +kernel
theorem d_Limbs_addProduct_21 : decode b_Limbs_addProduct 21 = .ok (.ladd, 1) := by decide +kernel
theorem d_Limbs_addProduct_22 : decode b_Limbs_addProduct 22 = .ok (.lstore 7, 2) := by decide +kernel
theorem d_Limbs_addProduct_24 : decode b_Limbs_addProduct 24 = .ok (.iconst 0, 1) := by decide +kernel
theorem d_Limbs_addProduct_25 : decode b_Limbs_addProduct 25 = .ok (.istore 5, 2) := by decide +kernel
theorem d_Limbs_addProduct_27 : decode b_Limbs_addProduct 27 = .ok (.lload 7, 2) := by decide +kernel
theorem d_Limbs_addProduct_29 : decode b_Limbs_addProduct 29 = .ok (.ldc2_w 34, 3) := by decide +kernel
theorem d_Limbs_addProduct_32 : decode b_Limbs_addProduct 32 = .ok (.lcmp, 1) := by decide +kernel
theorem d_Limbs_addProduct_33 : decode b_Limbs_addProduct 33 = .ok (.ifCond .le (14), 3) := by decide +kernel
theorem d_Limbs_addProduct_36 : decode b_Limbs_addProduct 36 = .ok (.lload 7, 2) := by decide +kernel
theorem d_Limbs_addProduct_38 : decode b_Limbs_addProduct 38 = .ok (.ldc2_w 36, 3) := by decide +kernel
theorem d_Limbs_addProduct_41 : decode b_Limbs_addProduct 41 = .ok (.lsub, 1) := by decide +kernel
theorem d_Limbs_addProduct_42 : decode b_Limbs_addProduct 42 = .ok (.lstore 7, 2) := by decide +kernel
theorem d_Limbs_addProduct_44 : decode b_Limbs_addProduct 44 = .ok (.iconst 1, 1) := by decide +kernel
theorem d_Limbs_addProduct_45 : decode b_Limbs_addProduct 45 = .ok (.istore 5, 2) := by decide +kernel
theorem d_Limbs_addProduct_47 : decode b_Limbs_addProduct 47 = .ok (.aload_n 0, 1) := by decide +kernel
theorem d_Limbs_addProduct_48 : decode b_Limbs_addProduct 48 = .ok (.aload_n 1, 1) := by decide +kernel
theorem d_Limbs_addProduct_49 : decode b_Limbs_addProduct 49 = .ok (.iload_n 3, 1) := by decide +kernel
theorem d_Limbs_addProduct_50 : decode b_Limbs_addProduct 50 = .ok (.i2l, 1) := by decide +kernel
theorem d_Limbs_addProduct_51 : decode b_Limbs_addProduct 51 = .ok (.lload 7, 2) := by decide +kernel
theorem d_Limbs_addProduct_53 : decode b_Limbs_addProduct 53 = .ok (.lmul, 1) := by decide +kernel
theorem d_Limbs_addProduct_54 : decode b_Limbs_addProduct 54 = .ok (.iload 6, 2) := by decide +kernel
theorem d_Limbs_addProduct_56 : decode b_Limbs_addProduct 56 = .ok (.iload 4, 2) := by decide +kernel
theorem d_Limbs_addProduct_58 : decode b_Limbs_addProduct 58 = .ok (.invokestatic 38, 3) := by decide +kernel
theorem d_Limbs_addProduct_61 : decode b_Limbs_addProduct 61 = .ok (.iinc 6 (1), 3) := by decide +kernel
theorem d_Limbs_addProduct_64 : decode b_Limbs_addProduct 64 = .ok (.goto (-58), 3) := by decide +kernel
theorem d_Limbs_addProduct_67 : decode b_Limbs_addProduct 67 = .ok (.return_, 1) := by decide +kernel
theorem k_0c9e0e9e73 : (Jvm.Cond.constantLong "SpectrumDesk$Limbs" (34 : Nat) (536870912 : Int64)) ∈ AW := aw_3 (List.mem_of_getElem? (i := 174) (by decide +kernel)) (by decide +kernel)
theorem k_344626c77a : (Jvm.Cond.methodLink "SpectrumDesk$Limbs" (38 : Nat) ({ cls := "SpectrumDesk$Limbs", name := "addTimes", desc := "([I[IJII)V" } : Jvm.MethodName)) ∈ AW := aw_3 (List.mem_of_getElem? (i := 176) (by decide +kernel)) (by decide +kernel)
theorem k_0ef42f4896 : (Jvm.Cond.static ({ cls := "SpectrumDesk$Limbs", name := "addTimes", desc := "([I[IJII)V" } : Jvm.MethodName)) ∈ AW := aw_2 (List.mem_of_getElem? (i := 49) (by decide +kernel)) (by decide +kernel)
theorem k_b15d0305ca : (Jvm.Cond.initialized "SpectrumDesk$Limbs") ∈ AW := aw_1 (List.mem_of_getElem? (i := 5) (by decide +kernel)) (by decide +kernel)
theorem k_e2253de6ce : (Jvm.Cond.constantLong "SpectrumDesk$Limbs" (36 : Nat) (1073741824 : Int64)) ∈ AW := aw_3 (List.mem_of_getElem? (i := 175) (by decide +kernel)) (by decide +kernel)
theorem k_f8f2a75ec6 : (Jvm.Cond.code ({ cls := "SpectrumDesk$Limbs", name := "addLongTimes", desc := "([I[IJI)V" } : Jvm.MethodName) prog_4_method_7_code (10 : Nat) (Option.none : Option Jvm.ClassFile.FieldType)) ∈ AW := aw_3 (List.mem_of_getElem? (i := 173) (by decide +kernel)) (by decide +kernel)
theorem k_46770d5d82 : (Jvm.Cond.code ({ cls := "SpectrumDesk$Limbs", name := "addProduct", desc := "([I[I[III)V" } : Jvm.MethodName) prog_4_method_8_code (9 : Nat) (Option.none : Option Jvm.ClassFile.FieldType)) ∈ AW := aw_3 (List.mem_of_getElem? (i := 232) (by decide +kernel)) (by decide +kernel)
set_option maxHeartbeats 4000000 in
set_option maxRecDepth 100000 in
theorem c_Limbs_addLongTimes {l : Launch} {D : va_G} {cI cJ cZ cC cG cP : ClassId} {N : Nat} {ad : Nat → Nat} {σ : Nat → va_E} {a b La Lb n : Nat} {f g : Nat → Int32} {v : Int64} {x y : Int} (hNa : a < N) (hNb : b < N) (hσa : σ a = .inl (cI, La, .inl f)) (hσb : σ b = .inl (cI, Lb, .inl g)) (hba : b ≠ a) (hn2 : 2 ≤ n) (hn : n ≤ La) (hLa : La < 2 ^ 31) (hnb : n ≤ Lb) (hLb : Lb < 2 ^ 31) (hxf : lm_is f n x) (hyg : lm_is g n y) :
    Met l y_Limbs_addLongTimes v_Limbs_addLongTimes (xrm 1) (va_Pc [.ref (ad a), .ref (ad b), .long v, .int (nI n)] (xS D classes (xT cI cJ cZ cC cG cP) N ad σ)) (va_Qv (lm_up σ a cI La f n (x + v.toInt * y)) (xS D classes (xT cI cJ cZ cC cG cP) N ad) (xA N ad)) 0 0 (xA N ad) := by
  refine xr_met rfl (Nat.le_of_ble_eq_true rfl) ?_
  intro p e s m args below meth c ls hx hb X hr hlk hl I
  have hl : lv_has ls 10 [(0, .ref (ad a)), (1, .ref (ad b)), (2, .long v), (4, .int (nI n))] := hl
  refine lv_lload_n hx hb d_Limbs_addLongTimes_0 rfl (lv_at hl 2 rfl) ?_
  refine lv_lstore (lv' := [(5, .long v), (0, .ref (ad a)), (1, .ref (ad b)), (2, .long v), (4, .int (nI n))]) hx hb d_Limbs_addLongTimes_1 hl (by decide) rfl (fun ls hl => ?_)
  refine lv_iconst (v := nI 0) hx hb d_Limbs_addLongTimes_3 (by decide) ?_
  refine lv_istore (lv' := [(7, .int (nI 0)), (5, .long v), (0, .ref (ad a)), (1, .ref (ad b)), (2, .long v), (4, .int (nI n))]) hx hb d_Limbs_addLongTimes_4 hl (by decide) rfl (fun ls hl => ?_)
  have loop : ∀ (k : Nat) (i : Nat) (r : Int64) (acc : Int) (f' : Nat → Int32) (ls : Array Slot) (H : Heap) (locs : List Loc), i + k = 3 → v.toInt = acc + r.toInt * 1073741824 ^ i → (-lm_bd i ≤ r.toInt ∧ r.toInt ≤ lm_bd i) → (∀ j, n ≤ j → f' j = f j) → lm_is f' n (x + acc * y) → lv_has ls 10 [(7, .int (nI i)), (5, .long r), (0, .ref (ad a)), (1, .ref (ad b)), (2, .long v), (4, .int (nI n))] → xI D classes N ad s.heap (va_up σ a (.inl (cI, La, .inl f'))) H locs → W p l e (xrm 1) s m args below meth c H locs 0 0 (MQ below (va_Qv (lm_up σ a cI La f n (x + v.toInt * y)) (xS D classes (xT cI cJ cZ cC cG cP) N ad) (xA N ad)) args s 0 0 (xA N ad)) (F0 m 6 ls []) := by
    intro k
    induction k with
    | zero =>
      intro i r acc f' ls H locs hk hv hbd hge hf' hl I
      obtain rfl : i = 3 := by omega
      refine lv_iload hx hb d_Limbs_addLongTimes_6 (lv_at hl 0 rfl) ?_
      refine lv_iconst (v := nI 3) hx hb d_Limbs_addLongTimes_8 (by decide) ?_
      refine lv_icmp_ge hx hb d_Limbs_addLongTimes_9 rfl (fun hc => ?_) (fun hc => ?_)
      · have hr0 : r.toInt = 0 := by simp only [lm_bd] at hbd; omega
        rw [hr0] at hv; simp at hv
        exact xr_vret X I hr hlk ⟨f', rfl, hge, by rw [hv]; exact hf'⟩ d_Limbs_addLongTimes_67
      · exact absurd (nI_le (Nat.le_refl _) (by omega)) hc
    | succ k ih =>
      intro i r acc f' ls H locs hk hv hbd hge hf' hl I
      refine lv_iload hx hb d_Limbs_addLongTimes_6 (lv_at hl 0 rfl) ?_
      refine lv_iconst (v := nI 3) hx hb d_Limbs_addLongTimes_8 (by decide) ?_
      refine lv_icmp_ge hx hb d_Limbs_addLongTimes_9 rfl (fun hc => ?_) (fun hc => ?_)
      · exact absurd hc (nI_ge (by omega) (by omega))
      · refine lv_lload hx hb d_Limbs_addLongTimes_12 (lv_at hl 1 rfl) ?_
        refine lv_ldc2 (v := 1073741823) hx hb X.1.2.2.2.1 (X.1.2.2.2.2 _ (List.mem_cons_of_mem _ k_4b4bee73ee)) d_Limbs_addLongTimes_14 ?_
        refine lv_land hx hb d_Limbs_addLongTimes_17 ?_
        refine lv_topl (fun g0 eg0 => ?_)
        refine lv_lstore (lv' := [(8, .long g0), (7, .int (nI i)), (5, .long r), (0, .ref (ad a)), (1, .ref (ad b)), (2, .long v), (4, .int (nI n))]) hx hb d_Limbs_addLongTimes_18 hl (by decide) rfl (fun ls hl => ?_)
        refine lv_lload hx hb d_Limbs_addLongTimes_20 (lv_at hl 2 rfl) ?_
        refine lv_bipush (v := nI 30) hx hb d_Limbs_addLongTimes_22 (by decide) ?_
        refine lv_lshr hx hb d_Limbs_addLongTimes_24 rfl ?_
        refine lv_topl (fun r1 er1 => ?_)
        refine lv_lstore (lv' := [(5, .long r1), (8, .long g0), (7, .int (nI i)), (0, .ref (ad a)), (1, .ref (ad b)), (2, .long v), (4, .int (nI n))]) hx hb d_Limbs_addLongTimes_25 hl (by decide) rfl (fun ls hl => ?_)
        refine lv_lload hx hb d_Limbs_addLongTimes_27 (lv_at hl 1 rfl) ?_
        refine lv_ldc2 (v := 536870912) hx hb X.1.2.2.2.1 (X.1.2.2.2.2 _ (List.mem_cons_of_mem _ k_0c9e0e9e73)) d_Limbs_addLongTimes_29 ?_
        refine W.lcmp hx hb d_Limbs_addLongTimes_32 ?_
        have hdg := lm_digit r
        rw [← eg0, ← er1] at hdg
        have hrl := r.le_toInt; have hru := r.toInt_lt
        refine lv_if_le hx hb d_Limbs_addLongTimes_33 rfl (fun hc2 => ?_) (fun hc2 => ?_)
        · have hle : g0.toInt ≤ 536870912 := by have := Int64.le_iff_toInt_le.mp ((lg_cmp_le _ _).mp hc2); rw [show (536870912 : Int64).toInt = 536870912 by decide] at this; exact this
          have e9 : r.toInt = g0.toInt + r1.toInt * 1073741824 := by omega
          have hd9 : -536870912 ≤ g0.toInt ∧ g0.toInt ≤ 536870912 := by omega
          refine lv_aload_n hx hb d_Limbs_addLongTimes_50 rfl (lv_at hl 3 rfl) ?_
          refine lv_aload_n hx hb d_Limbs_addLongTimes_51 rfl (lv_at hl 4 rfl) ?_
          refine lv_lload hx hb d_Limbs_addLongTimes_52 (lv_at hl 1 rfl) ?_
          refine lv_iload hx hb d_Limbs_addLongTimes_54 (lv_at hl 2 rfl) ?_
          refine lv_iload hx hb d_Limbs_addLongTimes_56 (lv_at hl 6 rfl) ?_
          refine xr_callv (xr_runS (kc := 0) (kr := 1) (n := 5) (As := [.ref (ad a), .ref (ad b), .long g0, .int (nI i), .int (nI n)]) (rest := []) X I (c_Limbs_addTimes (σ := va_up σ a (.inl (cI, La, .inl f'))) (x := x + acc * y) (y := y) hNa hNb (va_up_self _ _ _) ((va_up_ne _ _ hba).trans hσb) hba ⟨by omega, by omega⟩ (show i ≤ n by omega) hn hLa (by omega) hLb hf' (lm_is_le hyg (by omega))) (xg k_c80bea473c) (List.mem_cons_of_mem _ k_344626c77a) (List.mem_cons_of_mem _ k_0ef42f4896) (List.mem_cons_of_mem _ k_b15d0305ca) (by decide +kernel) (by decide) rfl hl.1 rfl (Nat.le_of_ble_eq_true rfl) d_Limbs_addLongTimes_58) I (fun σ1 H locs hp I => ?_)
          obtain ⟨f2, rfl, h2, h3⟩ := hp
          rw [va_up_up] at I
          refine lv_iinc (k := 2) (v := nI (i + 1)) (lv' := [(7, .int (nI (i + 1))), (5, .long r1), (8, .long g0), (0, .ref (ad a)), (1, .ref (ad b)), (2, .long v), (4, .int (nI n))]) hx hb d_Limbs_addLongTimes_61 hl rfl (nI_1 i) (by decide) rfl (fun ls hl => ?_)
          refine lv_goto hx hb d_Limbs_addLongTimes_64 rfl ?_
          have hl := lv_sub hl [0, 1, 3, 4, 5, 6] rfl
          have hl : lv_has ls 10 [(7, .int (nI (i + 1))), (5, .long r1), (0, .ref (ad a)), (1, .ref (ad b)), (2, .long v), (4, .int (nI n))] := hl
          exact ih (i + 1) r1 (acc + g0.toInt * 1073741824 ^ i) f2 ls H locs (by omega) (by rw [hv, e9, Int.pow_succ]; grind) (lm_bd_step (by omega) hbd e9 hd9) (fun j hj => (h2 j hj).trans (hge j hj)) (by rw [Int.add_mul, ← Int.add_assoc]; exact h3) hl I
        · have hgt : ¬ g0.toInt ≤ 536870912 := fun h => hc2 ((lg_cmp_le _ _).mpr (Int64.le_iff_toInt_le.mpr (by rw [show (536870912 : Int64).toInt = 536870912 by decide]; exact h)))
          refine lv_lload hx hb d_Limbs_addLongTimes_36 (lv_at hl 1 rfl) ?_
          refine lv_ldc2 (v := 1073741824) hx hb X.1.2.2.2.1 (X.1.2.2.2.2 _ (List.mem_cons_of_mem _ k_e2253de6ce)) d_Limbs_addLongTimes_38 ?_
          refine lv_lsub hx hb d_Limbs_addLongTimes_41 ?_
          refine lv_topl (fun g1 eg1 => ?_)
          refine lv_lstore (lv' := [(8, .long g1), (5, .long r1), (7, .int (nI i)), (0, .ref (ad a)), (1, .ref (ad b)), (2, .long v), (4, .int (nI n))]) hx hb d_Limbs_addLongTimes_42 hl (by decide) rfl (fun ls hl => ?_)
          refine lv_lload hx hb d_Limbs_addLongTimes_44 (lv_at hl 1 rfl) ?_
          refine lv_lconst (v := 1) hx hb d_Limbs_addLongTimes_46 (by decide) ?_
          refine lv_ladd hx hb d_Limbs_addLongTimes_47 ?_
          refine lv_topl (fun r2 er2 => ?_)
          have q1 : g1.toInt = g0.toInt - 1073741824 := by
            have e0 : (1073741824 : Int64).toInt = 1073741824 := by decide
            rw [eg1, q_lsub (by rw [e0]; omega) (by rw [e0]; omega), e0]
          have q2 : r2.toInt = r1.toInt + 1 := by
            have e0 : (1 : Int64).toInt = 1 := by decide
            rw [er2, q_ladd (by rw [e0]; omega) (by rw [e0]; omega), e0]
          have e9 : r.toInt = g1.toInt + r2.toInt * 1073741824 := by omega
          have hd9 : -536870912 ≤ g1.toInt ∧ g1.toInt ≤ 536870912 := by omega
          refine lv_lstore (lv' := [(5, .long r2), (8, .long g1), (7, .int (nI i)), (0, .ref (ad a)), (1, .ref (ad b)), (2, .long v), (4, .int (nI n))]) hx hb d_Limbs_addLongTimes_48 hl (by decide) rfl (fun ls hl => ?_)
          refine lv_aload_n hx hb d_Limbs_addLongTimes_50 rfl (lv_at hl 3 rfl) ?_
          refine lv_aload_n hx hb d_Limbs_addLongTimes_51 rfl (lv_at hl 4 rfl) ?_
          refine lv_lload hx hb d_Limbs_addLongTimes_52 (lv_at hl 1 rfl) ?_
          refine lv_iload hx hb d_Limbs_addLongTimes_54 (lv_at hl 2 rfl) ?_
          refine lv_iload hx hb d_Limbs_addLongTimes_56 (lv_at hl 6 rfl) ?_
          refine xr_callv (xr_runS (kc := 0) (kr := 1) (n := 5) (As := [.ref (ad a), .ref (ad b), .long g1, .int (nI i), .int (nI n)]) (rest := []) X I (c_Limbs_addTimes (σ := va_up σ a (.inl (cI, La, .inl f'))) (x := x + acc * y) (y := y) hNa hNb (va_up_self _ _ _) ((va_up_ne _ _ hba).trans hσb) hba ⟨by omega, by omega⟩ (show i ≤ n by omega) hn hLa (by omega) hLb hf' (lm_is_le hyg (by omega))) (xg k_c80bea473c) (List.mem_cons_of_mem _ k_344626c77a) (List.mem_cons_of_mem _ k_0ef42f4896) (List.mem_cons_of_mem _ k_b15d0305ca) (by decide +kernel) (by decide) rfl hl.1 rfl (Nat.le_of_ble_eq_true rfl) d_Limbs_addLongTimes_58) I (fun σ1 H locs hp I => ?_)
          obtain ⟨f2, rfl, h2, h3⟩ := hp
          rw [va_up_up] at I
          refine lv_iinc (k := 2) (v := nI (i + 1)) (lv' := [(7, .int (nI (i + 1))), (5, .long r2), (8, .long g1), (0, .ref (ad a)), (1, .ref (ad b)), (2, .long v), (4, .int (nI n))]) hx hb d_Limbs_addLongTimes_61 hl rfl (nI_1 i) (by decide) rfl (fun ls hl => ?_)
          refine lv_goto hx hb d_Limbs_addLongTimes_64 rfl ?_
          have hl := lv_sub hl [0, 1, 3, 4, 5, 6] rfl
          have hl : lv_has ls 10 [(7, .int (nI (i + 1))), (5, .long r2), (0, .ref (ad a)), (1, .ref (ad b)), (2, .long v), (4, .int (nI n))] := hl
          exact ih (i + 1) r2 (acc + g1.toInt * 1073741824 ^ i) f2 ls H locs (by omega) (by rw [hv, e9, Int.pow_succ]; grind) (lm_bd_step (by omega) hbd e9 hd9) (fun j hj => (h2 j hj).trans (hge j hj)) (by rw [Int.add_mul, ← Int.add_assoc]; exact h3) hl I
  exact loop 3 0 v 0 f ls _ _ (by decide) (by simp) (by have h1 := v.le_toInt; have h2 := v.toInt_lt; simp only [lm_bd]; omega) (fun _ _ => rfl) (by simpa using hxf) hl (by rw [va_up_same hσa]; exact I)
set_option maxHeartbeats 4000000 in
set_option maxRecDepth 100000 in
theorem c_Limbs_addProductP {l : Launch} {D : va_G} {cI cJ cZ cC cG cP : ClassId} {N : Nat} {ad : Nat → Nat} {σ : Nat → va_E} {a b c9 La Lb Lc n : Nat} {f g h : Nat → Int32} {x y z : Int} (hNa : a < N) (hNb : b < N) (hNc : c9 < N) (hσa : σ a = .inl (cI, La, .inl f)) (hσb : σ b = .inl (cI, Lb, .inl g)) (hσc : σ c9 = .inl (cI, Lc, .inl h)) (hba : b ≠ a) (hca : c9 ≠ a) (hn : n ≤ La) (hLa : La < 2 ^ 31) (hnb : n ≤ Lb) (hLb : Lb < 2 ^ 31) (hnc : n ≤ Lc) (hLc : Lc < 2 ^ 31) (hxf : lm_is f n x) (hyg : lm_is g n y) (hzh : lm_is h n z) :
    Met l y_Limbs_addProduct v_Limbs_addProduct (xrm 1) (va_Pc [.ref (ad a), .ref (ad b), .ref (ad c9), .int (nI 1), .int (nI n)] (xS D classes (xT cI cJ cZ cC cG cP) N ad σ)) (va_Qv (lm_up σ a cI La f n (x + y * z)) (xS D classes (xT cI cJ cZ cC cG cP) N ad) (xA N ad)) 0 0 (xA N ad) := by
  refine xr_met rfl (Nat.le_of_ble_eq_true rfl) ?_
  intro p e s m args below meth c ls hx hb X hr hlk hl I
  have hl : lv_has ls 9 [(0, .ref (ad a)), (1, .ref (ad b)), (2, .ref (ad c9)), (3, .int (nI 1)), (4, .int (nI n))] := hl
  refine lv_iconst (v := nI 0) hx hb d_Limbs_addProduct_0 (by decide) ?_
  refine lv_istore (lv' := [(5, .int (nI 0)), (0, .ref (ad a)), (1, .ref (ad b)), (2, .ref (ad c9)), (3, .int (nI 1)), (4, .int (nI n))]) hx hb d_Limbs_addProduct_1 hl (by decide) rfl (fun ls hl => ?_)
  refine lv_iconst (v := nI 0) hx hb d_Limbs_addProduct_3 (by decide) ?_
  refine lv_istore (lv' := [(6, .int (nI 0)), (5, .int (nI 0)), (0, .ref (ad a)), (1, .ref (ad b)), (2, .ref (ad c9)), (3, .int (nI 1)), (4, .int (nI n))]) hx hb d_Limbs_addProduct_4 hl (by decide) rfl (fun ls hl => ?_)
  have loop : ∀ (k : Nat) (i cy : Nat) (S : Int) (f' : Nat → Int32) (ls : Array Slot) (H : Heap) (locs : List Loc), i + k = n → cy ≤ 1 → S + (cy : Int) * 1073741824 ^ i = lm_u h i → (∀ j, n ≤ j → f' j = f j) → lm_is f' n (x + y * S) → lv_has ls 9 [(6, .int (nI i)), (5, .int (nI cy)), (0, .ref (ad a)), (1, .ref (ad b)), (2, .ref (ad c9)), (3, .int (nI 1)), (4, .int (nI n))] → xI D classes N ad s.heap (va_up σ a (.inl (cI, La, .inl f'))) H locs → W p l e (xrm 1) s m args below meth c H locs 0 0 (MQ below (va_Qv (lm_up σ a cI La f n (x + y * z)) (xS D classes (xT cI cJ cZ cC cG cP) N ad) (xA N ad)) args s 0 0 (xA N ad)) (F0 m 6 ls []) := by
    intro k
    induction k with
    | zero =>
      intro i cy S f' ls H locs hk hcy hS hge hf' hl I
      obtain rfl : i = n := by omega
      refine lv_iload hx hb d_Limbs_addProduct_6 (lv_at hl 0 rfl) ?_
      refine lv_iload hx hb d_Limbs_addProduct_8 (lv_at hl 6 rfl) ?_
      refine lv_icmp_ge hx hb d_Limbs_addProduct_10 rfl (fun hc => ?_) (fun hc => ?_)
      · obtain ⟨-, q9, hz9⟩ := hzh
        exact xr_vret X I hr hlk ⟨f', rfl, hge, lm_is_mod hf' (y * (q9 + cy)) (by rw [hz9, ← hS]; grind)⟩ d_Limbs_addProduct_67
      · exact absurd (nI_le (Nat.le_refl _) (by omega)) hc
    | succ k ih =>
      intro i cy S f' ls H locs hk hcy hS hge hf' hl I
      refine lv_iload hx hb d_Limbs_addProduct_6 (lv_at hl 0 rfl) ?_
      refine lv_iload hx hb d_Limbs_addProduct_8 (lv_at hl 6 rfl) ?_
      refine lv_icmp_ge hx hb d_Limbs_addProduct_10 rfl (fun hc => ?_) (fun hc => ?_)
      · exact absurd hc (nI_ge (by omega) (by omega))
      · refine lv_aload_n hx hb d_Limbs_addProduct_13 rfl (lv_at hl 4 rfl) ?_
        refine lv_iload hx hb d_Limbs_addProduct_14 (lv_at hl 0 rfl) ?_
        refine xr_iald X I c9 0 hNc ((va_up_ne _ _ hca).trans hσc) rfl (by omega) hLc d_Limbs_addProduct_16 ?_
        refine lv_i2l hx hb d_Limbs_addProduct_17 rfl ?_
        refine lv_iload hx hb d_Limbs_addProduct_18 (lv_at hl 1 rfl) ?_
        refine lv_i2l hx hb d_Limbs_addProduct_20 rfl ?_
        refine lv_ladd hx hb d_Limbs_addProduct_21 ?_
        refine lv_topl (fun g0 eg0 => ?_)
        have hhi := hzh.1 i (by omega)
        have q0 : g0.toInt = (h i).toInt + cy := by rw [eg0, q_ladd (by rw [q_i2l, q_i2l, nI_toInt (by omega)]; omega) (by rw [q_i2l, q_i2l, nI_toInt (by omega)]; omega), q_i2l, q_i2l, nI_toInt (by omega)]
        refine lv_lstore (lv' := [(7, .long g0), (6, .int (nI i)), (5, .int (nI cy)), (0, .ref (ad a)), (1, .ref (ad b)), (2, .ref (ad c9)), (3, .int (nI 1)), (4, .int (nI n))]) hx hb d_Limbs_addProduct_22 hl (by decide) rfl (fun ls hl => ?_)
        refine lv_iconst (v := nI 0) hx hb d_Limbs_addProduct_24 (by decide) ?_
        refine lv_istore (lv' := [(5, .int (nI 0)), (7, .long g0), (6, .int (nI i)), (0, .ref (ad a)), (1, .ref (ad b)), (2, .ref (ad c9)), (3, .int (nI 1)), (4, .int (nI n))]) hx hb d_Limbs_addProduct_25 hl (by decide) rfl (fun ls hl => ?_)
        refine lv_lload hx hb d_Limbs_addProduct_27 (lv_at hl 1 rfl) ?_
        refine lv_ldc2 (v := 536870912) hx hb X.1.2.2.2.1 (X.1.2.2.2.2 _ (List.mem_cons_of_mem _ k_0c9e0e9e73)) d_Limbs_addProduct_29 ?_
        refine W.lcmp hx hb d_Limbs_addProduct_32 ?_
        refine lv_if_le hx hb d_Limbs_addProduct_33 rfl (fun hc2 => ?_) (fun hc2 => ?_)
        · have hle : g0.toInt ≤ 536870912 := by have := Int64.le_iff_toInt_le.mp ((lg_cmp_le _ _).mp hc2); rw [show (536870912 : Int64).toInt = 536870912 by decide] at this; exact this
          refine lv_aload_n hx hb d_Limbs_addProduct_47 rfl (lv_at hl 3 rfl) ?_
          refine lv_aload_n hx hb d_Limbs_addProduct_48 rfl (lv_at hl 4 rfl) ?_
          refine lv_iload_n hx hb d_Limbs_addProduct_49 rfl (lv_at hl 6 rfl) ?_
          refine lv_i2l hx hb d_Limbs_addProduct_50 rfl ?_
          refine lv_lload hx hb d_Limbs_addProduct_51 (lv_at hl 1 rfl) ?_
          refine lv_lmul hx hb d_Limbs_addProduct_53 ?_
          refine lv_topl (fun fd efd => ?_)
          have qf : fd.toInt = 1 * g0.toInt := by
            have e0 : ((nI 1) : Int32).toInt64.toInt = 1 := by decide
            rw [efd, q_lmul (by rw [e0]; omega) (by rw [e0]; omega), e0]
          refine lv_iload hx hb d_Limbs_addProduct_54 (lv_at hl 2 rfl) ?_
          refine lv_iload hx hb d_Limbs_addProduct_56 (lv_at hl 7 rfl) ?_
          refine xr_callv (xr_runS (kc := 0) (kr := 1) (n := 5) (As := [.ref (ad a), .ref (ad b), .long fd, .int (nI i), .int (nI n)]) (rest := []) X I (c_Limbs_addTimes (σ := va_up σ a (.inl (cI, La, .inl f'))) (x := x + y * S) (y := y) hNa hNb (va_up_self _ _ _) ((va_up_ne _ _ hba).trans hσb) hba ⟨by omega, by omega⟩ (show i ≤ n by omega) hn hLa (by omega) hLb hf' (lm_is_le hyg (by omega))) (xg k_c80bea473c) (List.mem_cons_of_mem _ k_344626c77a) (List.mem_cons_of_mem _ k_0ef42f4896) (List.mem_cons_of_mem _ k_b15d0305ca) (by decide +kernel) (by decide) rfl hl.1 rfl (Nat.le_of_ble_eq_true rfl) d_Limbs_addProduct_58) I (fun σ1 H locs hp I => ?_)
          obtain ⟨f2, rfl, h2, h3⟩ := hp
          rw [va_up_up] at I
          refine lv_iinc (k := 2) (v := nI (i + 1)) (lv' := [(6, .int (nI (i + 1))), (5, .int (nI 0)), (7, .long g0), (0, .ref (ad a)), (1, .ref (ad b)), (2, .ref (ad c9)), (3, .int (nI 1)), (4, .int (nI n))]) hx hb d_Limbs_addProduct_61 hl rfl (nI_1 i) (by decide) rfl (fun ls hl => ?_)
          refine lv_goto hx hb d_Limbs_addProduct_64 rfl ?_
          have hl := lv_sub hl [0, 1, 3, 4, 5, 6, 7] rfl
          have hl : lv_has ls 9 [(6, .int (nI (i + 1))), (5, .int (nI 0)), (0, .ref (ad a)), (1, .ref (ad b)), (2, .ref (ad c9)), (3, .int (nI 1)), (4, .int (nI n))] := hl
          exact ih (i + 1) 0 (S + g0.toInt * 1073741824 ^ i) f2 ls H locs (by omega) (by decide) (lm_prod (c := h) (cy := cy) (cy' := ((0 : Nat) : Int)) (by omega) S hS) (fun j hj => (h2 j hj).trans (hge j hj)) (by rw [qf] at h3; exact lm_is_mod h3 0 (by grind)) hl I
        · have hgt : ¬ g0.toInt ≤ 536870912 := fun h => hc2 ((lg_cmp_le _ _).mpr (Int64.le_iff_toInt_le.mpr (by rw [show (536870912 : Int64).toInt = 536870912 by decide]; exact h)))
          refine lv_lload hx hb d_Limbs_addProduct_36 (lv_at hl 1 rfl) ?_
          refine lv_ldc2 (v := 1073741824) hx hb X.1.2.2.2.1 (X.1.2.2.2.2 _ (List.mem_cons_of_mem _ k_e2253de6ce)) d_Limbs_addProduct_38 ?_
          refine lv_lsub hx hb d_Limbs_addProduct_41 ?_
          refine lv_topl (fun g1 eg1 => ?_)
          have q1 : g1.toInt = g0.toInt - 1073741824 := by
            have e0 : (1073741824 : Int64).toInt = 1073741824 := by decide
            rw [eg1, q_lsub (by rw [e0]; omega) (by rw [e0]; omega), e0]
          refine lv_lstore (lv' := [(7, .long g1), (5, .int (nI 0)), (6, .int (nI i)), (0, .ref (ad a)), (1, .ref (ad b)), (2, .ref (ad c9)), (3, .int (nI 1)), (4, .int (nI n))]) hx hb d_Limbs_addProduct_42 hl (by decide) rfl (fun ls hl => ?_)
          refine lv_iconst (v := nI 1) hx hb d_Limbs_addProduct_44 (by decide) ?_
          refine lv_istore (lv' := [(5, .int (nI 1)), (7, .long g1), (6, .int (nI i)), (0, .ref (ad a)), (1, .ref (ad b)), (2, .ref (ad c9)), (3, .int (nI 1)), (4, .int (nI n))]) hx hb d_Limbs_addProduct_45 hl (by decide) rfl (fun ls hl => ?_)
          refine lv_aload_n hx hb d_Limbs_addProduct_47 rfl (lv_at hl 3 rfl) ?_
          refine lv_aload_n hx hb d_Limbs_addProduct_48 rfl (lv_at hl 4 rfl) ?_
          refine lv_iload_n hx hb d_Limbs_addProduct_49 rfl (lv_at hl 6 rfl) ?_
          refine lv_i2l hx hb d_Limbs_addProduct_50 rfl ?_
          refine lv_lload hx hb d_Limbs_addProduct_51 (lv_at hl 1 rfl) ?_
          refine lv_lmul hx hb d_Limbs_addProduct_53 ?_
          refine lv_topl (fun fd efd => ?_)
          have qf : fd.toInt = 1 * g1.toInt := by
            have e0 : ((nI 1) : Int32).toInt64.toInt = 1 := by decide
            rw [efd, q_lmul (by rw [e0]; omega) (by rw [e0]; omega), e0]
          refine lv_iload hx hb d_Limbs_addProduct_54 (lv_at hl 2 rfl) ?_
          refine lv_iload hx hb d_Limbs_addProduct_56 (lv_at hl 7 rfl) ?_
          refine xr_callv (xr_runS (kc := 0) (kr := 1) (n := 5) (As := [.ref (ad a), .ref (ad b), .long fd, .int (nI i), .int (nI n)]) (rest := []) X I (c_Limbs_addTimes (σ := va_up σ a (.inl (cI, La, .inl f'))) (x := x + y * S) (y := y) hNa hNb (va_up_self _ _ _) ((va_up_ne _ _ hba).trans hσb) hba ⟨by omega, by omega⟩ (show i ≤ n by omega) hn hLa (by omega) hLb hf' (lm_is_le hyg (by omega))) (xg k_c80bea473c) (List.mem_cons_of_mem _ k_344626c77a) (List.mem_cons_of_mem _ k_0ef42f4896) (List.mem_cons_of_mem _ k_b15d0305ca) (by decide +kernel) (by decide) rfl hl.1 rfl (Nat.le_of_ble_eq_true rfl) d_Limbs_addProduct_58) I (fun σ1 H locs hp I => ?_)
          obtain ⟨f2, rfl, h2, h3⟩ := hp
          rw [va_up_up] at I
          refine lv_iinc (k := 2) (v := nI (i + 1)) (lv' := [(6, .int (nI (i + 1))), (5, .int (nI 1)), (7, .long g1), (0, .ref (ad a)), (1, .ref (ad b)), (2, .ref (ad c9)), (3, .int (nI 1)), (4, .int (nI n))]) hx hb d_Limbs_addProduct_61 hl rfl (nI_1 i) (by decide) rfl (fun ls hl => ?_)
          refine lv_goto hx hb d_Limbs_addProduct_64 rfl ?_
          have hl := lv_sub hl [0, 1, 3, 4, 5, 6, 7] rfl
          have hl : lv_has ls 9 [(6, .int (nI (i + 1))), (5, .int (nI 1)), (0, .ref (ad a)), (1, .ref (ad b)), (2, .ref (ad c9)), (3, .int (nI 1)), (4, .int (nI n))] := hl
          exact ih (i + 1) 1 (S + g1.toInt * 1073741824 ^ i) f2 ls H locs (by omega) (by decide) (lm_prod (c := h) (cy := cy) (cy' := ((1 : Nat) : Int)) (by omega) S hS) (fun j hj => (h2 j hj).trans (hge j hj)) (by rw [qf] at h3; exact lm_is_mod h3 0 (by grind)) hl I
  exact loop n 0 0 0 f ls _ _ (by omega) (by decide) (by simp [lm_u]) (fun _ _ => rfl) (by simpa using hxf) hl (by rw [va_up_same hσa]; exact I)
set_option maxHeartbeats 4000000 in
set_option maxRecDepth 100000 in
theorem c_Limbs_addProductM {l : Launch} {D : va_G} {cI cJ cZ cC cG cP : ClassId} {N : Nat} {ad : Nat → Nat} {σ : Nat → va_E} {a b c9 La Lb Lc n : Nat} {f g h : Nat → Int32} {x y z : Int} (hNa : a < N) (hNb : b < N) (hNc : c9 < N) (hσa : σ a = .inl (cI, La, .inl f)) (hσb : σ b = .inl (cI, Lb, .inl g)) (hσc : σ c9 = .inl (cI, Lc, .inl h)) (hba : b ≠ a) (hca : c9 ≠ a) (hn : n ≤ La) (hLa : La < 2 ^ 31) (hnb : n ≤ Lb) (hLb : Lb < 2 ^ 31) (hnc : n ≤ Lc) (hLc : Lc < 2 ^ 31) (hxf : lm_is f n x) (hyg : lm_is g n y) (hzh : lm_is h n z) :
    Met l y_Limbs_addProduct v_Limbs_addProduct (xrm 1) (va_Pc [.ref (ad a), .ref (ad b), .ref (ad c9), .int ((-1)), .int (nI n)] (xS D classes (xT cI cJ cZ cC cG cP) N ad σ)) (va_Qv (lm_up σ a cI La f n (x - y * z)) (xS D classes (xT cI cJ cZ cC cG cP) N ad) (xA N ad)) 0 0 (xA N ad) := by
  refine xr_met rfl (Nat.le_of_ble_eq_true rfl) ?_
  intro p e s m args below meth c ls hx hb X hr hlk hl I
  have hl : lv_has ls 9 [(0, .ref (ad a)), (1, .ref (ad b)), (2, .ref (ad c9)), (3, .int ((-1))), (4, .int (nI n))] := hl
  refine lv_iconst (v := nI 0) hx hb d_Limbs_addProduct_0 (by decide) ?_
  refine lv_istore (lv' := [(5, .int (nI 0)), (0, .ref (ad a)), (1, .ref (ad b)), (2, .ref (ad c9)), (3, .int ((-1))), (4, .int (nI n))]) hx hb d_Limbs_addProduct_1 hl (by decide) rfl (fun ls hl => ?_)
  refine lv_iconst (v := nI 0) hx hb d_Limbs_addProduct_3 (by decide) ?_
  refine lv_istore (lv' := [(6, .int (nI 0)), (5, .int (nI 0)), (0, .ref (ad a)), (1, .ref (ad b)), (2, .ref (ad c9)), (3, .int ((-1))), (4, .int (nI n))]) hx hb d_Limbs_addProduct_4 hl (by decide) rfl (fun ls hl => ?_)
  have loop : ∀ (k : Nat) (i cy : Nat) (S : Int) (f' : Nat → Int32) (ls : Array Slot) (H : Heap) (locs : List Loc), i + k = n → cy ≤ 1 → S + (cy : Int) * 1073741824 ^ i = lm_u h i → (∀ j, n ≤ j → f' j = f j) → lm_is f' n (x - y * S) → lv_has ls 9 [(6, .int (nI i)), (5, .int (nI cy)), (0, .ref (ad a)), (1, .ref (ad b)), (2, .ref (ad c9)), (3, .int ((-1))), (4, .int (nI n))] → xI D classes N ad s.heap (va_up σ a (.inl (cI, La, .inl f'))) H locs → W p l e (xrm 1) s m args below meth c H locs 0 0 (MQ below (va_Qv (lm_up σ a cI La f n (x - y * z)) (xS D classes (xT cI cJ cZ cC cG cP) N ad) (xA N ad)) args s 0 0 (xA N ad)) (F0 m 6 ls []) := by
    intro k
    induction k with
    | zero =>
      intro i cy S f' ls H locs hk hcy hS hge hf' hl I
      obtain rfl : i = n := by omega
      refine lv_iload hx hb d_Limbs_addProduct_6 (lv_at hl 0 rfl) ?_
      refine lv_iload hx hb d_Limbs_addProduct_8 (lv_at hl 6 rfl) ?_
      refine lv_icmp_ge hx hb d_Limbs_addProduct_10 rfl (fun hc => ?_) (fun hc => ?_)
      · obtain ⟨-, q9, hz9⟩ := hzh
        exact xr_vret X I hr hlk ⟨f', rfl, hge, lm_is_mod hf' (-(y * (q9 + cy))) (by rw [hz9, ← hS]; grind)⟩ d_Limbs_addProduct_67
      · exact absurd (nI_le (Nat.le_refl _) (by omega)) hc
    | succ k ih =>
      intro i cy S f' ls H locs hk hcy hS hge hf' hl I
      refine lv_iload hx hb d_Limbs_addProduct_6 (lv_at hl 0 rfl) ?_
      refine lv_iload hx hb d_Limbs_addProduct_8 (lv_at hl 6 rfl) ?_
      refine lv_icmp_ge hx hb d_Limbs_addProduct_10 rfl (fun hc => ?_) (fun hc => ?_)
      · exact absurd hc (nI_ge (by omega) (by omega))
      · refine lv_aload_n hx hb d_Limbs_addProduct_13 rfl (lv_at hl 4 rfl) ?_
        refine lv_iload hx hb d_Limbs_addProduct_14 (lv_at hl 0 rfl) ?_
        refine xr_iald X I c9 0 hNc ((va_up_ne _ _ hca).trans hσc) rfl (by omega) hLc d_Limbs_addProduct_16 ?_
        refine lv_i2l hx hb d_Limbs_addProduct_17 rfl ?_
        refine lv_iload hx hb d_Limbs_addProduct_18 (lv_at hl 1 rfl) ?_
        refine lv_i2l hx hb d_Limbs_addProduct_20 rfl ?_
        refine lv_ladd hx hb d_Limbs_addProduct_21 ?_
        refine lv_topl (fun g0 eg0 => ?_)
        have hhi := hzh.1 i (by omega)
        have q0 : g0.toInt = (h i).toInt + cy := by rw [eg0, q_ladd (by rw [q_i2l, q_i2l, nI_toInt (by omega)]; omega) (by rw [q_i2l, q_i2l, nI_toInt (by omega)]; omega), q_i2l, q_i2l, nI_toInt (by omega)]
        refine lv_lstore (lv' := [(7, .long g0), (6, .int (nI i)), (5, .int (nI cy)), (0, .ref (ad a)), (1, .ref (ad b)), (2, .ref (ad c9)), (3, .int ((-1))), (4, .int (nI n))]) hx hb d_Limbs_addProduct_22 hl (by decide) rfl (fun ls hl => ?_)
        refine lv_iconst (v := nI 0) hx hb d_Limbs_addProduct_24 (by decide) ?_
        refine lv_istore (lv' := [(5, .int (nI 0)), (7, .long g0), (6, .int (nI i)), (0, .ref (ad a)), (1, .ref (ad b)), (2, .ref (ad c9)), (3, .int ((-1))), (4, .int (nI n))]) hx hb d_Limbs_addProduct_25 hl (by decide) rfl (fun ls hl => ?_)
        refine lv_lload hx hb d_Limbs_addProduct_27 (lv_at hl 1 rfl) ?_
        refine lv_ldc2 (v := 536870912) hx hb X.1.2.2.2.1 (X.1.2.2.2.2 _ (List.mem_cons_of_mem _ k_0c9e0e9e73)) d_Limbs_addProduct_29 ?_
        refine W.lcmp hx hb d_Limbs_addProduct_32 ?_
        refine lv_if_le hx hb d_Limbs_addProduct_33 rfl (fun hc2 => ?_) (fun hc2 => ?_)
        · have hle : g0.toInt ≤ 536870912 := by have := Int64.le_iff_toInt_le.mp ((lg_cmp_le _ _).mp hc2); rw [show (536870912 : Int64).toInt = 536870912 by decide] at this; exact this
          refine lv_aload_n hx hb d_Limbs_addProduct_47 rfl (lv_at hl 3 rfl) ?_
          refine lv_aload_n hx hb d_Limbs_addProduct_48 rfl (lv_at hl 4 rfl) ?_
          refine lv_iload_n hx hb d_Limbs_addProduct_49 rfl (lv_at hl 6 rfl) ?_
          refine lv_i2l hx hb d_Limbs_addProduct_50 rfl ?_
          refine lv_lload hx hb d_Limbs_addProduct_51 (lv_at hl 1 rfl) ?_
          refine lv_lmul hx hb d_Limbs_addProduct_53 ?_
          refine lv_topl (fun fd efd => ?_)
          have qf : fd.toInt = -1 * g0.toInt := by
            have e0 : ((-1) : Int32).toInt64.toInt = -1 := by decide
            rw [efd, q_lmul (by rw [e0]; omega) (by rw [e0]; omega), e0]
          refine lv_iload hx hb d_Limbs_addProduct_54 (lv_at hl 2 rfl) ?_
          refine lv_iload hx hb d_Limbs_addProduct_56 (lv_at hl 7 rfl) ?_
          refine xr_callv (xr_runS (kc := 0) (kr := 1) (n := 5) (As := [.ref (ad a), .ref (ad b), .long fd, .int (nI i), .int (nI n)]) (rest := []) X I (c_Limbs_addTimes (σ := va_up σ a (.inl (cI, La, .inl f'))) (x := x - y * S) (y := y) hNa hNb (va_up_self _ _ _) ((va_up_ne _ _ hba).trans hσb) hba ⟨by omega, by omega⟩ (show i ≤ n by omega) hn hLa (by omega) hLb hf' (lm_is_le hyg (by omega))) (xg k_c80bea473c) (List.mem_cons_of_mem _ k_344626c77a) (List.mem_cons_of_mem _ k_0ef42f4896) (List.mem_cons_of_mem _ k_b15d0305ca) (by decide +kernel) (by decide) rfl hl.1 rfl (Nat.le_of_ble_eq_true rfl) d_Limbs_addProduct_58) I (fun σ1 H locs hp I => ?_)
          obtain ⟨f2, rfl, h2, h3⟩ := hp
          rw [va_up_up] at I
          refine lv_iinc (k := 2) (v := nI (i + 1)) (lv' := [(6, .int (nI (i + 1))), (5, .int (nI 0)), (7, .long g0), (0, .ref (ad a)), (1, .ref (ad b)), (2, .ref (ad c9)), (3, .int ((-1))), (4, .int (nI n))]) hx hb d_Limbs_addProduct_61 hl rfl (nI_1 i) (by decide) rfl (fun ls hl => ?_)
          refine lv_goto hx hb d_Limbs_addProduct_64 rfl ?_
          have hl := lv_sub hl [0, 1, 3, 4, 5, 6, 7] rfl
          have hl : lv_has ls 9 [(6, .int (nI (i + 1))), (5, .int (nI 0)), (0, .ref (ad a)), (1, .ref (ad b)), (2, .ref (ad c9)), (3, .int ((-1))), (4, .int (nI n))] := hl
          exact ih (i + 1) 0 (S + g0.toInt * 1073741824 ^ i) f2 ls H locs (by omega) (by decide) (lm_prod (c := h) (cy := cy) (cy' := ((0 : Nat) : Int)) (by omega) S hS) (fun j hj => (h2 j hj).trans (hge j hj)) (by rw [qf] at h3; exact lm_is_mod h3 0 (by grind)) hl I
        · have hgt : ¬ g0.toInt ≤ 536870912 := fun h => hc2 ((lg_cmp_le _ _).mpr (Int64.le_iff_toInt_le.mpr (by rw [show (536870912 : Int64).toInt = 536870912 by decide]; exact h)))
          refine lv_lload hx hb d_Limbs_addProduct_36 (lv_at hl 1 rfl) ?_
          refine lv_ldc2 (v := 1073741824) hx hb X.1.2.2.2.1 (X.1.2.2.2.2 _ (List.mem_cons_of_mem _ k_e2253de6ce)) d_Limbs_addProduct_38 ?_
          refine lv_lsub hx hb d_Limbs_addProduct_41 ?_
          refine lv_topl (fun g1 eg1 => ?_)
          have q1 : g1.toInt = g0.toInt - 1073741824 := by
            have e0 : (1073741824 : Int64).toInt = 1073741824 := by decide
            rw [eg1, q_lsub (by rw [e0]; omega) (by rw [e0]; omega), e0]
          refine lv_lstore (lv' := [(7, .long g1), (5, .int (nI 0)), (6, .int (nI i)), (0, .ref (ad a)), (1, .ref (ad b)), (2, .ref (ad c9)), (3, .int ((-1))), (4, .int (nI n))]) hx hb d_Limbs_addProduct_42 hl (by decide) rfl (fun ls hl => ?_)
          refine lv_iconst (v := nI 1) hx hb d_Limbs_addProduct_44 (by decide) ?_
          refine lv_istore (lv' := [(5, .int (nI 1)), (7, .long g1), (6, .int (nI i)), (0, .ref (ad a)), (1, .ref (ad b)), (2, .ref (ad c9)), (3, .int ((-1))), (4, .int (nI n))]) hx hb d_Limbs_addProduct_45 hl (by decide) rfl (fun ls hl => ?_)
          refine lv_aload_n hx hb d_Limbs_addProduct_47 rfl (lv_at hl 3 rfl) ?_
          refine lv_aload_n hx hb d_Limbs_addProduct_48 rfl (lv_at hl 4 rfl) ?_
          refine lv_iload_n hx hb d_Limbs_addProduct_49 rfl (lv_at hl 6 rfl) ?_
          refine lv_i2l hx hb d_Limbs_addProduct_50 rfl ?_
          refine lv_lload hx hb d_Limbs_addProduct_51 (lv_at hl 1 rfl) ?_
          refine lv_lmul hx hb d_Limbs_addProduct_53 ?_
          refine lv_topl (fun fd efd => ?_)
          have qf : fd.toInt = -1 * g1.toInt := by
            have e0 : ((-1) : Int32).toInt64.toInt = -1 := by decide
            rw [efd, q_lmul (by rw [e0]; omega) (by rw [e0]; omega), e0]
          refine lv_iload hx hb d_Limbs_addProduct_54 (lv_at hl 2 rfl) ?_
          refine lv_iload hx hb d_Limbs_addProduct_56 (lv_at hl 7 rfl) ?_
          refine xr_callv (xr_runS (kc := 0) (kr := 1) (n := 5) (As := [.ref (ad a), .ref (ad b), .long fd, .int (nI i), .int (nI n)]) (rest := []) X I (c_Limbs_addTimes (σ := va_up σ a (.inl (cI, La, .inl f'))) (x := x - y * S) (y := y) hNa hNb (va_up_self _ _ _) ((va_up_ne _ _ hba).trans hσb) hba ⟨by omega, by omega⟩ (show i ≤ n by omega) hn hLa (by omega) hLb hf' (lm_is_le hyg (by omega))) (xg k_c80bea473c) (List.mem_cons_of_mem _ k_344626c77a) (List.mem_cons_of_mem _ k_0ef42f4896) (List.mem_cons_of_mem _ k_b15d0305ca) (by decide +kernel) (by decide) rfl hl.1 rfl (Nat.le_of_ble_eq_true rfl) d_Limbs_addProduct_58) I (fun σ1 H locs hp I => ?_)
          obtain ⟨f2, rfl, h2, h3⟩ := hp
          rw [va_up_up] at I
          refine lv_iinc (k := 2) (v := nI (i + 1)) (lv' := [(6, .int (nI (i + 1))), (5, .int (nI 1)), (7, .long g1), (0, .ref (ad a)), (1, .ref (ad b)), (2, .ref (ad c9)), (3, .int ((-1))), (4, .int (nI n))]) hx hb d_Limbs_addProduct_61 hl rfl (nI_1 i) (by decide) rfl (fun ls hl => ?_)
          refine lv_goto hx hb d_Limbs_addProduct_64 rfl ?_
          have hl := lv_sub hl [0, 1, 3, 4, 5, 6, 7] rfl
          have hl : lv_has ls 9 [(6, .int (nI (i + 1))), (5, .int (nI 1)), (0, .ref (ad a)), (1, .ref (ad b)), (2, .ref (ad c9)), (3, .int ((-1))), (4, .int (nI n))] := hl
          exact ih (i + 1) 1 (S + g1.toInt * 1073741824 ^ i) f2 ls H locs (by omega) (by decide) (lm_prod (c := h) (cy := cy) (cy' := ((1 : Nat) : Int)) (by omega) S hS) (fun j hj => (h2 j hj).trans (hge j hj)) (by rw [qf] at h3; exact lm_is_mod h3 0 (by grind)) hl I
  exact loop n 0 0 0 f ls _ _ (by omega) (by decide) (by simp [lm_u]) (fun _ _ => rfl) (by simpa using hxf) hl (by rw [va_up_same hσa]; exact I)
end
section
/-! Arrays.fill; SpectrumDesk$Limbs: copy, assign, widen (written by wip/gen) -/
abbrev b_Arrays_fill2 : ByteArray := prog_26_method_103_code
abbrev y_Arrays_fill2 : MethodName := ⟨"java/util/Arrays", "fill", "([II)V"⟩
abbrev v_Arrays_fill2 : List Cond := Cond.code y_Arrays_fill2 b_Arrays_fill2 4 none :: AW
theorem d_Arrays_fill2_0 : decode b_Arrays_fill2 0 = .ok (.iconst 0, 1) := by decide +kernel
theorem d_Arrays_fill2_1 : decode b_Arrays_fill2 1 = .ok (.istore_n 2, 1) := by decide +kernel
theorem d_Arrays_fill2_2 : decode b_Arrays_fill2 2 = .ok (.aload_n 0, 1) := by decide +kernel
theorem d_Arrays_fill2_3 : decode b_Arrays_fill2 3 = .ok (.arraylength, 1) := by decide +kernel
theorem d_Arrays_fill2_4 : decode b_Arrays_fill2 4 = .ok (.istore_n 3, 1) := by decide +kernel
theorem d_Arrays_fill2_5 : decode b_Arrays_fill2 5 = .ok (.iload_n 2, 1) := by decide +kernel
theorem d_Arrays_fill2_6 : decode b_Arrays_fill2 6 = .ok (.iload_n 3, 1) := by decide +kernel
theorem d_Arrays_fill2_7 : decode b_Arrays_fill2 7 = .ok (.if_icmp .ge (13), 3) := by decide +kernel
theorem d_Arrays_fill2_10 : decode b_Arrays_fill2 10 = .ok (.aload_n 0, 1) := by decide +kernel
theorem d_Arrays_fill2_11 : decode b_Arrays_fill2 11 = .ok (.iload_n 2, 1) := by decide +kernel
theorem d_Arrays_fill2_12 : decode b_Arrays_fill2 12 = .ok (.iload_n 1, 1) := by decide +kernel
theorem d_Arrays_fill2_13 : decode b_Arrays_fill2 13 = .ok (.iastore, 1) := by decide +kernel
theorem d_Arrays_fill2_14 : decode b_Arrays_fill2 14 = .ok (.iinc 2 (1), 3) := by decide +kernel
theorem d_Arrays_fill2_17 : decode b_Arrays_fill2 17 = .ok (.goto (-12), 3) := by decide +kernel
theorem d_Arrays_fill2_20 : decode b_Arrays_fill2 20 = .ok (.return_, 1) := by decide +kernel
abbrev b_Arrays_rangeCheck : ByteArray := prog_26_method_30_code
abbrev y_Arrays_rangeCheck : MethodName := ⟨"java/util/Arrays", "rangeCheck", "(III)V"⟩
abbrev v_Arrays_rangeCheck : List Cond := Cond.code y_Arrays_rangeCheck b_Arrays_rangeCheck 3 none :: AW
theorem d_Arrays_rangeCheck_0 : decode b_Arrays_rangeCheck 0 = .ok (.iload_n 1, 1) := by decide +kernel
theorem d_Arrays_rangeCheck_1 : decode b_Arrays_rangeCheck 1 = .ok (.iload_n 2, 1) := by decide +kernel
theorem d_Arrays_rangeCheck_2 : decode b_Arrays_rangeCheck 2 = .ok (.if_icmp .le (44), 3) := by decide +kernel
theorem d_Arrays_rangeCheck_5 : decode b_Arrays_rangeCheck 5 = .ok (.new 43, 3) := by decide +kernel
theorem d_Arrays_rangeCheck_8 : decode b_Arrays_rangeCheck 8 = .ok (.dup, 1) := by decide +kernel
theorem d_Arrays_rangeCheck_9 : decode b_Arrays_rangeCheck 9 = .ok (.new 45, 3) := by decide +kernel
theorem d_Arrays_rangeCheck_12 : decode b_Arrays_rangeCheck 12 = .ok (.dup, 1) := by decide +kernel
theorem d_Arrays_rangeCheck_13 : decode b_Arrays_rangeCheck 13 = .ok (.invokespecial 47, 3) := by decide +kernel
theorem d_Arrays_rangeCheck_16 : decode b_Arrays_rangeCheck 16 = .ok (.ldc 48, 2) := by decide +kernel
theorem d_Arrays_rangeCheck_18 : decode b_Arrays_rangeCheck 18 = .ok (.invokevirtual 50, 3) := by decide +kernel
theorem d_Arrays_rangeCheck_21 : decode b_Arrays_rangeCheck 21 = .ok (.iload_n 1, 1) := by decide +kernel
theorem d_Arrays_rangeCheck_22 : decode b_Arrays_rangeCheck 22 = .ok (.invokevirtual 54, 3) := by decide +kernel
theorem d_Arrays_rangeCheck_25 : decode b_Arrays_rangeCheck 25 = .ok (.ldc 57, 2) := by decide +kernel
theorem d_Arrays_rangeCheck_27 : decode b_Arrays_rangeCheck 27 = .ok (.invokevirtual 50, 3) := by decide +kernel
theorem d_Arrays_rangeCheck_30 : decode b_Arrays_rangeCheck 30 = .ok (.iload_n 2, 1) := by decide +kernel
theorem d_Arrays_rangeCheck_31 : decode b_Arrays_rangeCheck 31 = .ok (.invokevirtual 54, 3) := by decide +kernel
theorem d_Arrays_rangeCheck_34 : decode b_Arrays_rangeCheck 34 = .ok (.ldc 59, 2) := by decide +kernel
theorem d_Arrays_rangeCheck_36 : decode b_Arrays_rangeCheck 36 = .ok (.invokevirtual 50, 3) := by decide +kernel
theorem d_Arrays_rangeCheck_39 : decode b_Arrays_rangeCheck 39 = .ok (.invokevirtual 61, 3) := by decide +kernel
theorem d_Arrays_rangeCheck_42 : decode b_Arrays_rangeCheck 42 = .ok (.invokespecial 65, 3) := by decide +kernel
theorem d_Arrays_rangeCheck_45 : decode b_Arrays_rangeCheck 45 = .ok (.athrow, 1) := by decide +kernel
theorem d_Arrays_rangeCheck_46 : decode b_Arrays_rangeCheck 46 = .ok (.iload_n 1, 1) := by decide +kernel
theorem d_Arrays_rangeCheck_47 : decode b_Arrays_rangeCheck 47 = .ok (.ifCond .ge (12), 3) := by decide +kernel
theorem d_Arrays_rangeCheck_50 : decode b_Arrays_rangeCheck 50 = .ok (.new 68, 3) := by decide +kernel
theorem d_Arrays_rangeCheck_53 : decode b_Arrays_rangeCheck 53 = .ok (.dup, 1) := by decide +kernel
theorem d_Arrays_rangeCheck_54 : decode b_Arrays_rangeCheck 54 = .ok (.iload_n 1, 1) := by decide +kernel
theorem d_Arrays_rangeCheck_55 : decode b_Arrays_rangeCheck 55 = .ok (.invokespecial 70, 3) := by decide +kernel
theorem d_Arrays_rangeCheck_58 : decode b_Arrays_rangeCheck 58 = .ok (.athrow, 1) := by decide +kernel
theorem d_Arrays_rangeCheck_59 : decode b_Arrays_rangeCheck 59 = .ok (.iload_n 2, 1) := by decide +kernel
theorem d_Arrays_rangeCheck_60 : decode b_Arrays_rangeCheck 60 = .ok (.iload_n 0, 1) := by decide +kernel
theorem d_Arrays_rangeCheck_61 : decode b_Arrays_rangeCheck 61 = .ok (.if_icmp .le (12), 3) := by decide +kernel
theorem d_Arrays_rangeCheck_64 : decode b_Arrays_rangeCheck 64 = .ok (.new 68, 3) := by decide +kernel
theorem d_Arrays_rangeCheck_67 : decode b_Arrays_rangeCheck 67 = .ok (.dup, 1) := by decide +kernel
theorem d_Arrays_rangeCheck_68 : decode b_Arrays_rangeCheck 68 = .ok (.iload_n 2, 1) := by decide +kernel
theorem d_Arrays_rangeCheck_69 : decode b_Arrays_rangeCheck 69 = .ok (.invokespecial 70, 3) := by decide +kernel
theorem d_Arrays_rangeCheck_72 : decode b_Arrays_rangeCheck 72 = .ok (.athrow, 1) := by decide +kernel
theorem d_Arrays_rangeCheck_73 : decode b_Arrays_rangeCheck 73 = .ok (.return_, 1) := by decide +kernel
abbrev b_Arrays_fill4 : ByteArray := prog_26_method_104_code
abbrev y_Arrays_fill4 : MethodName := ⟨"java/util/Arrays", "fill", "([IIII)V"⟩
abbrev v_Arrays_fill4 : List Cond := Cond.code y_Arrays_fill4 b_Arrays_fill4 5 none :: AW
theorem d_Arrays_fill4_0 : decode b_Arrays_fill4 0 = .ok (.aload_n 0, 1) := by decide +kernel
theorem d_Arrays_fill4_1 : decode b_Arrays_fill4 1 = .ok (.arraylength, 1) := by decide +kernel
theorem d_Arrays_fill4_2 : decode b_Arrays_fill4 2 = .ok (.iload_n 1, 1) := by decide +kernel
theorem d_Arrays_fill4_3 : decode b_Arrays_fill4 3 = .ok (.iload_n 2, 1) := by decide +kernel
theorem d_Arrays_fill4_4 : decode b_Arrays_fill4 4 = .ok (.invokestatic 13, 3) := by decide +kernel
theorem d_Arrays_fill4_7 : decode b_Arrays_fill4 7 = .ok (.iload_n 1, 1) := by decide +kernel
theorem d_Arrays_fill4_8 : decode b_Arrays_fill4 8 = .ok (.istore 4, 2) := by decide +kernel
theorem d_Arrays_fill4_10 : decode b_Arrays_fill4 10 = .ok (.iload 4, 2) := by decide +kernel
theorem d_Arrays_fill4_12 : decode b_Arrays_fill4 12 = .ok (.iload_n 2, 1) := by decide +kernel
theorem d_Arrays_fill4_13 : decode b_Arrays_fill4 13 = .ok (.if_icmp .ge (14), 3) := by decide +kernel
theorem d_Arrays_fill4_16 : decode b_Arrays_fill4 16 = .ok (.aload_n 0, 1) := by decide +kernel
theorem d_Arrays_fill4_17 : decode b_Arrays_fill4 17 = .ok (.iload 4, 2) := by decide +kernel
theorem d_Arrays_fill4_19 : decode b_Arrays_fill4 19 = .ok (.iload_n 3, 1) := by decide +kernel
theorem d_Arrays_fill4_20 : decode b_Arrays_fill4 20 = .ok (.iastore, 1) := by decide +kernel
theorem d_Arrays_fill4_21 : decode b_Arrays_fill4 21 = .ok (.iinc 4 (1), 3) := by decide +kernel
theorem d_Arrays_fill4_24 : decode b_Arrays_fill4 24 = .ok (.goto (-14), 3) := by decide +kernel
theorem d_Arrays_fill4_27 : decode b_Arrays_fill4 27 = .ok (.return_, 1) := by decide +kernel
abbrev b_Limbs_copy : ByteArray := prog_4_method_3_code
abbrev y_Limbs_copy : MethodName := ⟨"SpectrumDesk$Limbs", "copy", "([I[II)V"⟩
abbrev v_Limbs_copy : List Cond := Cond.code y_Limbs_copy b_Limbs_copy 3 none :: AW
theorem d_Limbs_copy_0 : decode b_Limbs_copy 0 = .ok (.aload_n 1, 1) := by decide +kernel
theorem d_Limbs_copy_1 : decode b_Limbs_copy 1 = .ok (.iconst 0, 1) := by decide +kernel
theorem d_Limbs_copy_2 : decode b_Limbs_copy 2 = .ok (.aload_n 0, 1) := by decide +kernel
theorem d_Limbs_copy_3 : decode b_Limbs_copy 3 = .ok (.iconst 0, 1) := by decide +kernel
theorem d_Limbs_copy_4 : decode b_Limbs_copy 4 = .ok (.iload_n 2, 1) := by decide +kernel
theorem d_Limbs_copy_5 : decode b_Limbs_copy 5 = .ok (.invokestatic 16, 3) := by decide +kernel
theorem d_Limbs_copy_8 : decode b_Limbs_copy 8 = .ok (.return_, 1) := by decide +kernel
abbrev b_Limbs_assign : ByteArray := prog_4_method_2_code
abbrev y_Limbs_assign : MethodName := ⟨"SpectrumDesk$Limbs", "assign", "([II)V"⟩
abbrev v_Limbs_assign : List Cond := Cond.code y_Limbs_assign b_Limbs_assign 2 none :: AW
theorem d_Limbs_assign_0 : decode b_Limbs_assign 0 = .ok (.aload_n 0, 1) := by decide +kernel
theorem d_Limbs_assign_1 : decode b_Limbs_assign 1 = .ok (.iload_n 1, 1) := by decide +kernel
theorem d_Limbs_assign_2 : decode b_Limbs_assign 2 = .ok (.ifCond .ge (8), 3) := by decide +kernel
theorem d_Limbs_assign_5 : decode b_Limbs_assign 5 = .ok (.ldc 9, 2) := by decide +kernel
theorem d_Limbs_assign_7 : decode b_Limbs_assign 7 = .ok (.goto (4), 3) := by decide +kernel
theorem d_Limbs_assign_10 : decode b_Limbs_assign 10 = .ok (.iconst 0, 1) := by decide +kernel
theorem d_Limbs_assign_11 : decode b_Limbs_assign 11 = .ok (.invokestatic 10, 3) := by decide +kernel
theorem d_Limbs_assign_14 : decode b_Limbs_assign 14 = .ok (.aload_n 0, 1) := by decide +kernel
theorem d_Limbs_assign_15 : decode b_Limbs_assign 15 = .ok (.iconst 0, 1) := by decide +kernel
theorem d_Limbs_assign_16 : decode b_Limbs_assign 16 = .ok (.iload_n 1, 1) := by decide +kernel
theorem d_Limbs_assign_17 : decode b_Limbs_assign 17 = .ok (.ldc 9, 2) := by decide +kernel
theorem d_Limbs_assign_19 : decode b_Limbs_assign 19 = .ok (.iand, 1) := by decide +kernel
theorem d_Limbs_assign_20 : decode b_Limbs_assign 20 = .ok (.iastore, 1) := by decide +kernel
theorem d_Limbs_assign_21 : decode b_Limbs_assign 21 = .ok (.return_, 1) := by decide +kernel
abbrev b_Limbs_widen : ByteArray := prog_4_method_4_code
abbrev y_Limbs_widen : MethodName := ⟨"SpectrumDesk$Limbs", "widen", "([II[II)V"⟩
abbrev v_Limbs_widen : List Cond := Cond.code y_Limbs_widen b_Limbs_widen 5 none :: AW
theorem d_Limbs_widen_0 : decode b_Limbs_widen 0 = .ok (.iload_n 1, 1) := by decide +kernel
theorem d_Limbs_widen_1 : decode b_Limbs_widen 1 = .ok (.iload_n 3, 1) := by decide +kernel
theorem d_Limbs_widen_2 : decode b_Limbs_widen 2 = .ok (.invokestatic 22, 3) := by decide +kernel
theorem d_Limbs_widen_5 : decode b_Limbs_widen 5 = .ok (.istore 4, 2) := by decide +kernel
theorem d_Limbs_widen_7 : decode b_Limbs_widen 7 = .ok (.aload_n 2, 1) := by decide +kernel
theorem d_Limbs_widen_8 : decode b_Limbs_widen 8 = .ok (.iconst 0, 1) := by decide +kernel
theorem d_Limbs_widen_9 : decode b_Limbs_widen 9 = .ok (.aload_n 0, 1) := by decide +kernel
theorem d_Limbs_widen_10 : decode b_Limbs_widen 10 = .ok (.iconst 0, 1) := by decide +kernel
theorem d_Limbs_widen_11 : decode b_Limbs_widen 11 = .ok (.iload 4, 2) := by decide +kernel
theorem d_Limbs_widen_13 : decode b_Limbs_widen 13 = .ok (.invokestatic 16, 3) := by decide +kernel
theorem d_Limbs_widen_16 : decode b_Limbs_widen 16 = .ok (.iload_n 1, 1) := by decide +kernel
theorem d_Limbs_widen_17 : decode b_Limbs_widen 17 = .ok (.iload 4, 2) := by decide +kernel
theorem d_Limbs_widen_19 : decode b_Limbs_widen 19 = .ok (.if_icmp .le (27), 3) := by decide +kernel
theorem d_Limbs_widen_22 : decode b_Limbs_widen 22 = .ok (.aload_n 0, 1) := by decide +kernel
theorem d_Limbs_widen_23 : decode b_Limbs_widen 23 = .ok (.iload 4, 2) := by decide +kernel
theorem d_Limbs_widen_25 : decode b_Limbs_widen 25 = .ok (.iload_n 1, 1) := by decide +kernel
theorem d_Limbs_widen_26 : decode b_Limbs_widen 26 = .ok (.aload_n 2, 1) := by decide +kernel
theorem d_Limbs_widen_27 : decode b_Limbs_widen 27 = .ok (.iload 4, 2) := by decide +kernel
theorem d_Limbs_widen_29 : decode b_Limbs_widen 29 = .ok (.iconst 1, 1) := by decide +kernel
theorem d_Limbs_widen_30 : decode b_Limbs_widen 30 = .ok (.isub, 1) := by decide +kernel
theorem d_Limbs_widen_31 : decode b_Limbs_widen 31 = .ok (.iaload, 1) := by decide +kernel
theorem d_Limbs_widen_32 : decode b_Limbs_widen 32 = .ok (.ldc 28, 2) := by decide +kernel
theorem d_Limbs_widen_34 : decode b_Limbs_widen 34 = .ok (.if_icmp .lt (8), 3) := by decide +kernel
theorem d_Limbs_widen_37 : decode b_Limbs_widen 37 = .ok (.ldc 9, 2) := by decide +kernel
theorem d_Limbs_widen_39 : decode b_Limbs_widen 39 = .ok (.goto (4), 3) := by decide +kernel
theorem d_Limbs_widen_42 : decode b_Limbs_widen 42 = .ok (.iconst 0, 1) := by decide +kernel
theorem d_Limbs_widen_43 : decode b_Limbs_widen 43 = .ok (.invokestatic 29, 3) := by decide +kernel
theorem d_Limbs_widen_46 : decode b_Limbs_widen 46 = .ok (.return_, 1) := by decide +kernel
theorem k_ebd95465e3 : (Jvm.Cond.methodLink "java/util/Arrays" (13 : Nat) ({ cls := "java/util/Arrays", name := "rangeCheck", desc := "(III)V" } : Jvm.MethodName)) ∈ AW := aw_2 (List.mem_of_getElem? (i := 78) (by decide +kernel)) (by decide +kernel)
theorem k_e3e2c9b0c7 : (Jvm.Cond.static ({ cls := "java/util/Arrays", name := "rangeCheck", desc := "(III)V" } : Jvm.MethodName)) ∈ AW := aw_2 (List.mem_of_getElem? (i := 79) (by decide +kernel)) (by decide +kernel)
theorem k_9b51368402 : (Jvm.Cond.initialized "java/util/Arrays") ∈ AW := aw_1 (List.mem_of_getElem? (i := 6) (by decide +kernel)) (by decide +kernel)
theorem k_c20c33e3e4 : (Jvm.Cond.methodLink "SpectrumDesk$Limbs" (16 : Nat) ({ cls := "java/lang/System", name := "arraycopy", desc := "(Ljava/lang/Object;ILjava/lang/Object;II)V" } : Jvm.MethodName)) ∈ AW := aw_2 (List.mem_of_getElem? (i := 45) (by decide +kernel)) (by decide +kernel)
theorem k_44962a2e0f : (Jvm.Cond.native ({ cls := "java/lang/System", name := "arraycopy", desc := "(Ljava/lang/Object;ILjava/lang/Object;II)V" } : Jvm.MethodName)) ∈ AW := aw_2 (List.mem_of_getElem? (i := 47) (by decide +kernel)) (by decide +kernel)
theorem k_021bd90bb8 : (Jvm.Cond.static ({ cls := "java/lang/System", name := "arraycopy", desc := "(Ljava/lang/Object;ILjava/lang/Object;II)V" } : Jvm.MethodName)) ∈ AW := aw_2 (List.mem_of_getElem? (i := 46) (by decide +kernel)) (by decide +kernel)
theorem k_49263667dd : (Jvm.Cond.initialized "java/lang/System") ∈ AW := aw_1 (List.mem_of_getElem? (i := 17) (by decide +kernel)) (by decide +kernel)
theorem k_67a4a4651d : (Jvm.Cond.constant "SpectrumDesk$Limbs" (9 : Nat) (1073741823 : Int32)) ∈ AW := aw_1 (List.mem_of_getElem? (i := 97) (by decide +kernel)) (by decide +kernel)
theorem k_7cf9be04ba : (Jvm.Cond.methodLink "SpectrumDesk$Limbs" (10 : Nat) ({ cls := "java/util/Arrays", name := "fill", desc := "([II)V" } : Jvm.MethodName)) ∈ AW := aw_1 (List.mem_of_getElem? (i := 98) (by decide +kernel)) (by decide +kernel)
theorem k_09018f8637 : (Jvm.Cond.static ({ cls := "java/util/Arrays", name := "fill", desc := "([II)V" } : Jvm.MethodName)) ∈ AW := aw_1 (List.mem_of_getElem? (i := 99) (by decide +kernel)) (by decide +kernel)
theorem k_5bec20fa46 : (Jvm.Cond.methodLink "SpectrumDesk$Limbs" (22 : Nat) ({ cls := "java/lang/Math", name := "min", desc := "(II)I" } : Jvm.MethodName)) ∈ AW := aw_2 (List.mem_of_getElem? (i := 71) (by decide +kernel)) (by decide +kernel)
theorem k_23a513c1b6 : (Jvm.Cond.static ({ cls := "java/lang/Math", name := "min", desc := "(II)I" } : Jvm.MethodName)) ∈ AW := aw_2 (List.mem_of_getElem? (i := 72) (by decide +kernel)) (by decide +kernel)
theorem k_fb0a1f8118 : (Jvm.Cond.initialized "java/lang/Math") ∈ AW := aw_1 (List.mem_of_getElem? (i := 16) (by decide +kernel)) (by decide +kernel)
theorem k_85de21bb8a : (Jvm.Cond.code ({ cls := "java/lang/Math", name := "min", desc := "(II)I" } : Jvm.MethodName) prog_18_method_69_code (2 : Nat) (Option.some Jvm.ClassFile.FieldType.int)) ∈ AW := aw_2 (List.mem_of_getElem? (i := 73) (by decide +kernel)) (by decide +kernel)
theorem k_48132fbf34 : (Jvm.Cond.methodLink "SpectrumDesk$Limbs" (29 : Nat) ({ cls := "java/util/Arrays", name := "fill", desc := "([IIII)V" } : Jvm.MethodName)) ∈ AW := aw_2 (List.mem_of_getElem? (i := 75) (by decide +kernel)) (by decide +kernel)
theorem k_f06b3a4574 : (Jvm.Cond.static ({ cls := "java/util/Arrays", name := "fill", desc := "([IIII)V" } : Jvm.MethodName)) ∈ AW := aw_2 (List.mem_of_getElem? (i := 76) (by decide +kernel)) (by decide +kernel)
theorem k_fe7515a6f7 : (Jvm.Cond.code ({ cls := "java/util/Arrays", name := "fill", desc := "([II)V" } : Jvm.MethodName) prog_26_method_103_code (4 : Nat) (Option.none : Option Jvm.ClassFile.FieldType)) ∈ AW := aw_1 (List.mem_of_getElem? (i := 100) (by decide +kernel)) (by decide +kernel)
theorem k_181db102db : (Jvm.Cond.code ({ cls := "java/util/Arrays", name := "rangeCheck", desc := "(III)V" } : Jvm.MethodName) prog_26_method_30_code (3 : Nat) (Option.none : Option Jvm.ClassFile.FieldType)) ∈ AW := aw_2 (List.mem_of_getElem? (i := 80) (by decide +kernel)) (by decide +kernel)
theorem k_0d10cb0081 : (Jvm.Cond.code ({ cls := "java/util/Arrays", name := "fill", desc := "([IIII)V" } : Jvm.MethodName) prog_26_method_104_code (5 : Nat) (Option.none : Option Jvm.ClassFile.FieldType)) ∈ AW := aw_2 (List.mem_of_getElem? (i := 77) (by decide +kernel)) (by decide +kernel)
theorem k_a09a60a57c : (Jvm.Cond.code ({ cls := "SpectrumDesk$Limbs", name := "copy", desc := "([I[II)V" } : Jvm.MethodName) prog_4_method_3_code (3 : Nat) (Option.none : Option Jvm.ClassFile.FieldType)) ∈ AW := aw_2 (List.mem_of_getElem? (i := 44) (by decide +kernel)) (by decide +kernel)
theorem k_987c15d378 : (Jvm.Cond.code ({ cls := "SpectrumDesk$Limbs", name := "assign", desc := "([II)V" } : Jvm.MethodName) prog_4_method_2_code (2 : Nat) (Option.none : Option Jvm.ClassFile.FieldType)) ∈ AW := aw_1 (List.mem_of_getElem? (i := 96) (by decide +kernel)) (by decide +kernel)
theorem k_c2ea1ab362 : (Jvm.Cond.code ({ cls := "SpectrumDesk$Limbs", name := "widen", desc := "([II[II)V" } : Jvm.MethodName) prog_4_method_4_code (5 : Nat) (Option.none : Option Jvm.ClassFile.FieldType)) ∈ AW := aw_2 (List.mem_of_getElem? (i := 70) (by decide +kernel)) (by decide +kernel)
set_option maxHeartbeats 4000000 in
set_option maxRecDepth 100000 in
theorem c_Arrays_fill2 {l : Launch} {D : va_G} {cI cJ cZ cC cG cP : ClassId} {N : Nat} {ad : Nat → Nat} {σ : Nat → va_E} {a La : Nat} {f : Nat → Int32} {v : Int32} (hNa : a < N) (hσa : σ a = .inl (cI, La, .inl f)) (hLa : La < 2 ^ 31) :
    Met l y_Arrays_fill2 v_Arrays_fill2 (xrm 0) (va_Pc [.ref (ad a), .int v] (xS D classes (xT cI cJ cZ cC cG cP) N ad σ)) (va_Qv (fun σ2 => ∃ f' : Nat → Int32, σ2 = va_up σ a (.inl (cI, La, .inl f')) ∧ (∀ j, j < La → f' j = v) ∧ ∀ j, La ≤ j → f' j = f j) (xS D classes (xT cI cJ cZ cC cG cP) N ad) (xA N ad)) 0 0 (xA N ad) := by
  refine xr_met rfl (Nat.le_of_ble_eq_true rfl) ?_
  intro p e s m args below meth c ls hx hb X hr hlk hl I
  have hl : lv_has ls 4 [(0, .ref (ad a)), (1, .int v)] := hl
  refine lv_iconst (v := nI 0) hx hb d_Arrays_fill2_0 (by decide) ?_
  refine lv_istore_n (lv' := [(2, .int (nI 0)), (0, .ref (ad a)), (1, .int v)]) hx hb d_Arrays_fill2_1 rfl hl (by decide) rfl (fun ls hl => ?_)
  refine lv_aload_n hx hb d_Arrays_fill2_2 rfl (lv_at hl 1 rfl) ?_
  refine xr_alen X I a 0 hNa hσa rfl d_Arrays_fill2_3 ?_
  refine lv_istore_n (lv' := [(3, .int (nI La)), (2, .int (nI 0)), (0, .ref (ad a)), (1, .int v)]) hx hb d_Arrays_fill2_4 rfl hl (by decide) rfl (fun ls hl => ?_)
  have loop : ∀ (k : Nat) (i : Nat) (f' : Nat → Int32) (ls : Array Slot) (H : Heap) (locs : List Loc), i + k = La → (∀ j, j < i → f' j = v) → (∀ j, i ≤ j → f' j = f j) → lv_has ls 4 [(3, .int (nI La)), (2, .int (nI i)), (0, .ref (ad a)), (1, .int v)] → xI D classes N ad s.heap (va_up σ a (.inl (cI, La, .inl f'))) H locs → W p l e (xrm 0) s m args below meth c H locs 0 0 (MQ below (va_Qv (fun σ2 => ∃ f' : Nat → Int32, σ2 = va_up σ a (.inl (cI, La, .inl f')) ∧ (∀ j, j < La → f' j = v) ∧ ∀ j, La ≤ j → f' j = f j) (xS D classes (xT cI cJ cZ cC cG cP) N ad) (xA N ad)) args s 0 0 (xA N ad)) (F0 m 5 ls []) := by
    intro k
    induction k with
    | zero =>
      intro i f' ls H locs hk hlo hhi hl I
      obtain rfl : i = La := by omega
      refine lv_iload_n hx hb d_Arrays_fill2_5 rfl (lv_at hl 1 rfl) ?_
      refine lv_iload_n hx hb d_Arrays_fill2_6 rfl (lv_at hl 0 rfl) ?_
      refine lv_icmp_ge hx hb d_Arrays_fill2_7 rfl (fun hc => ?_) (fun hc => ?_)
      · exact xr_vret X I hr hlk ⟨f', rfl, hlo, hhi⟩ d_Arrays_fill2_20
      · exact absurd (nI_le (Nat.le_refl _) (by omega)) hc
    | succ k ih =>
      intro i f' ls H locs hk hlo hhi hl I
      refine lv_iload_n hx hb d_Arrays_fill2_5 rfl (lv_at hl 1 rfl) ?_
      refine lv_iload_n hx hb d_Arrays_fill2_6 rfl (lv_at hl 0 rfl) ?_
      refine lv_icmp_ge hx hb d_Arrays_fill2_7 rfl (fun hc => ?_) (fun hc => ?_)
      · exact absurd hc (nI_ge (by omega) (by omega))
      · refine lv_aload_n hx hb d_Arrays_fill2_10 rfl (lv_at hl 2 rfl) ?_
        refine lv_iload_n hx hb d_Arrays_fill2_11 rfl (lv_at hl 1 rfl) ?_
        refine lv_iload_n hx hb d_Arrays_fill2_12 rfl (lv_at hl 3 rfl) ?_
        refine xr_iast X I a 0 hNa (va_up_self _ _ _) rfl (by omega) hLa d_Arrays_fill2_13 (fun H locs I => ?_)
        rw [va_up_up] at I
        refine lv_iinc (k := 1) (v := nI (i + 1)) (lv' := [(2, .int (nI (i + 1))), (3, .int (nI La)), (0, .ref (ad a)), (1, .int v)]) hx hb d_Arrays_fill2_14 hl rfl (nI_1 i) (by decide) rfl (fun ls hl => ?_)
        refine lv_goto hx hb d_Arrays_fill2_17 rfl ?_
        have hl := lv_sub hl [1, 0, 2, 3] rfl
        have hl : lv_has ls 4 [(3, .int (nI La)), (2, .int (nI (i + 1))), (0, .ref (ad a)), (1, .int v)] := hl
        refine ih (i + 1) (upd f' i v) ls H locs (by omega) (fun j hj => ?_) (fun j hj => (upd_n (by omega)).trans (hhi j (by omega))) hl I
        by_cases ej : j = i
        · rw [ej, upd_s]
        · rw [upd_n ej]; exact hlo j (by omega)
  exact loop La 0 f ls _ _ (by omega) (fun j hj => absurd hj (Nat.not_lt_zero _)) (fun _ _ => rfl) hl (by rw [va_up_same hσa]; exact I)
set_option maxHeartbeats 4000000 in
set_option maxRecDepth 100000 in
theorem c_Arrays_rangeCheck {l : Launch} {D : va_G} {cI cJ cZ cC cG cP : ClassId} {N : Nat} {ad : Nat → Nat} {σ : Nat → va_E} {La fr to : Nat} (h1 : fr ≤ to) (h2 : to ≤ La) (hLa : La < 2 ^ 31) :
    Met l y_Arrays_rangeCheck v_Arrays_rangeCheck (xrm 0) (va_Pc [.int (nI La), .int (nI fr), .int (nI to)] (xS D classes (xT cI cJ cZ cC cG cP) N ad σ)) (va_Qv (fun σ2 => σ2 = σ) (xS D classes (xT cI cJ cZ cC cG cP) N ad) (xA N ad)) 0 0 (xA N ad) := by
  refine xr_met rfl (Nat.le_of_ble_eq_true rfl) ?_
  intro p e s m args below meth c ls hx hb X hr hlk hl I
  have hl : lv_has ls 3 [(0, .int (nI La)), (1, .int (nI fr)), (2, .int (nI to))] := hl
  refine lv_iload_n hx hb d_Arrays_rangeCheck_0 rfl (lv_at hl 1 rfl) ?_
  refine lv_iload_n hx hb d_Arrays_rangeCheck_1 rfl (lv_at hl 2 rfl) ?_
  refine lv_icmp_le hx hb d_Arrays_rangeCheck_2 rfl (fun hc => ?_) (fun hc => ?_)
  · refine lv_iload_n hx hb d_Arrays_rangeCheck_46 rfl (lv_at hl 1 rfl) ?_
    refine lv_if_ge hx hb d_Arrays_rangeCheck_47 rfl (fun hc => ?_) (fun hc => ?_)
    · refine lv_iload_n hx hb d_Arrays_rangeCheck_59 rfl (lv_at hl 2 rfl) ?_
      refine lv_iload_n hx hb d_Arrays_rangeCheck_60 rfl (lv_at hl 0 rfl) ?_
      refine lv_icmp_le hx hb d_Arrays_rangeCheck_61 rfl (fun hc => ?_) (fun hc => ?_)
      · exact xr_vret X I hr hlk rfl d_Arrays_rangeCheck_73
      · exact absurd (nI_le h2 (by omega)) hc
    · exact absurd (nI_pos' (by omega)) hc
  · exact absurd (nI_le h1 (by omega)) hc
set_option maxHeartbeats 4000000 in
set_option maxRecDepth 100000 in
theorem c_Arrays_fill4 {l : Launch} {D : va_G} {cI cJ cZ cC cG cP : ClassId} {N : Nat} {ad : Nat → Nat} {σ : Nat → va_E} {a La fr to : Nat} {f : Nat → Int32} {v : Int32} (hNa : a < N) (hσa : σ a = .inl (cI, La, .inl f)) (h1 : fr ≤ to) (h2 : to ≤ La) (hLa : La < 2 ^ 31) :
    Met l y_Arrays_fill4 v_Arrays_fill4 (xrm 1) (va_Pc [.ref (ad a), .int (nI fr), .int (nI to), .int v] (xS D classes (xT cI cJ cZ cC cG cP) N ad σ)) (va_Qv (fun σ2 => ∃ f' : Nat → Int32, σ2 = va_up σ a (.inl (cI, La, .inl f')) ∧ (∀ j, fr ≤ j → j < to → f' j = v) ∧ ∀ j, j < fr ∨ to ≤ j → f' j = f j) (xS D classes (xT cI cJ cZ cC cG cP) N ad) (xA N ad)) 0 0 (xA N ad) := by
  refine xr_met rfl (Nat.le_of_ble_eq_true rfl) ?_
  intro p e s m args below meth c ls hx hb X hr hlk hl I
  have hl : lv_has ls 5 [(0, .ref (ad a)), (1, .int (nI fr)), (2, .int (nI to)), (3, .int v)] := hl
  refine lv_aload_n hx hb d_Arrays_fill4_0 rfl (lv_at hl 0 rfl) ?_
  refine xr_alen X I a 0 hNa hσa rfl d_Arrays_fill4_1 ?_
  refine lv_iload_n hx hb d_Arrays_fill4_2 rfl (lv_at hl 1 rfl) ?_
  refine lv_iload_n hx hb d_Arrays_fill4_3 rfl (lv_at hl 2 rfl) ?_
  refine xr_callv (xr_runS (kc := 0) (kr := 1) (n := 3) (As := [.int (nI La), .int (nI fr), .int (nI to)]) (rest := []) X I (c_Arrays_rangeCheck (σ := σ) h1 h2 hLa) (xg k_181db102db) (List.mem_cons_of_mem _ k_ebd95465e3) (List.mem_cons_of_mem _ k_e3e2c9b0c7) (List.mem_cons_of_mem _ k_9b51368402) (by decide +kernel) (by decide) rfl hl.1 rfl (Nat.le_of_ble_eq_true rfl) d_Arrays_fill4_4) I (fun σ1 H locs hp I => ?_)
  rw [hp] at I
  refine lv_iload_n hx hb d_Arrays_fill4_7 rfl (lv_at hl 1 rfl) ?_
  refine lv_istore (lv' := [(4, .int (nI fr)), (0, .ref (ad a)), (1, .int (nI fr)), (2, .int (nI to)), (3, .int v)]) hx hb d_Arrays_fill4_8 hl (by decide) rfl (fun ls hl => ?_)
  have loop : ∀ (k : Nat) (i : Nat) (f' : Nat → Int32) (ls : Array Slot) (H : Heap) (locs : List Loc), i + k = to → fr ≤ i → (∀ j, fr ≤ j → j < i → f' j = v) → (∀ j, j < fr ∨ i ≤ j → f' j = f j) → lv_has ls 5 [(4, .int (nI i)), (0, .ref (ad a)), (1, .int (nI fr)), (2, .int (nI to)), (3, .int v)] → xI D classes N ad s.heap (va_up σ a (.inl (cI, La, .inl f'))) H locs → W p l e (xrm 1) s m args below meth c H locs 0 0 (MQ below (va_Qv (fun σ2 => ∃ f' : Nat → Int32, σ2 = va_up σ a (.inl (cI, La, .inl f')) ∧ (∀ j, fr ≤ j → j < to → f' j = v) ∧ ∀ j, j < fr ∨ to ≤ j → f' j = f j) (xS D classes (xT cI cJ cZ cC cG cP) N ad) (xA N ad)) args s 0 0 (xA N ad)) (F0 m 10 ls []) := by
    intro k
    induction k with
    | zero =>
      intro i f' ls H locs hk hfi hlo hhi hl I
      obtain rfl : i = to := by omega
      refine lv_iload hx hb d_Arrays_fill4_10 (lv_at hl 0 rfl) ?_
      refine lv_iload_n hx hb d_Arrays_fill4_12 rfl (lv_at hl 3 rfl) ?_
      refine lv_icmp_ge hx hb d_Arrays_fill4_13 rfl (fun hc => ?_) (fun hc => ?_)
      · exact xr_vret X I hr hlk ⟨f', rfl, hlo, hhi⟩ d_Arrays_fill4_27
      · exact absurd (nI_le (Nat.le_refl _) (by omega)) hc
    | succ k ih =>
      intro i f' ls H locs hk hfi hlo hhi hl I
      refine lv_iload hx hb d_Arrays_fill4_10 (lv_at hl 0 rfl) ?_
      refine lv_iload_n hx hb d_Arrays_fill4_12 rfl (lv_at hl 3 rfl) ?_
      refine lv_icmp_ge hx hb d_Arrays_fill4_13 rfl (fun hc => ?_) (fun hc => ?_)
      · exact absurd hc (nI_ge (by omega) (by omega))
      · refine lv_aload_n hx hb d_Arrays_fill4_16 rfl (lv_at hl 1 rfl) ?_
        refine lv_iload hx hb d_Arrays_fill4_17 (lv_at hl 0 rfl) ?_
        refine lv_iload_n hx hb d_Arrays_fill4_19 rfl (lv_at hl 4 rfl) ?_
        refine xr_iast X I a 0 hNa (va_up_self _ _ _) rfl (by omega) hLa d_Arrays_fill4_20 (fun H locs I => ?_)
        rw [va_up_up] at I
        refine lv_iinc (k := 0) (v := nI (i + 1)) (lv' := [(4, .int (nI (i + 1))), (0, .ref (ad a)), (1, .int (nI fr)), (2, .int (nI to)), (3, .int v)]) hx hb d_Arrays_fill4_21 hl rfl (nI_1 i) (by decide) rfl (fun ls hl => ?_)
        refine lv_goto hx hb d_Arrays_fill4_24 rfl ?_
        refine ih (i + 1) (upd f' i v) ls H locs (by omega) (by omega) (fun j h3 hj => ?_) (fun j hj => (upd_n (by omega)).trans (hhi j (by omega))) hl I
        by_cases ej : j = i
        · rw [ej, upd_s]
        · rw [upd_n ej]; exact hlo j h3 (by omega)
  exact loop (to - fr) fr f ls _ _ (by omega) (Nat.le_refl _) (fun j h3 hj => by omega) (fun _ _ => rfl) hl (by rw [va_up_same hσa]; exact I)
set_option maxHeartbeats 4000000 in
set_option maxRecDepth 100000 in
theorem c_Limbs_copy {l : Launch} {D : va_G} {cI cJ cZ cC cG cP : ClassId} {N : Nat} {ad : Nat → Nat} {σ : Nat → va_E} {a b La Lb n : Nat} {f g : Nat → Int32} (hNa : a < N) (hNb : b < N) (hσa : σ a = .inl (cI, La, .inl f)) (hσb : σ b = .inl (cI, Lb, .inl g)) (hn : n ≤ La) (hLa : La < 2 ^ 31) (hnb : n ≤ Lb) (hLb : Lb < 2 ^ 31) :
    Met l y_Limbs_copy v_Limbs_copy (xrm 1) (va_Pc [.ref (ad a), .ref (ad b), .int (nI n)] (xS D classes (xT cI cJ cZ cC cG cP) N ad σ)) (va_Qv (fun σ2 => σ2 = va_up σ a (.inl (cI, La, .inl (va_cpy g f 0 0 n)))) (xS D classes (xT cI cJ cZ cC cG cP) N ad) (xA N ad)) 0 0 (xA N ad) := by
  refine xr_met rfl (Nat.le_of_ble_eq_true rfl) ?_
  intro p e s m args below meth c ls hx hb X hr hlk hl I
  have hl : lv_has ls 3 [(0, .ref (ad a)), (1, .ref (ad b)), (2, .int (nI n))] := hl
  refine lv_aload_n hx hb d_Limbs_copy_0 rfl (lv_at hl 1 rfl) ?_
  refine lv_iconst (v := nI 0) hx hb d_Limbs_copy_1 (by decide) ?_
  refine lv_aload_n hx hb d_Limbs_copy_2 rfl (lv_at hl 0 rfl) ?_
  refine lv_iconst (v := nI 0) hx hb d_Limbs_copy_3 (by decide) ?_
  refine lv_iload_n hx hb d_Limbs_copy_4 rfl (lv_at hl 2 rfl) ?_
  refine xr_copy X I hl.1 (List.mem_cons_of_mem _ k_c20c33e3e4) (List.mem_cons_of_mem _ k_44962a2e0f) (List.mem_cons_of_mem _ k_021bd90bb8) (List.mem_cons_of_mem _ k_49263667dd) b a 0 hNb hNa hσb hσa rfl (by omega) (by omega) hLb hLa (by decide) (Nat.le_of_ble_eq_true rfl) d_Limbs_copy_5 (fun H locs I => ?_)
  exact xr_vret X I hr hlk rfl d_Limbs_copy_8
set_option maxHeartbeats 4000000 in
set_option maxRecDepth 100000 in
theorem c_Limbs_assign {l : Launch} {D : va_G} {cI cJ cZ cC cG cP : ClassId} {N : Nat} {ad : Nat → Nat} {σ : Nat → va_E} {a La : Nat} {f : Nat → Int32} {v : Int32} (hNa : a < N) (hσa : σ a = .inl (cI, La, .inl f)) (hL0 : 0 < La) (hLa : La < 2 ^ 31) (hv : -1073741824 ≤ v.toInt ∧ v.toInt < 1073741824) :
    Met l y_Limbs_assign v_Limbs_assign (xrm 1) (va_Pc [.ref (ad a), .int v] (xS D classes (xT cI cJ cZ cC cG cP) N ad σ)) (va_Qv (lm_up σ a cI La f La v.toInt) (xS D classes (xT cI cJ cZ cC cG cP) N ad) (xA N ad)) 0 0 (xA N ad) := by
  obtain ⟨k, rfl⟩ : ∃ k, La = k + 1 := ⟨La - 1, by omega⟩
  refine xr_met rfl (Nat.le_of_ble_eq_true rfl) ?_
  intro p e s m args below meth c ls hx hb X hr hlk hl I
  have hl : lv_has ls 2 [(0, .ref (ad a)), (1, .int v)] := hl
  refine lv_aload_n hx hb d_Limbs_assign_0 rfl (lv_at hl 0 rfl) ?_
  refine lv_iload_n hx hb d_Limbs_assign_1 rfl (lv_at hl 1 rfl) ?_
  refine lv_if_ge hx hb d_Limbs_assign_2 rfl (fun hc => ?_) (fun hc => ?_)
  · have h0 : 0 ≤ v.toInt := Int32.le_iff_toInt_le.mp hc
    refine lv_iconst (v := nI 0) hx hb d_Limbs_assign_10 (by decide) ?_
    refine xr_callv (xr_runS (kc := 0) (kr := 1) (n := 2) (As := [.ref (ad a), .int (nI 0)]) (rest := []) X I (c_Arrays_fill2 (σ := σ) (v := nI 0) hNa hσa hLa) (xg k_fe7515a6f7) (List.mem_cons_of_mem _ k_7cf9be04ba) (List.mem_cons_of_mem _ k_09018f8637) (List.mem_cons_of_mem _ k_9b51368402) (by decide +kernel) (by decide) rfl hl.1 rfl (Nat.le_of_ble_eq_true rfl) d_Limbs_assign_11) I (fun σ1 H locs hp I => ?_)
    obtain ⟨f', rfl, h1, h2⟩ := hp
    refine lv_aload_n hx hb d_Limbs_assign_14 rfl (lv_at hl 0 rfl) ?_
    refine lv_iconst (v := nI 0) hx hb d_Limbs_assign_15 (by decide) ?_
    refine lv_iload_n hx hb d_Limbs_assign_16 rfl (lv_at hl 1 rfl) ?_
    refine lv_ldc (v := nI 1073741823) hx hb X.1.2.2.2.1 (X.1.2.2.2.2 _ (List.mem_cons_of_mem _ k_67a4a4651d)) d_Limbs_assign_17 ?_
    refine lv_iand hx hb d_Limbs_assign_19 ?_
    refine lv_topi (fun q eq => ?_)
    refine xr_iast X I a 0 hNa (va_up_self _ _ _) rfl (by omega) hLa d_Limbs_assign_20 (fun H locs I => ?_)
    rw [va_up_up] at I
    have hq : q.toInt = v.toInt % 1073741824 := by rw [eq]; exact q_iand30 v
    exact xr_vret X I hr hlk ⟨_, rfl, fun j hj => (upd_n (by omega)).trans (h2 j hj), lm_assign hv (by rw [upd_s]; exact hq) (fun j j1 j2 => ⟨fun h => by omega, fun _ => by rw [upd_n (by omega), h1 j (by omega)]; rfl⟩)⟩ d_Limbs_assign_21
  · have h0 : v.toInt < 0 := (Int.lt_or_le v.toInt 0).elim id (fun h => absurd (Int32.le_iff_toInt_le.mpr (show (0 : Int32).toInt ≤ v.toInt from h)) hc)
    refine lv_ldc (v := nI 1073741823) hx hb X.1.2.2.2.1 (X.1.2.2.2.2 _ (List.mem_cons_of_mem _ k_67a4a4651d)) d_Limbs_assign_5 ?_
    refine lv_goto hx hb d_Limbs_assign_7 rfl ?_
    refine xr_callv (xr_runS (kc := 0) (kr := 1) (n := 2) (As := [.ref (ad a), .int (nI 1073741823)]) (rest := []) X I (c_Arrays_fill2 (σ := σ) (v := nI 1073741823) hNa hσa hLa) (xg k_fe7515a6f7) (List.mem_cons_of_mem _ k_7cf9be04ba) (List.mem_cons_of_mem _ k_09018f8637) (List.mem_cons_of_mem _ k_9b51368402) (by decide +kernel) (by decide) rfl hl.1 rfl (Nat.le_of_ble_eq_true rfl) d_Limbs_assign_11) I (fun σ1 H locs hp I => ?_)
    obtain ⟨f', rfl, h1, h2⟩ := hp
    refine lv_aload_n hx hb d_Limbs_assign_14 rfl (lv_at hl 0 rfl) ?_
    refine lv_iconst (v := nI 0) hx hb d_Limbs_assign_15 (by decide) ?_
    refine lv_iload_n hx hb d_Limbs_assign_16 rfl (lv_at hl 1 rfl) ?_
    refine lv_ldc (v := nI 1073741823) hx hb X.1.2.2.2.1 (X.1.2.2.2.2 _ (List.mem_cons_of_mem _ k_67a4a4651d)) d_Limbs_assign_17 ?_
    refine lv_iand hx hb d_Limbs_assign_19 ?_
    refine lv_topi (fun q eq => ?_)
    refine xr_iast X I a 0 hNa (va_up_self _ _ _) rfl (by omega) hLa d_Limbs_assign_20 (fun H locs I => ?_)
    rw [va_up_up] at I
    have hq : q.toInt = v.toInt % 1073741824 := by rw [eq]; exact q_iand30 v
    exact xr_vret X I hr hlk ⟨_, rfl, fun j hj => (upd_n (by omega)).trans (h2 j hj), lm_assign hv (by rw [upd_s]; exact hq) (fun j j1 j2 => ⟨fun _ => by rw [upd_n (by omega), h1 j (by omega)]; decide, fun h => by omega⟩)⟩ d_Limbs_assign_21
set_option maxHeartbeats 4000000 in
set_option maxRecDepth 100000 in
theorem c_Limbs_widen {l : Launch} {D : va_G} {cI cJ cZ cC cG cP : ClassId} {N : Nat} {ad : Nat → Nat} {σ : Nat → va_E} {a b La Lb n k : Nat} {f g : Nat → Int32} {x : Int} (hNa : a < N) (hNb : b < N) (hσa : σ a = .inl (cI, La, .inl f)) (hσb : σ b = .inl (cI, Lb, .inl g)) (hba : b ≠ a) (hk0 : 0 < k) (hn : n ≤ La) (hLa : La < 2 ^ 31) (hk : k ≤ Lb) (hLb : Lb < 2 ^ 31) (hx0 : lm_si g k x) :
    Met l y_Limbs_widen v_Limbs_widen (xrm 2) (va_Pc [.ref (ad a), .int (nI n), .ref (ad b), .int (nI k)] (xS D classes (xT cI cJ cZ cC cG cP) N ad σ)) (va_Qv (lm_up σ a cI La f n x) (xS D classes (xT cI cJ cZ cC cG cP) N ad) (xA N ad)) 0 0 (xA N ad) := by
  refine xr_met rfl (Nat.le_of_ble_eq_true rfl) ?_
  intro p e s m args below meth c ls hx hb X hr hlk hl I
  have hl : lv_has ls 5 [(0, .ref (ad a)), (1, .int (nI n)), (2, .ref (ad b)), (3, .int (nI k))] := hl
  refine lv_iload_n hx hb d_Limbs_widen_0 rfl (lv_at hl 1 rfl) ?_
  refine lv_iload_n hx hb d_Limbs_widen_1 rfl (lv_at hl 3 rfl) ?_
  refine xr_min X hl.1 (List.mem_cons_of_mem _ k_5bec20fa46) (List.mem_cons_of_mem _ k_23a513c1b6) (List.mem_cons_of_mem _ k_fb0a1f8118) (List.mem_cons_of_mem _ k_85de21bb8a) (by decide) (Nat.le_of_ble_eq_true rfl) (by decide) (by decide) (by omega) (by omega) d_Limbs_widen_2 ?_
  refine lv_istore (lv' := [(4, .int (nI (min n k))), (0, .ref (ad a)), (1, .int (nI n)), (2, .ref (ad b)), (3, .int (nI k))]) hx hb d_Limbs_widen_5 hl (by decide) rfl (fun ls hl => ?_)
  refine lv_aload_n hx hb d_Limbs_widen_7 rfl (lv_at hl 3 rfl) ?_
  refine lv_iconst (v := nI 0) hx hb d_Limbs_widen_8 (by decide) ?_
  refine lv_aload_n hx hb d_Limbs_widen_9 rfl (lv_at hl 1 rfl) ?_
  refine lv_iconst (v := nI 0) hx hb d_Limbs_widen_10 (by decide) ?_
  refine lv_iload hx hb d_Limbs_widen_11 (lv_at hl 0 rfl) ?_
  refine xr_copy X I hl.1 (List.mem_cons_of_mem _ k_c20c33e3e4) (List.mem_cons_of_mem _ k_44962a2e0f) (List.mem_cons_of_mem _ k_021bd90bb8) (List.mem_cons_of_mem _ k_49263667dd) b a 0 hNb hNa hσb hσa rfl (by omega) (by omega) hLb hLa (by decide) (Nat.le_of_ble_eq_true rfl) d_Limbs_widen_13 (fun H locs I => ?_)
  refine lv_iload_n hx hb d_Limbs_widen_16 rfl (lv_at hl 2 rfl) ?_
  refine lv_iload hx hb d_Limbs_widen_17 (lv_at hl 0 rfl) ?_
  refine lv_icmp_le hx hb d_Limbs_widen_19 rfl (fun hc => ?_) (fun hc => ?_)
  · have h := (nI_leI (by omega) (by omega)).mp hc
    have hnk : n ≤ k := by omega
    exact xr_vret X I hr hlk ⟨_, rfl, fun j hj => pk_cpy_out (by omega), lm_is_congr (fun j hj => by rw [pk_cpy_in (by omega) (by omega)]; simp) (lm_is_le hx0.1 hnk)⟩ d_Limbs_widen_46
  · have hkn : ¬ n ≤ min n k := fun h => hc (nI_le h (by omega))
    have hm : min n k = k := by omega
    obtain ⟨k0, rfl⟩ : ∃ k0, k = k0 + 1 := ⟨k - 1, by omega⟩
    rw [hm] at I hl
    have htop := lm_si_top hx0
    refine lv_aload_n hx hb d_Limbs_widen_22 rfl (lv_at hl 1 rfl) ?_
    refine lv_iload hx hb d_Limbs_widen_23 (lv_at hl 0 rfl) ?_
    refine lv_iload_n hx hb d_Limbs_widen_25 rfl (lv_at hl 2 rfl) ?_
    refine lv_aload_n hx hb d_Limbs_widen_26 rfl (lv_at hl 3 rfl) ?_
    refine lv_iload hx hb d_Limbs_widen_27 (lv_at hl 0 rfl) ?_
    refine lv_iconst (v := nI 1) hx hb d_Limbs_widen_29 (by decide) ?_
    refine lv_isub hx hb d_Limbs_widen_30 (xr_topi (y := nI k0) (pk_sub (a := k0 + 1) (b := 1) (by omega)) ?_)
    refine xr_iald X I b 0 hNb ((va_up_ne _ _ hba).trans hσb) rfl (by omega) hLb d_Limbs_widen_31 ?_
    refine lv_ldc (v := nI 536870912) hx hb X.1.2.2.2.1 (X.1.2.2.2.2 _ (List.mem_cons_of_mem _ k_660c696ae3)) d_Limbs_widen_32 ?_
    refine lv_icmp_lt hx hb d_Limbs_widen_34 rfl (fun hc2 => ?_) (fun hc2 => ?_)
    · have hp0 : 0 ≤ x := by have h2 := Int32.lt_iff_toInt_lt.mp hc2; rw [nI_toInt (by decide)] at h2; omega
      refine lv_iconst (v := nI 0) hx hb d_Limbs_widen_42 (by decide) ?_
      refine xr_callv (xr_runS (kc := 1) (kr := 2) (n := 4) (As := [.ref (ad a), .int (nI (k0 + 1)), .int (nI n), .int (nI 0)]) (rest := []) X I (c_Arrays_fill4 (v := nI 0) hNa (va_up_self _ _ _) (show k0 + 1 ≤ n by omega) hn hLa) (xg k_0d10cb0081) (List.mem_cons_of_mem _ k_48132fbf34) (List.mem_cons_of_mem _ k_f06b3a4574) (List.mem_cons_of_mem _ k_9b51368402) (by decide +kernel) (by decide) rfl hl.1 rfl (Nat.le_of_ble_eq_true rfl) d_Limbs_widen_43) I (fun σ1 H locs hp I => ?_)
      obtain ⟨f', rfl, h1, h2⟩ := hp
      rw [va_up_up] at I
      exact xr_vret X I hr hlk ⟨f', rfl, fun j hj => (h2 j (by omega)).trans (pk_cpy_out (by omega)), lm_widen hx0 (by omega) (fun j hj => (h2 j (by omega)).trans (by rw [pk_cpy_in (by omega) (by omega)]; simp)) (fun j j1 j2 => ⟨fun h => by omega, fun _ => by rw [h1 j j1 j2]; rfl⟩)⟩ d_Limbs_widen_46
    · have hn0 : x < 0 := htop.mp (by have := Int32.le_iff_toInt_le.mp (Int32.not_lt.mp hc2); rw [nI_toInt (by decide)] at this; omega)
      refine lv_ldc (v := nI 1073741823) hx hb X.1.2.2.2.1 (X.1.2.2.2.2 _ (List.mem_cons_of_mem _ k_67a4a4651d)) d_Limbs_widen_37 ?_
      refine lv_goto hx hb d_Limbs_widen_39 rfl ?_
      refine xr_callv (xr_runS (kc := 1) (kr := 2) (n := 4) (As := [.ref (ad a), .int (nI (k0 + 1)), .int (nI n), .int (nI 1073741823)]) (rest := []) X I (c_Arrays_fill4 (v := nI 1073741823) hNa (va_up_self _ _ _) (show k0 + 1 ≤ n by omega) hn hLa) (xg k_0d10cb0081) (List.mem_cons_of_mem _ k_48132fbf34) (List.mem_cons_of_mem _ k_f06b3a4574) (List.mem_cons_of_mem _ k_9b51368402) (by decide +kernel) (by decide) rfl hl.1 rfl (Nat.le_of_ble_eq_true rfl) d_Limbs_widen_43) I (fun σ1 H locs hp I => ?_)
      obtain ⟨f', rfl, h1, h2⟩ := hp
      rw [va_up_up] at I
      exact xr_vret X I hr hlk ⟨f', rfl, fun j hj => (h2 j (by omega)).trans (pk_cpy_out (by omega)), lm_widen hx0 (by omega) (fun j hj => (h2 j (by omega)).trans (by rw [pk_cpy_in (by omega) (by omega)]; simp)) (fun j j1 j2 => ⟨fun _ => by rw [h1 j j1 j2]; decide, fun h => by omega⟩)⟩ d_Limbs_widen_46
end
section
/-! the reference: bigSign, bigAt, bigTrim, bigSet, bigCopy (written by wip/gen) -/
abbrev b_SpectrumDeskModel_bigSign : ByteArray := prog_10_method_4_code
abbrev y_SpectrumDeskModel_bigSign : MethodName := ⟨"SpectrumDeskModel", "bigSign", "(I)I"⟩
abbrev v_SpectrumDeskModel_bigSign : List Cond := Cond.code y_SpectrumDeskModel_bigSign b_SpectrumDeskModel_bigSign 2 (some .int) :: AW
theorem d_SpectrumDeskModel_bigSign_0 : decode b_SpectrumDeskModel_bigSign 0 = .ok (.aload_n 0, 1) := by decide +kernel
theorem d_SpectrumDeskModel_bigSign_1 : decode b_SpectrumDeskModel_bigSign 1 = .ok (.getfield 13, 3) := by decide +kernel
theorem d_SpectrumDeskModel_bigSign_4 : decode b_SpectrumDeskModel_bigSign 4 = .ok (.iload_n 1, 1) := by decide +kernel
theorem d_SpectrumDeskModel_bigSign_5 : decode b_SpectrumDeskModel_bigSign 5 = .ok (.iaload, 1) := by decide +kernel
theorem d_SpectrumDeskModel_bigSign_6 : decode b_SpectrumDeskModel_bigSign 6 = .ok (.ifCond .ne (7), 3) := by decide +kernel
theorem d_SpectrumDeskModel_bigSign_9 : decode b_SpectrumDeskModel_bigSign 9 = .ok (.iconst 0, 1) := by decide +kernel
theorem d_SpectrumDeskModel_bigSign_10 : decode b_SpectrumDeskModel_bigSign 10 = .ok (.goto (17), 3) := by decide +kernel
theorem d_SpectrumDeskModel_bigSign_13 : decode b_SpectrumDeskModel_bigSign 13 = .ok (.aload_n 0, 1) := by decide +kernel
theorem d_SpectrumDeskModel_bigSign_14 : decode b_SpectrumDeskModel_bigSign 14 = .ok (.getfield 1, 3) := by decide +kernel
theorem d_SpectrumDeskModel_bigSign_17 : decode b_SpectrumDeskModel_bigSign 17 = .ok (.iload_n 1, 1) := by decide +kernel
theorem d_SpectrumDeskModel_bigSign_18 : decode b_SpectrumDeskModel_bigSign 18 = .ok (.baload, 1) := by decide +kernel
theorem d_SpectrumDeskModel_bigSign_19 : decode b_SpectrumDeskModel_bigSign 19 = .ok (.ifCond .eq (7), 3) := by decide +kernel
theorem d_SpectrumDeskModel_bigSign_22 : decode b_SpectrumDeskModel_bigSign 22 = .ok (.iconst (-1), 1) := by decide +kernel
theorem d_SpectrumDeskModel_bigSign_23 : decode b_SpectrumDeskModel_bigSign 23 = .ok (.goto (4), 3) := by decide +kernel
theorem d_SpectrumDeskModel_bigSign_26 : decode b_SpectrumDeskModel_bigSign 26 = .ok (.iconst 1, 1) := by decide +kernel
theorem d_SpectrumDeskModel_bigSign_27 : decode b_SpectrumDeskModel_bigSign 27 = .ok (.ireturn, 1) := by decide +kernel
abbrev b_SpectrumDeskModel_bigAt : ByteArray := prog_10_method_6_code
abbrev y_SpectrumDeskModel_bigAt : MethodName := ⟨"SpectrumDeskModel", "bigAt", "(II)I"⟩
abbrev v_SpectrumDeskModel_bigAt : List Cond := Cond.code y_SpectrumDeskModel_bigAt b_SpectrumDeskModel_bigAt 3 (some .int) :: AW
theorem d_SpectrumDeskModel_bigAt_0 : decode b_SpectrumDeskModel_bigAt 0 = .ok (.iload_n 2, 1) := by decide +kernel
theorem d_SpectrumDeskModel_bigAt_1 : decode b_SpectrumDeskModel_bigAt 1 = .ok (.aload_n 0, 1) := by decide +kernel
theorem d_SpectrumDeskModel_bigAt_2 : decode b_SpectrumDeskModel_bigAt 2 = .ok (.getfield 13, 3) := by decide +kernel
theorem d_SpectrumDeskModel_bigAt_5 : decode b_SpectrumDeskModel_bigAt 5 = .ok (.iload_n 1, 1) := by decide +kernel
theorem d_SpectrumDeskModel_bigAt_6 : decode b_SpectrumDeskModel_bigAt 6 = .ok (.iaload, 1) := by decide +kernel
theorem d_SpectrumDeskModel_bigAt_7 : decode b_SpectrumDeskModel_bigAt 7 = .ok (.if_icmp .ge (18), 3) := by decide +kernel
theorem d_SpectrumDeskModel_bigAt_10 : decode b_SpectrumDeskModel_bigAt 10 = .ok (.aload_n 0, 1) := by decide +kernel
theorem d_SpectrumDeskModel_bigAt_11 : decode b_SpectrumDeskModel_bigAt 11 = .ok (.getfield 7, 3) := by decide +kernel
theorem d_SpectrumDeskModel_bigAt_14 : decode b_SpectrumDeskModel_bigAt 14 = .ok (.sipush (300), 3) := by decide +kernel
theorem d_SpectrumDeskModel_bigAt_17 : decode b_SpectrumDeskModel_bigAt 17 = .ok (.iload_n 1, 1) := by decide +kernel
theorem d_SpectrumDeskModel_bigAt_18 : decode b_SpectrumDeskModel_bigAt 18 = .ok (.imul, 1) := by decide +kernel
theorem d_SpectrumDeskModel_bigAt_19 : decode b_SpectrumDeskModel_bigAt 19 = .ok (.iload_n 2, 1) := by decide +kernel
theorem d_SpectrumDeskModel_bigAt_20 : decode b_SpectrumDeskModel_bigAt 20 = .ok (.iadd, 1) := by decide +kernel
theorem d_SpectrumDeskModel_bigAt_21 : decode b_SpectrumDeskModel_bigAt 21 = .ok (.iaload, 1) := by decide +kernel
theorem d_SpectrumDeskModel_bigAt_22 : decode b_SpectrumDeskModel_bigAt 22 = .ok (.goto (4), 3) := by decide +kernel
theorem d_SpectrumDeskModel_bigAt_25 : decode b_SpectrumDeskModel_bigAt 25 = .ok (.iconst 0, 1) := by decide +kernel
theorem d_SpectrumDeskModel_bigAt_26 : decode b_SpectrumDeskModel_bigAt 26 = .ok (.ireturn, 1) := by decide +kernel
abbrev b_SpectrumDeskModel_bigTrim : ByteArray := prog_10_method_7_code
abbrev y_SpectrumDeskModel_bigTrim : MethodName := ⟨"SpectrumDeskModel", "bigTrim", "(I)V"⟩
abbrev v_SpectrumDeskModel_bigTrim : List Cond := Cond.code y_SpectrumDeskModel_bigTrim b_SpectrumDeskModel_bigTrim 2 none :: AW
theorem d_SpectrumDeskModel_bigTrim_0 : decode b_SpectrumDeskModel_bigTrim 0 = .ok (.aload_n 0, 1) := by decide +kernel
theorem d_SpectrumDeskModel_bigTrim_1 : decode b_SpectrumDeskModel_bigTrim 1 = .ok (.getfield 13, 3) := by decide +kernel
theorem d_SpectrumDeskModel_bigTrim_4 : decode b_SpectrumDeskModel_bigTrim 4 = .ok (.iload_n 1, 1) := by decide +kernel
theorem d_SpectrumDeskModel_bigTrim_5 : decode b_SpectrumDeskModel_bigTrim 5 = .ok (.iaload, 1) := by decide +kernel
theorem d_SpectrumDeskModel_bigTrim_6 : decode b_SpectrumDeskModel_bigTrim 6 = .ok (.ifCond .le (38), 3) := by decide +kernel
theorem d_SpectrumDeskModel_bigTrim_9 : decode b_SpectrumDeskModel_bigTrim 9 = .ok (.aload_n 0, 1) := by decide +kernel
theorem d_SpectrumDeskModel_bigTrim_10 : decode b_SpectrumDeskModel_bigTrim 10 = .ok (.getfield 7, 3) := by decide +kernel
theorem d_SpectrumDeskModel_bigTrim_13 : decode b_SpectrumDeskModel_bigTrim 13 = .ok (.sipush (300), 3) := by decide +kernel
theorem d_SpectrumDeskModel_bigTrim_16 : decode b_SpectrumDeskModel_bigTrim 16 = .ok (.iload_n 1, 1) := by decide +kernel
theorem d_SpectrumDeskModel_bigTrim_17 : decode b_SpectrumDeskModel_bigTrim 17 = .ok (.imul, 1) := by decide +kernel
theorem d_SpectrumDeskModel_bigTrim_18 : decode b_SpectrumDeskModel_bigTrim 18 = .ok (.aload_n 0, 1) := by decide +kernel
theorem d_SpectrumDeskModel_bigTrim_19 : decode b_SpectrumDeskModel_bigTrim 19 = .ok (.getfield 13, 3) := by decide +kernel
theorem d_SpectrumDeskModel_bigTrim_22 : decode b_SpectrumDeskModel_bigTrim 22 = .ok (.iload_n 1, 1) := by decide +kernel
theorem d_SpectrumDeskModel_bigTrim_23 : decode b_SpectrumDeskModel_bigTrim 23 = .ok (.iaload, 1) := by decide +kernel
theorem d_SpectrumDeskModel_bigTrim_24 : decode b_SpectrumDeskModel_bigTrim 24 = .ok (.iadd, 1) := by decide +kernel
theorem d_SpectrumDeskModel_bigTrim_25 : decode b_SpectrumDeskModel_bigTrim 25 = .ok (.iconst 1, 1) := by decide +kernel
theorem d_SpectrumDeskModel_bigTrim_26 : decode b_SpectrumDeskModel_bigTrim 26 = .ok (.isub, 1) := by decide +kernel
theorem d_SpectrumDeskModel_bigTrim_27 : decode b_SpectrumDeskModel_bigTrim 27 = .ok (.iaload, 1) := by decide +kernel
theorem d_SpectrumDeskModel_bigTrim_28 : decode b_SpectrumDeskModel_bigTrim 28 = .ok (.ifCond .ne (16), 3) := by decide +kernel
theorem d_SpectrumDeskModel_bigTrim_31 : decode b_SpectrumDeskModel_bigTrim 31 = .ok (.aload_n 0, 1) := by decide +kernel
theorem d_SpectrumDeskModel_bigTrim_32 : decode b_SpectrumDeskModel_bigTrim 32 = .ok (.getfield 13, 3) := by decide +kernel
theorem d_SpectrumDeskModel_bigTrim_35 : decode b_SpectrumDeskModel_bigTrim 35 = .ok (.iload_n 1, 1) := by decide +kernel
theorem d_SpectrumDeskModel_bigTrim_36 : decode b_SpectrumDeskModel_bigTrim 36 = .ok (.dup2, 1) := by decide +kernel
theorem d_SpectrumDeskModel_bigTrim_37 : decode b_SpectrumDeskModel_bigTrim 37 = .ok (.iaload, 1) := by decide +kernel
theorem d_SpectrumDeskModel_bigTrim_38 : decode b_SpectrumDeskModel_bigTrim 38 = .ok (.iconst 1, 1) := by decide +kernel
theorem d_SpectrumDeskModel_bigTrim_39 : decode b_SpectrumDeskModel_bigTrim 39 = .ok (.isub, 1) := by decide +kernel
theorem d_SpectrumDeskModel_bigTrim_40 : decode b_SpectrumDeskModel_bigTrim 40 = .ok (.iastore, 1) := by decide +kernel
theorem d_SpectrumDeskModel_bigTrim_41 : decode b_SpectrumDeskModel_bigTrim 41 = .ok (.goto (-41), 3) := by decide +kernel
theorem d_SpectrumDeskModel_bigTrim_44 : decode b_SpectrumDeskModel_bigTrim 44 = .ok (.return_, 1) := by decide +kernel
abbrev b_SpectrumDeskModel_bigSet : ByteArray := prog_10_method_1_code
abbrev y_SpectrumDeskModel_bigSet : MethodName := ⟨"SpectrumDeskModel", "bigSet", "(IJ)V"⟩
abbrev v_SpectrumDeskModel_bigSet : List Cond := Cond.code y_SpectrumDeskModel_bigSet b_SpectrumDeskModel_bigSet 7 none :: AW
theorem d_SpectrumDeskModel_bigSet_0 : decode b_SpectrumDeskModel_bigSet 0 = .ok (.aload_n 0, 1) := by decide +kernel
theorem d_SpectrumDeskModel_bigSet_1 : decode b_SpectrumDeskModel_bigSet 1 = .ok (.getfield 1, 3) := by decide +kernel
theorem d_SpectrumDeskModel_bigSet_4 : decode b_SpectrumDeskModel_bigSet 4 = .ok (.iload_n 1, 1) := by decide +kernel
theorem d_SpectrumDeskModel_bigSet_5 : decode b_SpectrumDeskModel_bigSet 5 = .ok (.lload_n 2, 1) := by decide +kernel
theorem d_SpectrumDeskModel_bigSet_6 : decode b_SpectrumDeskModel_bigSet 6 = .ok (.lconst 0, 1) := by decide +kernel
theorem d_SpectrumDeskModel_bigSet_7 : decode b_SpectrumDeskModel_bigSet 7 = .ok (.lcmp, 1) := by decide +kernel
theorem d_SpectrumDeskModel_bigSet_8 : decode b_SpectrumDeskModel_bigSet 8 = .ok (.ifCond .ge (7), 3) := by decide +kernel
theorem d_SpectrumDeskModel_bigSet_11 : decode b_SpectrumDeskModel_bigSet 11 = .ok (.iconst 1, 1) := by decide +kernel
theorem d_SpectrumDeskModel_bigSet_12 : decode b_SpectrumDeskModel_bigSet 12 = .ok (.goto (4), 3) := by decide +kernel
theorem d_SpectrumDeskModel_bigSet_15 : decode b_SpectrumDeskModel_bigSet 15 = .ok (.iconst 0, 1) := by decide +kernel
theorem d_SpectrumDeskModel_bigSet_16 : decode b_SpectrumDeskModel_bigSet 16 = .ok (.bastore, 1) := by decide +kernel
theorem d_SpectrumDeskModel_bigSet_17 : decode b_SpectrumDeskModel_bigSet 17 = .ok (.iconst 0, 1) := by decide +kernel
theorem d_SpectrumDeskModel_bigSet_18 : decode b_SpectrumDeskModel_bigSet 18 = .ok (.istore 4, 2) := by decide +kernel
theorem d_SpectrumDeskModel_bigSet_20 : decode b_SpectrumDeskModel_bigSet 20 = .ok (.lload_n 2, 1) := by decide +kernel
theorem d_SpectrumDeskModel_bigSet_21 : decode b_SpectrumDeskModel_bigSet 21 = .ok (.lconst 0, 1) := by decide +kernel
theorem d_SpectrumDeskModel_bigSet_22 : decode b_SpectrumDeskModel_bigSet 22 = .ok (.lcmp, 1) := by decide +kernel
theorem d_SpectrumDeskModel_bigSet_23 : decode b_SpectrumDeskModel_bigSet 23 = .ok (.ifCond .ge (8), 3) := by decide +kernel
theorem d_SpectrumDeskModel_bigSet_26 : decode b_SpectrumDeskModel_bigSet 26 = .ok (.lload_n 2, 1) := by decide +kernel
theorem d_SpectrumDeskModel_bigSet_27 : decode b_SpectrumDeskModel_bigSet 27 = .ok (.lneg, 1) := by decide +kernel
theorem d_SpectrumDeskModel_bigSet_28 : decode b_SpectrumDeskModel_bigSet 28 = .ok (.goto (4), 3) := by decide +kernel
theorem d_SpectrumDeskModel_bigSet_31 : decode b_SpectrumDeskModel_bigSet 31 = .ok (.lload_n 2, 1) := by decide +kernel
theorem d_SpectrumDeskModel_bigSet_32 : decode b_SpectrumDeskModel_bigSet 32 = .ok (.lstore 5, 2) := by decide +kernel
theorem d_SpectrumDeskModel_bigSet_34 : decode b_SpectrumDeskModel_bigSet 34 = .ok (.lload 5, 2) := by decide +kernel
theorem d_SpectrumDeskModel_bigSet_36 : decode b_SpectrumDeskModel_bigSet 36 = .ok (.lconst 0, 1) := by decide +kernel
theorem d_SpectrumDeskModel_bigSet_37 : decode b_SpectrumDeskModel_bigSet 37 = .ok (.lcmp, 1) := by decide +kernel
theorem d_SpectrumDeskModel_bigSet_38 : decode b_SpectrumDeskModel_bigSet 38 = .ok (.ifCond .eq (36), 3) := by decide +kernel
theorem d_SpectrumDeskModel_bigSet_41 : decode b_SpectrumDeskModel_bigSet 41 = .ok (.aload_n 0, 1) := by decide +kernel
theorem d_SpectrumDeskModel_bigSet_42 : decode b_SpectrumDeskModel_bigSet 42 = .ok (.getfield 7, 3) := by decide +kernel
theorem d_SpectrumDeskModel_bigSet_45 : decode b_SpectrumDeskModel_bigSet 45 = .ok (.sipush (300), 3) := by decide +kernel
theorem d_SpectrumDeskModel_bigSet_48 : decode b_SpectrumDeskModel_bigSet 48 = .ok (.iload_n 1, 1) := by decide +kernel
theorem d_SpectrumDeskModel_bigSet_49 : decode b_SpectrumDeskModel_bigSet 49 = .ok (.imul, 1) := by decide +kernel
theorem d_SpectrumDeskModel_bigSet_50 : decode b_SpectrumDeskModel_bigSet 50 = .ok (.iload 4, 2) := by decide +kernel
theorem d_SpectrumDeskModel_bigSet_52 : decode b_SpectrumDeskModel_bigSet 52 = .ok (.iadd, 1) := by decide +kernel
theorem d_SpectrumDeskModel_bigSet_53 : decode b_SpectrumDeskModel_bigSet 53 = .ok (.lload 5, 2) := by decide +kernel
theorem d_SpectrumDeskModel_bigSet_55 : decode b_SpectrumDeskModel_bigSet 55 = .ok (.ldc2_w 11, 3) := by decide +kernel
theorem d_SpectrumDeskModel_bigSet_58 : decode b_SpectrumDeskModel_bigSet 58 = .ok (.land, 1) := by decide +kernel
theorem d_SpectrumDeskModel_bigSet_59 : decode b_SpectrumDeskModel_bigSet 59 = .ok (.l2i, 1) := by decide +kernel
theorem d_SpectrumDeskModel_bigSet_60 : decode b_SpectrumDeskModel_bigSet 60 = .ok (.iastore, 1) := by decide +kernel
theorem d_SpectrumDeskModel_bigSet_61 : decode b_SpectrumDeskModel_bigSet 61 = .ok (.iinc 4 (1), 3) := by decide +kernel
theorem d_SpectrumDeskModel_bigSet_64 : decode b_SpectrumDeskModel_bigSet 64 = .ok (.lload 5, 2) := by decide +kernel
theorem d_SpectrumDeskModel_bigSet_66 : decode b_SpectrumDeskModel_bigSet 66 = .ok (.bipush (24), 2) := by decide +kernel
theorem d_SpectrumDeskModel_bigSet_68 : decode b_SpectrumDeskModel_bigSet 68 = .ok (.lushr, 1) := by decide +kernel
theorem d_SpectrumDeskModel_bigSet_69 : decode b_SpectrumDeskModel_bigSet 69 = .ok (.lstore 5, 2) := by decide +kernel
theorem d_SpectrumDeskModel_bigSet_71 : decode b_SpectrumDeskModel_bigSet 71 = .ok (.goto (-37), 3) := by decide +kernel
theorem d_SpectrumDeskModel_bigSet_74 : decode b_SpectrumDeskModel_bigSet 74 = .ok (.aload_n 0, 1) := by decide +kernel
theorem d_SpectrumDeskModel_bigSet_75 : decode b_SpectrumDeskModel_bigSet 75 = .ok (.getfield 13, 3) := by decide +kernel
theorem d_SpectrumDeskModel_bigSet_78 : decode b_SpectrumDeskModel_bigSet 78 = .ok (.iload_n 1, 1) := by decide +kernel
theorem d_SpectrumDeskModel_bigSet_79 : decode b_SpectrumDeskModel_bigSet 79 = .ok (.iload 4, 2) := by decide +kernel
theorem d_SpectrumDeskModel_bigSet_81 : decode b_SpectrumDeskModel_bigSet 81 = .ok (.iastore, 1) := by decide +kernel
theorem d_SpectrumDeskModel_bigSet_82 : decode b_SpectrumDeskModel_bigSet 82 = .ok (.return_, 1) := by decide +kernel
abbrev b_SpectrumDeskModel_bigCopy : ByteArray := prog_10_method_2_code
abbrev y_SpectrumDeskModel_bigCopy : MethodName := ⟨"SpectrumDeskModel", "bigCopy", "(II)V"⟩
abbrev v_SpectrumDeskModel_bigCopy : List Cond := Cond.code y_SpectrumDeskModel_bigCopy b_SpectrumDeskModel_bigCopy 4 none :: AW
theorem d_SpectrumDeskModel_bigCopy_0 : decode b_SpectrumDeskModel_bigCopy 0 = .ok (.aload_n 0, 1) := by decide +kernel
theorem d_SpectrumDeskModel_bigCopy_1 : decode b_SpectrumDeskModel_bigCopy 1 = .ok (.getfield 1, 3) := by decide +kernel
theorem d_SpectrumDeskModel_bigCopy_4 : decode b_SpectrumDeskModel_bigCopy 4 = .ok (.iload_n 1, 1) := by decide +kernel
theorem d_SpectrumDeskModel_bigCopy_5 : decode b_SpectrumDeskModel_bigCopy 5 = .ok (.aload_n 0, 1) := by decide +kernel
theorem d_SpectrumDeskModel_bigCopy_6 : decode b_SpectrumDeskModel_bigCopy 6 = .ok (.getfield 1, 3) := by decide +kernel
theorem d_SpectrumDeskModel_bigCopy_9 : decode b_SpectrumDeskModel_bigCopy 9 = .ok (.iload_n 2, 1) := by decide +kernel
theorem d_SpectrumDeskModel_bigCopy_10 : decode b_SpectrumDeskModel_bigCopy 10 = .ok (.baload, 1) := by decide +kernel
theorem d_SpectrumDeskModel_bigCopy_11 : decode b_SpectrumDeskModel_bigCopy 11 = .ok (.bastore, 1) := by decide +kernel
theorem d_SpectrumDeskModel_bigCopy_12 : decode b_SpectrumDeskModel_bigCopy 12 = .ok (.aload_n 0, 1) := by decide +kernel
theorem d_SpectrumDeskModel_bigCopy_13 : decode b_SpectrumDeskModel_bigCopy 13 = .ok (.getfield 13, 3) := by decide +kernel
theorem d_SpectrumDeskModel_bigCopy_16 : decode b_SpectrumDeskModel_bigCopy 16 = .ok (.iload_n 1, 1) := by decide +kernel
theorem d_SpectrumDeskModel_bigCopy_17 : decode b_SpectrumDeskModel_bigCopy 17 = .ok (.aload_n 0, 1) := by decide +kernel
theorem d_SpectrumDeskModel_bigCopy_18 : decode b_SpectrumDeskModel_bigCopy 18 = .ok (.getfield 13, 3) := by decide +kernel
theorem d_SpectrumDeskModel_bigCopy_21 : decode b_SpectrumDeskModel_bigCopy 21 = .ok (.iload_n 2, 1) := by decide +kernel
theorem d_SpectrumDeskModel_bigCopy_22 : decode b_SpectrumDeskModel_bigCopy 22 = .ok (.iaload, 1) := by decide +kernel
theorem d_SpectrumDeskModel_bigCopy_23 : decode b_SpectrumDeskModel_bigCopy 23 = .ok (.iastore, 1) := by decide +kernel
theorem d_SpectrumDeskModel_bigCopy_24 : decode b_SpectrumDeskModel_bigCopy 24 = .ok (.iconst 0, 1) := by decide +kernel
theorem d_SpectrumDeskModel_bigCopy_25 : decode b_SpectrumDeskModel_bigCopy 25 = .ok (.istore_n 3, 1) := by decide +kernel
theorem d_SpectrumDeskModel_bigCopy_26 : decode b_SpectrumDeskModel_bigCopy 26 = .ok (.iload_n 3, 1) := by decide +kernel
theorem d_SpectrumDeskModel_bigCopy_27 : decode b_SpectrumDeskModel_bigCopy 27 = .ok (.aload_n 0, 1) := by decide +kernel
theorem d_SpectrumDeskModel_bigCopy_28 : decode b_SpectrumDeskModel_bigCopy 28 = .ok (.getfield 13, 3) := by decide +kernel
theorem d_SpectrumDeskModel_bigCopy_31 : decode b_SpectrumDeskModel_bigCopy 31 = .ok (.iload_n 2, 1) := by decide +kernel
theorem d_SpectrumDeskModel_bigCopy_32 : decode b_SpectrumDeskModel_bigCopy 32 = .ok (.iaload, 1) := by decide +kernel
theorem d_SpectrumDeskModel_bigCopy_33 : decode b_SpectrumDeskModel_bigCopy 33 = .ok (.if_icmp .ge (33), 3) := by decide +kernel
theorem d_SpectrumDeskModel_bigCopy_36 : decode b_SpectrumDeskModel_bigCopy 36 = .ok (.aload_n 0, 1) := by decide +kernel
theorem d_SpectrumDeskModel_bigCopy_37 : decode b_SpectrumDeskModel_bigCopy 37 = .ok (.getfield 7, 3) := by decide +kernel
theorem d_SpectrumDeskModel_bigCopy_40 : decode b_SpectrumDeskModel_bigCopy 40 = .ok (.sipush (300), 3) := by decide +kernel
theorem d_SpectrumDeskModel_bigCopy_43 : decode b_SpectrumDeskModel_bigCopy 43 = .ok (.iload_n 1, 1) := by decide +kernel
theorem d_SpectrumDeskModel_bigCopy_44 : decode b_SpectrumDeskModel_bigCopy 44 = .ok (.imul, 1) := by decide +kernel
theorem d_SpectrumDeskModel_bigCopy_45 : decode b_SpectrumDeskModel_bigCopy 45 = .ok (.iload_n 3, 1) := by decide +kernel
theorem d_SpectrumDeskModel_bigCopy_46 : decode b_SpectrumDeskModel_bigCopy 46 = .ok (.iadd, 1) := by decide +kernel
theorem d_SpectrumDeskModel_bigCopy_47 : decode b_SpectrumDeskModel_bigCopy 47 = .ok (.aload_n 0, 1) := by decide +kernel
theorem d_SpectrumDeskModel_bigCopy_48 : decode b_SpectrumDeskModel_bigCopy 48 = .ok (.getfield 7, 3) := by decide +kernel
theorem d_SpectrumDeskModel_bigCopy_51 : decode b_SpectrumDeskModel_bigCopy 51 = .ok (.sipush (300), 3) := by decide +kernel
theorem d_SpectrumDeskModel_bigCopy_54 : decode b_SpectrumDeskModel_bigCopy 54 = .ok (.iload_n 2, 1) := by decide +kernel
theorem d_SpectrumDeskModel_bigCopy_55 : decode b_SpectrumDeskModel_bigCopy 55 = .ok (.imul, 1) := by decide +kernel
theorem d_SpectrumDeskModel_bigCopy_56 : decode b_SpectrumDeskModel_bigCopy 56 = .ok (.iload_n 3, 1) := by decide +kernel
theorem d_SpectrumDeskModel_bigCopy_57 : decode b_SpectrumDeskModel_bigCopy 57 = .ok (.iadd, 1) := by decide +kernel
theorem d_SpectrumDeskModel_bigCopy_58 : decode b_SpectrumDeskModel_bigCopy 58 = .ok (.iaload, 1) := by decide +kernel
theorem d_SpectrumDeskModel_bigCopy_59 : decode b_SpectrumDeskModel_bigCopy 59 = .ok (.iastore, 1) := by decide +kernel
theorem d_SpectrumDeskModel_bigCopy_60 : decode b_SpectrumDeskModel_bigCopy 60 = .ok (.iinc 3 (1), 3) := by decide +kernel
theorem d_SpectrumDeskModel_bigCopy_63 : decode b_SpectrumDeskModel_bigCopy 63 = .ok (.goto (-37), 3) := by decide +kernel
theorem d_SpectrumDeskModel_bigCopy_66 : decode b_SpectrumDeskModel_bigCopy 66 = .ok (.return_, 1) := by decide +kernel
theorem k_4ae214c350 : (Jvm.Cond.fieldLink "SpectrumDeskModel" (13 : Nat) "SpectrumDeskModel" "lengths" "[I") ∈ AW := aw_4 (List.mem_of_getElem? (i := 181) (by decide +kernel)) (by decide +kernel)
theorem k_7646d4378e : (Jvm.Cond.fieldLink "SpectrumDeskModel" (1 : Nat) "SpectrumDeskModel" "minus" "[Z") ∈ AW := aw_4 (List.mem_of_getElem? (i := 182) (by decide +kernel)) (by decide +kernel)
theorem k_eae5455160 : (Jvm.Cond.fieldLink "SpectrumDeskModel" (7 : Nat) "SpectrumDeskModel" "parts" "[I") ∈ AW := aw_4 (List.mem_of_getElem? (i := 180) (by decide +kernel)) (by decide +kernel)
theorem k_3ec0f02ce9 : (Jvm.Cond.constantLong "SpectrumDeskModel" (11 : Nat) (16777215 : Int64)) ∈ AW := aw_5 (List.mem_of_getElem? (i := 40) (by decide +kernel)) (by decide +kernel)
theorem k_e13fc765ad : (Jvm.Cond.code ({ cls := "SpectrumDeskModel", name := "bigSign", desc := "(I)I" } : Jvm.MethodName) prog_10_method_4_code (2 : Nat) (Option.some Jvm.ClassFile.FieldType.int)) ∈ AW := aw_5 (List.mem_of_getElem? (i := 84) (by decide +kernel)) (by decide +kernel)
theorem k_9795bdc343 : (Jvm.Cond.code ({ cls := "SpectrumDeskModel", name := "bigAt", desc := "(II)I" } : Jvm.MethodName) prog_10_method_6_code (3 : Nat) (Option.some Jvm.ClassFile.FieldType.int)) ∈ AW := aw_5 (List.mem_of_getElem? (i := 71) (by decide +kernel)) (by decide +kernel)
theorem k_10a67c202b : (Jvm.Cond.code ({ cls := "SpectrumDeskModel", name := "bigTrim", desc := "(I)V" } : Jvm.MethodName) prog_10_method_7_code (2 : Nat) (Option.none : Option Jvm.ClassFile.FieldType)) ∈ AW := aw_5 (List.mem_of_getElem? (i := 59) (by decide +kernel)) (by decide +kernel)
theorem k_5f300b8d49 : (Jvm.Cond.code ({ cls := "SpectrumDeskModel", name := "bigSet", desc := "(IJ)V" } : Jvm.MethodName) prog_10_method_1_code (7 : Nat) (Option.none : Option Jvm.ClassFile.FieldType)) ∈ AW := aw_5 (List.mem_of_getElem? (i := 39) (by decide +kernel)) (by decide +kernel)
theorem k_b9c8150a19 : (Jvm.Cond.code ({ cls := "SpectrumDeskModel", name := "bigCopy", desc := "(II)V" } : Jvm.MethodName) prog_10_method_2_code (4 : Nat) (Option.none : Option Jvm.ClassFile.FieldType)) ∈ AW := aw_5 (List.mem_of_getElem? (i := 88) (by decide +kernel)) (by decide +kernel)
set_option maxHeartbeats 4000000 in
set_option maxRecDepth 100000 in
theorem c_SpectrumDeskModel_bigSign {l : Launch} {D : va_G} {cI cJ cZ cC cG cP : ClassId} {ad : Nat → Nat} {σ0 : Nat → va_E} {fs : List Value} {P L M : Nat → Int32} {w : Nat} {x : Int} (hF : mF ad fs) (hw : w < 112) (hx0 : rb P L M w x) :
    Met l y_SpectrumDeskModel_bigSign v_SpectrumDeskModel_bigSign (xrm 0) (va_Pc [.ref (ad 183), .int (nI w)] (xS D classes (xT cI cJ cZ cC cG cP) 193 ad (rw3 σ0 ciM cI cZ fs P L M))) (va_Qi (fun r σ2 => r = sg x ∧ σ2 = rw3 σ0 ciM cI cZ fs P L M) (xS D classes (xT cI cJ cZ cC cG cP) 193 ad) (xA 193 ad)) 0 0 (xA 193 ad) := by
  have hz := rb_zero hx0
  obtain ⟨n, n1, n2, n3, n4, n5⟩ := hx0
  refine xr_met rfl (Nat.le_of_ble_eq_true rfl) ?_
  intro p e s m args below meth c ls hx hb X hr hlk hl I
  have hl : lv_has ls 2 [(0, .ref (ad 183)), (1, .int (nI w))] := hl
  refine lv_aload_n hx hb d_SpectrumDeskModel_bigSign_0 rfl (lv_at hl 0 rfl) ?_
  refine xr_get X I fin_M 183 (by decide) (r183 ..) rfl 1 (by decide) (List.mem_cons_of_mem _ k_4ae214c350) rfl (mF_lengths hF) d_SpectrumDeskModel_bigSign_1 ?_
  refine lv_iload_n hx hb d_SpectrumDeskModel_bigSign_4 rfl (lv_at hl 1 rfl) ?_
  refine xr_iald X I 185 0 (by decide) (r185 ..) rfl (by omega) (by decide) d_SpectrumDeskModel_bigSign_5 ?_
  refine lv_if_ne hx hb d_SpectrumDeskModel_bigSign_6 rfl (fun hc => ?_) (fun hc => ?_)
  · refine lv_aload_n hx hb d_SpectrumDeskModel_bigSign_13 rfl (lv_at hl 0 rfl) ?_
    refine xr_get X I fin_M 183 (by decide) (r183 ..) rfl 2 (by decide) (List.mem_cons_of_mem _ k_7646d4378e) rfl (mF_minus hF) d_SpectrumDeskModel_bigSign_14 ?_
    refine lv_iload_n hx hb d_SpectrumDeskModel_bigSign_17 rfl (lv_at hl 1 rfl) ?_
    refine xr_zald X I 186 2 (by decide) (r186 ..) rfl (by omega) (by decide) d_SpectrumDeskModel_bigSign_18 ?_
    refine lv_if_eq hx hb d_SpectrumDeskModel_bigSign_19 rfl (fun hm => ?_) (fun hm => ?_)
    · refine lv_iconst (v := nI 1) hx hb d_SpectrumDeskModel_bigSign_26 (by decide) ?_
      exact xr_iret X I hr hlk ⟨rb_sgp n2 n3 n4 n5 hc hm, rfl⟩ d_SpectrumDeskModel_bigSign_27
    · refine lv_iconst (v := (-1)) hx hb d_SpectrumDeskModel_bigSign_22 (by decide) ?_
      refine lv_goto hx hb d_SpectrumDeskModel_bigSign_23 rfl ?_
      exact xr_iret X I hr hlk ⟨rb_sgn n2 n3 n4 n5 hc hm, rfl⟩ d_SpectrumDeskModel_bigSign_27
  · refine lv_iconst (v := nI 0) hx hb d_SpectrumDeskModel_bigSign_9 (by decide) ?_
    refine lv_goto hx hb d_SpectrumDeskModel_bigSign_10 rfl ?_
    exact xr_iret X I hr hlk ⟨by rw [hz.mpr hc]; rfl, rfl⟩ d_SpectrumDeskModel_bigSign_27
set_option maxHeartbeats 4000000 in
set_option maxRecDepth 100000 in
theorem c_SpectrumDeskModel_bigAt {l : Launch} {D : va_G} {cI cJ cZ cC cG cP : ClassId} {ad : Nat → Nat} {σ0 : Nat → va_E} {fs : List Value} {P L M : Nat → Int32} {w i n : Nat} (hF : mF ad fs) (hw : w < 112) (hn : n ≤ 300) (hi : i < 2 ^ 31) (hL : L w = nI n) :
    Met l y_SpectrumDeskModel_bigAt v_SpectrumDeskModel_bigAt (xrm 0) (va_Pc [.ref (ad 183), .int (nI w), .int (nI i)] (xS D classes (xT cI cJ cZ cC cG cP) 193 ad (rw3 σ0 ciM cI cZ fs P L M))) (va_Qi (fun r σ2 => r = (if i < n then P (300 * w + i) else 0) ∧ σ2 = rw3 σ0 ciM cI cZ fs P L M) (xS D classes (xT cI cJ cZ cC cG cP) 193 ad) (xA 193 ad)) 0 0 (xA 193 ad) := by
  refine xr_met rfl (Nat.le_of_ble_eq_true rfl) ?_
  intro p e s m args below meth c ls hx hb X hr hlk hl I
  have hl : lv_has ls 3 [(0, .ref (ad 183)), (1, .int (nI w)), (2, .int (nI i))] := hl
  refine lv_iload_n hx hb d_SpectrumDeskModel_bigAt_0 rfl (lv_at hl 2 rfl) ?_
  refine lv_aload_n hx hb d_SpectrumDeskModel_bigAt_1 rfl (lv_at hl 0 rfl) ?_
  refine xr_get X I fin_M 183 (by decide) (r183 ..) rfl 1 (by decide) (List.mem_cons_of_mem _ k_4ae214c350) rfl (mF_lengths hF) d_SpectrumDeskModel_bigAt_2 ?_
  refine lv_iload_n hx hb d_SpectrumDeskModel_bigAt_5 rfl (lv_at hl 1 rfl) ?_
  refine xr_iald X I 185 0 (by decide) (r185 ..) rfl (by omega) (by decide) d_SpectrumDeskModel_bigAt_6 ?_
  refine xr_topi (y := nI n) hL ?_
  refine lv_icmp_ge hx hb d_SpectrumDeskModel_bigAt_7 rfl (fun hc => ?_) (fun hc => ?_)
  · have h : ¬ i < n := fun h => absurd hc (nI_ge h (by omega))
    refine lv_iconst (v := nI 0) hx hb d_SpectrumDeskModel_bigAt_25 (by decide) ?_
    exact xr_iret X I hr hlk ⟨by rw [if_neg h]; rfl, rfl⟩ d_SpectrumDeskModel_bigAt_26
  · have h : i < n := Nat.lt_of_not_le fun h => hc (nI_le h (by omega))
    refine lv_aload_n hx hb d_SpectrumDeskModel_bigAt_10 rfl (lv_at hl 0 rfl) ?_
    refine xr_get X I fin_M 183 (by decide) (r183 ..) rfl 0 (by decide) (List.mem_cons_of_mem _ k_eae5455160) rfl (mF_parts hF) d_SpectrumDeskModel_bigAt_11 ?_
    refine lv_sipush (v := nI 300) hx hb d_SpectrumDeskModel_bigAt_14 (by decide) ?_
    refine lv_iload_n hx hb d_SpectrumDeskModel_bigAt_17 rfl (lv_at hl 1 rfl) ?_
    refine lv_imul hx hb d_SpectrumDeskModel_bigAt_18 (xr_topi (y := nI (300 * w)) (pk_mul 300 w) ?_)
    refine lv_iload_n hx hb d_SpectrumDeskModel_bigAt_19 rfl (lv_at hl 2 rfl) ?_
    refine lv_iadd hx hb d_SpectrumDeskModel_bigAt_20 (xr_topi (y := nI ((300 * w) + i)) (nI_add (300 * w) i) ?_)
    refine xr_iald X I 184 0 (by decide) (r184 ..) rfl (by omega) (by decide) d_SpectrumDeskModel_bigAt_21 ?_
    refine lv_goto hx hb d_SpectrumDeskModel_bigAt_22 rfl ?_
    exact xr_iret X I hr hlk ⟨by rw [if_pos h], rfl⟩ d_SpectrumDeskModel_bigAt_26
set_option maxHeartbeats 4000000 in
set_option maxRecDepth 100000 in
theorem c_SpectrumDeskModel_bigTrim {l : Launch} {D : va_G} {cI cJ cZ cC cG cP : ClassId} {ad : Nat → Nat} {σ0 : Nat → va_E} {fs : List Value} {P L M : Nat → Int32} {w n : Nat} (hF : mF ad fs) (hw : w < 112) (hn : n ≤ 300) (hL : L w = nI n) :
    Met l y_SpectrumDeskModel_bigTrim v_SpectrumDeskModel_bigTrim (xrm 0) (va_Pc [.ref (ad 183), .int (nI w)] (xS D classes (xT cI cJ cZ cC cG cP) 193 ad (rw3 σ0 ciM cI cZ fs P L M))) (va_Qv (fun σ2 => ∃ n2 : Nat, n2 ≤ n ∧ σ2 = rw3 σ0 ciM cI cZ fs P (upd L w (nI n2)) M ∧ rg P (300 * w) n2 = rg P (300 * w) n ∧ (0 < n2 → P (300 * w + (n2 - 1)) ≠ 0)) (xS D classes (xT cI cJ cZ cC cG cP) 193 ad) (xA 193 ad)) 0 0 (xA 193 ad) := by
  refine xr_met rfl (Nat.le_of_ble_eq_true rfl) ?_
  intro p e s m args below meth c ls hx hb X hr hlk hl I
  have hl : lv_has ls 2 [(0, .ref (ad 183)), (1, .int (nI w))] := hl
  have loop : ∀ (k : Nat)  (ls : Array Slot) (H : Heap) (locs : List Loc), k ≤ n → rg P (300 * w) k = rg P (300 * w) n → lv_has ls 2 [(0, .ref (ad 183)), (1, .int (nI w))] → xI D classes 193 ad s.heap (rw3 σ0 ciM cI cZ fs P (upd L w (nI k)) M) H locs → W p l e (xrm 0) s m args below meth c H locs 0 0 (MQ below (va_Qv (fun σ2 => ∃ n2 : Nat, n2 ≤ n ∧ σ2 = rw3 σ0 ciM cI cZ fs P (upd L w (nI n2)) M ∧ rg P (300 * w) n2 = rg P (300 * w) n ∧ (0 < n2 → P (300 * w + (n2 - 1)) ≠ 0)) (xS D classes (xT cI cJ cZ cC cG cP) 193 ad) (xA 193 ad)) args s 0 0 (xA 193 ad)) (F0 m 0 ls []) := by
    intro k
    induction k with
    | zero =>
      intro ls H locs hk hv hl I
      refine lv_aload_n hx hb d_SpectrumDeskModel_bigTrim_0 rfl (lv_at hl 0 rfl) ?_
      refine xr_get X I fin_M 183 (by decide) (r183 ..) rfl 1 (by decide) (List.mem_cons_of_mem _ k_4ae214c350) rfl (mF_lengths hF) d_SpectrumDeskModel_bigTrim_1 ?_
      refine lv_iload_n hx hb d_SpectrumDeskModel_bigTrim_4 rfl (lv_at hl 1 rfl) ?_
      refine xr_iald X I 185 0 (by decide) (r185 ..) rfl (by omega) (by decide) d_SpectrumDeskModel_bigTrim_5 ?_
      refine xr_topi (y := nI 0) upd_s ?_
      refine lv_if_le hx hb d_SpectrumDeskModel_bigTrim_6 rfl (fun hc => ?_) (fun hc => ?_)
      · exact xr_vret X I hr hlk ⟨0, by omega, rfl, hv, fun h => absurd h (by decide)⟩ d_SpectrumDeskModel_bigTrim_44
      · exact absurd (by decide) hc
    | succ k ih =>
      intro ls H locs hk hv hl I
      refine lv_aload_n hx hb d_SpectrumDeskModel_bigTrim_0 rfl (lv_at hl 0 rfl) ?_
      refine xr_get X I fin_M 183 (by decide) (r183 ..) rfl 1 (by decide) (List.mem_cons_of_mem _ k_4ae214c350) rfl (mF_lengths hF) d_SpectrumDeskModel_bigTrim_1 ?_
      refine lv_iload_n hx hb d_SpectrumDeskModel_bigTrim_4 rfl (lv_at hl 1 rfl) ?_
      refine xr_iald X I 185 0 (by decide) (r185 ..) rfl (by omega) (by decide) d_SpectrumDeskModel_bigTrim_5 ?_
      refine xr_topi (y := nI (k + 1)) upd_s ?_
      refine lv_if_le hx hb d_SpectrumDeskModel_bigTrim_6 rfl (fun hc => ?_) (fun hc => ?_)
      · exact absurd hc (nI_nle (by omega) (by omega))
      · refine lv_aload_n hx hb d_SpectrumDeskModel_bigTrim_9 rfl (lv_at hl 0 rfl) ?_
        refine xr_get X I fin_M 183 (by decide) (r183 ..) rfl 0 (by decide) (List.mem_cons_of_mem _ k_eae5455160) rfl (mF_parts hF) d_SpectrumDeskModel_bigTrim_10 ?_
        refine lv_sipush (v := nI 300) hx hb d_SpectrumDeskModel_bigTrim_13 (by decide) ?_
        refine lv_iload_n hx hb d_SpectrumDeskModel_bigTrim_16 rfl (lv_at hl 1 rfl) ?_
        refine lv_imul hx hb d_SpectrumDeskModel_bigTrim_17 (xr_topi (y := nI (300 * w)) (pk_mul 300 w) ?_)
        refine lv_aload_n hx hb d_SpectrumDeskModel_bigTrim_18 rfl (lv_at hl 0 rfl) ?_
        refine xr_get X I fin_M 183 (by decide) (r183 ..) rfl 1 (by decide) (List.mem_cons_of_mem _ k_4ae214c350) rfl (mF_lengths hF) d_SpectrumDeskModel_bigTrim_19 ?_
        refine lv_iload_n hx hb d_SpectrumDeskModel_bigTrim_22 rfl (lv_at hl 1 rfl) ?_
        refine xr_iald X I 185 0 (by decide) (r185 ..) rfl (by omega) (by decide) d_SpectrumDeskModel_bigTrim_23 ?_
        refine xr_topi (y := nI (k + 1)) upd_s ?_
        refine lv_iadd hx hb d_SpectrumDeskModel_bigTrim_24 (xr_topi (y := nI ((300 * w) + (k + 1))) (nI_add (300 * w) (k + 1)) ?_)
        refine lv_iconst (v := nI 1) hx hb d_SpectrumDeskModel_bigTrim_25 (by decide) ?_
        refine lv_isub hx hb d_SpectrumDeskModel_bigTrim_26 (xr_topi (y := nI (300 * w + k)) (pk_sub (a := 300 * w + (k + 1)) (b := 1) (by omega)) ?_)
        refine xr_iald X I 184 0 (by decide) (r184 ..) rfl (by omega) (by decide) d_SpectrumDeskModel_bigTrim_27 ?_
        refine lv_if_ne hx hb d_SpectrumDeskModel_bigTrim_28 rfl (fun hz => ?_) (fun hz => ?_)
        · exact xr_vret X I hr hlk ⟨k + 1, by omega, rfl, hv, fun _ => hz⟩ d_SpectrumDeskModel_bigTrim_44
        · refine lv_aload_n hx hb d_SpectrumDeskModel_bigTrim_31 rfl (lv_at hl 0 rfl) ?_
          refine xr_get X I fin_M 183 (by decide) (r183 ..) rfl 1 (by decide) (List.mem_cons_of_mem _ k_4ae214c350) rfl (mF_lengths hF) d_SpectrumDeskModel_bigTrim_32 ?_
          refine lv_iload_n hx hb d_SpectrumDeskModel_bigTrim_35 rfl (lv_at hl 1 rfl) ?_
          refine lv_dup2_11 hx hb d_SpectrumDeskModel_bigTrim_36 rfl rfl ?_
          refine xr_iald X I 185 0 (by decide) (r185 ..) rfl (by omega) (by decide) d_SpectrumDeskModel_bigTrim_37 ?_
          refine xr_topi (y := nI (k + 1)) upd_s ?_
          refine lv_iconst (v := nI 1) hx hb d_SpectrumDeskModel_bigTrim_38 (by decide) ?_
          refine lv_isub hx hb d_SpectrumDeskModel_bigTrim_39 (xr_topi (y := nI k) (pk_sub (a := k + 1) (b := 1) (by omega)) ?_)
          refine xr_iast X I 185 0 (by decide) (r185 ..) rfl (by omega) (by decide) d_SpectrumDeskModel_bigTrim_40 (fun H locs I => ?_)
          rw [rw3_L] at I
          rw [upd_upd] at I
          refine lv_goto hx hb d_SpectrumDeskModel_bigTrim_41 rfl ?_
          exact ih ls H locs (by omega) (by rw [rg, hz] at hv; simp at hv; exact hv) hl I
  exact loop n ls _ _ (Nat.le_refl _) rfl hl (by rw [upd_same hL]; exact I)
set_option maxHeartbeats 4000000 in
set_option maxRecDepth 100000 in
theorem c_SpectrumDeskModel_bigSet {l : Launch} {D : va_G} {cI cJ cZ cC cG cP : ClassId} {ad : Nat → Nat} {σ0 : Nat → va_E} {fs : List Value} {P L M : Nat → Int32} {w : Nat} {v : Int64} (hF : mF ad fs) (hw : w < 112) :
    Met l y_SpectrumDeskModel_bigSet v_SpectrumDeskModel_bigSet (xrm 0) (va_Pc [.ref (ad 183), .int (nI w), .long v] (xS D classes (xT cI cJ cZ cC cG cP) 193 ad (rw3 σ0 ciM cI cZ fs P L M))) (va_Qv (rb_up σ0 ciM cI cZ fs P L M w v.toInt) (xS D classes (xT cI cJ cZ cC cG cP) 193 ad) (xA 193 ad)) 0 0 (xA 193 ad) := by
  refine xr_met rfl (Nat.le_of_ble_eq_true rfl) ?_
  intro p e s m args below meth c ls hx hb X hr hlk hl I
  have hl : lv_has ls 7 [(0, .ref (ad 183)), (1, .int (nI w)), (2, .long v)] := hl
  have loop : ∀ (k : Nat) (u0 : Nat) (M2 : Nat → Int32) (hM1 : ∀ j, j ≠ w → M2 j = M j) (hM2 : (M2 w = 0 ∧ v.toInt = (u0 : Int)) ∨ (M2 w = 1 ∧ v.toInt = -(u0 : Int))) (hb0 : u0 < 2 ^ 64) (i u : Nat) (P2 : Nat → Int32) (ls : Array Slot) (H : Heap) (locs : List Loc), u < k → u < 2 ^ 64 → rg P2 (300 * w) i + (u : Int) * 16777216 ^ i = (u0 : Int) → rg_ok P2 (300 * w) i → (∀ j, j < 300 * w ∨ 300 * w + 300 ≤ j → P2 j = P j) → (0 < i → u = 0 → P2 (300 * w + (i - 1)) ≠ 0) → i ≤ 3 → lv_has ls 7 [(5, .long (lN u)), (4, .int (nI i)), (0, .ref (ad 183)), (1, .int (nI w)), (2, .long v)] → xI D classes 193 ad s.heap (rw3 σ0 ciM cI cZ fs P2 L M2) H locs → W p l e (xrm 0) s m args below meth c H locs 0 0 (MQ below (va_Qv (rb_up σ0 ciM cI cZ fs P L M w v.toInt) (xS D classes (xT cI cJ cZ cC cG cP) 193 ad) (xA 193 ad)) args s 0 0 (xA 193 ad)) (F0 m 34 ls []) := by
    intro k
    induction k with
    | zero =>
      intro u0 M2 hM1 hM2 hb0 i u P2 ls H locs hk hu hs hok hfr ht hi hl I
      exact absurd hk (Nat.not_lt_zero _)
    | succ k ih =>
      intro u0 M2 hM1 hM2 hb0 i u P2 ls H locs hk hu hs hok hfr ht hi hl I
      refine lv_lload hx hb d_SpectrumDeskModel_bigSet_34 (lv_at hl 0 rfl) ?_
      refine lv_lconst (v := 0) hx hb d_SpectrumDeskModel_bigSet_36 (by decide) ?_
      refine W.lcmp hx hb d_SpectrumDeskModel_bigSet_37 ?_
      refine lv_if_eq hx hb d_SpectrumDeskModel_bigSet_38 rfl (fun hc => ?_) (fun hc => ?_)
      · have hu0 : u = 0 := (q_lN0 hu).mp ((lg_cmp_eq _ _).mp hc)
        refine lv_aload_n hx hb d_SpectrumDeskModel_bigSet_74 rfl (lv_at hl 2 rfl) ?_
        refine xr_get X I fin_M 183 (by decide) (r183 ..) rfl 1 (by decide) (List.mem_cons_of_mem _ k_4ae214c350) rfl (mF_lengths hF) d_SpectrumDeskModel_bigSet_75 ?_
        refine lv_iload_n hx hb d_SpectrumDeskModel_bigSet_78 rfl (lv_at hl 3 rfl) ?_
        refine lv_iload hx hb d_SpectrumDeskModel_bigSet_79 (lv_at hl 1 rfl) ?_
        refine xr_iast X I 185 0 (by decide) (r185 ..) rfl (by omega) (by decide) d_SpectrumDeskModel_bigSet_81 (fun H locs I => ?_)
        rw [rw3_L] at I
        exact xr_vret X I hr hlk ⟨P2, upd L w (nI i), M2, rfl, ⟨hfr, fun j hj => upd_n hj, hM1⟩, i, by omega, upd_s, hok, fun h => ht h hu0, by rw [hu0] at hs; simp at hs; rw [hs]; exact hM2⟩ d_SpectrumDeskModel_bigSet_82
      · have hu0 : u ≠ 0 := fun h => hc ((lg_cmp_eq _ _).mpr ((q_lN0 hu).mpr h))
        have hi2 : i ≤ 2 := rs_few hs hok hu0 hb0
        refine lv_aload_n hx hb d_SpectrumDeskModel_bigSet_41 rfl (lv_at hl 2 rfl) ?_
        refine xr_get X I fin_M 183 (by decide) (r183 ..) rfl 0 (by decide) (List.mem_cons_of_mem _ k_eae5455160) rfl (mF_parts hF) d_SpectrumDeskModel_bigSet_42 ?_
        refine lv_sipush (v := nI 300) hx hb d_SpectrumDeskModel_bigSet_45 (by decide) ?_
        refine lv_iload_n hx hb d_SpectrumDeskModel_bigSet_48 rfl (lv_at hl 3 rfl) ?_
        refine lv_imul hx hb d_SpectrumDeskModel_bigSet_49 (xr_topi (y := nI (300 * w)) (pk_mul 300 w) ?_)
        refine lv_iload hx hb d_SpectrumDeskModel_bigSet_50 (lv_at hl 1 rfl) ?_
        refine lv_iadd hx hb d_SpectrumDeskModel_bigSet_52 (xr_topi (y := nI ((300 * w) + i)) (nI_add (300 * w) i) ?_)
        refine lv_lload hx hb d_SpectrumDeskModel_bigSet_53 (lv_at hl 0 rfl) ?_
        refine lv_ldc2 (v := 16777215) hx hb X.1.2.2.2.1 (X.1.2.2.2.2 _ (List.mem_cons_of_mem _ k_3ec0f02ce9)) d_SpectrumDeskModel_bigSet_55 ?_
        refine lv_land hx hb d_SpectrumDeskModel_bigSet_58 ?_
        refine lv_l2i hx hb d_SpectrumDeskModel_bigSet_59 rfl ?_
        refine xr_topi (y := nI (u % 16777216)) (q_u24 hu) ?_
        refine xr_iast X I 184 0 (by decide) (r184 ..) rfl (by omega) (by decide) d_SpectrumDeskModel_bigSet_60 (fun H locs I => ?_)
        rw [rw3_P] at I
        refine lv_iinc (k := 1) (v := nI (i + 1)) (lv' := [(4, .int (nI (i + 1))), (5, .long (lN u)), (0, .ref (ad 183)), (1, .int (nI w)), (2, .long v)]) hx hb d_SpectrumDeskModel_bigSet_61 hl rfl (nI_1 i) (by decide) rfl (fun ls hl => ?_)
        refine lv_lload hx hb d_SpectrumDeskModel_bigSet_64 (lv_at hl 1 rfl) ?_
        refine lv_bipush (v := nI 24) hx hb d_SpectrumDeskModel_bigSet_66 (by decide) ?_
        refine lv_lushr hx hb d_SpectrumDeskModel_bigSet_68 rfl ?_
        refine xr_topl (y := lN (u / 16777216)) (q_ushr24 hu) ?_
        refine lv_lstore (lv' := [(5, .long (lN (u / 16777216))), (4, .int (nI (i + 1))), (0, .ref (ad 183)), (1, .int (nI w)), (2, .long v)]) hx hb d_SpectrumDeskModel_bigSet_69 hl (by decide) rfl (fun ls hl => ?_)
        refine lv_goto hx hb d_SpectrumDeskModel_bigSet_71 rfl ?_
        obtain ⟨s1, s2⟩ := rs_step hs hok
        refine ih u0 M2 hM1 hM2 hb0 (i + 1) (u / 16777216) _ ls H locs (by omega) (by omega) s2 s1 (fun j hj => (upd_n (by omega)).trans (hfr j hj)) (fun _ h => ?_) (by omega) hl I
        rw [Nat.add_sub_cancel, upd_s]; intro h2; have h3 := (nI_eq (a := u % 16777216) (b := 0) (by omega) (by decide)).mp h2; omega
  refine lv_aload_n hx hb d_SpectrumDeskModel_bigSet_0 rfl (lv_at hl 0 rfl) ?_
  refine xr_get X I fin_M 183 (by decide) (r183 ..) rfl 2 (by decide) (List.mem_cons_of_mem _ k_7646d4378e) rfl (mF_minus hF) d_SpectrumDeskModel_bigSet_1 ?_
  refine lv_iload_n hx hb d_SpectrumDeskModel_bigSet_4 rfl (lv_at hl 1 rfl) ?_
  refine lv_lload_n hx hb d_SpectrumDeskModel_bigSet_5 rfl (lv_at hl 2 rfl) ?_
  refine lv_lconst (v := 0) hx hb d_SpectrumDeskModel_bigSet_6 (by decide) ?_
  refine W.lcmp hx hb d_SpectrumDeskModel_bigSet_7 ?_
  refine lv_if_ge hx hb d_SpectrumDeskModel_bigSet_8 rfl (fun hc => ?_) (fun hc => ?_)
  · have h0 : 0 ≤ v := (lg_cmp_ge _ _).mp hc
    refine lv_iconst (v := nI 0) hx hb d_SpectrumDeskModel_bigSet_15 (by decide) ?_
    refine xr_zast X I 186 2 (by decide) (r186 ..) rfl (by omega) (by decide) d_SpectrumDeskModel_bigSet_16 (fun H locs I => ?_)
    rw [rw3_M, show vp_nar .boolean (nI 0) = 0 by decide] at I
    refine lv_iconst (v := nI 0) hx hb d_SpectrumDeskModel_bigSet_17 (by decide) ?_
    refine lv_istore (lv' := [(4, .int (nI 0)), (0, .ref (ad 183)), (1, .int (nI w)), (2, .long v)]) hx hb d_SpectrumDeskModel_bigSet_18 hl (by decide) rfl (fun ls hl => ?_)
    refine lv_lload_n hx hb d_SpectrumDeskModel_bigSet_20 rfl (lv_at hl 3 rfl) ?_
    refine lv_lconst (v := 0) hx hb d_SpectrumDeskModel_bigSet_21 (by decide) ?_
    refine W.lcmp hx hb d_SpectrumDeskModel_bigSet_22 ?_
    refine lv_if_ge hx hb d_SpectrumDeskModel_bigSet_23 rfl (fun hd => ?_) (fun hd => ?_)
    · obtain ⟨u0, a1, a2, a3⟩ := q_pos (v := v) (Int64.not_lt.mpr h0)
      refine lv_lload_n hx hb d_SpectrumDeskModel_bigSet_31 rfl (lv_at hl 3 rfl) ?_
      refine xr_topl (y := lN u0) a2 ?_
      refine lv_lstore (lv' := [(5, .long (lN u0)), (4, .int (nI 0)), (0, .ref (ad 183)), (1, .int (nI w)), (2, .long v)]) hx hb d_SpectrumDeskModel_bigSet_32 hl (by decide) rfl (fun ls hl => ?_)
      exact loop (u0 + 1) u0 (upd M w 0) (fun j hj => upd_n hj) (Or.inl ⟨upd_s, by omega⟩) a1 0 u0 P ls _ _ (by omega) a1 (by simp [rg]) (fun j hj => absurd hj (Nat.not_lt_zero _)) (fun _ _ => rfl) (fun h => absurd h (by decide)) (by decide) hl I
    · exact absurd h0 (fun h => hd ((lg_cmp_ge _ _).mpr h))
  · have hn : ¬ 0 ≤ v := fun h => hc ((lg_cmp_ge _ _).mpr h)
    refine lv_iconst (v := nI 1) hx hb d_SpectrumDeskModel_bigSet_11 (by decide) ?_
    refine lv_goto hx hb d_SpectrumDeskModel_bigSet_12 rfl ?_
    refine xr_zast X I 186 2 (by decide) (r186 ..) rfl (by omega) (by decide) d_SpectrumDeskModel_bigSet_16 (fun H locs I => ?_)
    rw [rw3_M, show vp_nar .boolean (nI 1) = 1 by decide] at I
    refine lv_iconst (v := nI 0) hx hb d_SpectrumDeskModel_bigSet_17 (by decide) ?_
    refine lv_istore (lv' := [(4, .int (nI 0)), (0, .ref (ad 183)), (1, .int (nI w)), (2, .long v)]) hx hb d_SpectrumDeskModel_bigSet_18 hl (by decide) rfl (fun ls hl => ?_)
    refine lv_lload_n hx hb d_SpectrumDeskModel_bigSet_20 rfl (lv_at hl 3 rfl) ?_
    refine lv_lconst (v := 0) hx hb d_SpectrumDeskModel_bigSet_21 (by decide) ?_
    refine W.lcmp hx hb d_SpectrumDeskModel_bigSet_22 ?_
    refine lv_if_ge hx hb d_SpectrumDeskModel_bigSet_23 rfl (fun hd => ?_) (fun hd => ?_)
    · exact absurd ((lg_cmp_ge _ _).mp hd) hn
    · obtain ⟨u0, a1, a2, a3⟩ := q_abs (v := v) (by have := Int64.not_le.mp hn; exact this)
      refine lv_lload_n hx hb d_SpectrumDeskModel_bigSet_26 rfl (lv_at hl 3 rfl) ?_
      refine lv_lneg hx hb d_SpectrumDeskModel_bigSet_27 ?_
      refine xr_topl (y := lN u0) a2 ?_
      refine lv_goto hx hb d_SpectrumDeskModel_bigSet_28 rfl ?_
      refine lv_lstore (lv' := [(5, .long (lN u0)), (4, .int (nI 0)), (0, .ref (ad 183)), (1, .int (nI w)), (2, .long v)]) hx hb d_SpectrumDeskModel_bigSet_32 hl (by decide) rfl (fun ls hl => ?_)
      exact loop (u0 + 1) u0 (upd M w 1) (fun j hj => upd_n hj) (Or.inr ⟨upd_s, by omega⟩) a1 0 u0 P ls _ _ (by omega) a1 (by simp [rg]) (fun j hj => absurd hj (Nat.not_lt_zero _)) (fun _ _ => rfl) (fun h => absurd h (by decide)) (by decide) hl I
set_option maxHeartbeats 4000000 in
set_option maxRecDepth 100000 in
theorem c_SpectrumDeskModel_bigCopy {l : Launch} {D : va_G} {cI cJ cZ cC cG cP : ClassId} {ad : Nat → Nat} {σ0 : Nat → va_E} {fs : List Value} {P L M : Nat → Int32} {w u : Nat} {x : Int} (hF : mF ad fs) (hw : w < 112) (hu : u < 112) (hne : u ≠ w) (hx0 : rb P L M u x) :
    Met l y_SpectrumDeskModel_bigCopy v_SpectrumDeskModel_bigCopy (xrm 0) (va_Pc [.ref (ad 183), .int (nI w), .int (nI u)] (xS D classes (xT cI cJ cZ cC cG cP) 193 ad (rw3 σ0 ciM cI cZ fs P L M))) (va_Qv (rb_up σ0 ciM cI cZ fs P L M w x) (xS D classes (xT cI cJ cZ cC cG cP) 193 ad) (xA 193 ad)) 0 0 (xA 193 ad) := by
  obtain ⟨n, n1, n2, n3, n4, n5⟩ := hx0
  have hnar : vp_nar .boolean (M u) = M u := by rcases n5 with ⟨h, -⟩ | ⟨h, -⟩ <;> rw [h] <;> decide
  refine xr_met rfl (Nat.le_of_ble_eq_true rfl) ?_
  intro p e s m args below meth c ls hx hb X hr hlk hl I
  have hl : lv_has ls 4 [(0, .ref (ad 183)), (1, .int (nI w)), (2, .int (nI u))] := hl
  refine lv_aload_n hx hb d_SpectrumDeskModel_bigCopy_0 rfl (lv_at hl 0 rfl) ?_
  refine xr_get X I fin_M 183 (by decide) (r183 ..) rfl 2 (by decide) (List.mem_cons_of_mem _ k_7646d4378e) rfl (mF_minus hF) d_SpectrumDeskModel_bigCopy_1 ?_
  refine lv_iload_n hx hb d_SpectrumDeskModel_bigCopy_4 rfl (lv_at hl 1 rfl) ?_
  refine lv_aload_n hx hb d_SpectrumDeskModel_bigCopy_5 rfl (lv_at hl 0 rfl) ?_
  refine xr_get X I fin_M 183 (by decide) (r183 ..) rfl 2 (by decide) (List.mem_cons_of_mem _ k_7646d4378e) rfl (mF_minus hF) d_SpectrumDeskModel_bigCopy_6 ?_
  refine lv_iload_n hx hb d_SpectrumDeskModel_bigCopy_9 rfl (lv_at hl 2 rfl) ?_
  refine xr_zald X I 186 2 (by decide) (r186 ..) rfl (by omega) (by decide) d_SpectrumDeskModel_bigCopy_10 ?_
  refine xr_zast X I 186 2 (by decide) (r186 ..) rfl (by omega) (by decide) d_SpectrumDeskModel_bigCopy_11 (fun H locs I => ?_)
  rw [rw3_M, hnar] at I
  refine lv_aload_n hx hb d_SpectrumDeskModel_bigCopy_12 rfl (lv_at hl 0 rfl) ?_
  refine xr_get X I fin_M 183 (by decide) (r183 ..) rfl 1 (by decide) (List.mem_cons_of_mem _ k_4ae214c350) rfl (mF_lengths hF) d_SpectrumDeskModel_bigCopy_13 ?_
  refine lv_iload_n hx hb d_SpectrumDeskModel_bigCopy_16 rfl (lv_at hl 1 rfl) ?_
  refine lv_aload_n hx hb d_SpectrumDeskModel_bigCopy_17 rfl (lv_at hl 0 rfl) ?_
  refine xr_get X I fin_M 183 (by decide) (r183 ..) rfl 1 (by decide) (List.mem_cons_of_mem _ k_4ae214c350) rfl (mF_lengths hF) d_SpectrumDeskModel_bigCopy_18 ?_
  refine lv_iload_n hx hb d_SpectrumDeskModel_bigCopy_21 rfl (lv_at hl 2 rfl) ?_
  refine xr_iald X I 185 0 (by decide) (r185 ..) rfl (by omega) (by decide) d_SpectrumDeskModel_bigCopy_22 ?_
  refine xr_topi (y := nI n) n2 ?_
  refine xr_iast X I 185 0 (by decide) (r185 ..) rfl (by omega) (by decide) d_SpectrumDeskModel_bigCopy_23 (fun H locs I => ?_)
  rw [rw3_L] at I
  refine lv_iconst (v := nI 0) hx hb d_SpectrumDeskModel_bigCopy_24 (by decide) ?_
  refine lv_istore_n (lv' := [(3, .int (nI 0)), (0, .ref (ad 183)), (1, .int (nI w)), (2, .int (nI u))]) hx hb d_SpectrumDeskModel_bigCopy_25 rfl hl (by decide) rfl (fun ls hl => ?_)
  have loop : ∀ (k : Nat) (i : Nat) (P2 : Nat → Int32) (ls : Array Slot) (H : Heap) (locs : List Loc), i + k = n → (∀ j, j < 300 * w ∨ 300 * w + 300 ≤ j → P2 j = P j) → (∀ j, j < i → P2 (300 * w + j) = P (300 * u + j)) → lv_has ls 4 [(3, .int (nI i)), (0, .ref (ad 183)), (1, .int (nI w)), (2, .int (nI u))] → xI D classes 193 ad s.heap (rw3 σ0 ciM cI cZ fs P2 (upd L w (nI n)) (upd M w (M u))) H locs → W p l e (xrm 0) s m args below meth c H locs 0 0 (MQ below (va_Qv (rb_up σ0 ciM cI cZ fs P L M w x) (xS D classes (xT cI cJ cZ cC cG cP) 193 ad) (xA 193 ad)) args s 0 0 (xA 193 ad)) (F0 m 26 ls []) := by
    intro k
    induction k with
    | zero =>
      intro i P2 ls H locs hk hfr hcp hl I
      obtain rfl : i = n := by omega
      refine lv_iload_n hx hb d_SpectrumDeskModel_bigCopy_26 rfl (lv_at hl 0 rfl) ?_
      refine lv_aload_n hx hb d_SpectrumDeskModel_bigCopy_27 rfl (lv_at hl 1 rfl) ?_
      refine xr_get X I fin_M 183 (by decide) (r183 ..) rfl 1 (by decide) (List.mem_cons_of_mem _ k_4ae214c350) rfl (mF_lengths hF) d_SpectrumDeskModel_bigCopy_28 ?_
      refine lv_iload_n hx hb d_SpectrumDeskModel_bigCopy_31 rfl (lv_at hl 3 rfl) ?_
      refine xr_iald X I 185 0 (by decide) (r185 ..) rfl (by omega) (by decide) d_SpectrumDeskModel_bigCopy_32 ?_
      refine xr_topi (y := nI i) ((upd_n hne).trans n2) ?_
      refine lv_icmp_ge hx hb d_SpectrumDeskModel_bigCopy_33 rfl (fun hc => ?_) (fun hc => ?_)
      · exact xr_vret X I hr hlk ⟨P2, upd L w (nI i), upd M w (M u), rfl, ⟨hfr, fun j hj => upd_n hj, fun j hj => upd_n hj⟩, i, n1, upd_s, rg_ok_congr (P' := P) (o' := 300 * u) (fun j hj => hcp j hj) n3, fun h => by rw [hcp _ (by omega)]; exact n4 h, by rw [upd_s, rg_congr (P' := P) (o' := 300 * u) (fun j hj => hcp j hj)]; exact n5⟩ d_SpectrumDeskModel_bigCopy_66
      · exact absurd (nI_le (Nat.le_refl _) (by omega)) hc
    | succ k ih =>
      intro i P2 ls H locs hk hfr hcp hl I
      refine lv_iload_n hx hb d_SpectrumDeskModel_bigCopy_26 rfl (lv_at hl 0 rfl) ?_
      refine lv_aload_n hx hb d_SpectrumDeskModel_bigCopy_27 rfl (lv_at hl 1 rfl) ?_
      refine xr_get X I fin_M 183 (by decide) (r183 ..) rfl 1 (by decide) (List.mem_cons_of_mem _ k_4ae214c350) rfl (mF_lengths hF) d_SpectrumDeskModel_bigCopy_28 ?_
      refine lv_iload_n hx hb d_SpectrumDeskModel_bigCopy_31 rfl (lv_at hl 3 rfl) ?_
      refine xr_iald X I 185 0 (by decide) (r185 ..) rfl (by omega) (by decide) d_SpectrumDeskModel_bigCopy_32 ?_
      refine xr_topi (y := nI n) ((upd_n hne).trans n2) ?_
      refine lv_icmp_ge hx hb d_SpectrumDeskModel_bigCopy_33 rfl (fun hc => ?_) (fun hc => ?_)
      · exact absurd hc (nI_ge (by omega) (by omega))
      · refine lv_aload_n hx hb d_SpectrumDeskModel_bigCopy_36 rfl (lv_at hl 1 rfl) ?_
        refine xr_get X I fin_M 183 (by decide) (r183 ..) rfl 0 (by decide) (List.mem_cons_of_mem _ k_eae5455160) rfl (mF_parts hF) d_SpectrumDeskModel_bigCopy_37 ?_
        refine lv_sipush (v := nI 300) hx hb d_SpectrumDeskModel_bigCopy_40 (by decide) ?_
        refine lv_iload_n hx hb d_SpectrumDeskModel_bigCopy_43 rfl (lv_at hl 2 rfl) ?_
        refine lv_imul hx hb d_SpectrumDeskModel_bigCopy_44 (xr_topi (y := nI (300 * w)) (pk_mul 300 w) ?_)
        refine lv_iload_n hx hb d_SpectrumDeskModel_bigCopy_45 rfl (lv_at hl 0 rfl) ?_
        refine lv_iadd hx hb d_SpectrumDeskModel_bigCopy_46 (xr_topi (y := nI ((300 * w) + i)) (nI_add (300 * w) i) ?_)
        refine lv_aload_n hx hb d_SpectrumDeskModel_bigCopy_47 rfl (lv_at hl 1 rfl) ?_
        refine xr_get X I fin_M 183 (by decide) (r183 ..) rfl 0 (by decide) (List.mem_cons_of_mem _ k_eae5455160) rfl (mF_parts hF) d_SpectrumDeskModel_bigCopy_48 ?_
        refine lv_sipush (v := nI 300) hx hb d_SpectrumDeskModel_bigCopy_51 (by decide) ?_
        refine lv_iload_n hx hb d_SpectrumDeskModel_bigCopy_54 rfl (lv_at hl 3 rfl) ?_
        refine lv_imul hx hb d_SpectrumDeskModel_bigCopy_55 (xr_topi (y := nI (300 * u)) (pk_mul 300 u) ?_)
        refine lv_iload_n hx hb d_SpectrumDeskModel_bigCopy_56 rfl (lv_at hl 0 rfl) ?_
        refine lv_iadd hx hb d_SpectrumDeskModel_bigCopy_57 (xr_topi (y := nI ((300 * u) + i)) (nI_add (300 * u) i) ?_)
        refine xr_iald X I 184 0 (by decide) (r184 ..) rfl (by omega) (by decide) d_SpectrumDeskModel_bigCopy_58 ?_
        refine xr_topi (y := P (300 * u + i)) (hfr _ (by omega)) ?_
        refine xr_iast X I 184 0 (by decide) (r184 ..) rfl (by omega) (by decide) d_SpectrumDeskModel_bigCopy_59 (fun H locs I => ?_)
        rw [rw3_P] at I
        refine lv_iinc (k := 0) (v := nI (i + 1)) (lv' := [(3, .int (nI (i + 1))), (0, .ref (ad 183)), (1, .int (nI w)), (2, .int (nI u))]) hx hb d_SpectrumDeskModel_bigCopy_60 hl rfl (nI_1 i) (by decide) rfl (fun ls hl => ?_)
        refine lv_goto hx hb d_SpectrumDeskModel_bigCopy_63 rfl ?_
        refine ih (i + 1) _ ls H locs (by omega) (fun j hj => (upd_n (by omega)).trans (hfr j hj)) (fun j hj => ?_) hl I
        by_cases ej : j = i
        · rw [ej, upd_s]
        · rw [upd_n (by omega)]; exact hcp j (by omega)
  exact loop n 0 P ls _ _ (by omega) (fun _ _ => rfl) (fun j hj => absurd hj (Nat.not_lt_zero _)) hl I
end
section
/-! the reference: bigMore, bigSizes, bigDiffer, bigAdd (written by wip/gen) -/
abbrev b_SpectrumDeskModel_bigMore : ByteArray := prog_10_method_9_code
abbrev y_SpectrumDeskModel_bigMore : MethodName := ⟨"SpectrumDeskModel", "bigMore", "(II)V"⟩
abbrev v_SpectrumDeskModel_bigMore : List Cond := Cond.code y_SpectrumDeskModel_bigMore b_SpectrumDeskModel_bigMore 7 none :: AW
theorem d_SpectrumDeskModel_bigMore_0 : decode b_SpectrumDeskModel_bigMore 0 = .ok (.aload_n 0, 1) := by decide +kernel
theorem d_SpectrumDeskModel_bigMore_1 : decode b_SpectrumDeskModel_bigMore 1 = .ok (.getfield 13, 3) := by decide +kernel
theorem d_SpectrumDeskModel_bigMore_4 : decode b_SpectrumDeskModel_bigMore 4 = .ok (.iload_n 1, 1) := by decide +kernel
theorem d_SpectrumDeskModel_bigMore_5 : decode b_SpectrumDeskModel_bigMore 5 = .ok (.iaload, 1) := by decide +kernel
theorem d_SpectrumDeskModel_bigMore_6 : decode b_SpectrumDeskModel_bigMore 6 = .ok (.aload_n 0, 1) := by decide +kernel
theorem d_SpectrumDeskModel_bigMore_7 : decode b_SpectrumDeskModel_bigMore 7 = .ok (.getfield 13, 3) := by decide +kernel
theorem d_SpectrumDeskModel_bigMore_10 : decode b_SpectrumDeskModel_bigMore 10 = .ok (.iload_n 2, 1) := by decide +kernel
theorem d_SpectrumDeskModel_bigMore_11 : decode b_SpectrumDeskModel_bigMore 11 = .ok (.iaload, 1) := by decide +kernel
theorem d_SpectrumDeskModel_bigMore_12 : decode b_SpectrumDeskModel_bigMore 12 = .ok (.if_icmp .le (12), 3) := by decide +kernel
theorem d_SpectrumDeskModel_bigMore_15 : decode b_SpectrumDeskModel_bigMore 15 = .ok (.aload_n 0, 1) := by decide +kernel
theorem d_SpectrumDeskModel_bigMore_16 : decode b_SpectrumDeskModel_bigMore 16 = .ok (.getfield 13, 3) := by decide +kernel
theorem d_SpectrumDeskModel_bigMore_19 : decode b_SpectrumDeskModel_bigMore 19 = .ok (.iload_n 1, 1) := by decide +kernel
theorem d_SpectrumDeskModel_bigMore_20 : decode b_SpectrumDeskModel_bigMore 20 = .ok (.iaload, 1) := by decide +kernel
theorem d_SpectrumDeskModel_bigMore_21 : decode b_SpectrumDeskModel_bigMore 21 = .ok (.goto (9), 3) := by decide +kernel
theorem d_SpectrumDeskModel_bigMore_24 : decode b_SpectrumDeskModel_bigMore 24 = .ok (.aload_n 0, 1) := by decide +kernel
theorem d_SpectrumDeskModel_bigMore_25 : decode b_SpectrumDeskModel_bigMore 25 = .ok (.getfield 13, 3) := by decide +kernel
theorem d_SpectrumDeskModel_bigMore_28 : decode b_SpectrumDeskModel_bigMore 28 = .ok (.iload_n 2, 1) := by decide +kernel
theorem d_SpectrumDeskModel_bigMore_29 : decode b_SpectrumDeskModel_bigMore 29 = .ok (.iaload, 1) := by decide +kernel
theorem d_SpectrumDeskModel_bigMore_30 : decode b_SpectrumDeskModel_bigMore 30 = .ok (.istore_n 3, 1) := by decide +kernel
theorem d_SpectrumDeskModel_bigMore_31 : decode b_SpectrumDeskModel_bigMore 31 = .ok (.iconst 0, 1) := by decide +kernel
theorem d_SpectrumDeskModel_bigMore_32 : decode b_SpectrumDeskModel_bigMore 32 = .ok (.istore 4, 2) := by decide +kernel
theorem d_SpectrumDeskModel_bigMore_34 : decode b_SpectrumDeskModel_bigMore 34 = .ok (.iconst 0, 1) := by decide +kernel
theorem d_SpectrumDeskModel_bigMore_35 : decode b_SpectrumDeskModel_bigMore 35 = .ok (.istore 5, 2) := by decide +kernel
theorem d_SpectrumDeskModel_bigMore_37 : decode b_SpectrumDeskModel_bigMore 37 = .ok (.iload 5, 2) := by decide +kernel
theorem d_SpectrumDeskModel_bigMore_39 : decode b_SpectrumDeskModel_bigMore 39 = .ok (.iload_n 3, 1) := by decide +kernel
theorem d_SpectrumDeskModel_bigMore_40 : decode b_SpectrumDeskModel_bigMore 40 = .ok (.if_icmp .ge (54), 3) := by decide +kernel
theorem d_SpectrumDeskModel_bigMore_43 : decode b_SpectrumDeskModel_bigMore 43 = .ok (.aload_n 0, 1) := by decide +kernel
theorem d_SpectrumDeskModel_bigMore_44 : decode b_SpectrumDeskModel_bigMore 44 = .ok (.iload_n 1, 1) := by decide +kernel
theorem d_SpectrumDeskModel_bigMore_45 : decode b_SpectrumDeskModel_bigMore 45 = .ok (.iload 5, 2) := by decide +kernel
theorem d_SpectrumDeskModel_bigMore_47 : decode b_SpectrumDeskModel_bigMore 47 = .ok (.invokevirtual 16, 3) := by decide +kernel
theorem d_SpectrumDeskModel_bigMore_50 : decode b_SpectrumDeskModel_bigMore 50 = .ok (.aload_n 0, 1) := by decide +kernel
theorem d_SpectrumDeskModel_bigMore_51 : decode b_SpectrumDeskModel_bigMore 51 = .ok (.iload_n 2, 1) := by decide +kernel
theorem d_SpectrumDeskModel_bigMore_52 : decode b_SpectrumDeskModel_bigMore 52 = .ok (.iload 5, 2) := by decide +kernel
theorem d_SpectrumDeskModel_bigMore_54 : decode b_SpectrumDeskModel_bigMore 54 = .ok (.invokevirtual 16, 3) := by decide +kernel
theorem d_SpectrumDeskModel_bigMore_57 : decode b_SpectrumDeskModel_bigMore 57 = .ok (.iadd, 1) := by decide +kernel
theorem d_SpectrumDeskModel_bigMore_58 : decode b_SpectrumDeskModel_bigMore 58 = .ok (.iload 4, 2) := by decide +kernel
theorem d_SpectrumDeskModel_bigMore_60 : decode b_SpectrumDeskModel_bigMore 60 = .ok (.iadd, 1) := by decide +kernel
theorem d_SpectrumDeskModel_bigMore_61 : decode b_SpectrumDeskModel_bigMore 61 = .ok (.istore 6, 2) := by decide +kernel
theorem d_SpectrumDeskModel_bigMore_63 : decode b_SpectrumDeskModel_bigMore 63 = .ok (.aload_n 0, 1) := by decide +kernel
theorem d_SpectrumDeskModel_bigMore_64 : decode b_SpectrumDeskModel_bigMore 64 = .ok (.getfield 7, 3) := by decide +kernel
theorem d_SpectrumDeskModel_bigMore_67 : decode b_SpectrumDeskModel_bigMore 67 = .ok (.sipush (300), 3) := by decide +kernel
theorem d_SpectrumDeskModel_bigMore_70 : decode b_SpectrumDeskModel_bigMore 70 = .ok (.iload_n 1, 1) := by decide +kernel
theorem d_SpectrumDeskModel_bigMore_71 : decode b_SpectrumDeskModel_bigMore 71 = .ok (.imul, 1) := by decide +kernel
theorem d_SpectrumDeskModel_bigMore_72 : decode b_SpectrumDeskModel_bigMore 72 = .ok (.iload 5, 2) := by decide +kernel
theorem d_SpectrumDeskModel_bigMore_74 : decode b_SpectrumDeskModel_bigMore 74 = .ok (.iadd, 1) := by decide +kernel
theorem d_SpectrumDeskModel_bigMore_75 : decode b_SpectrumDeskModel_bigMore 75 = .ok (.iload 6, 2) := by decide +kernel
theorem d_SpectrumDeskModel_bigMore_77 : decode b_SpectrumDeskModel_bigMore 77 = .ok (.ldc 20, 2) := by decide +kernel
theorem d_SpectrumDeskModel_bigMore_79 : decode b_SpectrumDeskModel_bigMore 79 = .ok (.irem, 1) := by decide +kernel
theorem d_SpectrumDeskModel_bigMore_80 : decode b_SpectrumDeskModel_bigMore 80 = .ok (.iastore, 1) := by decide +kernel
theorem d_SpectrumDeskModel_bigMore_81 : decode b_SpectrumDeskModel_bigMore 81 = .ok (.iload 6, 2) := by decide +kernel
theorem d_SpectrumDeskModel_bigMore_83 : decode b_SpectrumDeskModel_bigMore 83 = .ok (.ldc 20, 2) := by decide +kernel
theorem d_SpectrumDeskModel_bigMore_85 : decode b_SpectrumDeskModel_bigMore 85 = .ok (.idiv, 1) := by decide +kernel
theorem d_SpectrumDeskModel_bigMore_86 : decode b_SpectrumDeskModel_bigMore 86 = .ok (.istore 4, 2) := by decide +kernel
theorem d_SpectrumDeskModel_bigMore_88 : decode b_SpectrumDeskModel_bigMore 88 = .ok (.iinc 5 (1), 3) := by decide +kernel
theorem d_SpectrumDeskModel_bigMore_91 : decode b_SpectrumDeskModel_bigMore 91 = .ok (.goto (-54), 3) := by decide +kernel
theorem d_SpectrumDeskModel_bigMore_94 : decode b_SpectrumDeskModel_bigMore 94 = .ok (.aload_n 0, 1) := by decide +kernel
theorem d_SpectrumDeskModel_bigMore_95 : decode b_SpectrumDeskModel_bigMore 95 = .ok (.getfield 13, 3) := by decide +kernel
theorem d_SpectrumDeskModel_bigMore_98 : decode b_SpectrumDeskModel_bigMore 98 = .ok (.iload_n 1, 1) := by decide +kernel
theorem d_SpectrumDeskModel_bigMore_99 : decode b_SpectrumDeskModel_bigMore 99 = .ok (.iload_n 3, 1) := by decide +kernel
theorem d_SpectrumDeskModel_bigMore_100 : decode b_SpectrumDeskModel_bigMore 100 = .ok (.iastore, 1) := by decide +kernel
theorem d_SpectrumDeskModel_bigMore_101 : decode b_SpectrumDeskModel_bigMore 101 = .ok (.iload 4, 2) := by decide +kernel
theorem d_SpectrumDeskModel_bigMore_103 : decode b_SpectrumDeskModel_bigMore 103 = .ok (.ifCond .le (26), 3) := by decide +kernel
theorem d_SpectrumDeskModel_bigMore_106 : decode b_SpectrumDeskModel_bigMore 106 = .ok (.aload_n 0, 1) := by decide +kernel
theorem d_SpectrumDeskModel_bigMore_107 : decode b_SpectrumDeskModel_bigMore 107 = .ok (.getfield 7, 3) := by decide +kernel
theorem d_SpectrumDeskModel_bigMore_110 : decode b_SpectrumDeskModel_bigMore 110 = .ok (.sipush (300), 3) := by decide +kernel
theorem d_SpectrumDeskModel_bigMore_113 : decode b_SpectrumDeskModel_bigMore 113 = .ok (.iload_n 1, 1) := by decide +kernel
theorem d_SpectrumDeskModel_bigMore_114 : decode b_SpectrumDeskModel_bigMore 114 = .ok (.imul, 1) := by decide +kernel
theorem d_SpectrumDeskModel_bigMore_115 : decode b_SpectrumDeskModel_bigMore 115 = .ok (.iload_n 3, 1) := by decide +kernel
theorem d_SpectrumDeskModel_bigMore_116 : decode b_SpectrumDeskModel_bigMore 116 = .ok (.iadd, 1) := by decide +kernel
theorem d_SpectrumDeskModel_bigMore_117 : decode b_SpectrumDeskModel_bigMore 117 = .ok (.iload 4, 2) := by decide +kernel
theorem d_SpectrumDeskModel_bigMore_119 : decode b_SpectrumDeskModel_bigMore 119 = .ok (.iastore, 1) := by decide +kernel
theorem d_SpectrumDeskModel_bigMore_120 : decode b_SpectrumDeskModel_bigMore 120 = .ok (.aload_n 0, 1) := by decide +kernel
theorem d_SpectrumDeskModel_bigMore_121 : decode b_SpectrumDeskModel_bigMore 121 = .ok (.getfield 13, 3) := by decide +kernel
theorem d_SpectrumDeskModel_bigMore_124 : decode b_SpectrumDeskModel_bigMore 124 = .ok (.iload_n 1, 1) := by decide +kernel
theorem d_SpectrumDeskModel_bigMore_125 : decode b_SpectrumDeskModel_bigMore 125 = .ok (.iload_n 3, 1) := by decide +kernel
theorem d_SpectrumDeskModel_bigMore_126 : decode b_SpectrumDeskModel_bigMore 126 = .ok (.iconst 1, 1) := by decide +kernel
theorem d_SpectrumDeskModel_bigMore_127 : decode b_SpectrumDeskModel_bigMore 127 = .ok (.iadd, 1) := by decide +kernel
theorem d_SpectrumDeskModel_bigMore_128 : decode b_SpectrumDeskModel_bigMore 128 = .ok (.iastore, 1) := by decide +kernel
theorem d_SpectrumDeskModel_bigMore_129 : decode b_SpectrumDeskModel_bigMore 129 = .ok (.return_, 1) := by decide +kernel
abbrev b_SpectrumDeskModel_bigSizes : ByteArray := prog_10_method_8_code
abbrev y_SpectrumDeskModel_bigSizes : MethodName := ⟨"SpectrumDeskModel", "bigSizes", "(II)I"⟩
abbrev v_SpectrumDeskModel_bigSizes : List Cond := Cond.code y_SpectrumDeskModel_bigSizes b_SpectrumDeskModel_bigSizes 4 (some .int) :: AW
theorem d_SpectrumDeskModel_bigSizes_0 : decode b_SpectrumDeskModel_bigSizes 0 = .ok (.aload_n 0, 1) := by decide +kernel
theorem d_SpectrumDeskModel_bigSizes_1 : decode b_SpectrumDeskModel_bigSizes 1 = .ok (.getfield 13, 3) := by decide +kernel
theorem d_SpectrumDeskModel_bigSizes_4 : decode b_SpectrumDeskModel_bigSizes 4 = .ok (.iload_n 1, 1) := by decide +kernel
theorem d_SpectrumDeskModel_bigSizes_5 : decode b_SpectrumDeskModel_bigSizes 5 = .ok (.iaload, 1) := by decide +kernel
theorem d_SpectrumDeskModel_bigSizes_6 : decode b_SpectrumDeskModel_bigSizes 6 = .ok (.aload_n 0, 1) := by decide +kernel
theorem d_SpectrumDeskModel_bigSizes_7 : decode b_SpectrumDeskModel_bigSizes 7 = .ok (.getfield 13, 3) := by decide +kernel
theorem d_SpectrumDeskModel_bigSizes_10 : decode b_SpectrumDeskModel_bigSizes 10 = .ok (.iload_n 2, 1) := by decide +kernel
theorem d_SpectrumDeskModel_bigSizes_11 : decode b_SpectrumDeskModel_bigSizes 11 = .ok (.iaload, 1) := by decide +kernel
theorem d_SpectrumDeskModel_bigSizes_12 : decode b_SpectrumDeskModel_bigSizes 12 = .ok (.if_icmp .eq (24), 3) := by decide +kernel
theorem d_SpectrumDeskModel_bigSizes_15 : decode b_SpectrumDeskModel_bigSizes 15 = .ok (.aload_n 0, 1) := by decide +kernel
theorem d_SpectrumDeskModel_bigSizes_16 : decode b_SpectrumDeskModel_bigSizes 16 = .ok (.getfield 13, 3) := by decide +kernel
theorem d_SpectrumDeskModel_bigSizes_19 : decode b_SpectrumDeskModel_bigSizes 19 = .ok (.iload_n 1, 1) := by decide +kernel
theorem d_SpectrumDeskModel_bigSizes_20 : decode b_SpectrumDeskModel_bigSizes 20 = .ok (.iaload, 1) := by decide +kernel
theorem d_SpectrumDeskModel_bigSizes_21 : decode b_SpectrumDeskModel_bigSizes 21 = .ok (.aload_n 0, 1) := by decide +kernel
theorem d_SpectrumDeskModel_bigSizes_22 : decode b_SpectrumDeskModel_bigSizes 22 = .ok (.getfield 13, 3) := by decide +kernel
theorem d_SpectrumDeskModel_bigSizes_25 : decode b_SpectrumDeskModel_bigSizes 25 = .ok (.iload_n 2, 1) := by decide +kernel
theorem d_SpectrumDeskModel_bigSizes_26 : decode b_SpectrumDeskModel_bigSizes 26 = .ok (.iaload, 1) := by decide +kernel
theorem d_SpectrumDeskModel_bigSizes_27 : decode b_SpectrumDeskModel_bigSizes 27 = .ok (.if_icmp .ge (7), 3) := by decide +kernel
theorem d_SpectrumDeskModel_bigSizes_30 : decode b_SpectrumDeskModel_bigSizes 30 = .ok (.iconst (-1), 1) := by decide +kernel
theorem d_SpectrumDeskModel_bigSizes_31 : decode b_SpectrumDeskModel_bigSizes 31 = .ok (.goto (4), 3) := by decide +kernel
theorem d_SpectrumDeskModel_bigSizes_34 : decode b_SpectrumDeskModel_bigSizes 34 = .ok (.iconst 1, 1) := by decide +kernel
theorem d_SpectrumDeskModel_bigSizes_35 : decode b_SpectrumDeskModel_bigSizes 35 = .ok (.ireturn, 1) := by decide +kernel
theorem d_SpectrumDeskModel_bigSizes_36 : decode b_SpectrumDeskModel_bigSizes 36 = .ok (.aload_n 0, 1) := by decide +kernel
theorem d_SpectrumDeskModel_bigSizes_37 : decode b_SpectrumDeskModel_bigSizes 37 = .ok (.getfield 13, 3) := by decide +kernel
theorem d_SpectrumDeskModel_bigSizes_40 : decode b_SpectrumDeskModel_bigSizes 40 = .ok (.iload_n 1, 1) := by decide +kernel
theorem d_SpectrumDeskModel_bigSizes_41 : decode b_SpectrumDeskModel_bigSizes 41 = .ok (.iaload, 1) := by decide +kernel
theorem d_SpectrumDeskModel_bigSizes_42 : decode b_SpectrumDeskModel_bigSizes 42 = .ok (.iconst 1, 1) := by decide +kernel
theorem d_SpectrumDeskModel_bigSizes_43 : decode b_SpectrumDeskModel_bigSizes 43 = .ok (.isub, 1) := by decide +kernel
theorem d_SpectrumDeskModel_bigSizes_44 : decode b_SpectrumDeskModel_bigSizes 44 = .ok (.istore_n 3, 1) := by decide +kernel
theorem d_SpectrumDeskModel_bigSizes_45 : decode b_SpectrumDeskModel_bigSizes 45 = .ok (.iload_n 3, 1) := by decide +kernel
theorem d_SpectrumDeskModel_bigSizes_46 : decode b_SpectrumDeskModel_bigSizes 46 = .ok (.ifCond .lt (24), 3) := by decide +kernel
theorem d_SpectrumDeskModel_bigSizes_49 : decode b_SpectrumDeskModel_bigSizes 49 = .ok (.aload_n 0, 1) := by decide +kernel
theorem d_SpectrumDeskModel_bigSizes_50 : decode b_SpectrumDeskModel_bigSizes 50 = .ok (.iload_n 1, 1) := by decide +kernel
theorem d_SpectrumDeskModel_bigSizes_51 : decode b_SpectrumDeskModel_bigSizes 51 = .ok (.iload_n 3, 1) := by decide +kernel
theorem d_SpectrumDeskModel_bigSizes_52 : decode b_SpectrumDeskModel_bigSizes 52 = .ok (.invokevirtual 16, 3) := by decide +kernel
theorem d_SpectrumDeskModel_bigSizes_55 : decode b_SpectrumDeskModel_bigSizes 55 = .ok (.aload_n 0, 1) := by decide +kernel
theorem d_SpectrumDeskModel_bigSizes_56 : decode b_SpectrumDeskModel_bigSizes 56 = .ok (.iload_n 2, 1) := by decide +kernel
theorem d_SpectrumDeskModel_bigSizes_57 : decode b_SpectrumDeskModel_bigSizes 57 = .ok (.iload_n 3, 1) := by decide +kernel
theorem d_SpectrumDeskModel_bigSizes_58 : decode b_SpectrumDeskModel_bigSizes 58 = .ok (.invokevirtual 16, 3) := by decide +kernel
theorem d_SpectrumDeskModel_bigSizes_61 : decode b_SpectrumDeskModel_bigSizes 61 = .ok (.if_icmp .ne (9), 3) := by decide +kernel
theorem d_SpectrumDeskModel_bigSizes_64 : decode b_SpectrumDeskModel_bigSizes 64 = .ok (.iinc 3 (-1), 3) := by decide +kernel
theorem d_SpectrumDeskModel_bigSizes_67 : decode b_SpectrumDeskModel_bigSizes 67 = .ok (.goto (-22), 3) := by decide +kernel
theorem d_SpectrumDeskModel_bigSizes_70 : decode b_SpectrumDeskModel_bigSizes 70 = .ok (.iload_n 3, 1) := by decide +kernel
theorem d_SpectrumDeskModel_bigSizes_71 : decode b_SpectrumDeskModel_bigSizes 71 = .ok (.ifCond .ge (7), 3) := by decide +kernel
theorem d_SpectrumDeskModel_bigSizes_74 : decode b_SpectrumDeskModel_bigSizes 74 = .ok (.iconst 0, 1) := by decide +kernel
theorem d_SpectrumDeskModel_bigSizes_75 : decode b_SpectrumDeskModel_bigSizes 75 = .ok (.goto (23), 3) := by decide +kernel
theorem d_SpectrumDeskModel_bigSizes_78 : decode b_SpectrumDeskModel_bigSizes 78 = .ok (.aload_n 0, 1) := by decide +kernel
theorem d_SpectrumDeskModel_bigSizes_79 : decode b_SpectrumDeskModel_bigSizes 79 = .ok (.iload_n 1, 1) := by decide +kernel
theorem d_SpectrumDeskModel_bigSizes_80 : decode b_SpectrumDeskModel_bigSizes 80 = .ok (.iload_n 3, 1) := by decide +kernel
theorem d_SpectrumDeskModel_bigSizes_81 : decode b_SpectrumDeskModel_bigSizes 81 = .ok (.invokevirtual 16, 3) := by decide +kernel
theorem d_SpectrumDeskModel_bigSizes_84 : decode b_SpectrumDeskModel_bigSizes 84 = .ok (.aload_n 0, 1) := by decide +kernel
theorem d_SpectrumDeskModel_bigSizes_85 : decode b_SpectrumDeskModel_bigSizes 85 = .ok (.iload_n 2, 1) := by decide +kernel
theorem d_SpectrumDeskModel_bigSizes_86 : decode b_SpectrumDeskModel_bigSizes 86 = .ok (.iload_n 3, 1) := by decide +kernel
theorem d_SpectrumDeskModel_bigSizes_87 : decode b_SpectrumDeskModel_bigSizes 87 = .ok (.invokevirtual 16, 3) := by decide +kernel
theorem d_SpectrumDeskModel_bigSizes_90 : decode b_SpectrumDeskModel_bigSizes 90 = .ok (.if_icmp .ge (7), 3) := by decide +kernel
theorem d_SpectrumDeskModel_bigSizes_93 : decode b_SpectrumDeskModel_bigSizes 93 = .ok (.iconst (-1), 1) := by decide +kernel
theorem d_SpectrumDeskModel_bigSizes_94 : decode b_SpectrumDeskModel_bigSizes 94 = .ok (.goto (4), 3) := by decide +kernel
theorem d_SpectrumDeskModel_bigSizes_97 : decode b_SpectrumDeskModel_bigSizes 97 = .ok (.iconst 1, 1) := by decide +kernel
theorem d_SpectrumDeskModel_bigSizes_98 : decode b_SpectrumDeskModel_bigSizes 98 = .ok (.ireturn, 1) := by decide +kernel
abbrev b_SpectrumDeskModel_bigDiffer : ByteArray := prog_10_method_10_code
abbrev y_SpectrumDeskModel_bigDiffer : MethodName := ⟨"SpectrumDeskModel", "bigDiffer", "(IIZ)V"⟩
abbrev v_SpectrumDeskModel_bigDiffer : List Cond := Cond.code y_SpectrumDeskModel_bigDiffer b_SpectrumDeskModel_bigDiffer 8 none :: AW
theorem d_SpectrumDeskModel_bigDiffer_0 : decode b_SpectrumDeskModel_bigDiffer 0 = .ok (.aload_n 0, 1) := by decide +kernel
theorem d_SpectrumDeskModel_bigDiffer_1 : decode b_SpectrumDeskModel_bigDiffer 1 = .ok (.getfield 13, 3) := by decide +kernel
theorem d_SpectrumDeskModel_bigDiffer_4 : decode b_SpectrumDeskModel_bigDiffer 4 = .ok (.iload_n 1, 1) := by decide +kernel
theorem d_SpectrumDeskModel_bigDiffer_5 : decode b_SpectrumDeskModel_bigDiffer 5 = .ok (.iaload, 1) := by decide +kernel
theorem d_SpectrumDeskModel_bigDiffer_6 : decode b_SpectrumDeskModel_bigDiffer 6 = .ok (.aload_n 0, 1) := by decide +kernel
theorem d_SpectrumDeskModel_bigDiffer_7 : decode b_SpectrumDeskModel_bigDiffer 7 = .ok (.getfield 13, 3) := by decide +kernel
theorem d_SpectrumDeskModel_bigDiffer_10 : decode b_SpectrumDeskModel_bigDiffer 10 = .ok (.iload_n 2, 1) := by decide +kernel
theorem d_SpectrumDeskModel_bigDiffer_11 : decode b_SpectrumDeskModel_bigDiffer 11 = .ok (.iaload, 1) := by decide +kernel
theorem d_SpectrumDeskModel_bigDiffer_12 : decode b_SpectrumDeskModel_bigDiffer 12 = .ok (.if_icmp .le (12), 3) := by decide +kernel
theorem d_SpectrumDeskModel_bigDiffer_15 : decode b_SpectrumDeskModel_bigDiffer 15 = .ok (.aload_n 0, 1) := by decide +kernel
theorem d_SpectrumDeskModel_bigDiffer_16 : decode b_SpectrumDeskModel_bigDiffer 16 = .ok (.getfield 13, 3) := by decide +kernel
theorem d_SpectrumDeskModel_bigDiffer_19 : decode b_SpectrumDeskModel_bigDiffer 19 = .ok (.iload_n 1, 1) := by decide +kernel
theorem d_SpectrumDeskModel_bigDiffer_20 : decode b_SpectrumDeskModel_bigDiffer 20 = .ok (.iaload, 1) := by decide +kernel
theorem d_SpectrumDeskModel_bigDiffer_21 : decode b_SpectrumDeskModel_bigDiffer 21 = .ok (.goto (9), 3) := by decide +kernel
theorem d_SpectrumDeskModel_bigDiffer_24 : decode b_SpectrumDeskModel_bigDiffer 24 = .ok (.aload_n 0, 1) := by decide +kernel
theorem d_SpectrumDeskModel_bigDiffer_25 : decode b_SpectrumDeskModel_bigDiffer 25 = .ok (.getfield 13, 3) := by decide +kernel
theorem d_SpectrumDeskModel_bigDiffer_28 : decode b_SpectrumDeskModel_bigDiffer 28 = .ok (.iload_n 2, 1) := by decide +kernel
theorem d_SpectrumDeskModel_bigDiffer_29 : decode b_SpectrumDeskModel_bigDiffer 29 = .ok (.iaload, 1) := by decide +kernel
theorem d_SpectrumDeskModel_bigDiffer_30 : decode b_SpectrumDeskModel_bigDiffer 30 = .ok (.istore 4, 2) := by decide +kernel
theorem d_SpectrumDeskModel_bigDiffer_32 : decode b_SpectrumDeskModel_bigDiffer 32 = .ok (.iconst 0, 1) := by decide +kernel
theorem d_SpectrumDeskModel_bigDiffer_33 : decode b_SpectrumDeskModel_bigDiffer 33 = .ok (.istore 5, 2) := by decide +kernel
theorem d_SpectrumDeskModel_bigDiffer_35 : decode b_SpectrumDeskModel_bigDiffer 35 = .ok (.iconst 0, 1) := by decide +kernel
theorem d_SpectrumDeskModel_bigDiffer_36 : decode b_SpectrumDeskModel_bigDiffer 36 = .ok (.istore 6, 2) := by decide +kernel
theorem d_SpectrumDeskModel_bigDiffer_38 : decode b_SpectrumDeskModel_bigDiffer 38 = .ok (.iload 6, 2) := by decide +kernel
theorem d_SpectrumDeskModel_bigDiffer_40 : decode b_SpectrumDeskModel_bigDiffer 40 = .ok (.iload 4, 2) := by decide +kernel
theorem d_SpectrumDeskModel_bigDiffer_42 : decode b_SpectrumDeskModel_bigDiffer 42 = .ok (.if_icmp .ge (91), 3) := by decide +kernel
theorem d_SpectrumDeskModel_bigDiffer_45 : decode b_SpectrumDeskModel_bigDiffer 45 = .ok (.iload_n 3, 1) := by decide +kernel
theorem d_SpectrumDeskModel_bigDiffer_46 : decode b_SpectrumDeskModel_bigDiffer 46 = .ok (.ifCond .eq (21), 3) := by decide +kernel
theorem d_SpectrumDeskModel_bigDiffer_49 : decode b_SpectrumDeskModel_bigDiffer 49 = .ok (.aload_n 0, 1) := by decide +kernel
theorem d_SpectrumDeskModel_bigDiffer_50 : decode b_SpectrumDeskModel_bigDiffer 50 = .ok (.iload_n 2, 1) := by decide +kernel
theorem d_SpectrumDeskModel_bigDiffer_51 : decode b_SpectrumDeskModel_bigDiffer 51 = .ok (.iload 6, 2) := by decide +kernel
theorem d_SpectrumDeskModel_bigDiffer_53 : decode b_SpectrumDeskModel_bigDiffer 53 = .ok (.invokevirtual 16, 3) := by decide +kernel
theorem d_SpectrumDeskModel_bigDiffer_56 : decode b_SpectrumDeskModel_bigDiffer 56 = .ok (.aload_n 0, 1) := by decide +kernel
theorem d_SpectrumDeskModel_bigDiffer_57 : decode b_SpectrumDeskModel_bigDiffer 57 = .ok (.iload_n 1, 1) := by decide +kernel
theorem d_SpectrumDeskModel_bigDiffer_58 : decode b_SpectrumDeskModel_bigDiffer 58 = .ok (.iload 6, 2) := by decide +kernel
theorem d_SpectrumDeskModel_bigDiffer_60 : decode b_SpectrumDeskModel_bigDiffer 60 = .ok (.invokevirtual 16, 3) := by decide +kernel
theorem d_SpectrumDeskModel_bigDiffer_63 : decode b_SpectrumDeskModel_bigDiffer 63 = .ok (.isub, 1) := by decide +kernel
theorem d_SpectrumDeskModel_bigDiffer_64 : decode b_SpectrumDeskModel_bigDiffer 64 = .ok (.goto (18), 3) := by decide +kernel
theorem d_SpectrumDeskModel_bigDiffer_67 : decode b_SpectrumDeskModel_bigDiffer 67 = .ok (.aload_n 0, 1) := by decide +kernel
theorem d_SpectrumDeskModel_bigDiffer_68 : decode b_SpectrumDeskModel_bigDiffer 68 = .ok (.iload_n 1, 1) := by decide +kernel
theorem d_SpectrumDeskModel_bigDiffer_69 : decode b_SpectrumDeskModel_bigDiffer 69 = .ok (.iload 6, 2) := by decide +kernel
theorem d_SpectrumDeskModel_bigDiffer_71 : decode b_SpectrumDeskModel_bigDiffer 71 = .ok (.invokevirtual 16, 3) := by decide +kernel
theorem d_SpectrumDeskModel_bigDiffer_74 : decode b_SpectrumDeskModel_bigDiffer 74 = .ok (.aload_n 0, 1) := by decide +kernel
theorem d_SpectrumDeskModel_bigDiffer_75 : decode b_SpectrumDeskModel_bigDiffer 75 = .ok (.iload_n 2, 1) := by decide +kernel
theorem d_SpectrumDeskModel_bigDiffer_76 : decode b_SpectrumDeskModel_bigDiffer 76 = .ok (.iload 6, 2) := by decide +kernel
theorem d_SpectrumDeskModel_bigDiffer_78 : decode b_SpectrumDeskModel_bigDiffer 78 = .ok (.invokevirtual 16, 3) := by decide +kernel
theorem d_SpectrumDeskModel_bigDiffer_81 : decode b_SpectrumDeskModel_bigDiffer 81 = .ok (.isub, 1) := by decide +kernel
theorem d_SpectrumDeskModel_bigDiffer_82 : decode b_SpectrumDeskModel_bigDiffer 82 = .ok (.iload 5, 2) := by decide +kernel
theorem d_SpectrumDeskModel_bigDiffer_84 : decode b_SpectrumDeskModel_bigDiffer 84 = .ok (.isub, 1) := by decide +kernel
theorem d_SpectrumDeskModel_bigDiffer_85 : decode b_SpectrumDeskModel_bigDiffer 85 = .ok (.istore 7, 2) := by decide +kernel
theorem d_SpectrumDeskModel_bigDiffer_87 : decode b_SpectrumDeskModel_bigDiffer 87 = .ok (.iload 7, 2) := by decide +kernel
theorem d_SpectrumDeskModel_bigDiffer_89 : decode b_SpectrumDeskModel_bigDiffer 89 = .ok (.ifCond .ge (7), 3) := by decide +kernel
theorem d_SpectrumDeskModel_bigDiffer_92 : decode b_SpectrumDeskModel_bigDiffer 92 = .ok (.iconst 1, 1) := by decide +kernel
theorem d_SpectrumDeskModel_bigDiffer_93 : decode b_SpectrumDeskModel_bigDiffer 93 = .ok (.goto (4), 3) := by decide +kernel
theorem d_SpectrumDeskModel_bigDiffer_96 : decode b_SpectrumDeskModel_bigDiffer 96 = .ok (.iconst 0, 1) := by decide +kernel
theorem d_SpectrumDeskModel_bigDiffer_97 : decode b_SpectrumDeskModel_bigDiffer 97 = .ok (.istore 5, 2) := by decide +kernel
theorem d_SpectrumDeskModel_bigDiffer_99 : decode b_SpectrumDeskModel_bigDiffer 99 = .ok (.aload_n 0, 1) := by decide +kernel
theorem d_SpectrumDeskModel_bigDiffer_100 : decode b_SpectrumDeskModel_bigDiffer 100 = .ok (.getfield 7, 3) := by decide +kernel
theorem d_SpectrumDeskModel_bigDiffer_103 : decode b_SpectrumDeskModel_bigDiffer 103 = .ok (.sipush (300), 3) := by decide +kernel
theorem d_SpectrumDeskModel_bigDiffer_106 : decode b_SpectrumDeskModel_bigDiffer 106 = .ok (.iload_n 1, 1) := by decide +kernel
theorem d_SpectrumDeskModel_bigDiffer_107 : decode b_SpectrumDeskModel_bigDiffer 107 = .ok (.imul, 1) := by decide +kernel
theorem d_SpectrumDeskModel_bigDiffer_108 : decode b_SpectrumDeskModel_bigDiffer 108 = .ok (.iload 6, 2) := by decide +kernel
theorem d_SpectrumDeskModel_bigDiffer_110 : decode b_SpectrumDeskModel_bigDiffer 110 = .ok (.iadd, 1) := by decide +kernel
theorem d_SpectrumDeskModel_bigDiffer_111 : decode b_SpectrumDeskModel_bigDiffer 111 = .ok (.iload 7, 2) := by decide +kernel
theorem d_SpectrumDeskModel_bigDiffer_113 : decode b_SpectrumDeskModel_bigDiffer 113 = .ok (.ifCond .ge (11), 3) := by decide +kernel
theorem d_SpectrumDeskModel_bigDiffer_116 : decode b_SpectrumDeskModel_bigDiffer 116 = .ok (.iload 7, 2) := by decide +kernel
theorem d_SpectrumDeskModel_bigDiffer_118 : decode b_SpectrumDeskModel_bigDiffer 118 = .ok (.ldc 20, 2) := by decide +kernel
theorem d_SpectrumDeskModel_bigDiffer_120 : decode b_SpectrumDeskModel_bigDiffer 120 = .ok (.iadd, 1) := by decide +kernel
theorem d_SpectrumDeskModel_bigDiffer_121 : decode b_SpectrumDeskModel_bigDiffer 121 = .ok (.goto (5), 3) := by decide +kernel
theorem d_SpectrumDeskModel_bigDiffer_124 : decode b_SpectrumDeskModel_bigDiffer 124 = .ok (.iload 7, 2) := by decide +kernel
theorem d_SpectrumDeskModel_bigDiffer_126 : decode b_SpectrumDeskModel_bigDiffer 126 = .ok (.iastore, 1) := by decide +kernel
theorem d_SpectrumDeskModel_bigDiffer_127 : decode b_SpectrumDeskModel_bigDiffer 127 = .ok (.iinc 6 (1), 3) := by decide +kernel
theorem d_SpectrumDeskModel_bigDiffer_130 : decode b_SpectrumDeskModel_bigDiffer 130 = .ok (.goto (-92), 3) := by decide +kernel
theorem d_SpectrumDeskModel_bigDiffer_133 : decode b_SpectrumDeskModel_bigDiffer 133 = .ok (.aload_n 0, 1) := by decide +kernel
theorem d_SpectrumDeskModel_bigDiffer_134 : decode b_SpectrumDeskModel_bigDiffer 134 = .ok (.getfield 13, 3) := by decide +kernel
theorem d_SpectrumDeskModel_bigDiffer_137 : decode b_SpectrumDeskModel_bigDiffer 137 = .ok (.iload_n 1, 1) := by decide +kernel
theorem d_SpectrumDeskModel_bigDiffer_138 : decode b_SpectrumDeskModel_bigDiffer 138 = .ok (.iload 4, 2) := by decide +kernel
theorem d_SpectrumDeskModel_bigDiffer_140 : decode b_SpectrumDeskModel_bigDiffer 140 = .ok (.iastore, 1) := by decide +kernel
theorem d_SpectrumDeskModel_bigDiffer_141 : decode b_SpectrumDeskModel_bigDiffer 141 = .ok (.aload_n 0, 1) := by decide +kernel
theorem d_SpectrumDeskModel_bigDiffer_142 : decode b_SpectrumDeskModel_bigDiffer 142 = .ok (.iload_n 1, 1) := by decide +kernel
theorem d_SpectrumDeskModel_bigDiffer_143 : decode b_SpectrumDeskModel_bigDiffer 143 = .ok (.invokevirtual 21, 3) := by decide +kernel
theorem d_SpectrumDeskModel_bigDiffer_146 : decode b_SpectrumDeskModel_bigDiffer 146 = .ok (.return_, 1) := by decide +kernel
abbrev b_SpectrumDeskModel_bigAdd : ByteArray := prog_10_method_11_code
abbrev y_SpectrumDeskModel_bigAdd : MethodName := ⟨"SpectrumDeskModel", "bigAdd", "(IIZ)V"⟩
abbrev v_SpectrumDeskModel_bigAdd : List Cond := Cond.code y_SpectrumDeskModel_bigAdd b_SpectrumDeskModel_bigAdd 5 none :: AW
theorem d_SpectrumDeskModel_bigAdd_0 : decode b_SpectrumDeskModel_bigAdd 0 = .ok (.aload_n 0, 1) := by decide +kernel
theorem d_SpectrumDeskModel_bigAdd_1 : decode b_SpectrumDeskModel_bigAdd 1 = .ok (.getfield 1, 3) := by decide +kernel
theorem d_SpectrumDeskModel_bigAdd_4 : decode b_SpectrumDeskModel_bigAdd 4 = .ok (.iload_n 2, 1) := by decide +kernel
theorem d_SpectrumDeskModel_bigAdd_5 : decode b_SpectrumDeskModel_bigAdd 5 = .ok (.baload, 1) := by decide +kernel
theorem d_SpectrumDeskModel_bigAdd_6 : decode b_SpectrumDeskModel_bigAdd 6 = .ok (.iload_n 3, 1) := by decide +kernel
theorem d_SpectrumDeskModel_bigAdd_7 : decode b_SpectrumDeskModel_bigAdd 7 = .ok (.if_icmp .eq (7), 3) := by decide +kernel
theorem d_SpectrumDeskModel_bigAdd_10 : decode b_SpectrumDeskModel_bigAdd 10 = .ok (.iconst 1, 1) := by decide +kernel
theorem d_SpectrumDeskModel_bigAdd_11 : decode b_SpectrumDeskModel_bigAdd 11 = .ok (.goto (4), 3) := by decide +kernel
theorem d_SpectrumDeskModel_bigAdd_14 : decode b_SpectrumDeskModel_bigAdd 14 = .ok (.iconst 0, 1) := by decide +kernel
theorem d_SpectrumDeskModel_bigAdd_15 : decode b_SpectrumDeskModel_bigAdd 15 = .ok (.istore 4, 2) := by decide +kernel
theorem d_SpectrumDeskModel_bigAdd_17 : decode b_SpectrumDeskModel_bigAdd 17 = .ok (.aload_n 0, 1) := by decide +kernel
theorem d_SpectrumDeskModel_bigAdd_18 : decode b_SpectrumDeskModel_bigAdd 18 = .ok (.getfield 1, 3) := by decide +kernel
theorem d_SpectrumDeskModel_bigAdd_21 : decode b_SpectrumDeskModel_bigAdd 21 = .ok (.iload_n 1, 1) := by decide +kernel
theorem d_SpectrumDeskModel_bigAdd_22 : decode b_SpectrumDeskModel_bigAdd 22 = .ok (.baload, 1) := by decide +kernel
theorem d_SpectrumDeskModel_bigAdd_23 : decode b_SpectrumDeskModel_bigAdd 23 = .ok (.iload 4, 2) := by decide +kernel
theorem d_SpectrumDeskModel_bigAdd_25 : decode b_SpectrumDeskModel_bigAdd 25 = .ok (.if_icmp .ne (12), 3) := by decide +kernel
theorem d_SpectrumDeskModel_bigAdd_28 : decode b_SpectrumDeskModel_bigAdd 28 = .ok (.aload_n 0, 1) := by decide +kernel
theorem d_SpectrumDeskModel_bigAdd_29 : decode b_SpectrumDeskModel_bigAdd 29 = .ok (.iload_n 1, 1) := by decide +kernel
theorem d_SpectrumDeskModel_bigAdd_30 : decode b_SpectrumDeskModel_bigAdd 30 = .ok (.iload_n 2, 1) := by decide +kernel
theorem d_SpectrumDeskModel_bigAdd_31 : decode b_SpectrumDeskModel_bigAdd 31 = .ok (.invokevirtual 25, 3) := by decide +kernel
theorem d_SpectrumDeskModel_bigAdd_34 : decode b_SpectrumDeskModel_bigAdd 34 = .ok (.goto (37), 3) := by decide +kernel
theorem d_SpectrumDeskModel_bigAdd_37 : decode b_SpectrumDeskModel_bigAdd 37 = .ok (.aload_n 0, 1) := by decide +kernel
theorem d_SpectrumDeskModel_bigAdd_38 : decode b_SpectrumDeskModel_bigAdd 38 = .ok (.iload_n 1, 1) := by decide +kernel
theorem d_SpectrumDeskModel_bigAdd_39 : decode b_SpectrumDeskModel_bigAdd 39 = .ok (.iload_n 2, 1) := by decide +kernel
theorem d_SpectrumDeskModel_bigAdd_40 : decode b_SpectrumDeskModel_bigAdd 40 = .ok (.invokevirtual 29, 3) := by decide +kernel
theorem d_SpectrumDeskModel_bigAdd_43 : decode b_SpectrumDeskModel_bigAdd 43 = .ok (.ifCond .lt (13), 3) := by decide +kernel
theorem d_SpectrumDeskModel_bigAdd_46 : decode b_SpectrumDeskModel_bigAdd 46 = .ok (.aload_n 0, 1) := by decide +kernel
theorem d_SpectrumDeskModel_bigAdd_47 : decode b_SpectrumDeskModel_bigAdd 47 = .ok (.iload_n 1, 1) := by decide +kernel
theorem d_SpectrumDeskModel_bigAdd_48 : decode b_SpectrumDeskModel_bigAdd 48 = .ok (.iload_n 2, 1) := by decide +kernel
theorem d_SpectrumDeskModel_bigAdd_49 : decode b_SpectrumDeskModel_bigAdd 49 = .ok (.iconst 0, 1) := by decide +kernel
theorem d_SpectrumDeskModel_bigAdd_50 : decode b_SpectrumDeskModel_bigAdd 50 = .ok (.invokevirtual 32, 3) := by decide +kernel
theorem d_SpectrumDeskModel_bigAdd_53 : decode b_SpectrumDeskModel_bigAdd 53 = .ok (.goto (18), 3) := by decide +kernel
theorem d_SpectrumDeskModel_bigAdd_56 : decode b_SpectrumDeskModel_bigAdd 56 = .ok (.aload_n 0, 1) := by decide +kernel
theorem d_SpectrumDeskModel_bigAdd_57 : decode b_SpectrumDeskModel_bigAdd 57 = .ok (.iload_n 1, 1) := by decide +kernel
theorem d_SpectrumDeskModel_bigAdd_58 : decode b_SpectrumDeskModel_bigAdd 58 = .ok (.iload_n 2, 1) := by decide +kernel
theorem d_SpectrumDeskModel_bigAdd_59 : decode b_SpectrumDeskModel_bigAdd 59 = .ok (.iconst 1, 1) := by decide +kernel
theorem d_SpectrumDeskModel_bigAdd_60 : decode b_SpectrumDeskModel_bigAdd 60 = .ok (.invokevirtual 32, 3) := by decide +kernel
theorem d_SpectrumDeskModel_bigAdd_63 : decode b_SpectrumDeskModel_bigAdd 63 = .ok (.aload_n 0, 1) := by decide +kernel
theorem d_SpectrumDeskModel_bigAdd_64 : decode b_SpectrumDeskModel_bigAdd 64 = .ok (.getfield 1, 3) := by decide +kernel
theorem d_SpectrumDeskModel_bigAdd_67 : decode b_SpectrumDeskModel_bigAdd 67 = .ok (.iload_n 1, 1) := by decide +kernel
theorem d_SpectrumDeskModel_bigAdd_68 : decode b_SpectrumDeskModel_bigAdd 68 = .ok (.iload 4, 2) := by decide +kernel
theorem d_SpectrumDeskModel_bigAdd_70 : decode b_SpectrumDeskModel_bigAdd 70 = .ok (.bastore, 1) := by decide +kernel
theorem d_SpectrumDeskModel_bigAdd_71 : decode b_SpectrumDeskModel_bigAdd 71 = .ok (.return_, 1) := by decide +kernel
theorem k_42414df306 : (Jvm.Cond.methodLink "SpectrumDeskModel" (16 : Nat) ({ cls := "SpectrumDeskModel", name := "bigAt", desc := "(II)I" } : Jvm.MethodName)) ∈ AW := aw_5 (List.mem_of_getElem? (i := 68) (by decide +kernel)) (by decide +kernel)
theorem k_a35af8c930 : (Jvm.Cond.instanceMethod ({ cls := "SpectrumDeskModel", name := "bigAt", desc := "(II)I" } : Jvm.MethodName)) ∈ AW := aw_5 (List.mem_of_getElem? (i := 70) (by decide +kernel)) (by decide +kernel)
theorem k_9a4475df0e : (Jvm.Cond.selects "SpectrumDeskModel" ({ cls := "SpectrumDeskModel", name := "bigAt", desc := "(II)I" } : Jvm.MethodName) ({ cls := "SpectrumDeskModel", name := "bigAt", desc := "(II)I" } : Jvm.MethodName)) ∈ AW := aw_p (by decide +kernel) (by decide +kernel)
theorem k_30fa15c9ac : (Jvm.Cond.initialized "SpectrumDeskModel") ∈ AW := aw_1 (List.mem_of_getElem? (i := 10) (by decide +kernel)) (by decide +kernel)
theorem k_0f8e24087a : (Jvm.Cond.constant "SpectrumDeskModel" (20 : Nat) (16777216 : Int32)) ∈ AW := aw_5 (List.mem_of_getElem? (i := 72) (by decide +kernel)) (by decide +kernel)
theorem k_fdf1e9da4b : (Jvm.Cond.methodLink "SpectrumDeskModel" (21 : Nat) ({ cls := "SpectrumDeskModel", name := "bigTrim", desc := "(I)V" } : Jvm.MethodName)) ∈ AW := aw_5 (List.mem_of_getElem? (i := 56) (by decide +kernel)) (by decide +kernel)
theorem k_72a5102e81 : (Jvm.Cond.instanceMethod ({ cls := "SpectrumDeskModel", name := "bigTrim", desc := "(I)V" } : Jvm.MethodName)) ∈ AW := aw_5 (List.mem_of_getElem? (i := 58) (by decide +kernel)) (by decide +kernel)
theorem k_90f9c60262 : (Jvm.Cond.selects "SpectrumDeskModel" ({ cls := "SpectrumDeskModel", name := "bigTrim", desc := "(I)V" } : Jvm.MethodName) ({ cls := "SpectrumDeskModel", name := "bigTrim", desc := "(I)V" } : Jvm.MethodName)) ∈ AW := aw_p (by decide +kernel) (by decide +kernel)
theorem k_72a62daed8 : (Jvm.Cond.methodLink "SpectrumDeskModel" (25 : Nat) ({ cls := "SpectrumDeskModel", name := "bigMore", desc := "(II)V" } : Jvm.MethodName)) ∈ AW := aw_5 (List.mem_of_getElem? (i := 64) (by decide +kernel)) (by decide +kernel)
theorem k_4e1eb4d18f : (Jvm.Cond.instanceMethod ({ cls := "SpectrumDeskModel", name := "bigMore", desc := "(II)V" } : Jvm.MethodName)) ∈ AW := aw_5 (List.mem_of_getElem? (i := 66) (by decide +kernel)) (by decide +kernel)
theorem k_7fffc0722b : (Jvm.Cond.selects "SpectrumDeskModel" ({ cls := "SpectrumDeskModel", name := "bigMore", desc := "(II)V" } : Jvm.MethodName) ({ cls := "SpectrumDeskModel", name := "bigMore", desc := "(II)V" } : Jvm.MethodName)) ∈ AW := aw_p (by decide +kernel) (by decide +kernel)
theorem k_c0032b460a : (Jvm.Cond.methodLink "SpectrumDeskModel" (29 : Nat) ({ cls := "SpectrumDeskModel", name := "bigSizes", desc := "(II)I" } : Jvm.MethodName)) ∈ AW := aw_5 (List.mem_of_getElem? (i := 73) (by decide +kernel)) (by decide +kernel)
theorem k_cf2ddaaf03 : (Jvm.Cond.instanceMethod ({ cls := "SpectrumDeskModel", name := "bigSizes", desc := "(II)I" } : Jvm.MethodName)) ∈ AW := aw_5 (List.mem_of_getElem? (i := 75) (by decide +kernel)) (by decide +kernel)
theorem k_af57503f5d : (Jvm.Cond.selects "SpectrumDeskModel" ({ cls := "SpectrumDeskModel", name := "bigSizes", desc := "(II)I" } : Jvm.MethodName) ({ cls := "SpectrumDeskModel", name := "bigSizes", desc := "(II)I" } : Jvm.MethodName)) ∈ AW := aw_p (by decide +kernel) (by decide +kernel)
theorem k_6543122d39 : (Jvm.Cond.methodLink "SpectrumDeskModel" (32 : Nat) ({ cls := "SpectrumDeskModel", name := "bigDiffer", desc := "(IIZ)V" } : Jvm.MethodName)) ∈ AW := aw_5 (List.mem_of_getElem? (i := 77) (by decide +kernel)) (by decide +kernel)
theorem k_f670f9e174 : (Jvm.Cond.instanceMethod ({ cls := "SpectrumDeskModel", name := "bigDiffer", desc := "(IIZ)V" } : Jvm.MethodName)) ∈ AW := aw_5 (List.mem_of_getElem? (i := 79) (by decide +kernel)) (by decide +kernel)
theorem k_3e9fe204cb : (Jvm.Cond.selects "SpectrumDeskModel" ({ cls := "SpectrumDeskModel", name := "bigDiffer", desc := "(IIZ)V" } : Jvm.MethodName) ({ cls := "SpectrumDeskModel", name := "bigDiffer", desc := "(IIZ)V" } : Jvm.MethodName)) ∈ AW := aw_p (by decide +kernel) (by decide +kernel)
theorem k_ff14552d82 : (Jvm.Cond.code ({ cls := "SpectrumDeskModel", name := "bigMore", desc := "(II)V" } : Jvm.MethodName) prog_10_method_9_code (7 : Nat) (Option.none : Option Jvm.ClassFile.FieldType)) ∈ AW := aw_5 (List.mem_of_getElem? (i := 67) (by decide +kernel)) (by decide +kernel)
theorem k_99203b0091 : (Jvm.Cond.code ({ cls := "SpectrumDeskModel", name := "bigSizes", desc := "(II)I" } : Jvm.MethodName) prog_10_method_8_code (4 : Nat) (Option.some Jvm.ClassFile.FieldType.int)) ∈ AW := aw_5 (List.mem_of_getElem? (i := 76) (by decide +kernel)) (by decide +kernel)
theorem k_72c7a99444 : (Jvm.Cond.code ({ cls := "SpectrumDeskModel", name := "bigDiffer", desc := "(IIZ)V" } : Jvm.MethodName) prog_10_method_10_code (8 : Nat) (Option.none : Option Jvm.ClassFile.FieldType)) ∈ AW := aw_5 (List.mem_of_getElem? (i := 80) (by decide +kernel)) (by decide +kernel)
theorem k_dd45f20b23 : (Jvm.Cond.code ({ cls := "SpectrumDeskModel", name := "bigAdd", desc := "(IIZ)V" } : Jvm.MethodName) prog_10_method_11_code (5 : Nat) (Option.none : Option Jvm.ClassFile.FieldType)) ∈ AW := aw_5 (List.mem_of_getElem? (i := 63) (by decide +kernel)) (by decide +kernel)
set_option maxHeartbeats 4000000 in
set_option maxRecDepth 100000 in
theorem c_SpectrumDeskModel_bigMore {l : Launch} {D : va_G} {cI cJ cZ cC cG cP : ClassId} {ad : Nat → Nat} {σ0 : Nat → va_E} {fs : List Value} {P L M : Nat → Int32} {w u a b : Nat} (hF : mF ad fs) (hw : w < 112) (hu : u < 112) (hne : u ≠ w) (ha : a < 300) (hb9 : b < 300) (hLw : L w = nI a) (hLu : L u = nI b) (hwo : rg_ok P (300 * w) a) (huo : rg_ok P (300 * u) b) (hwt : 0 < a → P (300 * w + (a - 1)) ≠ 0) (hut : 0 < b → P (300 * u + (b - 1)) ≠ 0) :
    Met l y_SpectrumDeskModel_bigMore v_SpectrumDeskModel_bigMore (xrm 1) (va_Pc [.ref (ad 183), .int (nI w), .int (nI u)] (xS D classes (xT cI cJ cZ cC cG cP) 193 ad (rw3 σ0 ciM cI cZ fs P L M))) (va_Qv (rm_up σ0 ciM cI cZ fs P L M w (rg P (300 * w) a + rg P (300 * u) b)) (xS D classes (xT cI cJ cZ cC cG cP) 193 ad) (xA 193 ad)) 0 0 (xA 193 ad) := by
  refine xr_met rfl (Nat.le_of_ble_eq_true rfl) ?_
  intro p e s m args below meth c ls hx hb X hr hlk hl I
  have hl : lv_has ls 7 [(0, .ref (ad 183)), (1, .int (nI w)), (2, .int (nI u))] := hl
  have loop : ∀ (mo : Nat) (hmx : (a = mo ∧ b ≤ mo) ∨ (b = mo ∧ a ≤ mo)) (k : Nat) (i cy : Nat) (P2 : Nat → Int32) (ls : Array Slot) (H : Heap) (locs : List Loc), i + k = mo → cy ≤ 1 → (∀ j, j < 300 * w ∨ 300 * w + 300 ≤ j → P2 j = P j) → (∀ j, i ≤ j → P2 (300 * w + j) = P (300 * w + j)) → rg_ok P2 (300 * w) i → rg P2 (300 * w) i + (cy : Int) * 16777216 ^ i = dv (dg P (300 * w) a) i + dv (dg P (300 * u) b) i → lv_has ls 7 [(5, .int (nI i)), (4, .int (nI cy)), (3, .int (nI mo)), (0, .ref (ad 183)), (1, .int (nI w)), (2, .int (nI u))] → xI D classes 193 ad s.heap (rw3 σ0 ciM cI cZ fs P2 L M) H locs → W p l e (xrm 1) s m args below meth c H locs 0 0 (MQ below (va_Qv (rm_up σ0 ciM cI cZ fs P L M w (rg P (300 * w) a + rg P (300 * u) b)) (xS D classes (xT cI cJ cZ cC cG cP) 193 ad) (xA 193 ad)) args s 0 0 (xA 193 ad)) (F0 m 37 ls []) := by
    intro mo hmx k
    induction k with
    | zero =>
      intro i cy P2 ls H locs hk hcy hfr hge hok inv hl I
      obtain rfl : i = mo := by omega
      refine lv_iload hx hb d_SpectrumDeskModel_bigMore_37 (lv_at hl 0 rfl) ?_
      refine lv_iload_n hx hb d_SpectrumDeskModel_bigMore_39 rfl (lv_at hl 2 rfl) ?_
      refine lv_icmp_ge hx hb d_SpectrumDeskModel_bigMore_40 rfl (fun hc => ?_) (fun hc => ?_)
      · refine lv_aload_n hx hb d_SpectrumDeskModel_bigMore_94 rfl (lv_at hl 3 rfl) ?_
        refine xr_get X I fin_M 183 (by decide) (r183 ..) rfl 1 (by decide) (List.mem_cons_of_mem _ k_4ae214c350) rfl (mF_lengths hF) d_SpectrumDeskModel_bigMore_95 ?_
        refine lv_iload_n hx hb d_SpectrumDeskModel_bigMore_98 rfl (lv_at hl 4 rfl) ?_
        refine lv_iload_n hx hb d_SpectrumDeskModel_bigMore_99 rfl (lv_at hl 2 rfl) ?_
        refine xr_iast X I 185 0 (by decide) (r185 ..) rfl (by omega) (by decide) d_SpectrumDeskModel_bigMore_100 (fun H locs I => ?_)
        rw [rw3_L] at I
        refine lv_iload hx hb d_SpectrumDeskModel_bigMore_101 (lv_at hl 1 rfl) ?_
        rw [dv_all (show a ≤ i by omega), dv_all (show b ≤ i by omega)] at inv
        refine lv_if_le hx hb d_SpectrumDeskModel_bigMore_103 rfl (fun hd => ?_) (fun hd => ?_)
        · have hc0 : cy = 0 := (Nat.eq_zero_or_pos cy).elim id (fun h => absurd hd (nI_nle h (by omega)))
          rw [hc0] at inv; simp at inv
          exact xr_vret X I hr hlk ⟨P2, i, rfl, by omega, hfr, hok, fun h => more_top hok h inv hwo huo hwt hut hmx, inv⟩ d_SpectrumDeskModel_bigMore_129
        · have hc1 : cy = 1 := (Nat.eq_zero_or_pos cy).elim (fun h => absurd (by rw [h]; decide) hd) (fun h => by omega)
          refine lv_aload_n hx hb d_SpectrumDeskModel_bigMore_106 rfl (lv_at hl 3 rfl) ?_
          refine xr_get X I fin_M 183 (by decide) (r183 ..) rfl 0 (by decide) (List.mem_cons_of_mem _ k_eae5455160) rfl (mF_parts hF) d_SpectrumDeskModel_bigMore_107 ?_
          refine lv_sipush (v := nI 300) hx hb d_SpectrumDeskModel_bigMore_110 (by decide) ?_
          refine lv_iload_n hx hb d_SpectrumDeskModel_bigMore_113 rfl (lv_at hl 4 rfl) ?_
          refine lv_imul hx hb d_SpectrumDeskModel_bigMore_114 (xr_topi (y := nI (300 * w)) (pk_mul 300 w) ?_)
          refine lv_iload_n hx hb d_SpectrumDeskModel_bigMore_115 rfl (lv_at hl 2 rfl) ?_
          refine lv_iadd hx hb d_SpectrumDeskModel_bigMore_116 (xr_topi (y := nI ((300 * w) + i)) (nI_add (300 * w) i) ?_)
          refine lv_iload hx hb d_SpectrumDeskModel_bigMore_117 (lv_at hl 1 rfl) ?_
          refine xr_iast X I 184 0 (by decide) (r184 ..) rfl (by omega) (by decide) d_SpectrumDeskModel_bigMore_119 (fun H locs I => ?_)
          rw [rw3_P] at I
          refine lv_aload_n hx hb d_SpectrumDeskModel_bigMore_120 rfl (lv_at hl 3 rfl) ?_
          refine xr_get X I fin_M 183 (by decide) (r183 ..) rfl 1 (by decide) (List.mem_cons_of_mem _ k_4ae214c350) rfl (mF_lengths hF) d_SpectrumDeskModel_bigMore_121 ?_
          refine lv_iload_n hx hb d_SpectrumDeskModel_bigMore_124 rfl (lv_at hl 4 rfl) ?_
          refine lv_iload_n hx hb d_SpectrumDeskModel_bigMore_125 rfl (lv_at hl 2 rfl) ?_
          refine lv_iconst (v := nI 1) hx hb d_SpectrumDeskModel_bigMore_126 (by decide) ?_
          refine lv_iadd hx hb d_SpectrumDeskModel_bigMore_127 (xr_topi (y := nI (i + 1)) (nI_add i 1) ?_)
          refine xr_iast X I 185 0 (by decide) (r185 ..) rfl (by omega) (by decide) d_SpectrumDeskModel_bigMore_128 (fun H locs I => ?_)
          rw [rw3_L] at I
          rw [upd_upd] at I
          obtain ⟨o1, o2⟩ := rg_push (P := P2) (v := nI cy) hok (by rw [nI_toInt (by omega)]; omega)
          refine xr_vret X I hr hlk ⟨_, i + 1, rfl, by omega, fun j hj => (upd_n (by omega)).trans (hfr j hj), o1, fun _ => ?_, by rw [o2, nI_toInt (by omega)]; omega⟩ d_SpectrumDeskModel_bigMore_129
          rw [Nat.add_sub_cancel, upd_s, hc1]; decide
      · exact absurd (nI_le (Nat.le_refl _) (by omega)) hc
    | succ k ih =>
      intro i cy P2 ls H locs hk hcy hfr hge hok inv hl I
      refine lv_iload hx hb d_SpectrumDeskModel_bigMore_37 (lv_at hl 0 rfl) ?_
      refine lv_iload_n hx hb d_SpectrumDeskModel_bigMore_39 rfl (lv_at hl 2 rfl) ?_
      refine lv_icmp_ge hx hb d_SpectrumDeskModel_bigMore_40 rfl (fun hc => ?_) (fun hc => ?_)
      · exact absurd hc (nI_ge (by omega) (by omega))
      · have hP2 : ∀ j, i ≤ j → P2 (300 * w + j) = P (300 * w + j) := hge
        refine lv_aload_n hx hb d_SpectrumDeskModel_bigMore_43 rfl (lv_at hl 3 rfl) ?_
        refine lv_iload_n hx hb d_SpectrumDeskModel_bigMore_44 rfl (lv_at hl 4 rfl) ?_
        refine lv_iload hx hb d_SpectrumDeskModel_bigMore_45 (lv_at hl 0 rfl) ?_
        refine xr_calli (xr_runV (kc := 0) (kr := 1) (n := 2) (As := [.int (nI w), .int (nI i)]) (rest := []) X I (by decide) (r183 ..) rfl (c_SpectrumDeskModel_bigAt (P := P2) (L := L) (M := M) (n := a) (i := i) hF hw (by omega) (by omega) hLw) (xg k_9795bdc343) (List.mem_cons_of_mem _ k_42414df306) (List.mem_cons_of_mem _ k_a35af8c930) (List.mem_cons_of_mem _ k_9a4475df0e) (List.mem_cons_of_mem _ k_30fa15c9ac) (by decide +kernel) (by decide) rfl hl.1 rfl (Nat.le_of_ble_eq_true rfl) d_SpectrumDeskModel_bigMore_47) I (fun r1 σ1 H locs hp I => ?_)
        obtain ⟨hp1, rfl⟩ := hp
        rw [hP2 i (Nat.le_refl _)] at hp1
        obtain ⟨x, x1, rfl, x3⟩ := dg_nat hwo hp1
        refine lv_aload_n hx hb d_SpectrumDeskModel_bigMore_50 rfl (lv_at hl 3 rfl) ?_
        refine lv_iload_n hx hb d_SpectrumDeskModel_bigMore_51 rfl (lv_at hl 5 rfl) ?_
        refine lv_iload hx hb d_SpectrumDeskModel_bigMore_52 (lv_at hl 0 rfl) ?_
        refine xr_calli (xr_runV (kc := 0) (kr := 1) (n := 2) (As := [.int (nI u), .int (nI i)]) (rest := [.int (nI x)]) X I (by decide) (r183 ..) rfl (c_SpectrumDeskModel_bigAt (P := P2) (L := L) (M := M) (n := b) (i := i) hF hu (by omega) (by omega) hLu) (xg k_9795bdc343) (List.mem_cons_of_mem _ k_42414df306) (List.mem_cons_of_mem _ k_a35af8c930) (List.mem_cons_of_mem _ k_9a4475df0e) (List.mem_cons_of_mem _ k_30fa15c9ac) (by decide +kernel) (by decide) rfl hl.1 rfl (Nat.le_of_ble_eq_true rfl) d_SpectrumDeskModel_bigMore_54) I (fun r1 σ1 H locs hp I => ?_)
        obtain ⟨hp1, rfl⟩ := hp
        rw [hfr (300 * u + i) (by omega)] at hp1
        obtain ⟨y, y1, rfl, y3⟩ := dg_nat huo hp1
        refine lv_iadd hx hb d_SpectrumDeskModel_bigMore_57 (xr_topi (y := nI (x + y)) (nI_add x y) ?_)
        refine lv_iload hx hb d_SpectrumDeskModel_bigMore_58 (lv_at hl 1 rfl) ?_
        refine lv_iadd hx hb d_SpectrumDeskModel_bigMore_60 (xr_topi (y := nI ((x + y) + cy)) (nI_add (x + y) cy) ?_)
        refine lv_istore (lv' := [(6, .int (nI ((x + y) + cy))), (5, .int (nI i)), (4, .int (nI cy)), (3, .int (nI mo)), (0, .ref (ad 183)), (1, .int (nI w)), (2, .int (nI u))]) hx hb d_SpectrumDeskModel_bigMore_61 hl (by decide) rfl (fun ls hl => ?_)
        refine lv_aload_n hx hb d_SpectrumDeskModel_bigMore_63 rfl (lv_at hl 4 rfl) ?_
        refine xr_get X I fin_M 183 (by decide) (r183 ..) rfl 0 (by decide) (List.mem_cons_of_mem _ k_eae5455160) rfl (mF_parts hF) d_SpectrumDeskModel_bigMore_64 ?_
        refine lv_sipush (v := nI 300) hx hb d_SpectrumDeskModel_bigMore_67 (by decide) ?_
        refine lv_iload_n hx hb d_SpectrumDeskModel_bigMore_70 rfl (lv_at hl 5 rfl) ?_
        refine lv_imul hx hb d_SpectrumDeskModel_bigMore_71 (xr_topi (y := nI (300 * w)) (pk_mul 300 w) ?_)
        refine lv_iload hx hb d_SpectrumDeskModel_bigMore_72 (lv_at hl 1 rfl) ?_
        refine lv_iadd hx hb d_SpectrumDeskModel_bigMore_74 (xr_topi (y := nI ((300 * w) + i)) (nI_add (300 * w) i) ?_)
        refine lv_iload hx hb d_SpectrumDeskModel_bigMore_75 (lv_at hl 0 rfl) ?_
        refine lv_ldc (v := nI 16777216) hx hb X.1.2.2.2.1 (X.1.2.2.2.2 _ (List.mem_cons_of_mem _ k_0f8e24087a)) d_SpectrumDeskModel_bigMore_77 ?_
        refine lv_irem hx hb d_SpectrumDeskModel_bigMore_79 (by decide) ?_
        refine xr_topi (y := nI ((x + y + cy) % 16777216)) (pk_rem (by omega) (by decide) (by decide)) ?_
        refine xr_iast X I 184 0 (by decide) (r184 ..) rfl (by omega) (by decide) d_SpectrumDeskModel_bigMore_80 (fun H locs I => ?_)
        rw [rw3_P] at I
        refine lv_iload hx hb d_SpectrumDeskModel_bigMore_81 (lv_at hl 0 rfl) ?_
        refine lv_ldc (v := nI 16777216) hx hb X.1.2.2.2.1 (X.1.2.2.2.2 _ (List.mem_cons_of_mem _ k_0f8e24087a)) d_SpectrumDeskModel_bigMore_83 ?_
        refine lv_idiv hx hb d_SpectrumDeskModel_bigMore_85 (by decide) ?_
        refine xr_topi (y := nI ((x + y + cy) / 16777216)) (pk_div (by omega) (by decide) (by decide)) ?_
        refine lv_istore (lv' := [(4, .int (nI ((x + y + cy) / 16777216))), (6, .int (nI ((x + y) + cy))), (5, .int (nI i)), (3, .int (nI mo)), (0, .ref (ad 183)), (1, .int (nI w)), (2, .int (nI u))]) hx hb d_SpectrumDeskModel_bigMore_86 hl (by decide) rfl (fun ls hl => ?_)
        refine lv_iinc (k := 2) (v := nI (i + 1)) (lv' := [(5, .int (nI (i + 1))), (4, .int (nI ((x + y + cy) / 16777216))), (6, .int (nI ((x + y) + cy))), (3, .int (nI mo)), (0, .ref (ad 183)), (1, .int (nI w)), (2, .int (nI u))]) hx hb d_SpectrumDeskModel_bigMore_88 hl rfl (nI_1 i) (by decide) rfl (fun ls hl => ?_)
        refine lv_goto hx hb d_SpectrumDeskModel_bigMore_91 rfl ?_
        have hl := lv_sub hl [0, 1, 3, 4, 5, 6] rfl
        have hl : lv_has ls 7 [(5, .int (nI (i + 1))), (4, .int (nI ((x + y + cy) / 16777216))), (3, .int (nI mo)), (0, .ref (ad 183)), (1, .int (nI w)), (2, .int (nI u))] := hl
        obtain ⟨s1, s2⟩ := more_step (c := cy) (c' := (x + y + cy) / 16777216) (v := (x + y + cy) % 16777216) hok (by omega) inv (by rw [x3, y3]; omega)
        exact ih (i + 1) _ _ ls H locs (by omega) (by omega) (fun j hj => (upd_n (by omega)).trans (hfr j hj)) (fun j hj => (upd_n (by omega)).trans (hge j (by omega))) s1 s2 hl I
  refine lv_aload_n hx hb d_SpectrumDeskModel_bigMore_0 rfl (lv_at hl 0 rfl) ?_
  refine xr_get X I fin_M 183 (by decide) (r183 ..) rfl 1 (by decide) (List.mem_cons_of_mem _ k_4ae214c350) rfl (mF_lengths hF) d_SpectrumDeskModel_bigMore_1 ?_
  refine lv_iload_n hx hb d_SpectrumDeskModel_bigMore_4 rfl (lv_at hl 1 rfl) ?_
  refine xr_iald X I 185 0 (by decide) (r185 ..) rfl (by omega) (by decide) d_SpectrumDeskModel_bigMore_5 ?_
  refine xr_topi (y := nI a) hLw ?_
  refine lv_aload_n hx hb d_SpectrumDeskModel_bigMore_6 rfl (lv_at hl 0 rfl) ?_
  refine xr_get X I fin_M 183 (by decide) (r183 ..) rfl 1 (by decide) (List.mem_cons_of_mem _ k_4ae214c350) rfl (mF_lengths hF) d_SpectrumDeskModel_bigMore_7 ?_
  refine lv_iload_n hx hb d_SpectrumDeskModel_bigMore_10 rfl (lv_at hl 2 rfl) ?_
  refine xr_iald X I 185 0 (by decide) (r185 ..) rfl (by omega) (by decide) d_SpectrumDeskModel_bigMore_11 ?_
  refine xr_topi (y := nI b) hLu ?_
  refine lv_icmp_le hx hb d_SpectrumDeskModel_bigMore_12 rfl (fun hc => ?_) (fun hc => ?_)
  · have hle : a ≤ b := (nI_leI (by omega) (by omega)).mp hc
    refine lv_aload_n hx hb d_SpectrumDeskModel_bigMore_24 rfl (lv_at hl 0 rfl) ?_
    refine xr_get X I fin_M 183 (by decide) (r183 ..) rfl 1 (by decide) (List.mem_cons_of_mem _ k_4ae214c350) rfl (mF_lengths hF) d_SpectrumDeskModel_bigMore_25 ?_
    refine lv_iload_n hx hb d_SpectrumDeskModel_bigMore_28 rfl (lv_at hl 2 rfl) ?_
    refine xr_iald X I 185 0 (by decide) (r185 ..) rfl (by omega) (by decide) d_SpectrumDeskModel_bigMore_29 ?_
    refine xr_topi (y := nI b) hLu ?_
    refine lv_istore_n (lv' := [(3, .int (nI b)), (0, .ref (ad 183)), (1, .int (nI w)), (2, .int (nI u))]) hx hb d_SpectrumDeskModel_bigMore_30 rfl hl (by decide) rfl (fun ls hl => ?_)
    refine lv_iconst (v := nI 0) hx hb d_SpectrumDeskModel_bigMore_31 (by decide) ?_
    refine lv_istore (lv' := [(4, .int (nI 0)), (3, .int (nI b)), (0, .ref (ad 183)), (1, .int (nI w)), (2, .int (nI u))]) hx hb d_SpectrumDeskModel_bigMore_32 hl (by decide) rfl (fun ls hl => ?_)
    refine lv_iconst (v := nI 0) hx hb d_SpectrumDeskModel_bigMore_34 (by decide) ?_
    refine lv_istore (lv' := [(5, .int (nI 0)), (4, .int (nI 0)), (3, .int (nI b)), (0, .ref (ad 183)), (1, .int (nI w)), (2, .int (nI u))]) hx hb d_SpectrumDeskModel_bigMore_35 hl (by decide) rfl (fun ls hl => ?_)
    exact loop b (Or.inr ⟨rfl, hle⟩) b 0 0 P ls _ _ (by omega) (by decide) (fun _ _ => rfl) (fun _ _ => rfl) (fun j hj => absurd hj (Nat.not_lt_zero _)) (by simp [rg, dv]) hl I
  · have hle : b ≤ a := (Nat.le_total b a).elim id (fun h => absurd (nI_le h (by omega)) hc)
    refine lv_aload_n hx hb d_SpectrumDeskModel_bigMore_15 rfl (lv_at hl 0 rfl) ?_
    refine xr_get X I fin_M 183 (by decide) (r183 ..) rfl 1 (by decide) (List.mem_cons_of_mem _ k_4ae214c350) rfl (mF_lengths hF) d_SpectrumDeskModel_bigMore_16 ?_
    refine lv_iload_n hx hb d_SpectrumDeskModel_bigMore_19 rfl (lv_at hl 1 rfl) ?_
    refine xr_iald X I 185 0 (by decide) (r185 ..) rfl (by omega) (by decide) d_SpectrumDeskModel_bigMore_20 ?_
    refine xr_topi (y := nI a) hLw ?_
    refine lv_goto hx hb d_SpectrumDeskModel_bigMore_21 rfl ?_
    refine lv_istore_n (lv' := [(3, .int (nI a)), (0, .ref (ad 183)), (1, .int (nI w)), (2, .int (nI u))]) hx hb d_SpectrumDeskModel_bigMore_30 rfl hl (by decide) rfl (fun ls hl => ?_)
    refine lv_iconst (v := nI 0) hx hb d_SpectrumDeskModel_bigMore_31 (by decide) ?_
    refine lv_istore (lv' := [(4, .int (nI 0)), (3, .int (nI a)), (0, .ref (ad 183)), (1, .int (nI w)), (2, .int (nI u))]) hx hb d_SpectrumDeskModel_bigMore_32 hl (by decide) rfl (fun ls hl => ?_)
    refine lv_iconst (v := nI 0) hx hb d_SpectrumDeskModel_bigMore_34 (by decide) ?_
    refine lv_istore (lv' := [(5, .int (nI 0)), (4, .int (nI 0)), (3, .int (nI a)), (0, .ref (ad 183)), (1, .int (nI w)), (2, .int (nI u))]) hx hb d_SpectrumDeskModel_bigMore_35 hl (by decide) rfl (fun ls hl => ?_)
    exact loop a (Or.inl ⟨rfl, hle⟩) a 0 0 P ls _ _ (by omega) (by decide) (fun _ _ => rfl) (fun _ _ => rfl) (fun j hj => absurd hj (Nat.not_lt_zero _)) (by simp [rg, dv]) hl I
set_option maxHeartbeats 4000000 in
set_option maxRecDepth 100000 in
theorem c_SpectrumDeskModel_bigSizes {l : Launch} {D : va_G} {cI cJ cZ cC cG cP : ClassId} {ad : Nat → Nat} {σ0 : Nat → va_E} {fs : List Value} {P L M : Nat → Int32} {w u a b : Nat} (hF : mF ad fs) (hw : w < 112) (hu : u < 112) (hne : u ≠ w) (ha : a < 300) (hb9 : b < 300) (hLw : L w = nI a) (hLu : L u = nI b) (hwo : rg_ok P (300 * w) a) (huo : rg_ok P (300 * u) b) (hwt : 0 < a → P (300 * w + (a - 1)) ≠ 0) (hut : 0 < b → P (300 * u + (b - 1)) ≠ 0) :
    Met l y_SpectrumDeskModel_bigSizes v_SpectrumDeskModel_bigSizes (xrm 1) (va_Pc [.ref (ad 183), .int (nI w), .int (nI u)] (xS D classes (xT cI cJ cZ cC cG cP) 193 ad (rw3 σ0 ciM cI cZ fs P L M))) (va_Qi (fun r σ2 => r = sg (rg P (300 * w) a - rg P (300 * u) b) ∧ σ2 = rw3 σ0 ciM cI cZ fs P L M) (xS D classes (xT cI cJ cZ cC cG cP) 193 ad) (xA 193 ad)) 0 0 (xA 193 ad) := by
  refine xr_met rfl (Nat.le_of_ble_eq_true rfl) ?_
  intro p e s m args below meth c ls hx hb X hr hlk hl I
  have hl : lv_has ls 4 [(0, .ref (ad 183)), (1, .int (nI w)), (2, .int (nI u))] := hl
  refine lv_aload_n hx hb d_SpectrumDeskModel_bigSizes_0 rfl (lv_at hl 0 rfl) ?_
  refine xr_get X I fin_M 183 (by decide) (r183 ..) rfl 1 (by decide) (List.mem_cons_of_mem _ k_4ae214c350) rfl (mF_lengths hF) d_SpectrumDeskModel_bigSizes_1 ?_
  refine lv_iload_n hx hb d_SpectrumDeskModel_bigSizes_4 rfl (lv_at hl 1 rfl) ?_
  refine xr_iald X I 185 0 (by decide) (r185 ..) rfl (by omega) (by decide) d_SpectrumDeskModel_bigSizes_5 ?_
  refine xr_topi (y := nI a) hLw ?_
  refine lv_aload_n hx hb d_SpectrumDeskModel_bigSizes_6 rfl (lv_at hl 0 rfl) ?_
  refine xr_get X I fin_M 183 (by decide) (r183 ..) rfl 1 (by decide) (List.mem_cons_of_mem _ k_4ae214c350) rfl (mF_lengths hF) d_SpectrumDeskModel_bigSizes_7 ?_
  refine lv_iload_n hx hb d_SpectrumDeskModel_bigSizes_10 rfl (lv_at hl 2 rfl) ?_
  refine xr_iald X I 185 0 (by decide) (r185 ..) rfl (by omega) (by decide) d_SpectrumDeskModel_bigSizes_11 ?_
  refine xr_topi (y := nI b) hLu ?_
  refine lv_icmp_eq hx hb d_SpectrumDeskModel_bigSizes_12 rfl (fun hc => ?_) (fun hc => ?_)
  · have hab : b = a := ((nI_eq (by omega) (by omega)).mp hc).symm
    rw [hab] at hLu huo
    refine lv_aload_n hx hb d_SpectrumDeskModel_bigSizes_36 rfl (lv_at hl 0 rfl) ?_
    refine xr_get X I fin_M 183 (by decide) (r183 ..) rfl 1 (by decide) (List.mem_cons_of_mem _ k_4ae214c350) rfl (mF_lengths hF) d_SpectrumDeskModel_bigSizes_37 ?_
    refine lv_iload_n hx hb d_SpectrumDeskModel_bigSizes_40 rfl (lv_at hl 1 rfl) ?_
    refine xr_iald X I 185 0 (by decide) (r185 ..) rfl (by omega) (by decide) d_SpectrumDeskModel_bigSizes_41 ?_
    refine xr_topi (y := nI a) hLw ?_
    refine lv_iconst (v := nI 1) hx hb d_SpectrumDeskModel_bigSizes_42 (by decide) ?_
    refine lv_isub hx hb d_SpectrumDeskModel_bigSizes_43 ?_
    refine xr_topi (y := nP a) rfl ?_
    refine lv_istore_n (lv' := [(3, .int (nP a)), (0, .ref (ad 183)), (1, .int (nI w)), (2, .int (nI u))]) hx hb d_SpectrumDeskModel_bigSizes_44 rfl hl (by decide) rfl (fun ls hl => ?_)
    have loop : ∀ (k : Nat)  (ls : Array Slot) (H : Heap) (locs : List Loc), k ≤ a → (∀ j, k ≤ j → j < a → P (300 * w + j) = P (300 * u + j)) → lv_has ls 4 [(3, .int (nP k)), (0, .ref (ad 183)), (1, .int (nI w)), (2, .int (nI u))] → xI D classes 193 ad s.heap (rw3 σ0 ciM cI cZ fs P L M) H locs → W p l e (xrm 1) s m args below meth c H locs 0 0 (MQ below (va_Qi (fun r σ2 => r = sg (rg P (300 * w) a - rg P (300 * u) b) ∧ σ2 = rw3 σ0 ciM cI cZ fs P L M) (xS D classes (xT cI cJ cZ cC cG cP) 193 ad) (xA 193 ad)) args s 0 0 (xA 193 ad)) (F0 m 45 ls []) := by
      intro k
      induction k with
      | zero =>
        intro ls H locs hk hz hl I
        refine lv_iload_n hx hb d_SpectrumDeskModel_bigSizes_45 rfl (lv_at hl 0 rfl) ?_
        refine lv_if_lt hx hb d_SpectrumDeskModel_bigSizes_46 rfl (fun hc => ?_) (fun hc => ?_)
        · refine lv_iload_n hx hb d_SpectrumDeskModel_bigSizes_70 rfl (lv_at hl 0 rfl) ?_
          refine lv_if_ge hx hb d_SpectrumDeskModel_bigSizes_71 rfl (fun hd => ?_) (fun hd => ?_)
          · exact absurd hd (by decide)
          · refine lv_iconst (v := nI 0) hx hb d_SpectrumDeskModel_bigSizes_74 (by decide) ?_
            refine lv_goto hx hb d_SpectrumDeskModel_bigSizes_75 rfl ?_
            exact xr_iret X I hr hlk ⟨by rw [hab, rg_congr (P' := P) (o' := 300 * u) (fun j hj => hz j (by omega) hj), Int.sub_self]; rfl, rfl⟩ d_SpectrumDeskModel_bigSizes_98
        · exact absurd nP_0 hc
      | succ k ih =>
        intro ls H locs hk hz hl I
        refine lv_iload_n hx hb d_SpectrumDeskModel_bigSizes_45 rfl (lv_at hl 0 rfl) ?_
        refine xr_topi (y := nI k) (nP_succ k) ?_
        refine lv_if_lt hx hb d_SpectrumDeskModel_bigSizes_46 rfl (fun hc => ?_) (fun hc => ?_)
        · exact absurd hc (nI_pos (by omega))
        · refine lv_aload_n hx hb d_SpectrumDeskModel_bigSizes_49 rfl (lv_at hl 1 rfl) ?_
          refine lv_iload_n hx hb d_SpectrumDeskModel_bigSizes_50 rfl (lv_at hl 2 rfl) ?_
          refine lv_iload_n hx hb d_SpectrumDeskModel_bigSizes_51 rfl (lv_at hl 0 rfl) ?_
          refine xr_topi (y := nI k) (nP_succ k) ?_
          refine xr_calli (xr_runV (kc := 0) (kr := 1) (n := 2) (As := [.int (nI w), .int (nI k)]) (rest := []) X I (by decide) (r183 ..) rfl (c_SpectrumDeskModel_bigAt (P := P) (L := L) (M := M) (n := a) (i := k) hF hw (by omega) (by omega) hLw) (xg k_9795bdc343) (List.mem_cons_of_mem _ k_42414df306) (List.mem_cons_of_mem _ k_a35af8c930) (List.mem_cons_of_mem _ k_9a4475df0e) (List.mem_cons_of_mem _ k_30fa15c9ac) (by decide +kernel) (by decide) rfl hl.1 rfl (Nat.le_of_ble_eq_true rfl) d_SpectrumDeskModel_bigSizes_52) I (fun r1 σ1 H locs hp I => ?_)
          obtain ⟨hp1, rfl⟩ := hp
          obtain ⟨x, x1, rfl, x3⟩ := dg_nat hwo hp1
          refine lv_aload_n hx hb d_SpectrumDeskModel_bigSizes_55 rfl (lv_at hl 1 rfl) ?_
          refine lv_iload_n hx hb d_SpectrumDeskModel_bigSizes_56 rfl (lv_at hl 3 rfl) ?_
          refine lv_iload_n hx hb d_SpectrumDeskModel_bigSizes_57 rfl (lv_at hl 0 rfl) ?_
          refine xr_topi (y := nI k) (nP_succ k) ?_
          refine xr_calli (xr_runV (kc := 0) (kr := 1) (n := 2) (As := [.int (nI u), .int (nI k)]) (rest := [.int (nI x)]) X I (by decide) (r183 ..) rfl (c_SpectrumDeskModel_bigAt (P := P) (L := L) (M := M) (n := a) (i := k) hF hu (by omega) (by omega) hLu) (xg k_9795bdc343) (List.mem_cons_of_mem _ k_42414df306) (List.mem_cons_of_mem _ k_a35af8c930) (List.mem_cons_of_mem _ k_9a4475df0e) (List.mem_cons_of_mem _ k_30fa15c9ac) (by decide +kernel) (by decide) rfl hl.1 rfl (Nat.le_of_ble_eq_true rfl) d_SpectrumDeskModel_bigSizes_58) I (fun r1 σ1 H locs hp I => ?_)
          obtain ⟨hp1, rfl⟩ := hp
          obtain ⟨y, y1, rfl, y3⟩ := dg_nat huo hp1
          rw [dg, if_pos (show k < a by omega)] at x3 y3
          refine lv_icmp_ne hx hb d_SpectrumDeskModel_bigSizes_61 rfl (fun hd => ?_) (fun hd => ?_)
          · refine lv_iload_n hx hb d_SpectrumDeskModel_bigSizes_70 rfl (lv_at hl 0 rfl) ?_
            refine xr_topi (y := nI k) (nP_succ k) ?_
            refine lv_if_ge hx hb d_SpectrumDeskModel_bigSizes_71 rfl (fun hf => ?_) (fun hf => ?_)
            · refine lv_aload_n hx hb d_SpectrumDeskModel_bigSizes_78 rfl (lv_at hl 1 rfl) ?_
              refine lv_iload_n hx hb d_SpectrumDeskModel_bigSizes_79 rfl (lv_at hl 2 rfl) ?_
              refine lv_iload_n hx hb d_SpectrumDeskModel_bigSizes_80 rfl (lv_at hl 0 rfl) ?_
              refine xr_topi (y := nI k) (nP_succ k) ?_
              refine xr_calli (xr_runV (kc := 0) (kr := 1) (n := 2) (As := [.int (nI w), .int (nI k)]) (rest := []) X I (by decide) (r183 ..) rfl (c_SpectrumDeskModel_bigAt (P := P) (L := L) (M := M) (n := a) (i := k) hF hw (by omega) (by omega) hLw) (xg k_9795bdc343) (List.mem_cons_of_mem _ k_42414df306) (List.mem_cons_of_mem _ k_a35af8c930) (List.mem_cons_of_mem _ k_9a4475df0e) (List.mem_cons_of_mem _ k_30fa15c9ac) (by decide +kernel) (by decide) rfl hl.1 rfl (Nat.le_of_ble_eq_true rfl) d_SpectrumDeskModel_bigSizes_81) I (fun r1 σ1 H locs hp I => ?_)
              obtain ⟨hp1, rfl⟩ := hp
              obtain ⟨x2, x4, rfl, x5⟩ := dg_nat hwo hp1
              refine lv_aload_n hx hb d_SpectrumDeskModel_bigSizes_84 rfl (lv_at hl 1 rfl) ?_
              refine lv_iload_n hx hb d_SpectrumDeskModel_bigSizes_85 rfl (lv_at hl 3 rfl) ?_
              refine lv_iload_n hx hb d_SpectrumDeskModel_bigSizes_86 rfl (lv_at hl 0 rfl) ?_
              refine xr_topi (y := nI k) (nP_succ k) ?_
              refine xr_calli (xr_runV (kc := 0) (kr := 1) (n := 2) (As := [.int (nI u), .int (nI k)]) (rest := [.int (nI x2)]) X I (by decide) (r183 ..) rfl (c_SpectrumDeskModel_bigAt (P := P) (L := L) (M := M) (n := a) (i := k) hF hu (by omega) (by omega) hLu) (xg k_9795bdc343) (List.mem_cons_of_mem _ k_42414df306) (List.mem_cons_of_mem _ k_a35af8c930) (List.mem_cons_of_mem _ k_9a4475df0e) (List.mem_cons_of_mem _ k_30fa15c9ac) (by decide +kernel) (by decide) rfl hl.1 rfl (Nat.le_of_ble_eq_true rfl) d_SpectrumDeskModel_bigSizes_87) I (fun r1 σ1 H locs hp I => ?_)
              obtain ⟨hp1, rfl⟩ := hp
              obtain ⟨y2, y4, rfl, y5⟩ := dg_nat huo hp1
              rw [dg, if_pos (show k < a by omega)] at x5 y5
              have hxy : x ≠ y := fun h => hd (by rw [h])
              refine lv_icmp_ge hx hb d_SpectrumDeskModel_bigSizes_90 rfl (fun hg => ?_) (fun hg => ?_)
              · have h := (nI_leI (by omega) (by omega)).mp hg
                have hlt := rg_lt_at (show k < a by omega) huo hwo (fun j h1 h2 => (hz j (by omega) h2).symm) (by omega)
                refine lv_iconst (v := nI 1) hx hb d_SpectrumDeskModel_bigSizes_97 (by decide) ?_
                exact xr_iret X I hr hlk ⟨by rw [hab, sg, if_neg (by omega), if_neg (by omega)]; rfl, rfl⟩ d_SpectrumDeskModel_bigSizes_98
              · have h : ¬ y2 ≤ x2 := fun h => hg (nI_le h (by omega))
                have hlt := rg_lt_at (show k < a by omega) hwo huo (fun j h1 h2 => hz j (by omega) h2) (by omega)
                refine lv_iconst (v := (-1)) hx hb d_SpectrumDeskModel_bigSizes_93 (by decide) ?_
                refine lv_goto hx hb d_SpectrumDeskModel_bigSizes_94 rfl ?_
                exact xr_iret X I hr hlk ⟨by rw [hab, sg, if_pos (by omega)], rfl⟩ d_SpectrumDeskModel_bigSizes_98
            · exact absurd (nI_pos' (by omega)) hf
          · have hxy : x = y := (nI_eq (by omega) (by omega)).mp hd
            refine lv_iinc (k := 0) (v := nP k) (lv' := [(3, .int (nP k)), (0, .ref (ad 183)), (1, .int (nI w)), (2, .int (nI u))]) hx hb d_SpectrumDeskModel_bigSizes_64 hl rfl (nP_dec k) (by decide) rfl (fun ls hl => ?_)
            refine lv_goto hx hb d_SpectrumDeskModel_bigSizes_67 rfl ?_
            exact ih ls H locs (by omega) (fun j h1 h2 => if ej : j = k then (by rw [ej]; exact q_iinj (by omega)) else hz j (by omega) h2) hl I
    exact loop a ls _ _ (Nat.le_refl _) (fun j h1 h2 => by omega) hl I
  · have hab : a ≠ b := fun h => hc (by rw [h])
    refine lv_aload_n hx hb d_SpectrumDeskModel_bigSizes_15 rfl (lv_at hl 0 rfl) ?_
    refine xr_get X I fin_M 183 (by decide) (r183 ..) rfl 1 (by decide) (List.mem_cons_of_mem _ k_4ae214c350) rfl (mF_lengths hF) d_SpectrumDeskModel_bigSizes_16 ?_
    refine lv_iload_n hx hb d_SpectrumDeskModel_bigSizes_19 rfl (lv_at hl 1 rfl) ?_
    refine xr_iald X I 185 0 (by decide) (r185 ..) rfl (by omega) (by decide) d_SpectrumDeskModel_bigSizes_20 ?_
    refine xr_topi (y := nI a) hLw ?_
    refine lv_aload_n hx hb d_SpectrumDeskModel_bigSizes_21 rfl (lv_at hl 0 rfl) ?_
    refine xr_get X I fin_M 183 (by decide) (r183 ..) rfl 1 (by decide) (List.mem_cons_of_mem _ k_4ae214c350) rfl (mF_lengths hF) d_SpectrumDeskModel_bigSizes_22 ?_
    refine lv_iload_n hx hb d_SpectrumDeskModel_bigSizes_25 rfl (lv_at hl 2 rfl) ?_
    refine xr_iald X I 185 0 (by decide) (r185 ..) rfl (by omega) (by decide) d_SpectrumDeskModel_bigSizes_26 ?_
    refine xr_topi (y := nI b) hLu ?_
    refine lv_icmp_ge hx hb d_SpectrumDeskModel_bigSizes_27 rfl (fun hd => ?_) (fun hd => ?_)
    · have h := (nI_leI (by omega) (by omega)).mp hd
      have hlt := rg_lt_len huo hwo (show b < a by omega) hwt
      refine lv_iconst (v := nI 1) hx hb d_SpectrumDeskModel_bigSizes_34 (by decide) ?_
      exact xr_iret X I hr hlk ⟨by rw [sg, if_neg (by omega), if_neg (by omega)]; rfl, rfl⟩ d_SpectrumDeskModel_bigSizes_35
    · have h : ¬ b ≤ a := fun h => hd (nI_le h (by omega))
      have hlt := rg_lt_len hwo huo (show a < b by omega) hut
      refine lv_iconst (v := (-1)) hx hb d_SpectrumDeskModel_bigSizes_30 (by decide) ?_
      refine lv_goto hx hb d_SpectrumDeskModel_bigSizes_31 rfl ?_
      exact xr_iret X I hr hlk ⟨by rw [sg, if_pos (by omega)], rfl⟩ d_SpectrumDeskModel_bigSizes_35
set_option maxHeartbeats 4000000 in
set_option maxRecDepth 100000 in
theorem c_SpectrumDeskModel_bigDiffer0 {l : Launch} {D : va_G} {cI cJ cZ cC cG cP : ClassId} {ad : Nat → Nat} {σ0 : Nat → va_E} {fs : List Value} {P L M : Nat → Int32} {w u a b : Nat} (hF : mF ad fs) (hw : w < 112) (hu : u < 112) (hne : u ≠ w) (ha : a < 300) (hb9 : b < 300) (hLw : L w = nI a) (hLu : L u = nI b) (hwo : rg_ok P (300 * w) a) (huo : rg_ok P (300 * u) b) (hwt : 0 < a → P (300 * w + (a - 1)) ≠ 0) (hut : 0 < b → P (300 * u + (b - 1)) ≠ 0) (hge0 : 0 ≤ rg P (300 * w) a - rg P (300 * u) b) :
    Met l y_SpectrumDeskModel_bigDiffer v_SpectrumDeskModel_bigDiffer (xrm 1) (va_Pc [.ref (ad 183), .int (nI w), .int (nI u), .int (nI 0)] (xS D classes (xT cI cJ cZ cC cG cP) 193 ad (rw3 σ0 ciM cI cZ fs P L M))) (va_Qv (rm_up σ0 ciM cI cZ fs P L M w (rg P (300 * w) a - rg P (300 * u) b)) (xS D classes (xT cI cJ cZ cC cG cP) 193 ad) (xA 193 ad)) 0 0 (xA 193 ad) := by
  refine xr_met rfl (Nat.le_of_ble_eq_true rfl) ?_
  intro p e s m args below meth c ls hx hb X hr hlk hl I
  have hl : lv_has ls 8 [(0, .ref (ad 183)), (1, .int (nI w)), (2, .int (nI u)), (3, .int (nI 0))] := hl
  have loop : ∀ (mo : Nat) (hmx : (a = mo ∧ b ≤ mo) ∨ (b = mo ∧ a ≤ mo)) (k : Nat) (i bw : Nat) (P2 : Nat → Int32) (ls : Array Slot) (H : Heap) (locs : List Loc), i + k = mo → bw ≤ 1 → (∀ j, j < 300 * w ∨ 300 * w + 300 ≤ j → P2 j = P j) → (∀ j, i ≤ j → P2 (300 * w + j) = P (300 * w + j)) → rg_ok P2 (300 * w) i → rg P2 (300 * w) i = dv (dg P (300 * w) a) i - dv (dg P (300 * u) b) i + (bw : Int) * 16777216 ^ i → lv_has ls 8 [(6, .int (nI i)), (5, .int (nI bw)), (4, .int (nI mo)), (0, .ref (ad 183)), (1, .int (nI w)), (2, .int (nI u)), (3, .int (nI 0))] → xI D classes 193 ad s.heap (rw3 σ0 ciM cI cZ fs P2 L M) H locs → W p l e (xrm 1) s m args below meth c H locs 0 0 (MQ below (va_Qv (rm_up σ0 ciM cI cZ fs P L M w (rg P (300 * w) a - rg P (300 * u) b)) (xS D classes (xT cI cJ cZ cC cG cP) 193 ad) (xA 193 ad)) args s 0 0 (xA 193 ad)) (F0 m 38 ls []) := by
    intro mo hmx k
    induction k with
    | zero =>
      intro i bw P2 ls H locs hk hbw hfr hge hok inv hl I
      obtain rfl : i = mo := by omega
      refine lv_iload hx hb d_SpectrumDeskModel_bigDiffer_38 (lv_at hl 0 rfl) ?_
      refine lv_iload hx hb d_SpectrumDeskModel_bigDiffer_40 (lv_at hl 2 rfl) ?_
      refine lv_icmp_ge hx hb d_SpectrumDeskModel_bigDiffer_42 rfl (fun hc => ?_) (fun hc => ?_)
      · refine lv_aload_n hx hb d_SpectrumDeskModel_bigDiffer_133 rfl (lv_at hl 3 rfl) ?_
        refine xr_get X I fin_M 183 (by decide) (r183 ..) rfl 1 (by decide) (List.mem_cons_of_mem _ k_4ae214c350) rfl (mF_lengths hF) d_SpectrumDeskModel_bigDiffer_134 ?_
        refine lv_iload_n hx hb d_SpectrumDeskModel_bigDiffer_137 rfl (lv_at hl 4 rfl) ?_
        refine lv_iload hx hb d_SpectrumDeskModel_bigDiffer_138 (lv_at hl 2 rfl) ?_
        refine xr_iast X I 185 0 (by decide) (r185 ..) rfl (by omega) (by decide) d_SpectrumDeskModel_bigDiffer_140 (fun H locs I => ?_)
        rw [rw3_L] at I
        refine lv_aload_n hx hb d_SpectrumDeskModel_bigDiffer_141 rfl (lv_at hl 3 rfl) ?_
        refine lv_iload_n hx hb d_SpectrumDeskModel_bigDiffer_142 rfl (lv_at hl 4 rfl) ?_
        rw [dv_all (show _ ≤ i by omega), dv_all (show _ ≤ i by omega)] at inv
        have hb0 : bw = 0 := (Nat.eq_zero_or_pos bw).elim id (fun h => by
          have h1 := (rg_range hok).2
          have h2 : bw = 1 := by omega
          rw [h2] at inv
          have h3 : ((1 : Nat) : Int) * 16777216 ^ i = 16777216 ^ i := by simp
          rw [h3] at inv
          omega)
        rw [hb0] at inv; simp at inv
        refine xr_callv (xr_runV (kc := 0) (kr := 1) (n := 1) (As := [.int (nI w)]) (rest := []) X I (by decide) (r183 ..) rfl (c_SpectrumDeskModel_bigTrim (P := P2) (L := upd L w (nI i)) (M := M) (n := i) hF hw (by omega) upd_s) (xg k_10a67c202b) (List.mem_cons_of_mem _ k_fdf1e9da4b) (List.mem_cons_of_mem _ k_72a5102e81) (List.mem_cons_of_mem _ k_90f9c60262) (List.mem_cons_of_mem _ k_30fa15c9ac) (by decide +kernel) (by decide) rfl hl.1 rfl (Nat.le_of_ble_eq_true rfl) d_SpectrumDeskModel_bigDiffer_143) I (fun σ1 H locs hp I => ?_)
        obtain ⟨n2, t1, rfl, t2, t3⟩ := hp
        rw [upd_upd] at I
        exact xr_vret X I hr hlk ⟨P2, n2, rfl, by omega, hfr, rg_ok_le hok t1, t3, t2.trans (by omega)⟩ d_SpectrumDeskModel_bigDiffer_146
      · exact absurd (nI_le (Nat.le_refl _) (by omega)) hc
    | succ k ih =>
      intro i bw P2 ls H locs hk hbw hfr hge hok inv hl I
      refine lv_iload hx hb d_SpectrumDeskModel_bigDiffer_38 (lv_at hl 0 rfl) ?_
      refine lv_iload hx hb d_SpectrumDeskModel_bigDiffer_40 (lv_at hl 2 rfl) ?_
      refine lv_icmp_ge hx hb d_SpectrumDeskModel_bigDiffer_42 rfl (fun hc => ?_) (fun hc => ?_)
      · exact absurd hc (nI_ge (by omega) (by omega))
      · refine lv_iload_n hx hb d_SpectrumDeskModel_bigDiffer_45 rfl (lv_at hl 6 rfl) ?_
        refine lv_if_eq hx hb d_SpectrumDeskModel_bigDiffer_46 rfl (fun ht => ?_) (fun ht => ?_)
        · refine lv_aload_n hx hb d_SpectrumDeskModel_bigDiffer_67 rfl (lv_at hl 3 rfl) ?_
          refine lv_iload_n hx hb d_SpectrumDeskModel_bigDiffer_68 rfl (lv_at hl 4 rfl) ?_
          refine lv_iload hx hb d_SpectrumDeskModel_bigDiffer_69 (lv_at hl 0 rfl) ?_
          refine xr_calli (xr_runV (kc := 0) (kr := 1) (n := 2) (As := [.int (nI w), .int (nI i)]) (rest := []) X I (by decide) (r183 ..) rfl (c_SpectrumDeskModel_bigAt (P := P2) (L := L) (M := M) (n := a) (i := i) hF hw (by omega) (by omega) hLw) (xg k_9795bdc343) (List.mem_cons_of_mem _ k_42414df306) (List.mem_cons_of_mem _ k_a35af8c930) (List.mem_cons_of_mem _ k_9a4475df0e) (List.mem_cons_of_mem _ k_30fa15c9ac) (by decide +kernel) (by decide) rfl hl.1 rfl (Nat.le_of_ble_eq_true rfl) d_SpectrumDeskModel_bigDiffer_71) I (fun r1 σ1 H locs hp I => ?_)
          obtain ⟨hp1, rfl⟩ := hp
          rw [hge i (Nat.le_refl _)] at hp1
          obtain ⟨x, x1, rfl, x3⟩ := dg_nat hwo hp1
          refine lv_aload_n hx hb d_SpectrumDeskModel_bigDiffer_74 rfl (lv_at hl 3 rfl) ?_
          refine lv_iload_n hx hb d_SpectrumDeskModel_bigDiffer_75 rfl (lv_at hl 5 rfl) ?_
          refine lv_iload hx hb d_SpectrumDeskModel_bigDiffer_76 (lv_at hl 0 rfl) ?_
          refine xr_calli (xr_runV (kc := 0) (kr := 1) (n := 2) (As := [.int (nI u), .int (nI i)]) (rest := [.int (nI x)]) X I (by decide) (r183 ..) rfl (c_SpectrumDeskModel_bigAt (P := P2) (L := L) (M := M) (n := b) (i := i) hF hu (by omega) (by omega) hLu) (xg k_9795bdc343) (List.mem_cons_of_mem _ k_42414df306) (List.mem_cons_of_mem _ k_a35af8c930) (List.mem_cons_of_mem _ k_9a4475df0e) (List.mem_cons_of_mem _ k_30fa15c9ac) (by decide +kernel) (by decide) rfl hl.1 rfl (Nat.le_of_ble_eq_true rfl) d_SpectrumDeskModel_bigDiffer_78) I (fun r1 σ1 H locs hp I => ?_)
          obtain ⟨hp1, rfl⟩ := hp
          rw [hfr (300 * u + i) (by omega)] at hp1
          obtain ⟨y, y1, rfl, y3⟩ := dg_nat huo hp1
          refine lv_isub hx hb d_SpectrumDeskModel_bigDiffer_81 ?_
          refine lv_iload hx hb d_SpectrumDeskModel_bigDiffer_82 (lv_at hl 1 rfl) ?_
          refine lv_isub hx hb d_SpectrumDeskModel_bigDiffer_84 ?_
          refine lv_topi (fun v ev => ?_)
          have hv : v.toInt = (x : Int) - y - bw := by rw [ev, q_isub (by rw [q_isub (by rw [nI_toInt (by omega), nI_toInt (by omega)]; omega) (by rw [nI_toInt (by omega), nI_toInt (by omega)]; omega), nI_toInt (by omega), nI_toInt (by omega), nI_toInt (by omega)]; omega) (by rw [q_isub (by rw [nI_toInt (by omega), nI_toInt (by omega)]; omega) (by rw [nI_toInt (by omega), nI_toInt (by omega)]; omega), nI_toInt (by omega), nI_toInt (by omega), nI_toInt (by omega)]; omega), q_isub (by rw [nI_toInt (by omega), nI_toInt (by omega)]; omega) (by rw [nI_toInt (by omega), nI_toInt (by omega)]; omega), nI_toInt (by omega), nI_toInt (by omega), nI_toInt (by omega)]
          refine lv_istore (lv' := [(7, .int v), (6, .int (nI i)), (5, .int (nI bw)), (4, .int (nI mo)), (0, .ref (ad 183)), (1, .int (nI w)), (2, .int (nI u)), (3, .int (nI 0))]) hx hb d_SpectrumDeskModel_bigDiffer_85 hl (by decide) rfl (fun ls hl => ?_)
          refine lv_iload hx hb d_SpectrumDeskModel_bigDiffer_87 (lv_at hl 0 rfl) ?_
          refine lv_if_ge hx hb d_SpectrumDeskModel_bigDiffer_89 rfl (fun hd => ?_) (fun hd => ?_)
          · have h0 : 0 ≤ v.toInt := Int32.le_iff_toInt_le.mp hd
            refine lv_iconst (v := nI 0) hx hb d_SpectrumDeskModel_bigDiffer_96 (by decide) ?_
            refine lv_istore (lv' := [(5, .int (nI 0)), (7, .int v), (6, .int (nI i)), (4, .int (nI mo)), (0, .ref (ad 183)), (1, .int (nI w)), (2, .int (nI u)), (3, .int (nI 0))]) hx hb d_SpectrumDeskModel_bigDiffer_97 hl (by decide) rfl (fun ls hl => ?_)
            refine lv_aload_n hx hb d_SpectrumDeskModel_bigDiffer_99 rfl (lv_at hl 4 rfl) ?_
            refine xr_get X I fin_M 183 (by decide) (r183 ..) rfl 0 (by decide) (List.mem_cons_of_mem _ k_eae5455160) rfl (mF_parts hF) d_SpectrumDeskModel_bigDiffer_100 ?_
            refine lv_sipush (v := nI 300) hx hb d_SpectrumDeskModel_bigDiffer_103 (by decide) ?_
            refine lv_iload_n hx hb d_SpectrumDeskModel_bigDiffer_106 rfl (lv_at hl 5 rfl) ?_
            refine lv_imul hx hb d_SpectrumDeskModel_bigDiffer_107 (xr_topi (y := nI (300 * w)) (pk_mul 300 w) ?_)
            refine lv_iload hx hb d_SpectrumDeskModel_bigDiffer_108 (lv_at hl 2 rfl) ?_
            refine lv_iadd hx hb d_SpectrumDeskModel_bigDiffer_110 (xr_topi (y := nI ((300 * w) + i)) (nI_add (300 * w) i) ?_)
            refine lv_iload hx hb d_SpectrumDeskModel_bigDiffer_111 (lv_at hl 1 rfl) ?_
            refine lv_if_ge hx hb d_SpectrumDeskModel_bigDiffer_113 rfl (fun hg => ?_) (fun hg => ?_)
            · refine lv_iload hx hb d_SpectrumDeskModel_bigDiffer_124 (lv_at hl 1 rfl) ?_
              refine xr_topi (y := nI (x - y - bw)) (q_iinj (by rw [nI_toInt (by omega)]; omega)) ?_
              refine xr_iast X I 184 0 (by decide) (r184 ..) rfl (by omega) (by decide) d_SpectrumDeskModel_bigDiffer_126 (fun H locs I => ?_)
              rw [rw3_P] at I
              refine lv_iinc (k := 2) (v := nI (i + 1)) (lv' := [(6, .int (nI (i + 1))), (5, .int (nI 0)), (7, .int v), (4, .int (nI mo)), (0, .ref (ad 183)), (1, .int (nI w)), (2, .int (nI u)), (3, .int (nI 0))]) hx hb d_SpectrumDeskModel_bigDiffer_127 hl rfl (nI_1 i) (by decide) rfl (fun ls hl => ?_)
              refine lv_goto hx hb d_SpectrumDeskModel_bigDiffer_130 rfl ?_
              have hl := lv_sub hl [0, 1, 3, 4, 5, 6, 7] rfl
              have hl : lv_has ls 8 [(6, .int (nI (i + 1))), (5, .int (nI 0)), (4, .int (nI mo)), (0, .ref (ad 183)), (1, .int (nI w)), (2, .int (nI u)), (3, .int (nI 0))] := hl
              obtain ⟨s1, s2⟩ := less_step (b := bw) (b' := 0) (v := x - y - bw) hok (by omega) inv (by rw [x3, y3]; omega)
              exact ih (i + 1) 0 _ ls H locs (by omega) (by decide) (fun j hj => (upd_n (by omega)).trans (hfr j hj)) (fun j hj => (upd_n (by omega)).trans (hge j (by omega))) s1 s2 hl I
            · exact absurd hd hg
          · have h0 : v.toInt < 0 := (Int.lt_or_le v.toInt 0).elim id (fun h => absurd (Int32.le_iff_toInt_le.mpr (show (0 : Int32).toInt ≤ v.toInt from h)) hd)
            refine lv_iconst (v := nI 1) hx hb d_SpectrumDeskModel_bigDiffer_92 (by decide) ?_
            refine lv_goto hx hb d_SpectrumDeskModel_bigDiffer_93 rfl ?_
            refine lv_istore (lv' := [(5, .int (nI 1)), (7, .int v), (6, .int (nI i)), (4, .int (nI mo)), (0, .ref (ad 183)), (1, .int (nI w)), (2, .int (nI u)), (3, .int (nI 0))]) hx hb d_SpectrumDeskModel_bigDiffer_97 hl (by decide) rfl (fun ls hl => ?_)
            refine lv_aload_n hx hb d_SpectrumDeskModel_bigDiffer_99 rfl (lv_at hl 4 rfl) ?_
            refine xr_get X I fin_M 183 (by decide) (r183 ..) rfl 0 (by decide) (List.mem_cons_of_mem _ k_eae5455160) rfl (mF_parts hF) d_SpectrumDeskModel_bigDiffer_100 ?_
            refine lv_sipush (v := nI 300) hx hb d_SpectrumDeskModel_bigDiffer_103 (by decide) ?_
            refine lv_iload_n hx hb d_SpectrumDeskModel_bigDiffer_106 rfl (lv_at hl 5 rfl) ?_
            refine lv_imul hx hb d_SpectrumDeskModel_bigDiffer_107 (xr_topi (y := nI (300 * w)) (pk_mul 300 w) ?_)
            refine lv_iload hx hb d_SpectrumDeskModel_bigDiffer_108 (lv_at hl 2 rfl) ?_
            refine lv_iadd hx hb d_SpectrumDeskModel_bigDiffer_110 (xr_topi (y := nI ((300 * w) + i)) (nI_add (300 * w) i) ?_)
            refine lv_iload hx hb d_SpectrumDeskModel_bigDiffer_111 (lv_at hl 1 rfl) ?_
            refine lv_if_ge hx hb d_SpectrumDeskModel_bigDiffer_113 rfl (fun hg => ?_) (fun hg => ?_)
            · exact absurd hg hd
            · refine lv_iload hx hb d_SpectrumDeskModel_bigDiffer_116 (lv_at hl 1 rfl) ?_
              refine lv_ldc (v := nI 16777216) hx hb X.1.2.2.2.1 (X.1.2.2.2.2 _ (List.mem_cons_of_mem _ k_0f8e24087a)) d_SpectrumDeskModel_bigDiffer_118 ?_
              refine lv_iadd hx hb d_SpectrumDeskModel_bigDiffer_120 ?_
              refine xr_topi (y := nI (x + 16777216 - y - bw)) (q_iinj (by rw [q_iadd (by rw [nI_toInt (by decide)]; omega) (by rw [nI_toInt (by decide)]; omega), nI_toInt (by decide), nI_toInt (by omega)]; omega)) ?_
              refine lv_goto hx hb d_SpectrumDeskModel_bigDiffer_121 rfl ?_
              refine xr_iast X I 184 0 (by decide) (r184 ..) rfl (by omega) (by decide) d_SpectrumDeskModel_bigDiffer_126 (fun H locs I => ?_)
              rw [rw3_P] at I
              refine lv_iinc (k := 2) (v := nI (i + 1)) (lv' := [(6, .int (nI (i + 1))), (5, .int (nI 1)), (7, .int v), (4, .int (nI mo)), (0, .ref (ad 183)), (1, .int (nI w)), (2, .int (nI u)), (3, .int (nI 0))]) hx hb d_SpectrumDeskModel_bigDiffer_127 hl rfl (nI_1 i) (by decide) rfl (fun ls hl => ?_)
              refine lv_goto hx hb d_SpectrumDeskModel_bigDiffer_130 rfl ?_
              have hl := lv_sub hl [0, 1, 3, 4, 5, 6, 7] rfl
              have hl : lv_has ls 8 [(6, .int (nI (i + 1))), (5, .int (nI 1)), (4, .int (nI mo)), (0, .ref (ad 183)), (1, .int (nI w)), (2, .int (nI u)), (3, .int (nI 0))] := hl
              obtain ⟨s1, s2⟩ := less_step (b := bw) (b' := 1) (v := x + 16777216 - y - bw) hok (by omega) inv (by rw [x3, y3]; omega)
              exact ih (i + 1) 1 _ ls H locs (by omega) (by decide) (fun j hj => (upd_n (by omega)).trans (hfr j hj)) (fun j hj => (upd_n (by omega)).trans (hge j (by omega))) s1 s2 hl I
        · exact absurd rfl ht
  refine lv_aload_n hx hb d_SpectrumDeskModel_bigDiffer_0 rfl (lv_at hl 0 rfl) ?_
  refine xr_get X I fin_M 183 (by decide) (r183 ..) rfl 1 (by decide) (List.mem_cons_of_mem _ k_4ae214c350) rfl (mF_lengths hF) d_SpectrumDeskModel_bigDiffer_1 ?_
  refine lv_iload_n hx hb d_SpectrumDeskModel_bigDiffer_4 rfl (lv_at hl 1 rfl) ?_
  refine xr_iald X I 185 0 (by decide) (r185 ..) rfl (by omega) (by decide) d_SpectrumDeskModel_bigDiffer_5 ?_
  refine xr_topi (y := nI a) hLw ?_
  refine lv_aload_n hx hb d_SpectrumDeskModel_bigDiffer_6 rfl (lv_at hl 0 rfl) ?_
  refine xr_get X I fin_M 183 (by decide) (r183 ..) rfl 1 (by decide) (List.mem_cons_of_mem _ k_4ae214c350) rfl (mF_lengths hF) d_SpectrumDeskModel_bigDiffer_7 ?_
  refine lv_iload_n hx hb d_SpectrumDeskModel_bigDiffer_10 rfl (lv_at hl 2 rfl) ?_
  refine xr_iald X I 185 0 (by decide) (r185 ..) rfl (by omega) (by decide) d_SpectrumDeskModel_bigDiffer_11 ?_
  refine xr_topi (y := nI b) hLu ?_
  refine lv_icmp_le hx hb d_SpectrumDeskModel_bigDiffer_12 rfl (fun hc => ?_) (fun hc => ?_)
  · have hle : a ≤ b := (nI_leI (by omega) (by omega)).mp hc
    refine lv_aload_n hx hb d_SpectrumDeskModel_bigDiffer_24 rfl (lv_at hl 0 rfl) ?_
    refine xr_get X I fin_M 183 (by decide) (r183 ..) rfl 1 (by decide) (List.mem_cons_of_mem _ k_4ae214c350) rfl (mF_lengths hF) d_SpectrumDeskModel_bigDiffer_25 ?_
    refine lv_iload_n hx hb d_SpectrumDeskModel_bigDiffer_28 rfl (lv_at hl 2 rfl) ?_
    refine xr_iald X I 185 0 (by decide) (r185 ..) rfl (by omega) (by decide) d_SpectrumDeskModel_bigDiffer_29 ?_
    refine xr_topi (y := nI b) hLu ?_
    refine lv_istore (lv' := [(4, .int (nI b)), (0, .ref (ad 183)), (1, .int (nI w)), (2, .int (nI u)), (3, .int (nI 0))]) hx hb d_SpectrumDeskModel_bigDiffer_30 hl (by decide) rfl (fun ls hl => ?_)
    refine lv_iconst (v := nI 0) hx hb d_SpectrumDeskModel_bigDiffer_32 (by decide) ?_
    refine lv_istore (lv' := [(5, .int (nI 0)), (4, .int (nI b)), (0, .ref (ad 183)), (1, .int (nI w)), (2, .int (nI u)), (3, .int (nI 0))]) hx hb d_SpectrumDeskModel_bigDiffer_33 hl (by decide) rfl (fun ls hl => ?_)
    refine lv_iconst (v := nI 0) hx hb d_SpectrumDeskModel_bigDiffer_35 (by decide) ?_
    refine lv_istore (lv' := [(6, .int (nI 0)), (5, .int (nI 0)), (4, .int (nI b)), (0, .ref (ad 183)), (1, .int (nI w)), (2, .int (nI u)), (3, .int (nI 0))]) hx hb d_SpectrumDeskModel_bigDiffer_36 hl (by decide) rfl (fun ls hl => ?_)
    exact loop b (Or.inr ⟨rfl, hle⟩) b 0 0 P ls _ _ (by omega) (by decide) (fun _ _ => rfl) (fun _ _ => rfl) (fun j hj => absurd hj (Nat.not_lt_zero _)) (by simp [rg, dv]) hl I
  · have hle : b ≤ a := (Nat.le_total b a).elim id (fun h => absurd (nI_le h (by omega)) hc)
    refine lv_aload_n hx hb d_SpectrumDeskModel_bigDiffer_15 rfl (lv_at hl 0 rfl) ?_
    refine xr_get X I fin_M 183 (by decide) (r183 ..) rfl 1 (by decide) (List.mem_cons_of_mem _ k_4ae214c350) rfl (mF_lengths hF) d_SpectrumDeskModel_bigDiffer_16 ?_
    refine lv_iload_n hx hb d_SpectrumDeskModel_bigDiffer_19 rfl (lv_at hl 1 rfl) ?_
    refine xr_iald X I 185 0 (by decide) (r185 ..) rfl (by omega) (by decide) d_SpectrumDeskModel_bigDiffer_20 ?_
    refine xr_topi (y := nI a) hLw ?_
    refine lv_goto hx hb d_SpectrumDeskModel_bigDiffer_21 rfl ?_
    refine lv_istore (lv' := [(4, .int (nI a)), (0, .ref (ad 183)), (1, .int (nI w)), (2, .int (nI u)), (3, .int (nI 0))]) hx hb d_SpectrumDeskModel_bigDiffer_30 hl (by decide) rfl (fun ls hl => ?_)
    refine lv_iconst (v := nI 0) hx hb d_SpectrumDeskModel_bigDiffer_32 (by decide) ?_
    refine lv_istore (lv' := [(5, .int (nI 0)), (4, .int (nI a)), (0, .ref (ad 183)), (1, .int (nI w)), (2, .int (nI u)), (3, .int (nI 0))]) hx hb d_SpectrumDeskModel_bigDiffer_33 hl (by decide) rfl (fun ls hl => ?_)
    refine lv_iconst (v := nI 0) hx hb d_SpectrumDeskModel_bigDiffer_35 (by decide) ?_
    refine lv_istore (lv' := [(6, .int (nI 0)), (5, .int (nI 0)), (4, .int (nI a)), (0, .ref (ad 183)), (1, .int (nI w)), (2, .int (nI u)), (3, .int (nI 0))]) hx hb d_SpectrumDeskModel_bigDiffer_36 hl (by decide) rfl (fun ls hl => ?_)
    exact loop a (Or.inl ⟨rfl, hle⟩) a 0 0 P ls _ _ (by omega) (by decide) (fun _ _ => rfl) (fun _ _ => rfl) (fun j hj => absurd hj (Nat.not_lt_zero _)) (by simp [rg, dv]) hl I
set_option maxHeartbeats 4000000 in
set_option maxRecDepth 100000 in
theorem c_SpectrumDeskModel_bigDiffer1 {l : Launch} {D : va_G} {cI cJ cZ cC cG cP : ClassId} {ad : Nat → Nat} {σ0 : Nat → va_E} {fs : List Value} {P L M : Nat → Int32} {w u a b : Nat} (hF : mF ad fs) (hw : w < 112) (hu : u < 112) (hne : u ≠ w) (ha : a < 300) (hb9 : b < 300) (hLw : L w = nI a) (hLu : L u = nI b) (hwo : rg_ok P (300 * w) a) (huo : rg_ok P (300 * u) b) (hwt : 0 < a → P (300 * w + (a - 1)) ≠ 0) (hut : 0 < b → P (300 * u + (b - 1)) ≠ 0) (hge0 : 0 ≤ rg P (300 * u) b - rg P (300 * w) a) :
    Met l y_SpectrumDeskModel_bigDiffer v_SpectrumDeskModel_bigDiffer (xrm 1) (va_Pc [.ref (ad 183), .int (nI w), .int (nI u), .int (nI 1)] (xS D classes (xT cI cJ cZ cC cG cP) 193 ad (rw3 σ0 ciM cI cZ fs P L M))) (va_Qv (rm_up σ0 ciM cI cZ fs P L M w (rg P (300 * u) b - rg P (300 * w) a)) (xS D classes (xT cI cJ cZ cC cG cP) 193 ad) (xA 193 ad)) 0 0 (xA 193 ad) := by
  refine xr_met rfl (Nat.le_of_ble_eq_true rfl) ?_
  intro p e s m args below meth c ls hx hb X hr hlk hl I
  have hl : lv_has ls 8 [(0, .ref (ad 183)), (1, .int (nI w)), (2, .int (nI u)), (3, .int (nI 1))] := hl
  have loop : ∀ (mo : Nat) (hmx : (a = mo ∧ b ≤ mo) ∨ (b = mo ∧ a ≤ mo)) (k : Nat) (i bw : Nat) (P2 : Nat → Int32) (ls : Array Slot) (H : Heap) (locs : List Loc), i + k = mo → bw ≤ 1 → (∀ j, j < 300 * w ∨ 300 * w + 300 ≤ j → P2 j = P j) → (∀ j, i ≤ j → P2 (300 * w + j) = P (300 * w + j)) → rg_ok P2 (300 * w) i → rg P2 (300 * w) i = dv (dg P (300 * u) b) i - dv (dg P (300 * w) a) i + (bw : Int) * 16777216 ^ i → lv_has ls 8 [(6, .int (nI i)), (5, .int (nI bw)), (4, .int (nI mo)), (0, .ref (ad 183)), (1, .int (nI w)), (2, .int (nI u)), (3, .int (nI 1))] → xI D classes 193 ad s.heap (rw3 σ0 ciM cI cZ fs P2 L M) H locs → W p l e (xrm 1) s m args below meth c H locs 0 0 (MQ below (va_Qv (rm_up σ0 ciM cI cZ fs P L M w (rg P (300 * u) b - rg P (300 * w) a)) (xS D classes (xT cI cJ cZ cC cG cP) 193 ad) (xA 193 ad)) args s 0 0 (xA 193 ad)) (F0 m 38 ls []) := by
    intro mo hmx k
    induction k with
    | zero =>
      intro i bw P2 ls H locs hk hbw hfr hge hok inv hl I
      obtain rfl : i = mo := by omega
      refine lv_iload hx hb d_SpectrumDeskModel_bigDiffer_38 (lv_at hl 0 rfl) ?_
      refine lv_iload hx hb d_SpectrumDeskModel_bigDiffer_40 (lv_at hl 2 rfl) ?_
      refine lv_icmp_ge hx hb d_SpectrumDeskModel_bigDiffer_42 rfl (fun hc => ?_) (fun hc => ?_)
      · refine lv_aload_n hx hb d_SpectrumDeskModel_bigDiffer_133 rfl (lv_at hl 3 rfl) ?_
        refine xr_get X I fin_M 183 (by decide) (r183 ..) rfl 1 (by decide) (List.mem_cons_of_mem _ k_4ae214c350) rfl (mF_lengths hF) d_SpectrumDeskModel_bigDiffer_134 ?_
        refine lv_iload_n hx hb d_SpectrumDeskModel_bigDiffer_137 rfl (lv_at hl 4 rfl) ?_
        refine lv_iload hx hb d_SpectrumDeskModel_bigDiffer_138 (lv_at hl 2 rfl) ?_
        refine xr_iast X I 185 0 (by decide) (r185 ..) rfl (by omega) (by decide) d_SpectrumDeskModel_bigDiffer_140 (fun H locs I => ?_)
        rw [rw3_L] at I
        refine lv_aload_n hx hb d_SpectrumDeskModel_bigDiffer_141 rfl (lv_at hl 3 rfl) ?_
        refine lv_iload_n hx hb d_SpectrumDeskModel_bigDiffer_142 rfl (lv_at hl 4 rfl) ?_
        rw [dv_all (show _ ≤ i by omega), dv_all (show _ ≤ i by omega)] at inv
        have hb0 : bw = 0 := (Nat.eq_zero_or_pos bw).elim id (fun h => by
          have h1 := (rg_range hok).2
          have h2 : bw = 1 := by omega
          rw [h2] at inv
          have h3 : ((1 : Nat) : Int) * 16777216 ^ i = 16777216 ^ i := by simp
          rw [h3] at inv
          omega)
        rw [hb0] at inv; simp at inv
        refine xr_callv (xr_runV (kc := 0) (kr := 1) (n := 1) (As := [.int (nI w)]) (rest := []) X I (by decide) (r183 ..) rfl (c_SpectrumDeskModel_bigTrim (P := P2) (L := upd L w (nI i)) (M := M) (n := i) hF hw (by omega) upd_s) (xg k_10a67c202b) (List.mem_cons_of_mem _ k_fdf1e9da4b) (List.mem_cons_of_mem _ k_72a5102e81) (List.mem_cons_of_mem _ k_90f9c60262) (List.mem_cons_of_mem _ k_30fa15c9ac) (by decide +kernel) (by decide) rfl hl.1 rfl (Nat.le_of_ble_eq_true rfl) d_SpectrumDeskModel_bigDiffer_143) I (fun σ1 H locs hp I => ?_)
        obtain ⟨n2, t1, rfl, t2, t3⟩ := hp
        rw [upd_upd] at I
        exact xr_vret X I hr hlk ⟨P2, n2, rfl, by omega, hfr, rg_ok_le hok t1, t3, t2.trans (by omega)⟩ d_SpectrumDeskModel_bigDiffer_146
      · exact absurd (nI_le (Nat.le_refl _) (by omega)) hc
    | succ k ih =>
      intro i bw P2 ls H locs hk hbw hfr hge hok inv hl I
      refine lv_iload hx hb d_SpectrumDeskModel_bigDiffer_38 (lv_at hl 0 rfl) ?_
      refine lv_iload hx hb d_SpectrumDeskModel_bigDiffer_40 (lv_at hl 2 rfl) ?_
      refine lv_icmp_ge hx hb d_SpectrumDeskModel_bigDiffer_42 rfl (fun hc => ?_) (fun hc => ?_)
      · exact absurd hc (nI_ge (by omega) (by omega))
      · refine lv_iload_n hx hb d_SpectrumDeskModel_bigDiffer_45 rfl (lv_at hl 6 rfl) ?_
        refine lv_if_eq hx hb d_SpectrumDeskModel_bigDiffer_46 rfl (fun ht => ?_) (fun ht => ?_)
        · exact absurd ht (by decide)
        · refine lv_aload_n hx hb d_SpectrumDeskModel_bigDiffer_49 rfl (lv_at hl 3 rfl) ?_
          refine lv_iload_n hx hb d_SpectrumDeskModel_bigDiffer_50 rfl (lv_at hl 5 rfl) ?_
          refine lv_iload hx hb d_SpectrumDeskModel_bigDiffer_51 (lv_at hl 0 rfl) ?_
          refine xr_calli (xr_runV (kc := 0) (kr := 1) (n := 2) (As := [.int (nI u), .int (nI i)]) (rest := []) X I (by decide) (r183 ..) rfl (c_SpectrumDeskModel_bigAt (P := P2) (L := L) (M := M) (n := b) (i := i) hF hu (by omega) (by omega) hLu) (xg k_9795bdc343) (List.mem_cons_of_mem _ k_42414df306) (List.mem_cons_of_mem _ k_a35af8c930) (List.mem_cons_of_mem _ k_9a4475df0e) (List.mem_cons_of_mem _ k_30fa15c9ac) (by decide +kernel) (by decide) rfl hl.1 rfl (Nat.le_of_ble_eq_true rfl) d_SpectrumDeskModel_bigDiffer_53) I (fun r1 σ1 H locs hp I => ?_)
          obtain ⟨hp1, rfl⟩ := hp
          rw [hfr (300 * u + i) (by omega)] at hp1
          obtain ⟨x, x1, rfl, x3⟩ := dg_nat huo hp1
          refine lv_aload_n hx hb d_SpectrumDeskModel_bigDiffer_56 rfl (lv_at hl 3 rfl) ?_
          refine lv_iload_n hx hb d_SpectrumDeskModel_bigDiffer_57 rfl (lv_at hl 4 rfl) ?_
          refine lv_iload hx hb d_SpectrumDeskModel_bigDiffer_58 (lv_at hl 0 rfl) ?_
          refine xr_calli (xr_runV (kc := 0) (kr := 1) (n := 2) (As := [.int (nI w), .int (nI i)]) (rest := [.int (nI x)]) X I (by decide) (r183 ..) rfl (c_SpectrumDeskModel_bigAt (P := P2) (L := L) (M := M) (n := a) (i := i) hF hw (by omega) (by omega) hLw) (xg k_9795bdc343) (List.mem_cons_of_mem _ k_42414df306) (List.mem_cons_of_mem _ k_a35af8c930) (List.mem_cons_of_mem _ k_9a4475df0e) (List.mem_cons_of_mem _ k_30fa15c9ac) (by decide +kernel) (by decide) rfl hl.1 rfl (Nat.le_of_ble_eq_true rfl) d_SpectrumDeskModel_bigDiffer_60) I (fun r1 σ1 H locs hp I => ?_)
          obtain ⟨hp1, rfl⟩ := hp
          rw [hge i (Nat.le_refl _)] at hp1
          obtain ⟨y, y1, rfl, y3⟩ := dg_nat hwo hp1
          refine lv_isub hx hb d_SpectrumDeskModel_bigDiffer_63 ?_
          refine lv_goto hx hb d_SpectrumDeskModel_bigDiffer_64 rfl ?_
          refine lv_iload hx hb d_SpectrumDeskModel_bigDiffer_82 (lv_at hl 1 rfl) ?_
          refine lv_isub hx hb d_SpectrumDeskModel_bigDiffer_84 ?_
          refine lv_topi (fun v ev => ?_)
          have hv : v.toInt = (x : Int) - y - bw := by rw [ev, q_isub (by rw [q_isub (by rw [nI_toInt (by omega), nI_toInt (by omega)]; omega) (by rw [nI_toInt (by omega), nI_toInt (by omega)]; omega), nI_toInt (by omega), nI_toInt (by omega), nI_toInt (by omega)]; omega) (by rw [q_isub (by rw [nI_toInt (by omega), nI_toInt (by omega)]; omega) (by rw [nI_toInt (by omega), nI_toInt (by omega)]; omega), nI_toInt (by omega), nI_toInt (by omega), nI_toInt (by omega)]; omega), q_isub (by rw [nI_toInt (by omega), nI_toInt (by omega)]; omega) (by rw [nI_toInt (by omega), nI_toInt (by omega)]; omega), nI_toInt (by omega), nI_toInt (by omega), nI_toInt (by omega)]
          refine lv_istore (lv' := [(7, .int v), (6, .int (nI i)), (5, .int (nI bw)), (4, .int (nI mo)), (0, .ref (ad 183)), (1, .int (nI w)), (2, .int (nI u)), (3, .int (nI 1))]) hx hb d_SpectrumDeskModel_bigDiffer_85 hl (by decide) rfl (fun ls hl => ?_)
          refine lv_iload hx hb d_SpectrumDeskModel_bigDiffer_87 (lv_at hl 0 rfl) ?_
          refine lv_if_ge hx hb d_SpectrumDeskModel_bigDiffer_89 rfl (fun hd => ?_) (fun hd => ?_)
          · have h0 : 0 ≤ v.toInt := Int32.le_iff_toInt_le.mp hd
            refine lv_iconst (v := nI 0) hx hb d_SpectrumDeskModel_bigDiffer_96 (by decide) ?_
            refine lv_istore (lv' := [(5, .int (nI 0)), (7, .int v), (6, .int (nI i)), (4, .int (nI mo)), (0, .ref (ad 183)), (1, .int (nI w)), (2, .int (nI u)), (3, .int (nI 1))]) hx hb d_SpectrumDeskModel_bigDiffer_97 hl (by decide) rfl (fun ls hl => ?_)
            refine lv_aload_n hx hb d_SpectrumDeskModel_bigDiffer_99 rfl (lv_at hl 4 rfl) ?_
            refine xr_get X I fin_M 183 (by decide) (r183 ..) rfl 0 (by decide) (List.mem_cons_of_mem _ k_eae5455160) rfl (mF_parts hF) d_SpectrumDeskModel_bigDiffer_100 ?_
            refine lv_sipush (v := nI 300) hx hb d_SpectrumDeskModel_bigDiffer_103 (by decide) ?_
            refine lv_iload_n hx hb d_SpectrumDeskModel_bigDiffer_106 rfl (lv_at hl 5 rfl) ?_
            refine lv_imul hx hb d_SpectrumDeskModel_bigDiffer_107 (xr_topi (y := nI (300 * w)) (pk_mul 300 w) ?_)
            refine lv_iload hx hb d_SpectrumDeskModel_bigDiffer_108 (lv_at hl 2 rfl) ?_
            refine lv_iadd hx hb d_SpectrumDeskModel_bigDiffer_110 (xr_topi (y := nI ((300 * w) + i)) (nI_add (300 * w) i) ?_)
            refine lv_iload hx hb d_SpectrumDeskModel_bigDiffer_111 (lv_at hl 1 rfl) ?_
            refine lv_if_ge hx hb d_SpectrumDeskModel_bigDiffer_113 rfl (fun hg => ?_) (fun hg => ?_)
            · refine lv_iload hx hb d_SpectrumDeskModel_bigDiffer_124 (lv_at hl 1 rfl) ?_
              refine xr_topi (y := nI (x - y - bw)) (q_iinj (by rw [nI_toInt (by omega)]; omega)) ?_
              refine xr_iast X I 184 0 (by decide) (r184 ..) rfl (by omega) (by decide) d_SpectrumDeskModel_bigDiffer_126 (fun H locs I => ?_)
              rw [rw3_P] at I
              refine lv_iinc (k := 2) (v := nI (i + 1)) (lv' := [(6, .int (nI (i + 1))), (5, .int (nI 0)), (7, .int v), (4, .int (nI mo)), (0, .ref (ad 183)), (1, .int (nI w)), (2, .int (nI u)), (3, .int (nI 1))]) hx hb d_SpectrumDeskModel_bigDiffer_127 hl rfl (nI_1 i) (by decide) rfl (fun ls hl => ?_)
              refine lv_goto hx hb d_SpectrumDeskModel_bigDiffer_130 rfl ?_
              have hl := lv_sub hl [0, 1, 3, 4, 5, 6, 7] rfl
              have hl : lv_has ls 8 [(6, .int (nI (i + 1))), (5, .int (nI 0)), (4, .int (nI mo)), (0, .ref (ad 183)), (1, .int (nI w)), (2, .int (nI u)), (3, .int (nI 1))] := hl
              obtain ⟨s1, s2⟩ := less_step (b := bw) (b' := 0) (v := x - y - bw) hok (by omega) inv (by rw [x3, y3]; omega)
              exact ih (i + 1) 0 _ ls H locs (by omega) (by decide) (fun j hj => (upd_n (by omega)).trans (hfr j hj)) (fun j hj => (upd_n (by omega)).trans (hge j (by omega))) s1 s2 hl I
            · exact absurd hd hg
          · have h0 : v.toInt < 0 := (Int.lt_or_le v.toInt 0).elim id (fun h => absurd (Int32.le_iff_toInt_le.mpr (show (0 : Int32).toInt ≤ v.toInt from h)) hd)
            refine lv_iconst (v := nI 1) hx hb d_SpectrumDeskModel_bigDiffer_92 (by decide) ?_
            refine lv_goto hx hb d_SpectrumDeskModel_bigDiffer_93 rfl ?_
            refine lv_istore (lv' := [(5, .int (nI 1)), (7, .int v), (6, .int (nI i)), (4, .int (nI mo)), (0, .ref (ad 183)), (1, .int (nI w)), (2, .int (nI u)), (3, .int (nI 1))]) hx hb d_SpectrumDeskModel_bigDiffer_97 hl (by decide) rfl (fun ls hl => ?_)
            refine lv_aload_n hx hb d_SpectrumDeskModel_bigDiffer_99 rfl (lv_at hl 4 rfl) ?_
            refine xr_get X I fin_M 183 (by decide) (r183 ..) rfl 0 (by decide) (List.mem_cons_of_mem _ k_eae5455160) rfl (mF_parts hF) d_SpectrumDeskModel_bigDiffer_100 ?_
            refine lv_sipush (v := nI 300) hx hb d_SpectrumDeskModel_bigDiffer_103 (by decide) ?_
            refine lv_iload_n hx hb d_SpectrumDeskModel_bigDiffer_106 rfl (lv_at hl 5 rfl) ?_
            refine lv_imul hx hb d_SpectrumDeskModel_bigDiffer_107 (xr_topi (y := nI (300 * w)) (pk_mul 300 w) ?_)
            refine lv_iload hx hb d_SpectrumDeskModel_bigDiffer_108 (lv_at hl 2 rfl) ?_
            refine lv_iadd hx hb d_SpectrumDeskModel_bigDiffer_110 (xr_topi (y := nI ((300 * w) + i)) (nI_add (300 * w) i) ?_)
            refine lv_iload hx hb d_SpectrumDeskModel_bigDiffer_111 (lv_at hl 1 rfl) ?_
            refine lv_if_ge hx hb d_SpectrumDeskModel_bigDiffer_113 rfl (fun hg => ?_) (fun hg => ?_)
            · exact absurd hg hd
            · refine lv_iload hx hb d_SpectrumDeskModel_bigDiffer_116 (lv_at hl 1 rfl) ?_
              refine lv_ldc (v := nI 16777216) hx hb X.1.2.2.2.1 (X.1.2.2.2.2 _ (List.mem_cons_of_mem _ k_0f8e24087a)) d_SpectrumDeskModel_bigDiffer_118 ?_
              refine lv_iadd hx hb d_SpectrumDeskModel_bigDiffer_120 ?_
              refine xr_topi (y := nI (x + 16777216 - y - bw)) (q_iinj (by rw [q_iadd (by rw [nI_toInt (by decide)]; omega) (by rw [nI_toInt (by decide)]; omega), nI_toInt (by decide), nI_toInt (by omega)]; omega)) ?_
              refine lv_goto hx hb d_SpectrumDeskModel_bigDiffer_121 rfl ?_
              refine xr_iast X I 184 0 (by decide) (r184 ..) rfl (by omega) (by decide) d_SpectrumDeskModel_bigDiffer_126 (fun H locs I => ?_)
              rw [rw3_P] at I
              refine lv_iinc (k := 2) (v := nI (i + 1)) (lv' := [(6, .int (nI (i + 1))), (5, .int (nI 1)), (7, .int v), (4, .int (nI mo)), (0, .ref (ad 183)), (1, .int (nI w)), (2, .int (nI u)), (3, .int (nI 1))]) hx hb d_SpectrumDeskModel_bigDiffer_127 hl rfl (nI_1 i) (by decide) rfl (fun ls hl => ?_)
              refine lv_goto hx hb d_SpectrumDeskModel_bigDiffer_130 rfl ?_
              have hl := lv_sub hl [0, 1, 3, 4, 5, 6, 7] rfl
              have hl : lv_has ls 8 [(6, .int (nI (i + 1))), (5, .int (nI 1)), (4, .int (nI mo)), (0, .ref (ad 183)), (1, .int (nI w)), (2, .int (nI u)), (3, .int (nI 1))] := hl
              obtain ⟨s1, s2⟩ := less_step (b := bw) (b' := 1) (v := x + 16777216 - y - bw) hok (by omega) inv (by rw [x3, y3]; omega)
              exact ih (i + 1) 1 _ ls H locs (by omega) (by decide) (fun j hj => (upd_n (by omega)).trans (hfr j hj)) (fun j hj => (upd_n (by omega)).trans (hge j (by omega))) s1 s2 hl I
  refine lv_aload_n hx hb d_SpectrumDeskModel_bigDiffer_0 rfl (lv_at hl 0 rfl) ?_
  refine xr_get X I fin_M 183 (by decide) (r183 ..) rfl 1 (by decide) (List.mem_cons_of_mem _ k_4ae214c350) rfl (mF_lengths hF) d_SpectrumDeskModel_bigDiffer_1 ?_
  refine lv_iload_n hx hb d_SpectrumDeskModel_bigDiffer_4 rfl (lv_at hl 1 rfl) ?_
  refine xr_iald X I 185 0 (by decide) (r185 ..) rfl (by omega) (by decide) d_SpectrumDeskModel_bigDiffer_5 ?_
  refine xr_topi (y := nI a) hLw ?_
  refine lv_aload_n hx hb d_SpectrumDeskModel_bigDiffer_6 rfl (lv_at hl 0 rfl) ?_
  refine xr_get X I fin_M 183 (by decide) (r183 ..) rfl 1 (by decide) (List.mem_cons_of_mem _ k_4ae214c350) rfl (mF_lengths hF) d_SpectrumDeskModel_bigDiffer_7 ?_
  refine lv_iload_n hx hb d_SpectrumDeskModel_bigDiffer_10 rfl (lv_at hl 2 rfl) ?_
  refine xr_iald X I 185 0 (by decide) (r185 ..) rfl (by omega) (by decide) d_SpectrumDeskModel_bigDiffer_11 ?_
  refine xr_topi (y := nI b) hLu ?_
  refine lv_icmp_le hx hb d_SpectrumDeskModel_bigDiffer_12 rfl (fun hc => ?_) (fun hc => ?_)
  · have hle : a ≤ b := (nI_leI (by omega) (by omega)).mp hc
    refine lv_aload_n hx hb d_SpectrumDeskModel_bigDiffer_24 rfl (lv_at hl 0 rfl) ?_
    refine xr_get X I fin_M 183 (by decide) (r183 ..) rfl 1 (by decide) (List.mem_cons_of_mem _ k_4ae214c350) rfl (mF_lengths hF) d_SpectrumDeskModel_bigDiffer_25 ?_
    refine lv_iload_n hx hb d_SpectrumDeskModel_bigDiffer_28 rfl (lv_at hl 2 rfl) ?_
    refine xr_iald X I 185 0 (by decide) (r185 ..) rfl (by omega) (by decide) d_SpectrumDeskModel_bigDiffer_29 ?_
    refine xr_topi (y := nI b) hLu ?_
    refine lv_istore (lv' := [(4, .int (nI b)), (0, .ref (ad 183)), (1, .int (nI w)), (2, .int (nI u)), (3, .int (nI 1))]) hx hb d_SpectrumDeskModel_bigDiffer_30 hl (by decide) rfl (fun ls hl => ?_)
    refine lv_iconst (v := nI 0) hx hb d_SpectrumDeskModel_bigDiffer_32 (by decide) ?_
    refine lv_istore (lv' := [(5, .int (nI 0)), (4, .int (nI b)), (0, .ref (ad 183)), (1, .int (nI w)), (2, .int (nI u)), (3, .int (nI 1))]) hx hb d_SpectrumDeskModel_bigDiffer_33 hl (by decide) rfl (fun ls hl => ?_)
    refine lv_iconst (v := nI 0) hx hb d_SpectrumDeskModel_bigDiffer_35 (by decide) ?_
    refine lv_istore (lv' := [(6, .int (nI 0)), (5, .int (nI 0)), (4, .int (nI b)), (0, .ref (ad 183)), (1, .int (nI w)), (2, .int (nI u)), (3, .int (nI 1))]) hx hb d_SpectrumDeskModel_bigDiffer_36 hl (by decide) rfl (fun ls hl => ?_)
    exact loop b (Or.inr ⟨rfl, hle⟩) b 0 0 P ls _ _ (by omega) (by decide) (fun _ _ => rfl) (fun _ _ => rfl) (fun j hj => absurd hj (Nat.not_lt_zero _)) (by simp [rg, dv]) hl I
  · have hle : b ≤ a := (Nat.le_total b a).elim id (fun h => absurd (nI_le h (by omega)) hc)
    refine lv_aload_n hx hb d_SpectrumDeskModel_bigDiffer_15 rfl (lv_at hl 0 rfl) ?_
    refine xr_get X I fin_M 183 (by decide) (r183 ..) rfl 1 (by decide) (List.mem_cons_of_mem _ k_4ae214c350) rfl (mF_lengths hF) d_SpectrumDeskModel_bigDiffer_16 ?_
    refine lv_iload_n hx hb d_SpectrumDeskModel_bigDiffer_19 rfl (lv_at hl 1 rfl) ?_
    refine xr_iald X I 185 0 (by decide) (r185 ..) rfl (by omega) (by decide) d_SpectrumDeskModel_bigDiffer_20 ?_
    refine xr_topi (y := nI a) hLw ?_
    refine lv_goto hx hb d_SpectrumDeskModel_bigDiffer_21 rfl ?_
    refine lv_istore (lv' := [(4, .int (nI a)), (0, .ref (ad 183)), (1, .int (nI w)), (2, .int (nI u)), (3, .int (nI 1))]) hx hb d_SpectrumDeskModel_bigDiffer_30 hl (by decide) rfl (fun ls hl => ?_)
    refine lv_iconst (v := nI 0) hx hb d_SpectrumDeskModel_bigDiffer_32 (by decide) ?_
    refine lv_istore (lv' := [(5, .int (nI 0)), (4, .int (nI a)), (0, .ref (ad 183)), (1, .int (nI w)), (2, .int (nI u)), (3, .int (nI 1))]) hx hb d_SpectrumDeskModel_bigDiffer_33 hl (by decide) rfl (fun ls hl => ?_)
    refine lv_iconst (v := nI 0) hx hb d_SpectrumDeskModel_bigDiffer_35 (by decide) ?_
    refine lv_istore (lv' := [(6, .int (nI 0)), (5, .int (nI 0)), (4, .int (nI a)), (0, .ref (ad 183)), (1, .int (nI w)), (2, .int (nI u)), (3, .int (nI 1))]) hx hb d_SpectrumDeskModel_bigDiffer_36 hl (by decide) rfl (fun ls hl => ?_)
    exact loop a (Or.inl ⟨rfl, hle⟩) a 0 0 P ls _ _ (by omega) (by decide) (fun _ _ => rfl) (fun _ _ => rfl) (fun j hj => absurd hj (Nat.not_lt_zero _)) (by simp [rg, dv]) hl I
set_option maxHeartbeats 4000000 in
set_option maxRecDepth 100000 in
theorem c_SpectrumDeskModel_bigAdd0 {l : Launch} {D : va_G} {cI cJ cZ cC cG cP : ClassId} {ad : Nat → Nat} {σ0 : Nat → va_E} {fs : List Value} {P L M : Nat → Int32} {w u : Nat} {x y : Int} (hF : mF ad fs) (hw : w < 112) (hu : u < 112) (hne : u ≠ w) (hx0 : rb P L M w x) (hy0 : rb P L M u y) (hxb : rbd x) (hyb : rbd y) :
    Met l y_SpectrumDeskModel_bigAdd v_SpectrumDeskModel_bigAdd (xrm 2) (va_Pc [.ref (ad 183), .int (nI w), .int (nI u), .int (nI 0)] (xS D classes (xT cI cJ cZ cC cG cP) 193 ad (rw3 σ0 ciM cI cZ fs P L M))) (va_Qv (rb_up σ0 ciM cI cZ fs P L M w (x + y)) (xS D classes (xT cI cJ cZ cC cG cP) 193 ad) (xA 193 ad)) 0 0 (xA 193 ad) := by
  obtain ⟨a, a1, hLw, hwo, hwt, hsw⟩ := hx0
  obtain ⟨b, b1, hLu, huo, hut, hsu⟩ := hy0
  have hA := (rg_range hwo).1
  have hB := (rg_range huo).1
  have ha : a < 300 := by have := rb_len (k := 299) hwo hwt (show _ < rBB from by have h1 : -rBB < x := hxb.1; have h2 : x < rBB := hxb.2; omega); omega
  have hb9 : b < 300 := by have := rb_len (k := 299) huo hut (show _ < rBB from by have h1 : -rBB < y := hyb.1; have h2 : y < rBB := hyb.2; omega); omega
  refine xr_met rfl (Nat.le_of_ble_eq_true rfl) ?_
  intro p e s m args below meth c ls hx hb X hr hlk hl I
  have hl : lv_has ls 5 [(0, .ref (ad 183)), (1, .int (nI w)), (2, .int (nI u)), (3, .int (nI 0))] := hl
  rcases hsw with ⟨hmw, hxe⟩ | ⟨hmw, hxe⟩ <;> rcases hsu with ⟨hmu, hye⟩ | ⟨hmu, hye⟩
  · refine lv_aload_n hx hb d_SpectrumDeskModel_bigAdd_0 rfl (lv_at hl 0 rfl) ?_
    refine xr_get X I fin_M 183 (by decide) (r183 ..) rfl 2 (by decide) (List.mem_cons_of_mem _ k_7646d4378e) rfl (mF_minus hF) d_SpectrumDeskModel_bigAdd_1 ?_
    refine lv_iload_n hx hb d_SpectrumDeskModel_bigAdd_4 rfl (lv_at hl 2 rfl) ?_
    refine xr_zald X I 186 2 (by decide) (r186 ..) rfl (by omega) (by decide) d_SpectrumDeskModel_bigAdd_5 ?_
    refine xr_topi (y := nI 0) hmu ?_
    refine lv_iload_n hx hb d_SpectrumDeskModel_bigAdd_6 rfl (lv_at hl 3 rfl) ?_
    refine lv_icmp_eq hx hb d_SpectrumDeskModel_bigAdd_7 rfl (fun hc => ?_) (fun hc => ?_)
    · refine lv_iconst (v := nI 0) hx hb d_SpectrumDeskModel_bigAdd_14 (by decide) ?_
      refine lv_istore (lv' := [(4, .int (nI 0)), (0, .ref (ad 183)), (1, .int (nI w)), (2, .int (nI u)), (3, .int (nI 0))]) hx hb d_SpectrumDeskModel_bigAdd_15 hl (by decide) rfl (fun ls hl => ?_)
      refine lv_aload_n hx hb d_SpectrumDeskModel_bigAdd_17 rfl (lv_at hl 1 rfl) ?_
      refine xr_get X I fin_M 183 (by decide) (r183 ..) rfl 2 (by decide) (List.mem_cons_of_mem _ k_7646d4378e) rfl (mF_minus hF) d_SpectrumDeskModel_bigAdd_18 ?_
      refine lv_iload_n hx hb d_SpectrumDeskModel_bigAdd_21 rfl (lv_at hl 2 rfl) ?_
      refine xr_zald X I 186 2 (by decide) (r186 ..) rfl (by omega) (by decide) d_SpectrumDeskModel_bigAdd_22 ?_
      refine xr_topi (y := nI 0) hmw ?_
      refine lv_iload hx hb d_SpectrumDeskModel_bigAdd_23 (lv_at hl 0 rfl) ?_
      refine lv_icmp_ne hx hb d_SpectrumDeskModel_bigAdd_25 rfl (fun he => ?_) (fun he => ?_)
      · exact absurd rfl he
      · refine lv_aload_n hx hb d_SpectrumDeskModel_bigAdd_28 rfl (lv_at hl 1 rfl) ?_
        refine lv_iload_n hx hb d_SpectrumDeskModel_bigAdd_29 rfl (lv_at hl 2 rfl) ?_
        refine lv_iload_n hx hb d_SpectrumDeskModel_bigAdd_30 rfl (lv_at hl 3 rfl) ?_
        refine xr_callv (xr_runV (kc := 1) (kr := 2) (n := 2) (As := [.int (nI w), .int (nI u)]) (rest := []) X I (by decide) (r183 ..) rfl (c_SpectrumDeskModel_bigMore hF hw hu hne ha hb9 hLw hLu hwo huo hwt hut) (xg k_ff14552d82) (List.mem_cons_of_mem _ k_72a62daed8) (List.mem_cons_of_mem _ k_4e1eb4d18f) (List.mem_cons_of_mem _ k_7fffc0722b) (List.mem_cons_of_mem _ k_30fa15c9ac) (by decide +kernel) (by decide) rfl hl.1 rfl (Nat.le_of_ble_eq_true rfl) d_SpectrumDeskModel_bigAdd_31) I (fun σ1 H locs hp I => ?_)
        refine lv_goto hx hb d_SpectrumDeskModel_bigAdd_34 rfl ?_
        exact xr_vret X I hr hlk (rm_rb hp (Or.inl ⟨hmw, by omega⟩)) d_SpectrumDeskModel_bigAdd_71
    · exact absurd rfl hc
  · refine lv_aload_n hx hb d_SpectrumDeskModel_bigAdd_0 rfl (lv_at hl 0 rfl) ?_
    refine xr_get X I fin_M 183 (by decide) (r183 ..) rfl 2 (by decide) (List.mem_cons_of_mem _ k_7646d4378e) rfl (mF_minus hF) d_SpectrumDeskModel_bigAdd_1 ?_
    refine lv_iload_n hx hb d_SpectrumDeskModel_bigAdd_4 rfl (lv_at hl 2 rfl) ?_
    refine xr_zald X I 186 2 (by decide) (r186 ..) rfl (by omega) (by decide) d_SpectrumDeskModel_bigAdd_5 ?_
    refine xr_topi (y := nI 1) hmu ?_
    refine lv_iload_n hx hb d_SpectrumDeskModel_bigAdd_6 rfl (lv_at hl 3 rfl) ?_
    refine lv_icmp_eq hx hb d_SpectrumDeskModel_bigAdd_7 rfl (fun hc => ?_) (fun hc => ?_)
    · exact absurd hc (by decide)
    · refine lv_iconst (v := nI 1) hx hb d_SpectrumDeskModel_bigAdd_10 (by decide) ?_
      refine lv_goto hx hb d_SpectrumDeskModel_bigAdd_11 rfl ?_
      refine lv_istore (lv' := [(4, .int (nI 1)), (0, .ref (ad 183)), (1, .int (nI w)), (2, .int (nI u)), (3, .int (nI 0))]) hx hb d_SpectrumDeskModel_bigAdd_15 hl (by decide) rfl (fun ls hl => ?_)
      refine lv_aload_n hx hb d_SpectrumDeskModel_bigAdd_17 rfl (lv_at hl 1 rfl) ?_
      refine xr_get X I fin_M 183 (by decide) (r183 ..) rfl 2 (by decide) (List.mem_cons_of_mem _ k_7646d4378e) rfl (mF_minus hF) d_SpectrumDeskModel_bigAdd_18 ?_
      refine lv_iload_n hx hb d_SpectrumDeskModel_bigAdd_21 rfl (lv_at hl 2 rfl) ?_
      refine xr_zald X I 186 2 (by decide) (r186 ..) rfl (by omega) (by decide) d_SpectrumDeskModel_bigAdd_22 ?_
      refine xr_topi (y := nI 0) hmw ?_
      refine lv_iload hx hb d_SpectrumDeskModel_bigAdd_23 (lv_at hl 0 rfl) ?_
      refine lv_icmp_ne hx hb d_SpectrumDeskModel_bigAdd_25 rfl (fun he => ?_) (fun he => ?_)
      · refine lv_aload_n hx hb d_SpectrumDeskModel_bigAdd_37 rfl (lv_at hl 1 rfl) ?_
        refine lv_iload_n hx hb d_SpectrumDeskModel_bigAdd_38 rfl (lv_at hl 2 rfl) ?_
        refine lv_iload_n hx hb d_SpectrumDeskModel_bigAdd_39 rfl (lv_at hl 3 rfl) ?_
        refine xr_calli (xr_runV (kc := 1) (kr := 2) (n := 2) (As := [.int (nI w), .int (nI u)]) (rest := []) X I (by decide) (r183 ..) rfl (c_SpectrumDeskModel_bigSizes hF hw hu hne ha hb9 hLw hLu hwo huo hwt hut) (xg k_99203b0091) (List.mem_cons_of_mem _ k_c0032b460a) (List.mem_cons_of_mem _ k_cf2ddaaf03) (List.mem_cons_of_mem _ k_af57503f5d) (List.mem_cons_of_mem _ k_30fa15c9ac) (by decide +kernel) (by decide) rfl hl.1 rfl (Nat.le_of_ble_eq_true rfl) d_SpectrumDeskModel_bigAdd_40) I (fun r1 σ1 H locs hp I => ?_)
        obtain ⟨rfl, rfl⟩ := hp
        refine lv_if_lt hx hb d_SpectrumDeskModel_bigAdd_43 rfl (fun hd => ?_) (fun hd => ?_)
        · have hlt := sg_neg.mp hd
          refine lv_aload_n hx hb d_SpectrumDeskModel_bigAdd_56 rfl (lv_at hl 1 rfl) ?_
          refine lv_iload_n hx hb d_SpectrumDeskModel_bigAdd_57 rfl (lv_at hl 2 rfl) ?_
          refine lv_iload_n hx hb d_SpectrumDeskModel_bigAdd_58 rfl (lv_at hl 3 rfl) ?_
          refine lv_iconst (v := nI 1) hx hb d_SpectrumDeskModel_bigAdd_59 (by decide) ?_
          refine xr_callv (xr_runV (kc := 1) (kr := 2) (n := 3) (As := [.int (nI w), .int (nI u), .int (nI 1)]) (rest := []) X I (by decide) (r183 ..) rfl (c_SpectrumDeskModel_bigDiffer1 hF hw hu hne ha hb9 hLw hLu hwo huo hwt hut (by omega)) (xg k_72c7a99444) (List.mem_cons_of_mem _ k_6543122d39) (List.mem_cons_of_mem _ k_f670f9e174) (List.mem_cons_of_mem _ k_3e9fe204cb) (List.mem_cons_of_mem _ k_30fa15c9ac) (by decide +kernel) (by decide) rfl hl.1 rfl (Nat.le_of_ble_eq_true rfl) d_SpectrumDeskModel_bigAdd_60) I (fun σ1 H locs hp I => ?_)
          obtain ⟨P', n', rfl, h1, h2, h3, h4, h5⟩ := hp
          refine lv_aload_n hx hb d_SpectrumDeskModel_bigAdd_63 rfl (lv_at hl 1 rfl) ?_
          refine xr_get X I fin_M 183 (by decide) (r183 ..) rfl 2 (by decide) (List.mem_cons_of_mem _ k_7646d4378e) rfl (mF_minus hF) d_SpectrumDeskModel_bigAdd_64 ?_
          refine lv_iload_n hx hb d_SpectrumDeskModel_bigAdd_67 rfl (lv_at hl 2 rfl) ?_
          refine lv_iload hx hb d_SpectrumDeskModel_bigAdd_68 (lv_at hl 0 rfl) ?_
          refine xr_zast X I 186 2 (by decide) (r186 ..) rfl (by omega) (by decide) d_SpectrumDeskModel_bigAdd_70 (fun H locs I => ?_)
          rw [rw3_M, show vp_nar .boolean (nI 1) = nI 1 by decide] at I
          exact xr_vret X I hr hlk ⟨P', _, _, rfl, ⟨h2, fun j hj => upd_n hj, fun j hj => upd_n hj⟩, n', h1, upd_s, h3, h4, Or.inr ⟨upd_s, by omega⟩⟩ d_SpectrumDeskModel_bigAdd_71
        · have hge : ¬ rg P (300 * w) a - rg P (300 * u) b < 0 := fun h => hd (sg_neg.mpr h)
          refine lv_aload_n hx hb d_SpectrumDeskModel_bigAdd_46 rfl (lv_at hl 1 rfl) ?_
          refine lv_iload_n hx hb d_SpectrumDeskModel_bigAdd_47 rfl (lv_at hl 2 rfl) ?_
          refine lv_iload_n hx hb d_SpectrumDeskModel_bigAdd_48 rfl (lv_at hl 3 rfl) ?_
          refine lv_iconst (v := nI 0) hx hb d_SpectrumDeskModel_bigAdd_49 (by decide) ?_
          refine xr_callv (xr_runV (kc := 1) (kr := 2) (n := 3) (As := [.int (nI w), .int (nI u), .int (nI 0)]) (rest := []) X I (by decide) (r183 ..) rfl (c_SpectrumDeskModel_bigDiffer0 hF hw hu hne ha hb9 hLw hLu hwo huo hwt hut (by omega)) (xg k_72c7a99444) (List.mem_cons_of_mem _ k_6543122d39) (List.mem_cons_of_mem _ k_f670f9e174) (List.mem_cons_of_mem _ k_3e9fe204cb) (List.mem_cons_of_mem _ k_30fa15c9ac) (by decide +kernel) (by decide) rfl hl.1 rfl (Nat.le_of_ble_eq_true rfl) d_SpectrumDeskModel_bigAdd_50) I (fun σ1 H locs hp I => ?_)
          refine lv_goto hx hb d_SpectrumDeskModel_bigAdd_53 rfl ?_
          exact xr_vret X I hr hlk (rm_rb hp (Or.inl ⟨hmw, by omega⟩)) d_SpectrumDeskModel_bigAdd_71
      · exact absurd he (by decide)
  · refine lv_aload_n hx hb d_SpectrumDeskModel_bigAdd_0 rfl (lv_at hl 0 rfl) ?_
    refine xr_get X I fin_M 183 (by decide) (r183 ..) rfl 2 (by decide) (List.mem_cons_of_mem _ k_7646d4378e) rfl (mF_minus hF) d_SpectrumDeskModel_bigAdd_1 ?_
    refine lv_iload_n hx hb d_SpectrumDeskModel_bigAdd_4 rfl (lv_at hl 2 rfl) ?_
    refine xr_zald X I 186 2 (by decide) (r186 ..) rfl (by omega) (by decide) d_SpectrumDeskModel_bigAdd_5 ?_
    refine xr_topi (y := nI 0) hmu ?_
    refine lv_iload_n hx hb d_SpectrumDeskModel_bigAdd_6 rfl (lv_at hl 3 rfl) ?_
    refine lv_icmp_eq hx hb d_SpectrumDeskModel_bigAdd_7 rfl (fun hc => ?_) (fun hc => ?_)
    · refine lv_iconst (v := nI 0) hx hb d_SpectrumDeskModel_bigAdd_14 (by decide) ?_
      refine lv_istore (lv' := [(4, .int (nI 0)), (0, .ref (ad 183)), (1, .int (nI w)), (2, .int (nI u)), (3, .int (nI 0))]) hx hb d_SpectrumDeskModel_bigAdd_15 hl (by decide) rfl (fun ls hl => ?_)
      refine lv_aload_n hx hb d_SpectrumDeskModel_bigAdd_17 rfl (lv_at hl 1 rfl) ?_
      refine xr_get X I fin_M 183 (by decide) (r183 ..) rfl 2 (by decide) (List.mem_cons_of_mem _ k_7646d4378e) rfl (mF_minus hF) d_SpectrumDeskModel_bigAdd_18 ?_
      refine lv_iload_n hx hb d_SpectrumDeskModel_bigAdd_21 rfl (lv_at hl 2 rfl) ?_
      refine xr_zald X I 186 2 (by decide) (r186 ..) rfl (by omega) (by decide) d_SpectrumDeskModel_bigAdd_22 ?_
      refine xr_topi (y := nI 1) hmw ?_
      refine lv_iload hx hb d_SpectrumDeskModel_bigAdd_23 (lv_at hl 0 rfl) ?_
      refine lv_icmp_ne hx hb d_SpectrumDeskModel_bigAdd_25 rfl (fun he => ?_) (fun he => ?_)
      · refine lv_aload_n hx hb d_SpectrumDeskModel_bigAdd_37 rfl (lv_at hl 1 rfl) ?_
        refine lv_iload_n hx hb d_SpectrumDeskModel_bigAdd_38 rfl (lv_at hl 2 rfl) ?_
        refine lv_iload_n hx hb d_SpectrumDeskModel_bigAdd_39 rfl (lv_at hl 3 rfl) ?_
        refine xr_calli (xr_runV (kc := 1) (kr := 2) (n := 2) (As := [.int (nI w), .int (nI u)]) (rest := []) X I (by decide) (r183 ..) rfl (c_SpectrumDeskModel_bigSizes hF hw hu hne ha hb9 hLw hLu hwo huo hwt hut) (xg k_99203b0091) (List.mem_cons_of_mem _ k_c0032b460a) (List.mem_cons_of_mem _ k_cf2ddaaf03) (List.mem_cons_of_mem _ k_af57503f5d) (List.mem_cons_of_mem _ k_30fa15c9ac) (by decide +kernel) (by decide) rfl hl.1 rfl (Nat.le_of_ble_eq_true rfl) d_SpectrumDeskModel_bigAdd_40) I (fun r1 σ1 H locs hp I => ?_)
        obtain ⟨rfl, rfl⟩ := hp
        refine lv_if_lt hx hb d_SpectrumDeskModel_bigAdd_43 rfl (fun hd => ?_) (fun hd => ?_)
        · have hlt := sg_neg.mp hd
          refine lv_aload_n hx hb d_SpectrumDeskModel_bigAdd_56 rfl (lv_at hl 1 rfl) ?_
          refine lv_iload_n hx hb d_SpectrumDeskModel_bigAdd_57 rfl (lv_at hl 2 rfl) ?_
          refine lv_iload_n hx hb d_SpectrumDeskModel_bigAdd_58 rfl (lv_at hl 3 rfl) ?_
          refine lv_iconst (v := nI 1) hx hb d_SpectrumDeskModel_bigAdd_59 (by decide) ?_
          refine xr_callv (xr_runV (kc := 1) (kr := 2) (n := 3) (As := [.int (nI w), .int (nI u), .int (nI 1)]) (rest := []) X I (by decide) (r183 ..) rfl (c_SpectrumDeskModel_bigDiffer1 hF hw hu hne ha hb9 hLw hLu hwo huo hwt hut (by omega)) (xg k_72c7a99444) (List.mem_cons_of_mem _ k_6543122d39) (List.mem_cons_of_mem _ k_f670f9e174) (List.mem_cons_of_mem _ k_3e9fe204cb) (List.mem_cons_of_mem _ k_30fa15c9ac) (by decide +kernel) (by decide) rfl hl.1 rfl (Nat.le_of_ble_eq_true rfl) d_SpectrumDeskModel_bigAdd_60) I (fun σ1 H locs hp I => ?_)
          obtain ⟨P', n', rfl, h1, h2, h3, h4, h5⟩ := hp
          refine lv_aload_n hx hb d_SpectrumDeskModel_bigAdd_63 rfl (lv_at hl 1 rfl) ?_
          refine xr_get X I fin_M 183 (by decide) (r183 ..) rfl 2 (by decide) (List.mem_cons_of_mem _ k_7646d4378e) rfl (mF_minus hF) d_SpectrumDeskModel_bigAdd_64 ?_
          refine lv_iload_n hx hb d_SpectrumDeskModel_bigAdd_67 rfl (lv_at hl 2 rfl) ?_
          refine lv_iload hx hb d_SpectrumDeskModel_bigAdd_68 (lv_at hl 0 rfl) ?_
          refine xr_zast X I 186 2 (by decide) (r186 ..) rfl (by omega) (by decide) d_SpectrumDeskModel_bigAdd_70 (fun H locs I => ?_)
          rw [rw3_M, show vp_nar .boolean (nI 0) = nI 0 by decide] at I
          exact xr_vret X I hr hlk ⟨P', _, _, rfl, ⟨h2, fun j hj => upd_n hj, fun j hj => upd_n hj⟩, n', h1, upd_s, h3, h4, Or.inl ⟨upd_s, by omega⟩⟩ d_SpectrumDeskModel_bigAdd_71
        · have hge : ¬ rg P (300 * w) a - rg P (300 * u) b < 0 := fun h => hd (sg_neg.mpr h)
          refine lv_aload_n hx hb d_SpectrumDeskModel_bigAdd_46 rfl (lv_at hl 1 rfl) ?_
          refine lv_iload_n hx hb d_SpectrumDeskModel_bigAdd_47 rfl (lv_at hl 2 rfl) ?_
          refine lv_iload_n hx hb d_SpectrumDeskModel_bigAdd_48 rfl (lv_at hl 3 rfl) ?_
          refine lv_iconst (v := nI 0) hx hb d_SpectrumDeskModel_bigAdd_49 (by decide) ?_
          refine xr_callv (xr_runV (kc := 1) (kr := 2) (n := 3) (As := [.int (nI w), .int (nI u), .int (nI 0)]) (rest := []) X I (by decide) (r183 ..) rfl (c_SpectrumDeskModel_bigDiffer0 hF hw hu hne ha hb9 hLw hLu hwo huo hwt hut (by omega)) (xg k_72c7a99444) (List.mem_cons_of_mem _ k_6543122d39) (List.mem_cons_of_mem _ k_f670f9e174) (List.mem_cons_of_mem _ k_3e9fe204cb) (List.mem_cons_of_mem _ k_30fa15c9ac) (by decide +kernel) (by decide) rfl hl.1 rfl (Nat.le_of_ble_eq_true rfl) d_SpectrumDeskModel_bigAdd_50) I (fun σ1 H locs hp I => ?_)
          refine lv_goto hx hb d_SpectrumDeskModel_bigAdd_53 rfl ?_
          exact xr_vret X I hr hlk (rm_rb hp (Or.inr ⟨hmw, by omega⟩)) d_SpectrumDeskModel_bigAdd_71
      · exact absurd he (by decide)
    · exact absurd rfl hc
  · refine lv_aload_n hx hb d_SpectrumDeskModel_bigAdd_0 rfl (lv_at hl 0 rfl) ?_
    refine xr_get X I fin_M 183 (by decide) (r183 ..) rfl 2 (by decide) (List.mem_cons_of_mem _ k_7646d4378e) rfl (mF_minus hF) d_SpectrumDeskModel_bigAdd_1 ?_
    refine lv_iload_n hx hb d_SpectrumDeskModel_bigAdd_4 rfl (lv_at hl 2 rfl) ?_
    refine xr_zald X I 186 2 (by decide) (r186 ..) rfl (by omega) (by decide) d_SpectrumDeskModel_bigAdd_5 ?_
    refine xr_topi (y := nI 1) hmu ?_
    refine lv_iload_n hx hb d_SpectrumDeskModel_bigAdd_6 rfl (lv_at hl 3 rfl) ?_
    refine lv_icmp_eq hx hb d_SpectrumDeskModel_bigAdd_7 rfl (fun hc => ?_) (fun hc => ?_)
    · exact absurd hc (by decide)
    · refine lv_iconst (v := nI 1) hx hb d_SpectrumDeskModel_bigAdd_10 (by decide) ?_
      refine lv_goto hx hb d_SpectrumDeskModel_bigAdd_11 rfl ?_
      refine lv_istore (lv' := [(4, .int (nI 1)), (0, .ref (ad 183)), (1, .int (nI w)), (2, .int (nI u)), (3, .int (nI 0))]) hx hb d_SpectrumDeskModel_bigAdd_15 hl (by decide) rfl (fun ls hl => ?_)
      refine lv_aload_n hx hb d_SpectrumDeskModel_bigAdd_17 rfl (lv_at hl 1 rfl) ?_
      refine xr_get X I fin_M 183 (by decide) (r183 ..) rfl 2 (by decide) (List.mem_cons_of_mem _ k_7646d4378e) rfl (mF_minus hF) d_SpectrumDeskModel_bigAdd_18 ?_
      refine lv_iload_n hx hb d_SpectrumDeskModel_bigAdd_21 rfl (lv_at hl 2 rfl) ?_
      refine xr_zald X I 186 2 (by decide) (r186 ..) rfl (by omega) (by decide) d_SpectrumDeskModel_bigAdd_22 ?_
      refine xr_topi (y := nI 1) hmw ?_
      refine lv_iload hx hb d_SpectrumDeskModel_bigAdd_23 (lv_at hl 0 rfl) ?_
      refine lv_icmp_ne hx hb d_SpectrumDeskModel_bigAdd_25 rfl (fun he => ?_) (fun he => ?_)
      · exact absurd rfl he
      · refine lv_aload_n hx hb d_SpectrumDeskModel_bigAdd_28 rfl (lv_at hl 1 rfl) ?_
        refine lv_iload_n hx hb d_SpectrumDeskModel_bigAdd_29 rfl (lv_at hl 2 rfl) ?_
        refine lv_iload_n hx hb d_SpectrumDeskModel_bigAdd_30 rfl (lv_at hl 3 rfl) ?_
        refine xr_callv (xr_runV (kc := 1) (kr := 2) (n := 2) (As := [.int (nI w), .int (nI u)]) (rest := []) X I (by decide) (r183 ..) rfl (c_SpectrumDeskModel_bigMore hF hw hu hne ha hb9 hLw hLu hwo huo hwt hut) (xg k_ff14552d82) (List.mem_cons_of_mem _ k_72a62daed8) (List.mem_cons_of_mem _ k_4e1eb4d18f) (List.mem_cons_of_mem _ k_7fffc0722b) (List.mem_cons_of_mem _ k_30fa15c9ac) (by decide +kernel) (by decide) rfl hl.1 rfl (Nat.le_of_ble_eq_true rfl) d_SpectrumDeskModel_bigAdd_31) I (fun σ1 H locs hp I => ?_)
        refine lv_goto hx hb d_SpectrumDeskModel_bigAdd_34 rfl ?_
        exact xr_vret X I hr hlk (rm_rb hp (Or.inr ⟨hmw, by omega⟩)) d_SpectrumDeskModel_bigAdd_71
set_option maxHeartbeats 4000000 in
set_option maxRecDepth 100000 in
theorem c_SpectrumDeskModel_bigAdd1 {l : Launch} {D : va_G} {cI cJ cZ cC cG cP : ClassId} {ad : Nat → Nat} {σ0 : Nat → va_E} {fs : List Value} {P L M : Nat → Int32} {w u : Nat} {x y : Int} (hF : mF ad fs) (hw : w < 112) (hu : u < 112) (hne : u ≠ w) (hx0 : rb P L M w x) (hy0 : rb P L M u y) (hxb : rbd x) (hyb : rbd y) :
    Met l y_SpectrumDeskModel_bigAdd v_SpectrumDeskModel_bigAdd (xrm 2) (va_Pc [.ref (ad 183), .int (nI w), .int (nI u), .int (nI 1)] (xS D classes (xT cI cJ cZ cC cG cP) 193 ad (rw3 σ0 ciM cI cZ fs P L M))) (va_Qv (rb_up σ0 ciM cI cZ fs P L M w (x - y)) (xS D classes (xT cI cJ cZ cC cG cP) 193 ad) (xA 193 ad)) 0 0 (xA 193 ad) := by
  obtain ⟨a, a1, hLw, hwo, hwt, hsw⟩ := hx0
  obtain ⟨b, b1, hLu, huo, hut, hsu⟩ := hy0
  have hA := (rg_range hwo).1
  have hB := (rg_range huo).1
  have ha : a < 300 := by have := rb_len (k := 299) hwo hwt (show _ < rBB from by have h1 : -rBB < x := hxb.1; have h2 : x < rBB := hxb.2; omega); omega
  have hb9 : b < 300 := by have := rb_len (k := 299) huo hut (show _ < rBB from by have h1 : -rBB < y := hyb.1; have h2 : y < rBB := hyb.2; omega); omega
  refine xr_met rfl (Nat.le_of_ble_eq_true rfl) ?_
  intro p e s m args below meth c ls hx hb X hr hlk hl I
  have hl : lv_has ls 5 [(0, .ref (ad 183)), (1, .int (nI w)), (2, .int (nI u)), (3, .int (nI 1))] := hl
  rcases hsw with ⟨hmw, hxe⟩ | ⟨hmw, hxe⟩ <;> rcases hsu with ⟨hmu, hye⟩ | ⟨hmu, hye⟩
  · refine lv_aload_n hx hb d_SpectrumDeskModel_bigAdd_0 rfl (lv_at hl 0 rfl) ?_
    refine xr_get X I fin_M 183 (by decide) (r183 ..) rfl 2 (by decide) (List.mem_cons_of_mem _ k_7646d4378e) rfl (mF_minus hF) d_SpectrumDeskModel_bigAdd_1 ?_
    refine lv_iload_n hx hb d_SpectrumDeskModel_bigAdd_4 rfl (lv_at hl 2 rfl) ?_
    refine xr_zald X I 186 2 (by decide) (r186 ..) rfl (by omega) (by decide) d_SpectrumDeskModel_bigAdd_5 ?_
    refine xr_topi (y := nI 0) hmu ?_
    refine lv_iload_n hx hb d_SpectrumDeskModel_bigAdd_6 rfl (lv_at hl 3 rfl) ?_
    refine lv_icmp_eq hx hb d_SpectrumDeskModel_bigAdd_7 rfl (fun hc => ?_) (fun hc => ?_)
    · exact absurd hc (by decide)
    · refine lv_iconst (v := nI 1) hx hb d_SpectrumDeskModel_bigAdd_10 (by decide) ?_
      refine lv_goto hx hb d_SpectrumDeskModel_bigAdd_11 rfl ?_
      refine lv_istore (lv' := [(4, .int (nI 1)), (0, .ref (ad 183)), (1, .int (nI w)), (2, .int (nI u)), (3, .int (nI 1))]) hx hb d_SpectrumDeskModel_bigAdd_15 hl (by decide) rfl (fun ls hl => ?_)
      refine lv_aload_n hx hb d_SpectrumDeskModel_bigAdd_17 rfl (lv_at hl 1 rfl) ?_
      refine xr_get X I fin_M 183 (by decide) (r183 ..) rfl 2 (by decide) (List.mem_cons_of_mem _ k_7646d4378e) rfl (mF_minus hF) d_SpectrumDeskModel_bigAdd_18 ?_
      refine lv_iload_n hx hb d_SpectrumDeskModel_bigAdd_21 rfl (lv_at hl 2 rfl) ?_
      refine xr_zald X I 186 2 (by decide) (r186 ..) rfl (by omega) (by decide) d_SpectrumDeskModel_bigAdd_22 ?_
      refine xr_topi (y := nI 0) hmw ?_
      refine lv_iload hx hb d_SpectrumDeskModel_bigAdd_23 (lv_at hl 0 rfl) ?_
      refine lv_icmp_ne hx hb d_SpectrumDeskModel_bigAdd_25 rfl (fun he => ?_) (fun he => ?_)
      · refine lv_aload_n hx hb d_SpectrumDeskModel_bigAdd_37 rfl (lv_at hl 1 rfl) ?_
        refine lv_iload_n hx hb d_SpectrumDeskModel_bigAdd_38 rfl (lv_at hl 2 rfl) ?_
        refine lv_iload_n hx hb d_SpectrumDeskModel_bigAdd_39 rfl (lv_at hl 3 rfl) ?_
        refine xr_calli (xr_runV (kc := 1) (kr := 2) (n := 2) (As := [.int (nI w), .int (nI u)]) (rest := []) X I (by decide) (r183 ..) rfl (c_SpectrumDeskModel_bigSizes hF hw hu hne ha hb9 hLw hLu hwo huo hwt hut) (xg k_99203b0091) (List.mem_cons_of_mem _ k_c0032b460a) (List.mem_cons_of_mem _ k_cf2ddaaf03) (List.mem_cons_of_mem _ k_af57503f5d) (List.mem_cons_of_mem _ k_30fa15c9ac) (by decide +kernel) (by decide) rfl hl.1 rfl (Nat.le_of_ble_eq_true rfl) d_SpectrumDeskModel_bigAdd_40) I (fun r1 σ1 H locs hp I => ?_)
        obtain ⟨rfl, rfl⟩ := hp
        refine lv_if_lt hx hb d_SpectrumDeskModel_bigAdd_43 rfl (fun hd => ?_) (fun hd => ?_)
        · have hlt := sg_neg.mp hd
          refine lv_aload_n hx hb d_SpectrumDeskModel_bigAdd_56 rfl (lv_at hl 1 rfl) ?_
          refine lv_iload_n hx hb d_SpectrumDeskModel_bigAdd_57 rfl (lv_at hl 2 rfl) ?_
          refine lv_iload_n hx hb d_SpectrumDeskModel_bigAdd_58 rfl (lv_at hl 3 rfl) ?_
          refine lv_iconst (v := nI 1) hx hb d_SpectrumDeskModel_bigAdd_59 (by decide) ?_
          refine xr_callv (xr_runV (kc := 1) (kr := 2) (n := 3) (As := [.int (nI w), .int (nI u), .int (nI 1)]) (rest := []) X I (by decide) (r183 ..) rfl (c_SpectrumDeskModel_bigDiffer1 hF hw hu hne ha hb9 hLw hLu hwo huo hwt hut (by omega)) (xg k_72c7a99444) (List.mem_cons_of_mem _ k_6543122d39) (List.mem_cons_of_mem _ k_f670f9e174) (List.mem_cons_of_mem _ k_3e9fe204cb) (List.mem_cons_of_mem _ k_30fa15c9ac) (by decide +kernel) (by decide) rfl hl.1 rfl (Nat.le_of_ble_eq_true rfl) d_SpectrumDeskModel_bigAdd_60) I (fun σ1 H locs hp I => ?_)
          obtain ⟨P', n', rfl, h1, h2, h3, h4, h5⟩ := hp
          refine lv_aload_n hx hb d_SpectrumDeskModel_bigAdd_63 rfl (lv_at hl 1 rfl) ?_
          refine xr_get X I fin_M 183 (by decide) (r183 ..) rfl 2 (by decide) (List.mem_cons_of_mem _ k_7646d4378e) rfl (mF_minus hF) d_SpectrumDeskModel_bigAdd_64 ?_
          refine lv_iload_n hx hb d_SpectrumDeskModel_bigAdd_67 rfl (lv_at hl 2 rfl) ?_
          refine lv_iload hx hb d_SpectrumDeskModel_bigAdd_68 (lv_at hl 0 rfl) ?_
          refine xr_zast X I 186 2 (by decide) (r186 ..) rfl (by omega) (by decide) d_SpectrumDeskModel_bigAdd_70 (fun H locs I => ?_)
          rw [rw3_M, show vp_nar .boolean (nI 1) = nI 1 by decide] at I
          exact xr_vret X I hr hlk ⟨P', _, _, rfl, ⟨h2, fun j hj => upd_n hj, fun j hj => upd_n hj⟩, n', h1, upd_s, h3, h4, Or.inr ⟨upd_s, by omega⟩⟩ d_SpectrumDeskModel_bigAdd_71
        · have hge : ¬ rg P (300 * w) a - rg P (300 * u) b < 0 := fun h => hd (sg_neg.mpr h)
          refine lv_aload_n hx hb d_SpectrumDeskModel_bigAdd_46 rfl (lv_at hl 1 rfl) ?_
          refine lv_iload_n hx hb d_SpectrumDeskModel_bigAdd_47 rfl (lv_at hl 2 rfl) ?_
          refine lv_iload_n hx hb d_SpectrumDeskModel_bigAdd_48 rfl (lv_at hl 3 rfl) ?_
          refine lv_iconst (v := nI 0) hx hb d_SpectrumDeskModel_bigAdd_49 (by decide) ?_
          refine xr_callv (xr_runV (kc := 1) (kr := 2) (n := 3) (As := [.int (nI w), .int (nI u), .int (nI 0)]) (rest := []) X I (by decide) (r183 ..) rfl (c_SpectrumDeskModel_bigDiffer0 hF hw hu hne ha hb9 hLw hLu hwo huo hwt hut (by omega)) (xg k_72c7a99444) (List.mem_cons_of_mem _ k_6543122d39) (List.mem_cons_of_mem _ k_f670f9e174) (List.mem_cons_of_mem _ k_3e9fe204cb) (List.mem_cons_of_mem _ k_30fa15c9ac) (by decide +kernel) (by decide) rfl hl.1 rfl (Nat.le_of_ble_eq_true rfl) d_SpectrumDeskModel_bigAdd_50) I (fun σ1 H locs hp I => ?_)
          refine lv_goto hx hb d_SpectrumDeskModel_bigAdd_53 rfl ?_
          exact xr_vret X I hr hlk (rm_rb hp (Or.inl ⟨hmw, by omega⟩)) d_SpectrumDeskModel_bigAdd_71
      · exact absurd he (by decide)
  · refine lv_aload_n hx hb d_SpectrumDeskModel_bigAdd_0 rfl (lv_at hl 0 rfl) ?_
    refine xr_get X I fin_M 183 (by decide) (r183 ..) rfl 2 (by decide) (List.mem_cons_of_mem _ k_7646d4378e) rfl (mF_minus hF) d_SpectrumDeskModel_bigAdd_1 ?_
    refine lv_iload_n hx hb d_SpectrumDeskModel_bigAdd_4 rfl (lv_at hl 2 rfl) ?_
    refine xr_zald X I 186 2 (by decide) (r186 ..) rfl (by omega) (by decide) d_SpectrumDeskModel_bigAdd_5 ?_
    refine xr_topi (y := nI 1) hmu ?_
    refine lv_iload_n hx hb d_SpectrumDeskModel_bigAdd_6 rfl (lv_at hl 3 rfl) ?_
    refine lv_icmp_eq hx hb d_SpectrumDeskModel_bigAdd_7 rfl (fun hc => ?_) (fun hc => ?_)
    · refine lv_iconst (v := nI 0) hx hb d_SpectrumDeskModel_bigAdd_14 (by decide) ?_
      refine lv_istore (lv' := [(4, .int (nI 0)), (0, .ref (ad 183)), (1, .int (nI w)), (2, .int (nI u)), (3, .int (nI 1))]) hx hb d_SpectrumDeskModel_bigAdd_15 hl (by decide) rfl (fun ls hl => ?_)
      refine lv_aload_n hx hb d_SpectrumDeskModel_bigAdd_17 rfl (lv_at hl 1 rfl) ?_
      refine xr_get X I fin_M 183 (by decide) (r183 ..) rfl 2 (by decide) (List.mem_cons_of_mem _ k_7646d4378e) rfl (mF_minus hF) d_SpectrumDeskModel_bigAdd_18 ?_
      refine lv_iload_n hx hb d_SpectrumDeskModel_bigAdd_21 rfl (lv_at hl 2 rfl) ?_
      refine xr_zald X I 186 2 (by decide) (r186 ..) rfl (by omega) (by decide) d_SpectrumDeskModel_bigAdd_22 ?_
      refine xr_topi (y := nI 0) hmw ?_
      refine lv_iload hx hb d_SpectrumDeskModel_bigAdd_23 (lv_at hl 0 rfl) ?_
      refine lv_icmp_ne hx hb d_SpectrumDeskModel_bigAdd_25 rfl (fun he => ?_) (fun he => ?_)
      · exact absurd rfl he
      · refine lv_aload_n hx hb d_SpectrumDeskModel_bigAdd_28 rfl (lv_at hl 1 rfl) ?_
        refine lv_iload_n hx hb d_SpectrumDeskModel_bigAdd_29 rfl (lv_at hl 2 rfl) ?_
        refine lv_iload_n hx hb d_SpectrumDeskModel_bigAdd_30 rfl (lv_at hl 3 rfl) ?_
        refine xr_callv (xr_runV (kc := 1) (kr := 2) (n := 2) (As := [.int (nI w), .int (nI u)]) (rest := []) X I (by decide) (r183 ..) rfl (c_SpectrumDeskModel_bigMore hF hw hu hne ha hb9 hLw hLu hwo huo hwt hut) (xg k_ff14552d82) (List.mem_cons_of_mem _ k_72a62daed8) (List.mem_cons_of_mem _ k_4e1eb4d18f) (List.mem_cons_of_mem _ k_7fffc0722b) (List.mem_cons_of_mem _ k_30fa15c9ac) (by decide +kernel) (by decide) rfl hl.1 rfl (Nat.le_of_ble_eq_true rfl) d_SpectrumDeskModel_bigAdd_31) I (fun σ1 H locs hp I => ?_)
        refine lv_goto hx hb d_SpectrumDeskModel_bigAdd_34 rfl ?_
        exact xr_vret X I hr hlk (rm_rb hp (Or.inl ⟨hmw, by omega⟩)) d_SpectrumDeskModel_bigAdd_71
    · exact absurd rfl hc
  · refine lv_aload_n hx hb d_SpectrumDeskModel_bigAdd_0 rfl (lv_at hl 0 rfl) ?_
    refine xr_get X I fin_M 183 (by decide) (r183 ..) rfl 2 (by decide) (List.mem_cons_of_mem _ k_7646d4378e) rfl (mF_minus hF) d_SpectrumDeskModel_bigAdd_1 ?_
    refine lv_iload_n hx hb d_SpectrumDeskModel_bigAdd_4 rfl (lv_at hl 2 rfl) ?_
    refine xr_zald X I 186 2 (by decide) (r186 ..) rfl (by omega) (by decide) d_SpectrumDeskModel_bigAdd_5 ?_
    refine xr_topi (y := nI 0) hmu ?_
    refine lv_iload_n hx hb d_SpectrumDeskModel_bigAdd_6 rfl (lv_at hl 3 rfl) ?_
    refine lv_icmp_eq hx hb d_SpectrumDeskModel_bigAdd_7 rfl (fun hc => ?_) (fun hc => ?_)
    · exact absurd hc (by decide)
    · refine lv_iconst (v := nI 1) hx hb d_SpectrumDeskModel_bigAdd_10 (by decide) ?_
      refine lv_goto hx hb d_SpectrumDeskModel_bigAdd_11 rfl ?_
      refine lv_istore (lv' := [(4, .int (nI 1)), (0, .ref (ad 183)), (1, .int (nI w)), (2, .int (nI u)), (3, .int (nI 1))]) hx hb d_SpectrumDeskModel_bigAdd_15 hl (by decide) rfl (fun ls hl => ?_)
      refine lv_aload_n hx hb d_SpectrumDeskModel_bigAdd_17 rfl (lv_at hl 1 rfl) ?_
      refine xr_get X I fin_M 183 (by decide) (r183 ..) rfl 2 (by decide) (List.mem_cons_of_mem _ k_7646d4378e) rfl (mF_minus hF) d_SpectrumDeskModel_bigAdd_18 ?_
      refine lv_iload_n hx hb d_SpectrumDeskModel_bigAdd_21 rfl (lv_at hl 2 rfl) ?_
      refine xr_zald X I 186 2 (by decide) (r186 ..) rfl (by omega) (by decide) d_SpectrumDeskModel_bigAdd_22 ?_
      refine xr_topi (y := nI 1) hmw ?_
      refine lv_iload hx hb d_SpectrumDeskModel_bigAdd_23 (lv_at hl 0 rfl) ?_
      refine lv_icmp_ne hx hb d_SpectrumDeskModel_bigAdd_25 rfl (fun he => ?_) (fun he => ?_)
      · exact absurd rfl he
      · refine lv_aload_n hx hb d_SpectrumDeskModel_bigAdd_28 rfl (lv_at hl 1 rfl) ?_
        refine lv_iload_n hx hb d_SpectrumDeskModel_bigAdd_29 rfl (lv_at hl 2 rfl) ?_
        refine lv_iload_n hx hb d_SpectrumDeskModel_bigAdd_30 rfl (lv_at hl 3 rfl) ?_
        refine xr_callv (xr_runV (kc := 1) (kr := 2) (n := 2) (As := [.int (nI w), .int (nI u)]) (rest := []) X I (by decide) (r183 ..) rfl (c_SpectrumDeskModel_bigMore hF hw hu hne ha hb9 hLw hLu hwo huo hwt hut) (xg k_ff14552d82) (List.mem_cons_of_mem _ k_72a62daed8) (List.mem_cons_of_mem _ k_4e1eb4d18f) (List.mem_cons_of_mem _ k_7fffc0722b) (List.mem_cons_of_mem _ k_30fa15c9ac) (by decide +kernel) (by decide) rfl hl.1 rfl (Nat.le_of_ble_eq_true rfl) d_SpectrumDeskModel_bigAdd_31) I (fun σ1 H locs hp I => ?_)
        refine lv_goto hx hb d_SpectrumDeskModel_bigAdd_34 rfl ?_
        exact xr_vret X I hr hlk (rm_rb hp (Or.inr ⟨hmw, by omega⟩)) d_SpectrumDeskModel_bigAdd_71
  · refine lv_aload_n hx hb d_SpectrumDeskModel_bigAdd_0 rfl (lv_at hl 0 rfl) ?_
    refine xr_get X I fin_M 183 (by decide) (r183 ..) rfl 2 (by decide) (List.mem_cons_of_mem _ k_7646d4378e) rfl (mF_minus hF) d_SpectrumDeskModel_bigAdd_1 ?_
    refine lv_iload_n hx hb d_SpectrumDeskModel_bigAdd_4 rfl (lv_at hl 2 rfl) ?_
    refine xr_zald X I 186 2 (by decide) (r186 ..) rfl (by omega) (by decide) d_SpectrumDeskModel_bigAdd_5 ?_
    refine xr_topi (y := nI 1) hmu ?_
    refine lv_iload_n hx hb d_SpectrumDeskModel_bigAdd_6 rfl (lv_at hl 3 rfl) ?_
    refine lv_icmp_eq hx hb d_SpectrumDeskModel_bigAdd_7 rfl (fun hc => ?_) (fun hc => ?_)
    · refine lv_iconst (v := nI 0) hx hb d_SpectrumDeskModel_bigAdd_14 (by decide) ?_
      refine lv_istore (lv' := [(4, .int (nI 0)), (0, .ref (ad 183)), (1, .int (nI w)), (2, .int (nI u)), (3, .int (nI 1))]) hx hb d_SpectrumDeskModel_bigAdd_15 hl (by decide) rfl (fun ls hl => ?_)
      refine lv_aload_n hx hb d_SpectrumDeskModel_bigAdd_17 rfl (lv_at hl 1 rfl) ?_
      refine xr_get X I fin_M 183 (by decide) (r183 ..) rfl 2 (by decide) (List.mem_cons_of_mem _ k_7646d4378e) rfl (mF_minus hF) d_SpectrumDeskModel_bigAdd_18 ?_
      refine lv_iload_n hx hb d_SpectrumDeskModel_bigAdd_21 rfl (lv_at hl 2 rfl) ?_
      refine xr_zald X I 186 2 (by decide) (r186 ..) rfl (by omega) (by decide) d_SpectrumDeskModel_bigAdd_22 ?_
      refine xr_topi (y := nI 1) hmw ?_
      refine lv_iload hx hb d_SpectrumDeskModel_bigAdd_23 (lv_at hl 0 rfl) ?_
      refine lv_icmp_ne hx hb d_SpectrumDeskModel_bigAdd_25 rfl (fun he => ?_) (fun he => ?_)
      · refine lv_aload_n hx hb d_SpectrumDeskModel_bigAdd_37 rfl (lv_at hl 1 rfl) ?_
        refine lv_iload_n hx hb d_SpectrumDeskModel_bigAdd_38 rfl (lv_at hl 2 rfl) ?_
        refine lv_iload_n hx hb d_SpectrumDeskModel_bigAdd_39 rfl (lv_at hl 3 rfl) ?_
        refine xr_calli (xr_runV (kc := 1) (kr := 2) (n := 2) (As := [.int (nI w), .int (nI u)]) (rest := []) X I (by decide) (r183 ..) rfl (c_SpectrumDeskModel_bigSizes hF hw hu hne ha hb9 hLw hLu hwo huo hwt hut) (xg k_99203b0091) (List.mem_cons_of_mem _ k_c0032b460a) (List.mem_cons_of_mem _ k_cf2ddaaf03) (List.mem_cons_of_mem _ k_af57503f5d) (List.mem_cons_of_mem _ k_30fa15c9ac) (by decide +kernel) (by decide) rfl hl.1 rfl (Nat.le_of_ble_eq_true rfl) d_SpectrumDeskModel_bigAdd_40) I (fun r1 σ1 H locs hp I => ?_)
        obtain ⟨rfl, rfl⟩ := hp
        refine lv_if_lt hx hb d_SpectrumDeskModel_bigAdd_43 rfl (fun hd => ?_) (fun hd => ?_)
        · have hlt := sg_neg.mp hd
          refine lv_aload_n hx hb d_SpectrumDeskModel_bigAdd_56 rfl (lv_at hl 1 rfl) ?_
          refine lv_iload_n hx hb d_SpectrumDeskModel_bigAdd_57 rfl (lv_at hl 2 rfl) ?_
          refine lv_iload_n hx hb d_SpectrumDeskModel_bigAdd_58 rfl (lv_at hl 3 rfl) ?_
          refine lv_iconst (v := nI 1) hx hb d_SpectrumDeskModel_bigAdd_59 (by decide) ?_
          refine xr_callv (xr_runV (kc := 1) (kr := 2) (n := 3) (As := [.int (nI w), .int (nI u), .int (nI 1)]) (rest := []) X I (by decide) (r183 ..) rfl (c_SpectrumDeskModel_bigDiffer1 hF hw hu hne ha hb9 hLw hLu hwo huo hwt hut (by omega)) (xg k_72c7a99444) (List.mem_cons_of_mem _ k_6543122d39) (List.mem_cons_of_mem _ k_f670f9e174) (List.mem_cons_of_mem _ k_3e9fe204cb) (List.mem_cons_of_mem _ k_30fa15c9ac) (by decide +kernel) (by decide) rfl hl.1 rfl (Nat.le_of_ble_eq_true rfl) d_SpectrumDeskModel_bigAdd_60) I (fun σ1 H locs hp I => ?_)
          obtain ⟨P', n', rfl, h1, h2, h3, h4, h5⟩ := hp
          refine lv_aload_n hx hb d_SpectrumDeskModel_bigAdd_63 rfl (lv_at hl 1 rfl) ?_
          refine xr_get X I fin_M 183 (by decide) (r183 ..) rfl 2 (by decide) (List.mem_cons_of_mem _ k_7646d4378e) rfl (mF_minus hF) d_SpectrumDeskModel_bigAdd_64 ?_
          refine lv_iload_n hx hb d_SpectrumDeskModel_bigAdd_67 rfl (lv_at hl 2 rfl) ?_
          refine lv_iload hx hb d_SpectrumDeskModel_bigAdd_68 (lv_at hl 0 rfl) ?_
          refine xr_zast X I 186 2 (by decide) (r186 ..) rfl (by omega) (by decide) d_SpectrumDeskModel_bigAdd_70 (fun H locs I => ?_)
          rw [rw3_M, show vp_nar .boolean (nI 0) = nI 0 by decide] at I
          exact xr_vret X I hr hlk ⟨P', _, _, rfl, ⟨h2, fun j hj => upd_n hj, fun j hj => upd_n hj⟩, n', h1, upd_s, h3, h4, Or.inl ⟨upd_s, by omega⟩⟩ d_SpectrumDeskModel_bigAdd_71
        · have hge : ¬ rg P (300 * w) a - rg P (300 * u) b < 0 := fun h => hd (sg_neg.mpr h)
          refine lv_aload_n hx hb d_SpectrumDeskModel_bigAdd_46 rfl (lv_at hl 1 rfl) ?_
          refine lv_iload_n hx hb d_SpectrumDeskModel_bigAdd_47 rfl (lv_at hl 2 rfl) ?_
          refine lv_iload_n hx hb d_SpectrumDeskModel_bigAdd_48 rfl (lv_at hl 3 rfl) ?_
          refine lv_iconst (v := nI 0) hx hb d_SpectrumDeskModel_bigAdd_49 (by decide) ?_
          refine xr_callv (xr_runV (kc := 1) (kr := 2) (n := 3) (As := [.int (nI w), .int (nI u), .int (nI 0)]) (rest := []) X I (by decide) (r183 ..) rfl (c_SpectrumDeskModel_bigDiffer0 hF hw hu hne ha hb9 hLw hLu hwo huo hwt hut (by omega)) (xg k_72c7a99444) (List.mem_cons_of_mem _ k_6543122d39) (List.mem_cons_of_mem _ k_f670f9e174) (List.mem_cons_of_mem _ k_3e9fe204cb) (List.mem_cons_of_mem _ k_30fa15c9ac) (by decide +kernel) (by decide) rfl hl.1 rfl (Nat.le_of_ble_eq_true rfl) d_SpectrumDeskModel_bigAdd_50) I (fun σ1 H locs hp I => ?_)
          refine lv_goto hx hb d_SpectrumDeskModel_bigAdd_53 rfl ?_
          exact xr_vret X I hr hlk (rm_rb hp (Or.inr ⟨hmw, by omega⟩)) d_SpectrumDeskModel_bigAdd_71
      · exact absurd he (by decide)
    · exact absurd rfl hc
end
section
/-! the reference: bigProduct (written by wip/gen) -/
abbrev b_SpectrumDeskModel_bigProduct : ByteArray := prog_10_method_12_code
abbrev y_SpectrumDeskModel_bigProduct : MethodName := ⟨"SpectrumDeskModel", "bigProduct", "(III)V"⟩
abbrev v_SpectrumDeskModel_bigProduct : List Cond := Cond.code y_SpectrumDeskModel_bigProduct b_SpectrumDeskModel_bigProduct 9 none :: AW
theorem d_SpectrumDeskModel_bigProduct_0 : decode b_SpectrumDeskModel_bigProduct 0 = .ok (.aload_n 0, 1) := by decide +kernel
theorem d_SpectrumDeskModel_bigProduct_1 : decode b_SpectrumDeskModel_bigProduct 1 = .ok (.getfield 13, 3) := by decide +kernel
theorem d_SpectrumDeskModel_bigProduct_4 : decode b_SpectrumDeskModel_bigProduct 4 = .ok (.iload_n 1, 1) := by decide +kernel
theorem d_SpectrumDeskModel_bigProduct_5 : decode b_SpectrumDeskModel_bigProduct 5 = .ok (.aload_n 0, 1) := by decide +kernel
theorem d_SpectrumDeskModel_bigProduct_6 : decode b_SpectrumDeskModel_bigProduct 6 = .ok (.getfield 13, 3) := by decide +kernel
theorem d_SpectrumDeskModel_bigProduct_9 : decode b_SpectrumDeskModel_bigProduct 9 = .ok (.iload_n 2, 1) := by decide +kernel
theorem d_SpectrumDeskModel_bigProduct_10 : decode b_SpectrumDeskModel_bigProduct 10 = .ok (.iaload, 1) := by decide +kernel
theorem d_SpectrumDeskModel_bigProduct_11 : decode b_SpectrumDeskModel_bigProduct 11 = .ok (.aload_n 0, 1) := by decide +kernel
theorem d_SpectrumDeskModel_bigProduct_12 : decode b_SpectrumDeskModel_bigProduct 12 = .ok (.getfield 13, 3) := by decide +kernel
theorem d_SpectrumDeskModel_bigProduct_15 : decode b_SpectrumDeskModel_bigProduct 15 = .ok (.iload_n 3, 1) := by decide +kernel
theorem d_SpectrumDeskModel_bigProduct_16 : decode b_SpectrumDeskModel_bigProduct 16 = .ok (.iaload, 1) := by decide +kernel
theorem d_SpectrumDeskModel_bigProduct_17 : decode b_SpectrumDeskModel_bigProduct 17 = .ok (.iadd, 1) := by decide +kernel
theorem d_SpectrumDeskModel_bigProduct_18 : decode b_SpectrumDeskModel_bigProduct 18 = .ok (.iastore, 1) := by decide +kernel
theorem d_SpectrumDeskModel_bigProduct_19 : decode b_SpectrumDeskModel_bigProduct 19 = .ok (.iconst 0, 1) := by decide +kernel
theorem d_SpectrumDeskModel_bigProduct_20 : decode b_SpectrumDeskModel_bigProduct 20 = .ok (.istore 4, 2) := by decide +kernel
theorem d_SpectrumDeskModel_bigProduct_22 : decode b_SpectrumDeskModel_bigProduct 22 = .ok (.iload 4, 2) := by decide +kernel
theorem d_SpectrumDeskModel_bigProduct_24 : decode b_SpectrumDeskModel_bigProduct 24 = .ok (.aload_n 0, 1) := by decide +kernel
theorem d_SpectrumDeskModel_bigProduct_25 : decode b_SpectrumDeskModel_bigProduct 25 = .ok (.getfield 13, 3) := by decide +kernel
theorem d_SpectrumDeskModel_bigProduct_28 : decode b_SpectrumDeskModel_bigProduct 28 = .ok (.iload_n 1, 1) := by decide +kernel
theorem d_SpectrumDeskModel_bigProduct_29 : decode b_SpectrumDeskModel_bigProduct 29 = .ok (.iaload, 1) := by decide +kernel
theorem d_SpectrumDeskModel_bigProduct_30 : decode b_SpectrumDeskModel_bigProduct 30 = .ok (.if_icmp .ge (23), 3) := by decide +kernel
theorem d_SpectrumDeskModel_bigProduct_33 : decode b_SpectrumDeskModel_bigProduct 33 = .ok (.aload_n 0, 1) := by decide +kernel
theorem d_SpectrumDeskModel_bigProduct_34 : decode b_SpectrumDeskModel_bigProduct 34 = .ok (.getfield 7, 3) := by decide +kernel
theorem d_SpectrumDeskModel_bigProduct_37 : decode b_SpectrumDeskModel_bigProduct 37 = .ok (.sipush (300), 3) := by decide +kernel
theorem d_SpectrumDeskModel_bigProduct_40 : decode b_SpectrumDeskModel_bigProduct 40 = .ok (.iload_n 1, 1) := by decide +kernel
theorem d_SpectrumDeskModel_bigProduct_41 : decode b_SpectrumDeskModel_bigProduct 41 = .ok (.imul, 1) := by decide +kernel
theorem d_SpectrumDeskModel_bigProduct_42 : decode b_SpectrumDeskModel_bigProduct 42 = .ok (.iload 4, 2) := by decide +kernel
theorem d_SpectrumDeskModel_bigProduct_44 : decode b_SpectrumDeskModel_bigProduct 44 = .ok (.iadd, 1) := by decide +kernel
theorem d_SpectrumDeskModel_bigProduct_45 : decode b_SpectrumDeskModel_bigProduct 45 = .ok (.iconst 0, 1) := by decide +kernel
theorem d_SpectrumDeskModel_bigProduct_46 : decode b_SpectrumDeskModel_bigProduct 46 = .ok (.iastore, 1) := by decide +kernel
theorem d_SpectrumDeskModel_bigProduct_47 : decode b_SpectrumDeskModel_bigProduct 47 = .ok (.iinc 4 (1), 3) := by decide +kernel
theorem d_SpectrumDeskModel_bigProduct_50 : decode b_SpectrumDeskModel_bigProduct 50 = .ok (.goto (-28), 3) := by decide +kernel
theorem d_SpectrumDeskModel_bigProduct_53 : decode b_SpectrumDeskModel_bigProduct 53 = .ok (.iconst 0, 1) := by decide +kernel
theorem d_SpectrumDeskModel_bigProduct_54 : decode b_SpectrumDeskModel_bigProduct 54 = .ok (.istore 4, 2) := by decide +kernel
theorem d_SpectrumDeskModel_bigProduct_56 : decode b_SpectrumDeskModel_bigProduct 56 = .ok (.iload 4, 2) := by decide +kernel
theorem d_SpectrumDeskModel_bigProduct_58 : decode b_SpectrumDeskModel_bigProduct 58 = .ok (.aload_n 0, 1) := by decide +kernel
theorem d_SpectrumDeskModel_bigProduct_59 : decode b_SpectrumDeskModel_bigProduct 59 = .ok (.getfield 13, 3) := by decide +kernel
theorem d_SpectrumDeskModel_bigProduct_62 : decode b_SpectrumDeskModel_bigProduct 62 = .ok (.iload_n 2, 1) := by decide +kernel
theorem d_SpectrumDeskModel_bigProduct_63 : decode b_SpectrumDeskModel_bigProduct 63 = .ok (.iaload, 1) := by decide +kernel
theorem d_SpectrumDeskModel_bigProduct_64 : decode b_SpectrumDeskModel_bigProduct 64 = .ok (.if_icmp .ge (133), 3) := by decide +kernel
theorem d_SpectrumDeskModel_bigProduct_67 : decode b_SpectrumDeskModel_bigProduct 67 = .ok (.lconst 0, 1) := by decide +kernel
theorem d_SpectrumDeskModel_bigProduct_68 : decode b_SpectrumDeskModel_bigProduct 68 = .ok (.lstore 5, 2) := by decide +kernel
theorem d_SpectrumDeskModel_bigProduct_70 : decode b_SpectrumDeskModel_bigProduct 70 = .ok (.iconst 0, 1) := by decide +kernel
theorem d_SpectrumDeskModel_bigProduct_71 : decode b_SpectrumDeskModel_bigProduct 71 = .ok (.istore 7, 2) := by decide +kernel
theorem d_SpectrumDeskModel_bigProduct_73 : decode b_SpectrumDeskModel_bigProduct 73 = .ok (.iload 7, 2) := by decide +kernel
theorem d_SpectrumDeskModel_bigProduct_75 : decode b_SpectrumDeskModel_bigProduct 75 = .ok (.aload_n 0, 1) := by decide +kernel
theorem d_SpectrumDeskModel_bigProduct_76 : decode b_SpectrumDeskModel_bigProduct 76 = .ok (.getfield 13, 3) := by decide +kernel
theorem d_SpectrumDeskModel_bigProduct_79 : decode b_SpectrumDeskModel_bigProduct 79 = .ok (.iload_n 3, 1) := by decide +kernel
theorem d_SpectrumDeskModel_bigProduct_80 : decode b_SpectrumDeskModel_bigProduct 80 = .ok (.iaload, 1) := by decide +kernel
theorem d_SpectrumDeskModel_bigProduct_81 : decode b_SpectrumDeskModel_bigProduct 81 = .ok (.if_icmp .ge (87), 3) := by decide +kernel
theorem d_SpectrumDeskModel_bigProduct_84 : decode b_SpectrumDeskModel_bigProduct 84 = .ok (.sipush (300), 3) := by decide +kernel
theorem d_SpectrumDeskModel_bigProduct_87 : decode b_SpectrumDeskModel_bigProduct 87 = .ok (.iload_n 1, 1) := by decide +kernel
theorem d_SpectrumDeskModel_bigProduct_88 : decode b_SpectrumDeskModel_bigProduct 88 = .ok (.imul, 1) := by decide +kernel
theorem d_SpectrumDeskModel_bigProduct_89 : decode b_SpectrumDeskModel_bigProduct 89 = .ok (.iload 4, 2) := by decide +kernel
theorem d_SpectrumDeskModel_bigProduct_91 : decode b_SpectrumDeskModel_bigProduct 91 = .ok (.iadd, 1) := by decide +kernel
theorem d_SpectrumDeskModel_bigProduct_92 : decode b_SpectrumDeskModel_bigProduct 92 = .ok (.iload 7, 2) := by decide +kernel
theorem d_SpectrumDeskModel_bigProduct_94 : decode b_SpectrumDeskModel_bigProduct 94 = .ok (.iadd, 1) := by decide +kernel
theorem d_SpectrumDeskModel_bigProduct_95 : decode b_SpectrumDeskModel_bigProduct 95 = .ok (.istore 8, 2) := by decide +kernel
theorem d_SpectrumDeskModel_bigProduct_97 : decode b_SpectrumDeskModel_bigProduct 97 = .ok (.lload 5, 2) := by decide +kernel
theorem d_SpectrumDeskModel_bigProduct_99 : decode b_SpectrumDeskModel_bigProduct 99 = .ok (.aload_n 0, 1) := by decide +kernel
theorem d_SpectrumDeskModel_bigProduct_100 : decode b_SpectrumDeskModel_bigProduct 100 = .ok (.getfield 7, 3) := by decide +kernel
theorem d_SpectrumDeskModel_bigProduct_103 : decode b_SpectrumDeskModel_bigProduct 103 = .ok (.iload 8, 2) := by decide +kernel
theorem d_SpectrumDeskModel_bigProduct_105 : decode b_SpectrumDeskModel_bigProduct 105 = .ok (.iaload, 1) := by decide +kernel
theorem d_SpectrumDeskModel_bigProduct_106 : decode b_SpectrumDeskModel_bigProduct 106 = .ok (.i2l, 1) := by decide +kernel
theorem d_SpectrumDeskModel_bigProduct_107 : decode b_SpectrumDeskModel_bigProduct 107 = .ok (.ladd, 1) := by decide +kernel
theorem d_SpectrumDeskModel_bigProduct_108 : decode b_SpectrumDeskModel_bigProduct 108 = .ok (.aload_n 0, 1) := by decide +kernel
theorem d_SpectrumDeskModel_bigProduct_109 : decode b_SpectrumDeskModel_bigProduct 109 = .ok (.getfield 7, 3) := by decide +kernel
theorem d_SpectrumDeskModel_bigProduct_112 : decode b_SpectrumDeskModel_bigProduct 112 = .ok (.sipush (300), 3) := by decide +kernel
theorem d_SpectrumDeskModel_bigProduct_115 : decode b_SpectrumDeskModel_bigProduct 115 = .ok (.iload_n 2, 1) := by decide +kernel
theorem d_SpectrumDeskModel_bigProduct_116 : decode b_SpectrumDeskModel_bigProduct 116 = .ok (.imul, 1) := by decide +kernel
theorem d_SpectrumDeskModel_bigProduct_117 : decode b_SpectrumDeskModel_bigProduct 117 = .ok (.iload 4, 2) := by decide +kernel
theorem d_SpectrumDeskModel_bigProduct_119 : decode b_SpectrumDeskModel_bigProduct 119 = .ok (.iadd, 1) := by decide +kernel
theorem d_SpectrumDeskModel_bigProduct_120 : decode b_SpectrumDeskModel_bigProduct 120 = .ok (.iaload, 1) := by decide +kernel
theorem d_SpectrumDeskModel_bigProduct_121 : decode b_SpectrumDeskModel_bigProduct 121 = .ok (.i2l, 1) := by decide +kernel
theorem d_SpectrumDeskModel_bigProduct_122 : decode b_SpectrumDeskModel_bigProduct 122 = .ok (.aload_n 0, 1) := by decide +kernel
theorem d_SpectrumDeskModel_bigProduct_123 : decode b_SpectrumDeskModel_bigProduct 123 = .ok (.getfield 7, 3) := by decide +kernel
theorem d_SpectrumDeskModel_bigProduct_126 : decode b_SpectrumDeskModel_bigProduct 126 = .ok (.sipush (300), 3) := by decide +kernel
theorem d_SpectrumDeskModel_bigProduct_129 : decode b_SpectrumDeskModel_bigProduct 129 = .ok (.iload_n 3, 1) := by decide +kernel
theorem d_SpectrumDeskModel_bigProduct_130 : decode b_SpectrumDeskModel_bigProduct 130 = .ok (.imul, 1) := by decide +kernel
theorem d_SpectrumDeskModel_bigProduct_131 : decode b_SpectrumDeskModel_bigProduct 131 = .ok (.iload 7, 2) := by decide +kernel
theorem d_SpectrumDeskModel_bigProduct_133 : decode b_SpectrumDeskModel_bigProduct 133 = .ok (.iadd, 1) := by decide +kernel
theorem d_SpectrumDeskModel_bigProduct_134 : decode b_SpectrumDeskModel_bigProduct 134 = .ok (.iaload, 1) := by decide +kernel
theorem d_SpectrumDeskModel_bigProduct_135 : decode b_SpectrumDeskModel_bigProduct 135 = .ok (.i2l, 1) := by decide +kernel
theorem d_SpectrumDeskModel_bigProduct_136 : decode b_SpectrumDeskModel_bigProduct 136 = .ok (.lmul, 1) := by decide +kernel
theorem d_SpectrumDeskModel_bigProduct_137 : decode b_SpectrumDeskModel_bigProduct 137 = .ok (.ladd, 1) := by decide +kernel
theorem d_SpectrumDeskModel_bigProduct_138 : decode b_SpectrumDeskModel_bigProduct 138 = .ok (.lstore 5, 2) := by decide +kernel
theorem d_SpectrumDeskModel_bigProduct_140 : decode b_SpectrumDeskModel_bigProduct 140 = .ok (.aload_n 0, 1) := by decide +kernel
theorem d_SpectrumDeskModel_bigProduct_141 : decode b_SpectrumDeskModel_bigProduct 141 = .ok (.getfield 7, 3) := by decide +kernel
theorem d_SpectrumDeskModel_bigProduct_144 : decode b_SpectrumDeskModel_bigProduct 144 = .ok (.iload 8, 2) := by decide +kernel
theorem d_SpectrumDeskModel_bigProduct_146 : decode b_SpectrumDeskModel_bigProduct 146 = .ok (.lload 5, 2) := by decide +kernel
theorem d_SpectrumDeskModel_bigProduct_148 : decode b_SpectrumDeskModel_bigProduct 148 = .ok (.ldc2_w 36, 3) := by decide +kernel
theorem d_SpectrumDeskModel_bigProduct_151 : decode b_SpectrumDeskModel_bigProduct 151 = .ok (.lrem, 1) := by decide +kernel
theorem d_SpectrumDeskModel_bigProduct_152 : decode b_SpectrumDeskModel_bigProduct 152 = .ok (.l2i, 1) := by decide +kernel
theorem d_SpectrumDeskModel_bigProduct_153 : decode b_SpectrumDeskModel_bigProduct 153 = .ok (.iastore, 1) := by decide +kernel
theorem d_SpectrumDeskModel_bigProduct_154 : decode b_SpectrumDeskModel_bigProduct 154 = .ok (.lload 5, 2) := by decide +kernel
theorem d_SpectrumDeskModel_bigProduct_156 : decode b_SpectrumDeskModel_bigProduct 156 = .ok (.ldc2_w 36, 3) := by decide +kernel
theorem d_SpectrumDeskModel_bigProduct_159 : decode b_SpectrumDeskModel_bigProduct 159 = .ok (.ldiv, 1) := by decide +kernel
theorem d_SpectrumDeskModel_bigProduct_160 : decode b_SpectrumDeskModel_bigProduct 160 = .ok (.lstore 5, 2) := by decide +kernel
theorem d_SpectrumDeskModel_bigProduct_162 : decode b_SpectrumDeskModel_bigProduct 162 = .ok (.iinc 7 (1), 3) := by decide +kernel
theorem d_SpectrumDeskModel_bigProduct_165 : decode b_SpectrumDeskModel_bigProduct 165 = .ok (.goto (-92), 3) := by decide +kernel
theorem d_SpectrumDeskModel_bigProduct_168 : decode b_SpectrumDeskModel_bigProduct 168 = .ok (.aload_n 0, 1) := by decide +kernel
theorem d_SpectrumDeskModel_bigProduct_169 : decode b_SpectrumDeskModel_bigProduct 169 = .ok (.getfield 7, 3) := by decide +kernel
theorem d_SpectrumDeskModel_bigProduct_172 : decode b_SpectrumDeskModel_bigProduct 172 = .ok (.sipush (300), 3) := by decide +kernel
theorem d_SpectrumDeskModel_bigProduct_175 : decode b_SpectrumDeskModel_bigProduct 175 = .ok (.iload_n 1, 1) := by decide +kernel
theorem d_SpectrumDeskModel_bigProduct_176 : decode b_SpectrumDeskModel_bigProduct 176 = .ok (.imul, 1) := by decide +kernel
theorem d_SpectrumDeskModel_bigProduct_177 : decode b_SpectrumDeskModel_bigProduct 177 = .ok (.iload 4, 2) := by decide +kernel
theorem d_SpectrumDeskModel_bigProduct_179 : decode b_SpectrumDeskModel_bigProduct 179 = .ok (.iadd, 1) := by decide +kernel
theorem d_SpectrumDeskModel_bigProduct_180 : decode b_SpectrumDeskModel_bigProduct 180 = .ok (.aload_n 0, 1) := by decide +kernel
theorem d_SpectrumDeskModel_bigProduct_181 : decode b_SpectrumDeskModel_bigProduct 181 = .ok (.getfield 13, 3) := by decide +kernel
theorem d_SpectrumDeskModel_bigProduct_184 : decode b_SpectrumDeskModel_bigProduct 184 = .ok (.iload_n 3, 1) := by decide +kernel
theorem d_SpectrumDeskModel_bigProduct_185 : decode b_SpectrumDeskModel_bigProduct 185 = .ok (.iaload, 1) := by decide +kernel
theorem d_SpectrumDeskModel_bigProduct_186 : decode b_SpectrumDeskModel_bigProduct 186 = .ok (.iadd, 1) := by decide +kernel
theorem d_SpectrumDeskModel_bigProduct_187 : decode b_SpectrumDeskModel_bigProduct 187 = .ok (.lload 5, 2) := by decide +kernel
theorem d_SpectrumDeskModel_bigProduct_189 : decode b_SpectrumDeskModel_bigProduct 189 = .ok (.l2i, 1) := by decide +kernel
theorem d_SpectrumDeskModel_bigProduct_190 : decode b_SpectrumDeskModel_bigProduct 190 = .ok (.iastore, 1) := by decide +kernel
theorem d_SpectrumDeskModel_bigProduct_191 : decode b_SpectrumDeskModel_bigProduct 191 = .ok (.iinc 4 (1), 3) := by decide +kernel
theorem d_SpectrumDeskModel_bigProduct_194 : decode b_SpectrumDeskModel_bigProduct 194 = .ok (.goto (-138), 3) := by decide +kernel
theorem d_SpectrumDeskModel_bigProduct_197 : decode b_SpectrumDeskModel_bigProduct 197 = .ok (.aload_n 0, 1) := by decide +kernel
theorem d_SpectrumDeskModel_bigProduct_198 : decode b_SpectrumDeskModel_bigProduct 198 = .ok (.getfield 1, 3) := by decide +kernel
theorem d_SpectrumDeskModel_bigProduct_201 : decode b_SpectrumDeskModel_bigProduct 201 = .ok (.iload_n 1, 1) := by decide +kernel
theorem d_SpectrumDeskModel_bigProduct_202 : decode b_SpectrumDeskModel_bigProduct 202 = .ok (.aload_n 0, 1) := by decide +kernel
theorem d_SpectrumDeskModel_bigProduct_203 : decode b_SpectrumDeskModel_bigProduct 203 = .ok (.getfield 1, 3) := by decide +kernel
theorem d_SpectrumDeskModel_bigProduct_206 : decode b_SpectrumDeskModel_bigProduct 206 = .ok (.iload_n 2, 1) := by decide +kernel
theorem d_SpectrumDeskModel_bigProduct_207 : decode b_SpectrumDeskModel_bigProduct 207 = .ok (.baload, 1) := by decide +kernel
theorem d_SpectrumDeskModel_bigProduct_208 : decode b_SpectrumDeskModel_bigProduct 208 = .ok (.aload_n 0, 1) := by decide +kernel
theorem d_SpectrumDeskModel_bigProduct_209 : decode b_SpectrumDeskModel_bigProduct 209 = .ok (.getfield 1, 3) := by decide +kernel
theorem d_SpectrumDeskModel_bigProduct_212 : decode b_SpectrumDeskModel_bigProduct 212 = .ok (.iload_n 3, 1) := by decide +kernel
theorem d_SpectrumDeskModel_bigProduct_213 : decode b_SpectrumDeskModel_bigProduct 213 = .ok (.baload, 1) := by decide +kernel
theorem d_SpectrumDeskModel_bigProduct_214 : decode b_SpectrumDeskModel_bigProduct 214 = .ok (.if_icmp .eq (7), 3) := by decide +kernel
theorem d_SpectrumDeskModel_bigProduct_217 : decode b_SpectrumDeskModel_bigProduct 217 = .ok (.iconst 1, 1) := by decide +kernel
theorem d_SpectrumDeskModel_bigProduct_218 : decode b_SpectrumDeskModel_bigProduct 218 = .ok (.goto (4), 3) := by decide +kernel
theorem d_SpectrumDeskModel_bigProduct_221 : decode b_SpectrumDeskModel_bigProduct 221 = .ok (.iconst 0, 1) := by decide +kernel
theorem d_SpectrumDeskModel_bigProduct_222 : decode b_SpectrumDeskModel_bigProduct 222 = .ok (.bastore, 1) := by decide +kernel
theorem d_SpectrumDeskModel_bigProduct_223 : decode b_SpectrumDeskModel_bigProduct 223 = .ok (.aload_n 0, 1) := by decide +kernel
theorem d_SpectrumDeskModel_bigProduct_224 : decode b_SpectrumDeskModel_bigProduct 224 = .ok (.iload_n 1, 1) := by decide +kernel
theorem d_SpectrumDeskModel_bigProduct_225 : decode b_SpectrumDeskModel_bigProduct 225 = .ok (.invokevirtual 21, 3) := by decide +kernel
theorem d_SpectrumDeskModel_bigProduct_228 : decode b_SpectrumDeskModel_bigProduct 228 = .ok (.return_, 1) := by decide +kernel
theorem k_13c981ce9d : (Jvm.Cond.constantLong "SpectrumDeskModel" (36 : Nat) (16777216 : Int64)) ∈ AW := aw_5 (List.mem_of_getElem? (i := 55) (by decide +kernel)) (by decide +kernel)
theorem k_d838ee6d72 : (Jvm.Cond.code ({ cls := "SpectrumDeskModel", name := "bigProduct", desc := "(III)V" } : Jvm.MethodName) prog_10_method_12_code (9 : Nat) (Option.none : Option Jvm.ClassFile.FieldType)) ∈ AW := aw_5 (List.mem_of_getElem? (i := 54) (by decide +kernel)) (by decide +kernel)
set_option maxHeartbeats 4000000 in
set_option maxRecDepth 100000 in
theorem c_SpectrumDeskModel_bigProduct {l : Launch} {D : va_G} {cI cJ cZ cC cG cP : ClassId} {ad : Nat → Nat} {σ0 : Nat → va_E} {fs : List Value} {P L M : Nat → Int32} {w u v la lb : Nat} {x y : Int} (hF : mF ad fs) (hw : w < 112) (hu : u < 112) (hv : v < 112) (huw : u ≠ w) (hvw : v ≠ w) (hLu : L u = nI la) (hLv : L v = nI lb) (hlen : la + lb ≤ 300) (hx0 : rb P L M u x) (hy0 : rb P L M v y) :
    Met l y_SpectrumDeskModel_bigProduct v_SpectrumDeskModel_bigProduct (xrm 1) (va_Pc [.ref (ad 183), .int (nI w), .int (nI u), .int (nI v)] (xS D classes (xT cI cJ cZ cC cG cP) 193 ad (rw3 σ0 ciM cI cZ fs P L M))) (va_Qv (rb_up σ0 ciM cI cZ fs P L M w (x * y)) (xS D classes (xT cI cJ cZ cC cG cP) 193 ad) (xA 193 ad)) 0 0 (xA 193 ad) := by
  obtain ⟨a, a1, a2, huo, hut, hsu⟩ := hx0
  obtain ⟨b, b1, b2, hvo, hvt, hsv⟩ := hy0
  obtain rfl : la = a := (nI_eq (by omega) (by omega)).mp (hLu.symm.trans a2)
  obtain rfl : lb = b := (nI_eq (by omega) (by omega)).mp (hLv.symm.trans b2)
  refine xr_met rfl (Nat.le_of_ble_eq_true rfl) ?_
  intro p e s m args below meth c ls hx hb X hr hlk hl I
  have hl : lv_has ls 9 [(0, .ref (ad 183)), (1, .int (nI w)), (2, .int (nI u)), (3, .int (nI v))] := hl
  refine lv_aload_n hx hb d_SpectrumDeskModel_bigProduct_0 rfl (lv_at hl 0 rfl) ?_
  refine xr_get X I fin_M 183 (by decide) (r183 ..) rfl 1 (by decide) (List.mem_cons_of_mem _ k_4ae214c350) rfl (mF_lengths hF) d_SpectrumDeskModel_bigProduct_1 ?_
  refine lv_iload_n hx hb d_SpectrumDeskModel_bigProduct_4 rfl (lv_at hl 1 rfl) ?_
  refine lv_aload_n hx hb d_SpectrumDeskModel_bigProduct_5 rfl (lv_at hl 0 rfl) ?_
  refine xr_get X I fin_M 183 (by decide) (r183 ..) rfl 1 (by decide) (List.mem_cons_of_mem _ k_4ae214c350) rfl (mF_lengths hF) d_SpectrumDeskModel_bigProduct_6 ?_
  refine lv_iload_n hx hb d_SpectrumDeskModel_bigProduct_9 rfl (lv_at hl 2 rfl) ?_
  refine xr_iald X I 185 0 (by decide) (r185 ..) rfl (by omega) (by decide) d_SpectrumDeskModel_bigProduct_10 ?_
  refine xr_topi (y := nI la) hLu ?_
  refine lv_aload_n hx hb d_SpectrumDeskModel_bigProduct_11 rfl (lv_at hl 0 rfl) ?_
  refine xr_get X I fin_M 183 (by decide) (r183 ..) rfl 1 (by decide) (List.mem_cons_of_mem _ k_4ae214c350) rfl (mF_lengths hF) d_SpectrumDeskModel_bigProduct_12 ?_
  refine lv_iload_n hx hb d_SpectrumDeskModel_bigProduct_15 rfl (lv_at hl 3 rfl) ?_
  refine xr_iald X I 185 0 (by decide) (r185 ..) rfl (by omega) (by decide) d_SpectrumDeskModel_bigProduct_16 ?_
  refine xr_topi (y := nI lb) hLv ?_
  refine lv_iadd hx hb d_SpectrumDeskModel_bigProduct_17 (xr_topi (y := nI (la + lb)) (nI_add la lb) ?_)
  refine xr_iast X I 185 0 (by decide) (r185 ..) rfl (by omega) (by decide) d_SpectrumDeskModel_bigProduct_18 (fun H locs I => ?_)
  rw [rw3_L] at I
  refine lv_iconst (v := nI 0) hx hb d_SpectrumDeskModel_bigProduct_19 (by decide) ?_
  refine lv_istore (lv' := [(4, .int (nI 0)), (0, .ref (ad 183)), (1, .int (nI w)), (2, .int (nI u)), (3, .int (nI v))]) hx hb d_SpectrumDeskModel_bigProduct_20 hl (by decide) rfl (fun ls hl => ?_)
  have outer : ∀ (k : Nat) (i : Nat) (P2 : Nat → Int32) (ls : Array Slot) (H : Heap) (locs : List Loc), i + k = la → (∀ j, j < 300 * w ∨ 300 * w + 300 ≤ j → P2 j = P j) → rg_ok P2 (300 * w) (la + lb) → (∀ q, i + lb ≤ q → q < la + lb → P2 (300 * w + q) = 0) → rg P2 (300 * w) (la + lb) = rg P (300 * u) i * rg P (300 * v) lb → lv_has ls 9 [(4, .int (nI i)), (0, .ref (ad 183)), (1, .int (nI w)), (2, .int (nI u)), (3, .int (nI v))] → xI D classes 193 ad s.heap (rw3 σ0 ciM cI cZ fs P2 (upd L w (nI (la + lb))) M) H locs → W p l e (xrm 1) s m args below meth c H locs 0 0 (MQ below (va_Qv (rb_up σ0 ciM cI cZ fs P L M w (x * y)) (xS D classes (xT cI cJ cZ cC cG cP) 193 ad) (xA 193 ad)) args s 0 0 (xA 193 ad)) (F0 m 56 ls []) := by
    intro k
    induction k with
    | zero =>
      intro i P2 ls H locs hk hfr hok hzero inv hl I
      obtain rfl : i = la := by omega
      refine lv_iload hx hb d_SpectrumDeskModel_bigProduct_56 (lv_at hl 0 rfl) ?_
      refine lv_aload_n hx hb d_SpectrumDeskModel_bigProduct_58 rfl (lv_at hl 1 rfl) ?_
      refine xr_get X I fin_M 183 (by decide) (r183 ..) rfl 1 (by decide) (List.mem_cons_of_mem _ k_4ae214c350) rfl (mF_lengths hF) d_SpectrumDeskModel_bigProduct_59 ?_
      refine lv_iload_n hx hb d_SpectrumDeskModel_bigProduct_62 rfl (lv_at hl 3 rfl) ?_
      refine xr_iald X I 185 0 (by decide) (r185 ..) rfl (by omega) (by decide) d_SpectrumDeskModel_bigProduct_63 ?_
      refine xr_topi (y := nI i) ((upd_n huw).trans hLu) ?_
      refine lv_icmp_ge hx hb d_SpectrumDeskModel_bigProduct_64 rfl (fun hc => ?_) (fun hc => ?_)
      · rcases hsu with ⟨hmu, hxe⟩ | ⟨hmu, hxe⟩ <;> rcases hsv with ⟨hmv, hye⟩ | ⟨hmv, hye⟩
        · refine lv_aload_n hx hb d_SpectrumDeskModel_bigProduct_197 rfl (lv_at hl 1 rfl) ?_
          refine xr_get X I fin_M 183 (by decide) (r183 ..) rfl 2 (by decide) (List.mem_cons_of_mem _ k_7646d4378e) rfl (mF_minus hF) d_SpectrumDeskModel_bigProduct_198 ?_
          refine lv_iload_n hx hb d_SpectrumDeskModel_bigProduct_201 rfl (lv_at hl 2 rfl) ?_
          refine lv_aload_n hx hb d_SpectrumDeskModel_bigProduct_202 rfl (lv_at hl 1 rfl) ?_
          refine xr_get X I fin_M 183 (by decide) (r183 ..) rfl 2 (by decide) (List.mem_cons_of_mem _ k_7646d4378e) rfl (mF_minus hF) d_SpectrumDeskModel_bigProduct_203 ?_
          refine lv_iload_n hx hb d_SpectrumDeskModel_bigProduct_206 rfl (lv_at hl 3 rfl) ?_
          refine xr_zald X I 186 2 (by decide) (r186 ..) rfl (by omega) (by decide) d_SpectrumDeskModel_bigProduct_207 ?_
          refine xr_topi (y := nI 0) hmu ?_
          refine lv_aload_n hx hb d_SpectrumDeskModel_bigProduct_208 rfl (lv_at hl 1 rfl) ?_
          refine xr_get X I fin_M 183 (by decide) (r183 ..) rfl 2 (by decide) (List.mem_cons_of_mem _ k_7646d4378e) rfl (mF_minus hF) d_SpectrumDeskModel_bigProduct_209 ?_
          refine lv_iload_n hx hb d_SpectrumDeskModel_bigProduct_212 rfl (lv_at hl 4 rfl) ?_
          refine xr_zald X I 186 2 (by decide) (r186 ..) rfl (by omega) (by decide) d_SpectrumDeskModel_bigProduct_213 ?_
          refine xr_topi (y := nI 0) hmv ?_
          refine lv_icmp_eq hx hb d_SpectrumDeskModel_bigProduct_214 rfl (fun he => ?_) (fun he => ?_)
          · refine lv_iconst (v := nI 0) hx hb d_SpectrumDeskModel_bigProduct_221 (by decide) ?_
            refine xr_zast X I 186 2 (by decide) (r186 ..) rfl (by omega) (by decide) d_SpectrumDeskModel_bigProduct_222 (fun H locs I => ?_)
            rw [rw3_M, show vp_nar .boolean (nI 0) = nI 0 by decide] at I
            refine lv_aload_n hx hb d_SpectrumDeskModel_bigProduct_223 rfl (lv_at hl 1 rfl) ?_
            refine lv_iload_n hx hb d_SpectrumDeskModel_bigProduct_224 rfl (lv_at hl 2 rfl) ?_
            refine xr_callv (xr_runV (kc := 0) (kr := 1) (n := 1) (As := [.int (nI w)]) (rest := []) X I (by decide) (r183 ..) rfl (c_SpectrumDeskModel_bigTrim (P := P2) (L := upd L w (nI (i + lb))) (M := upd M w (nI 0)) (n := i + lb) hF hw (by omega) upd_s) (xg k_10a67c202b) (List.mem_cons_of_mem _ k_fdf1e9da4b) (List.mem_cons_of_mem _ k_72a5102e81) (List.mem_cons_of_mem _ k_90f9c60262) (List.mem_cons_of_mem _ k_30fa15c9ac) (by decide +kernel) (by decide) rfl hl.1 rfl (Nat.le_of_ble_eq_true rfl) d_SpectrumDeskModel_bigProduct_225) I (fun σ1 H locs hp I => ?_)
            obtain ⟨n2, t1, rfl, t2, t3⟩ := hp
            rw [upd_upd] at I
            exact xr_vret X I hr hlk ⟨P2, _, _, rfl, ⟨hfr, fun j hj => upd_n hj, fun j hj => upd_n hj⟩, n2, by omega, upd_s, rg_ok_le hok t1, t3, Or.inl ⟨upd_s, by rw [t2, inv, hxe, hye] <;> grind⟩⟩ d_SpectrumDeskModel_bigProduct_228
          · exact absurd rfl he
        · refine lv_aload_n hx hb d_SpectrumDeskModel_bigProduct_197 rfl (lv_at hl 1 rfl) ?_
          refine xr_get X I fin_M 183 (by decide) (r183 ..) rfl 2 (by decide) (List.mem_cons_of_mem _ k_7646d4378e) rfl (mF_minus hF) d_SpectrumDeskModel_bigProduct_198 ?_
          refine lv_iload_n hx hb d_SpectrumDeskModel_bigProduct_201 rfl (lv_at hl 2 rfl) ?_
          refine lv_aload_n hx hb d_SpectrumDeskModel_bigProduct_202 rfl (lv_at hl 1 rfl) ?_
          refine xr_get X I fin_M 183 (by decide) (r183 ..) rfl 2 (by decide) (List.mem_cons_of_mem _ k_7646d4378e) rfl (mF_minus hF) d_SpectrumDeskModel_bigProduct_203 ?_
          refine lv_iload_n hx hb d_SpectrumDeskModel_bigProduct_206 rfl (lv_at hl 3 rfl) ?_
          refine xr_zald X I 186 2 (by decide) (r186 ..) rfl (by omega) (by decide) d_SpectrumDeskModel_bigProduct_207 ?_
          refine xr_topi (y := nI 0) hmu ?_
          refine lv_aload_n hx hb d_SpectrumDeskModel_bigProduct_208 rfl (lv_at hl 1 rfl) ?_
          refine xr_get X I fin_M 183 (by decide) (r183 ..) rfl 2 (by decide) (List.mem_cons_of_mem _ k_7646d4378e) rfl (mF_minus hF) d_SpectrumDeskModel_bigProduct_209 ?_
          refine lv_iload_n hx hb d_SpectrumDeskModel_bigProduct_212 rfl (lv_at hl 4 rfl) ?_
          refine xr_zald X I 186 2 (by decide) (r186 ..) rfl (by omega) (by decide) d_SpectrumDeskModel_bigProduct_213 ?_
          refine xr_topi (y := nI 1) hmv ?_
          refine lv_icmp_eq hx hb d_SpectrumDeskModel_bigProduct_214 rfl (fun he => ?_) (fun he => ?_)
          · exact absurd he (by decide)
          · refine lv_iconst (v := nI 1) hx hb d_SpectrumDeskModel_bigProduct_217 (by decide) ?_
            refine lv_goto hx hb d_SpectrumDeskModel_bigProduct_218 rfl ?_
            refine xr_zast X I 186 2 (by decide) (r186 ..) rfl (by omega) (by decide) d_SpectrumDeskModel_bigProduct_222 (fun H locs I => ?_)
            rw [rw3_M, show vp_nar .boolean (nI 1) = nI 1 by decide] at I
            refine lv_aload_n hx hb d_SpectrumDeskModel_bigProduct_223 rfl (lv_at hl 1 rfl) ?_
            refine lv_iload_n hx hb d_SpectrumDeskModel_bigProduct_224 rfl (lv_at hl 2 rfl) ?_
            refine xr_callv (xr_runV (kc := 0) (kr := 1) (n := 1) (As := [.int (nI w)]) (rest := []) X I (by decide) (r183 ..) rfl (c_SpectrumDeskModel_bigTrim (P := P2) (L := upd L w (nI (i + lb))) (M := upd M w (nI 1)) (n := i + lb) hF hw (by omega) upd_s) (xg k_10a67c202b) (List.mem_cons_of_mem _ k_fdf1e9da4b) (List.mem_cons_of_mem _ k_72a5102e81) (List.mem_cons_of_mem _ k_90f9c60262) (List.mem_cons_of_mem _ k_30fa15c9ac) (by decide +kernel) (by decide) rfl hl.1 rfl (Nat.le_of_ble_eq_true rfl) d_SpectrumDeskModel_bigProduct_225) I (fun σ1 H locs hp I => ?_)
            obtain ⟨n2, t1, rfl, t2, t3⟩ := hp
            rw [upd_upd] at I
            exact xr_vret X I hr hlk ⟨P2, _, _, rfl, ⟨hfr, fun j hj => upd_n hj, fun j hj => upd_n hj⟩, n2, by omega, upd_s, rg_ok_le hok t1, t3, Or.inr ⟨upd_s, by rw [t2, inv, hxe, hye] <;> grind⟩⟩ d_SpectrumDeskModel_bigProduct_228
        · refine lv_aload_n hx hb d_SpectrumDeskModel_bigProduct_197 rfl (lv_at hl 1 rfl) ?_
          refine xr_get X I fin_M 183 (by decide) (r183 ..) rfl 2 (by decide) (List.mem_cons_of_mem _ k_7646d4378e) rfl (mF_minus hF) d_SpectrumDeskModel_bigProduct_198 ?_
          refine lv_iload_n hx hb d_SpectrumDeskModel_bigProduct_201 rfl (lv_at hl 2 rfl) ?_
          refine lv_aload_n hx hb d_SpectrumDeskModel_bigProduct_202 rfl (lv_at hl 1 rfl) ?_
          refine xr_get X I fin_M 183 (by decide) (r183 ..) rfl 2 (by decide) (List.mem_cons_of_mem _ k_7646d4378e) rfl (mF_minus hF) d_SpectrumDeskModel_bigProduct_203 ?_
          refine lv_iload_n hx hb d_SpectrumDeskModel_bigProduct_206 rfl (lv_at hl 3 rfl) ?_
          refine xr_zald X I 186 2 (by decide) (r186 ..) rfl (by omega) (by decide) d_SpectrumDeskModel_bigProduct_207 ?_
          refine xr_topi (y := nI 1) hmu ?_
          refine lv_aload_n hx hb d_SpectrumDeskModel_bigProduct_208 rfl (lv_at hl 1 rfl) ?_
          refine xr_get X I fin_M 183 (by decide) (r183 ..) rfl 2 (by decide) (List.mem_cons_of_mem _ k_7646d4378e) rfl (mF_minus hF) d_SpectrumDeskModel_bigProduct_209 ?_
          refine lv_iload_n hx hb d_SpectrumDeskModel_bigProduct_212 rfl (lv_at hl 4 rfl) ?_
          refine xr_zald X I 186 2 (by decide) (r186 ..) rfl (by omega) (by decide) d_SpectrumDeskModel_bigProduct_213 ?_
          refine xr_topi (y := nI 0) hmv ?_
          refine lv_icmp_eq hx hb d_SpectrumDeskModel_bigProduct_214 rfl (fun he => ?_) (fun he => ?_)
          · exact absurd he (by decide)
          · refine lv_iconst (v := nI 1) hx hb d_SpectrumDeskModel_bigProduct_217 (by decide) ?_
            refine lv_goto hx hb d_SpectrumDeskModel_bigProduct_218 rfl ?_
            refine xr_zast X I 186 2 (by decide) (r186 ..) rfl (by omega) (by decide) d_SpectrumDeskModel_bigProduct_222 (fun H locs I => ?_)
            rw [rw3_M, show vp_nar .boolean (nI 1) = nI 1 by decide] at I
            refine lv_aload_n hx hb d_SpectrumDeskModel_bigProduct_223 rfl (lv_at hl 1 rfl) ?_
            refine lv_iload_n hx hb d_SpectrumDeskModel_bigProduct_224 rfl (lv_at hl 2 rfl) ?_
            refine xr_callv (xr_runV (kc := 0) (kr := 1) (n := 1) (As := [.int (nI w)]) (rest := []) X I (by decide) (r183 ..) rfl (c_SpectrumDeskModel_bigTrim (P := P2) (L := upd L w (nI (i + lb))) (M := upd M w (nI 1)) (n := i + lb) hF hw (by omega) upd_s) (xg k_10a67c202b) (List.mem_cons_of_mem _ k_fdf1e9da4b) (List.mem_cons_of_mem _ k_72a5102e81) (List.mem_cons_of_mem _ k_90f9c60262) (List.mem_cons_of_mem _ k_30fa15c9ac) (by decide +kernel) (by decide) rfl hl.1 rfl (Nat.le_of_ble_eq_true rfl) d_SpectrumDeskModel_bigProduct_225) I (fun σ1 H locs hp I => ?_)
            obtain ⟨n2, t1, rfl, t2, t3⟩ := hp
            rw [upd_upd] at I
            exact xr_vret X I hr hlk ⟨P2, _, _, rfl, ⟨hfr, fun j hj => upd_n hj, fun j hj => upd_n hj⟩, n2, by omega, upd_s, rg_ok_le hok t1, t3, Or.inr ⟨upd_s, by rw [t2, inv, hxe, hye] <;> grind⟩⟩ d_SpectrumDeskModel_bigProduct_228
        · refine lv_aload_n hx hb d_SpectrumDeskModel_bigProduct_197 rfl (lv_at hl 1 rfl) ?_
          refine xr_get X I fin_M 183 (by decide) (r183 ..) rfl 2 (by decide) (List.mem_cons_of_mem _ k_7646d4378e) rfl (mF_minus hF) d_SpectrumDeskModel_bigProduct_198 ?_
          refine lv_iload_n hx hb d_SpectrumDeskModel_bigProduct_201 rfl (lv_at hl 2 rfl) ?_
          refine lv_aload_n hx hb d_SpectrumDeskModel_bigProduct_202 rfl (lv_at hl 1 rfl) ?_
          refine xr_get X I fin_M 183 (by decide) (r183 ..) rfl 2 (by decide) (List.mem_cons_of_mem _ k_7646d4378e) rfl (mF_minus hF) d_SpectrumDeskModel_bigProduct_203 ?_
          refine lv_iload_n hx hb d_SpectrumDeskModel_bigProduct_206 rfl (lv_at hl 3 rfl) ?_
          refine xr_zald X I 186 2 (by decide) (r186 ..) rfl (by omega) (by decide) d_SpectrumDeskModel_bigProduct_207 ?_
          refine xr_topi (y := nI 1) hmu ?_
          refine lv_aload_n hx hb d_SpectrumDeskModel_bigProduct_208 rfl (lv_at hl 1 rfl) ?_
          refine xr_get X I fin_M 183 (by decide) (r183 ..) rfl 2 (by decide) (List.mem_cons_of_mem _ k_7646d4378e) rfl (mF_minus hF) d_SpectrumDeskModel_bigProduct_209 ?_
          refine lv_iload_n hx hb d_SpectrumDeskModel_bigProduct_212 rfl (lv_at hl 4 rfl) ?_
          refine xr_zald X I 186 2 (by decide) (r186 ..) rfl (by omega) (by decide) d_SpectrumDeskModel_bigProduct_213 ?_
          refine xr_topi (y := nI 1) hmv ?_
          refine lv_icmp_eq hx hb d_SpectrumDeskModel_bigProduct_214 rfl (fun he => ?_) (fun he => ?_)
          · refine lv_iconst (v := nI 0) hx hb d_SpectrumDeskModel_bigProduct_221 (by decide) ?_
            refine xr_zast X I 186 2 (by decide) (r186 ..) rfl (by omega) (by decide) d_SpectrumDeskModel_bigProduct_222 (fun H locs I => ?_)
            rw [rw3_M, show vp_nar .boolean (nI 0) = nI 0 by decide] at I
            refine lv_aload_n hx hb d_SpectrumDeskModel_bigProduct_223 rfl (lv_at hl 1 rfl) ?_
            refine lv_iload_n hx hb d_SpectrumDeskModel_bigProduct_224 rfl (lv_at hl 2 rfl) ?_
            refine xr_callv (xr_runV (kc := 0) (kr := 1) (n := 1) (As := [.int (nI w)]) (rest := []) X I (by decide) (r183 ..) rfl (c_SpectrumDeskModel_bigTrim (P := P2) (L := upd L w (nI (i + lb))) (M := upd M w (nI 0)) (n := i + lb) hF hw (by omega) upd_s) (xg k_10a67c202b) (List.mem_cons_of_mem _ k_fdf1e9da4b) (List.mem_cons_of_mem _ k_72a5102e81) (List.mem_cons_of_mem _ k_90f9c60262) (List.mem_cons_of_mem _ k_30fa15c9ac) (by decide +kernel) (by decide) rfl hl.1 rfl (Nat.le_of_ble_eq_true rfl) d_SpectrumDeskModel_bigProduct_225) I (fun σ1 H locs hp I => ?_)
            obtain ⟨n2, t1, rfl, t2, t3⟩ := hp
            rw [upd_upd] at I
            exact xr_vret X I hr hlk ⟨P2, _, _, rfl, ⟨hfr, fun j hj => upd_n hj, fun j hj => upd_n hj⟩, n2, by omega, upd_s, rg_ok_le hok t1, t3, Or.inl ⟨upd_s, by rw [t2, inv, hxe, hye] <;> grind⟩⟩ d_SpectrumDeskModel_bigProduct_228
          · exact absurd rfl he
      · exact absurd (nI_le (Nat.le_refl _) (by omega)) hc
    | succ k ih =>
      intro i P2 ls H locs hk hfr hok hzero inv hl I
      refine lv_iload hx hb d_SpectrumDeskModel_bigProduct_56 (lv_at hl 0 rfl) ?_
      refine lv_aload_n hx hb d_SpectrumDeskModel_bigProduct_58 rfl (lv_at hl 1 rfl) ?_
      refine xr_get X I fin_M 183 (by decide) (r183 ..) rfl 1 (by decide) (List.mem_cons_of_mem _ k_4ae214c350) rfl (mF_lengths hF) d_SpectrumDeskModel_bigProduct_59 ?_
      refine lv_iload_n hx hb d_SpectrumDeskModel_bigProduct_62 rfl (lv_at hl 3 rfl) ?_
      refine xr_iald X I 185 0 (by decide) (r185 ..) rfl (by omega) (by decide) d_SpectrumDeskModel_bigProduct_63 ?_
      refine xr_topi (y := nI la) ((upd_n huw).trans hLu) ?_
      refine lv_icmp_ge hx hb d_SpectrumDeskModel_bigProduct_64 rfl (fun hc => ?_) (fun hc => ?_)
      · exact absurd hc (nI_ge (by omega) (by omega))
      · obtain ⟨x1, x2, x3, x4⟩ := rg_nat huo (show i < la by omega)
        refine lv_lconst (v := 0) hx hb d_SpectrumDeskModel_bigProduct_67 (by decide) ?_
        refine lv_lstore (lv' := [(5, .long 0), (4, .int (nI i)), (0, .ref (ad 183)), (1, .int (nI w)), (2, .int (nI u)), (3, .int (nI v))]) hx hb d_SpectrumDeskModel_bigProduct_68 hl (by decide) rfl (fun ls hl => ?_)
        refine lv_iconst (v := nI 0) hx hb d_SpectrumDeskModel_bigProduct_70 (by decide) ?_
        refine lv_istore (lv' := [(7, .int (nI 0)), (5, .long 0), (4, .int (nI i)), (0, .ref (ad 183)), (1, .int (nI w)), (2, .int (nI u)), (3, .int (nI v))]) hx hb d_SpectrumDeskModel_bigProduct_71 hl (by decide) rfl (fun ls hl => ?_)
        have inner : ∀ (k2 : Nat) (j cy : Nat) (P3 : Nat → Int32) (ls : Array Slot) (H : Heap) (locs : List Loc), j + k2 = lb → cy < 16777216 → (∀ j, j < 300 * w ∨ 300 * w + 300 ≤ j → P3 j = P j) → rg_ok P3 (300 * w) (la + lb) → (∀ q, lb ≤ q → i + q < la + lb → P3 (300 * w + (i + q)) = 0) → rg P3 (300 * w) (la + lb) + (cy : Int) * 16777216 ^ (i + j) = rg P2 (300 * w) (la + lb) + (x1 : Int) * dv (dg P (300 * v) lb) j * 16777216 ^ i → lv_has ls 9 [(7, .int (nI j)), (5, .long (lN cy)), (4, .int (nI i)), (0, .ref (ad 183)), (1, .int (nI w)), (2, .int (nI u)), (3, .int (nI v))] → xI D classes 193 ad s.heap (rw3 σ0 ciM cI cZ fs P3 (upd L w (nI (la + lb))) M) H locs → W p l e (xrm 1) s m args below meth c H locs 0 0 (MQ below (va_Qv (rb_up σ0 ciM cI cZ fs P L M w (x * y)) (xS D classes (xT cI cJ cZ cC cG cP) 193 ad) (xA 193 ad)) args s 0 0 (xA 193 ad)) (F0 m 73 ls []) := by
          intro k2
          induction k2 with
          | zero =>
            intro j cy P3 ls H locs hj hcy hfr2 hok2 hzero2 inv2 hl I
            obtain rfl : j = lb := by omega
            refine lv_iload hx hb d_SpectrumDeskModel_bigProduct_73 (lv_at hl 0 rfl) ?_
            refine lv_aload_n hx hb d_SpectrumDeskModel_bigProduct_75 rfl (lv_at hl 3 rfl) ?_
            refine xr_get X I fin_M 183 (by decide) (r183 ..) rfl 1 (by decide) (List.mem_cons_of_mem _ k_4ae214c350) rfl (mF_lengths hF) d_SpectrumDeskModel_bigProduct_76 ?_
            refine lv_iload_n hx hb d_SpectrumDeskModel_bigProduct_79 rfl (lv_at hl 6 rfl) ?_
            refine xr_iald X I 185 0 (by decide) (r185 ..) rfl (by omega) (by decide) d_SpectrumDeskModel_bigProduct_80 ?_
            refine xr_topi (y := nI j) ((upd_n hvw).trans hLv) ?_
            refine lv_icmp_ge hx hb d_SpectrumDeskModel_bigProduct_81 rfl (fun hd => ?_) (fun hd => ?_)
            · refine lv_aload_n hx hb d_SpectrumDeskModel_bigProduct_168 rfl (lv_at hl 3 rfl) ?_
              refine xr_get X I fin_M 183 (by decide) (r183 ..) rfl 0 (by decide) (List.mem_cons_of_mem _ k_eae5455160) rfl (mF_parts hF) d_SpectrumDeskModel_bigProduct_169 ?_
              refine lv_sipush (v := nI 300) hx hb d_SpectrumDeskModel_bigProduct_172 (by decide) ?_
              refine lv_iload_n hx hb d_SpectrumDeskModel_bigProduct_175 rfl (lv_at hl 4 rfl) ?_
              refine lv_imul hx hb d_SpectrumDeskModel_bigProduct_176 (xr_topi (y := nI (300 * w)) (pk_mul 300 w) ?_)
              refine lv_iload hx hb d_SpectrumDeskModel_bigProduct_177 (lv_at hl 2 rfl) ?_
              refine lv_iadd hx hb d_SpectrumDeskModel_bigProduct_179 (xr_topi (y := nI ((300 * w) + i)) (nI_add (300 * w) i) ?_)
              refine lv_aload_n hx hb d_SpectrumDeskModel_bigProduct_180 rfl (lv_at hl 3 rfl) ?_
              refine xr_get X I fin_M 183 (by decide) (r183 ..) rfl 1 (by decide) (List.mem_cons_of_mem _ k_4ae214c350) rfl (mF_lengths hF) d_SpectrumDeskModel_bigProduct_181 ?_
              refine lv_iload_n hx hb d_SpectrumDeskModel_bigProduct_184 rfl (lv_at hl 6 rfl) ?_
              refine xr_iald X I 185 0 (by decide) (r185 ..) rfl (by omega) (by decide) d_SpectrumDeskModel_bigProduct_185 ?_
              refine xr_topi (y := nI j) ((upd_n hvw).trans hLv) ?_
              refine lv_iadd hx hb d_SpectrumDeskModel_bigProduct_186 (xr_topi (y := nI (300 * w + (i + j))) (by rw [nI_add, Nat.add_assoc]) ?_)
              refine lv_lload hx hb d_SpectrumDeskModel_bigProduct_187 (lv_at hl 1 rfl) ?_
              refine lv_l2i hx hb d_SpectrumDeskModel_bigProduct_189 rfl ?_
              refine xr_topi (y := nI cy) (lN_i cy) ?_
              refine xr_iast X I 184 0 (by decide) (r184 ..) rfl (by omega) (by decide) d_SpectrumDeskModel_bigProduct_190 (fun H locs I => ?_)
              rw [rw3_P] at I
              refine lv_iinc (k := 2) (v := nI (i + 1)) (lv' := [(4, .int (nI (i + 1))), (7, .int (nI j)), (5, .long (lN cy)), (0, .ref (ad 183)), (1, .int (nI w)), (2, .int (nI u)), (3, .int (nI v))]) hx hb d_SpectrumDeskModel_bigProduct_191 hl rfl (nI_1 i) (by decide) rfl (fun ls hl => ?_)
              refine lv_goto hx hb d_SpectrumDeskModel_bigProduct_194 rfl ?_
              have hl := lv_sub hl [0, 3, 4, 5, 6] rfl
              have hl : lv_has ls 9 [(4, .int (nI (i + 1))), (0, .ref (ad 183)), (1, .int (nI w)), (2, .int (nI u)), (3, .int (nI v))] := hl
              have hz := hzero2 j (Nat.le_refl _) (by omega)
              refine ih (i + 1) _ ls H locs (by omega) (fun q hq => (upd_n (by omega)).trans (hfr2 q hq)) (rg_ok_upd hok2 (by rw [nI_toInt (by omega)]; omega)) (fun q h1 h2 => (upd_n (by omega)).trans (by have h3 := hzero2 (q - i) (by omega) (by omega); rw [show i + (q - i) = q by omega] at h3; exact h3)) ?_ hl I
              rw [rg_set (show i + j < la + j by omega), hz, nI_toInt (by omega)]
              rw [dv_in (Nat.le_refl _), inv] at inv2
              have e0 : (0 : Int32).toInt = 0 := by decide
              rw [e0, rg, x4]
              grind
            · exact absurd (nI_le (Nat.le_refl _) (by omega)) hd
          | succ k2 jh =>
            intro j cy P3 ls H locs hj hcy hfr2 hok2 hzero2 inv2 hl I
            refine lv_iload hx hb d_SpectrumDeskModel_bigProduct_73 (lv_at hl 0 rfl) ?_
            refine lv_aload_n hx hb d_SpectrumDeskModel_bigProduct_75 rfl (lv_at hl 3 rfl) ?_
            refine xr_get X I fin_M 183 (by decide) (r183 ..) rfl 1 (by decide) (List.mem_cons_of_mem _ k_4ae214c350) rfl (mF_lengths hF) d_SpectrumDeskModel_bigProduct_76 ?_
            refine lv_iload_n hx hb d_SpectrumDeskModel_bigProduct_79 rfl (lv_at hl 6 rfl) ?_
            refine xr_iald X I 185 0 (by decide) (r185 ..) rfl (by omega) (by decide) d_SpectrumDeskModel_bigProduct_80 ?_
            refine xr_topi (y := nI lb) ((upd_n hvw).trans hLv) ?_
            refine lv_icmp_ge hx hb d_SpectrumDeskModel_bigProduct_81 rfl (fun hd => ?_) (fun hd => ?_)
            · exact absurd hd (nI_ge (by omega) (by omega))
            · obtain ⟨y1, y2, y3, y4⟩ := rg_nat hvo (show j < lb by omega)
              obtain ⟨z1, z2, z3, z4⟩ := rg_nat hok2 (show i + j < la + lb by omega)
              obtain ⟨c1, c2⟩ := prod_carry (cy := cy) hcy z2 x2 y2
              refine lv_sipush (v := nI 300) hx hb d_SpectrumDeskModel_bigProduct_84 (by decide) ?_
              refine lv_iload_n hx hb d_SpectrumDeskModel_bigProduct_87 rfl (lv_at hl 4 rfl) ?_
              refine lv_imul hx hb d_SpectrumDeskModel_bigProduct_88 (xr_topi (y := nI (300 * w)) (pk_mul 300 w) ?_)
              refine lv_iload hx hb d_SpectrumDeskModel_bigProduct_89 (lv_at hl 2 rfl) ?_
              refine lv_iadd hx hb d_SpectrumDeskModel_bigProduct_91 (xr_topi (y := nI ((300 * w) + i)) (nI_add (300 * w) i) ?_)
              refine lv_iload hx hb d_SpectrumDeskModel_bigProduct_92 (lv_at hl 0 rfl) ?_
              refine lv_iadd hx hb d_SpectrumDeskModel_bigProduct_94 (xr_topi (y := nI (300 * w + (i + j))) (by rw [nI_add, Nat.add_assoc]) ?_)
              refine lv_istore (lv' := [(8, .int (nI (300 * w + (i + j)))), (7, .int (nI j)), (5, .long (lN cy)), (4, .int (nI i)), (0, .ref (ad 183)), (1, .int (nI w)), (2, .int (nI u)), (3, .int (nI v))]) hx hb d_SpectrumDeskModel_bigProduct_95 hl (by decide) rfl (fun ls hl => ?_)
              refine lv_lload hx hb d_SpectrumDeskModel_bigProduct_97 (lv_at hl 2 rfl) ?_
              refine lv_aload_n hx hb d_SpectrumDeskModel_bigProduct_99 rfl (lv_at hl 4 rfl) ?_
              refine xr_get X I fin_M 183 (by decide) (r183 ..) rfl 0 (by decide) (List.mem_cons_of_mem _ k_eae5455160) rfl (mF_parts hF) d_SpectrumDeskModel_bigProduct_100 ?_
              refine lv_iload hx hb d_SpectrumDeskModel_bigProduct_103 (lv_at hl 0 rfl) ?_
              refine xr_iald X I 184 0 (by decide) (r184 ..) rfl (by omega) (by decide) d_SpectrumDeskModel_bigProduct_105 ?_
              refine xr_topi (y := nI z1) z3 ?_
              refine lv_i2l hx hb d_SpectrumDeskModel_bigProduct_106 (nI_l (by omega)) ?_
              refine lv_ladd hx hb d_SpectrumDeskModel_bigProduct_107 ?_
              refine xr_topl (y := lN (cy + z1)) (lN_add cy z1) ?_
              refine lv_aload_n hx hb d_SpectrumDeskModel_bigProduct_108 rfl (lv_at hl 4 rfl) ?_
              refine xr_get X I fin_M 183 (by decide) (r183 ..) rfl 0 (by decide) (List.mem_cons_of_mem _ k_eae5455160) rfl (mF_parts hF) d_SpectrumDeskModel_bigProduct_109 ?_
              refine lv_sipush (v := nI 300) hx hb d_SpectrumDeskModel_bigProduct_112 (by decide) ?_
              refine lv_iload_n hx hb d_SpectrumDeskModel_bigProduct_115 rfl (lv_at hl 6 rfl) ?_
              refine lv_imul hx hb d_SpectrumDeskModel_bigProduct_116 (xr_topi (y := nI (300 * u)) (pk_mul 300 u) ?_)
              refine lv_iload hx hb d_SpectrumDeskModel_bigProduct_117 (lv_at hl 3 rfl) ?_
              refine lv_iadd hx hb d_SpectrumDeskModel_bigProduct_119 (xr_topi (y := nI ((300 * u) + i)) (nI_add (300 * u) i) ?_)
              refine xr_iald X I 184 0 (by decide) (r184 ..) rfl (by omega) (by decide) d_SpectrumDeskModel_bigProduct_120 ?_
              refine xr_topi (y := nI x1) ((hfr2 _ (by omega)).trans x3) ?_
              refine lv_i2l hx hb d_SpectrumDeskModel_bigProduct_121 (nI_l (by omega)) ?_
              refine lv_aload_n hx hb d_SpectrumDeskModel_bigProduct_122 rfl (lv_at hl 4 rfl) ?_
              refine xr_get X I fin_M 183 (by decide) (r183 ..) rfl 0 (by decide) (List.mem_cons_of_mem _ k_eae5455160) rfl (mF_parts hF) d_SpectrumDeskModel_bigProduct_123 ?_
              refine lv_sipush (v := nI 300) hx hb d_SpectrumDeskModel_bigProduct_126 (by decide) ?_
              refine lv_iload_n hx hb d_SpectrumDeskModel_bigProduct_129 rfl (lv_at hl 7 rfl) ?_
              refine lv_imul hx hb d_SpectrumDeskModel_bigProduct_130 (xr_topi (y := nI (300 * v)) (pk_mul 300 v) ?_)
              refine lv_iload hx hb d_SpectrumDeskModel_bigProduct_131 (lv_at hl 1 rfl) ?_
              refine lv_iadd hx hb d_SpectrumDeskModel_bigProduct_133 (xr_topi (y := nI ((300 * v) + j)) (nI_add (300 * v) j) ?_)
              refine xr_iald X I 184 0 (by decide) (r184 ..) rfl (by omega) (by decide) d_SpectrumDeskModel_bigProduct_134 ?_
              refine xr_topi (y := nI y1) ((hfr2 _ (by omega)).trans y3) ?_
              refine lv_i2l hx hb d_SpectrumDeskModel_bigProduct_135 (nI_l (by omega)) ?_
              refine lv_lmul hx hb d_SpectrumDeskModel_bigProduct_136 ?_
              refine xr_topl (y := lN (x1 * y1)) (lN_mul x1 y1) ?_
              refine lv_ladd hx hb d_SpectrumDeskModel_bigProduct_137 ?_
              refine xr_topl (y := lN (cy + z1 + x1 * y1)) (lN_add _ _) ?_
              refine lv_lstore (lv' := [(5, .long (lN (cy + z1 + x1 * y1))), (8, .int (nI (300 * w + (i + j)))), (7, .int (nI j)), (4, .int (nI i)), (0, .ref (ad 183)), (1, .int (nI w)), (2, .int (nI u)), (3, .int (nI v))]) hx hb d_SpectrumDeskModel_bigProduct_138 hl (by decide) rfl (fun ls hl => ?_)
              refine lv_aload_n hx hb d_SpectrumDeskModel_bigProduct_140 rfl (lv_at hl 4 rfl) ?_
              refine xr_get X I fin_M 183 (by decide) (r183 ..) rfl 0 (by decide) (List.mem_cons_of_mem _ k_eae5455160) rfl (mF_parts hF) d_SpectrumDeskModel_bigProduct_141 ?_
              refine lv_iload hx hb d_SpectrumDeskModel_bigProduct_144 (lv_at hl 1 rfl) ?_
              refine lv_lload hx hb d_SpectrumDeskModel_bigProduct_146 (lv_at hl 0 rfl) ?_
              refine lv_ldc2 (v := lN 16777216) hx hb X.1.2.2.2.1 (X.1.2.2.2.2 _ (List.mem_cons_of_mem _ k_13c981ce9d)) d_SpectrumDeskModel_bigProduct_148 ?_
              refine lv_lrem hx hb d_SpectrumDeskModel_bigProduct_151 (by decide) ?_
              refine xr_topl (y := lN ((cy + z1 + x1 * y1) % 16777216)) (pk_lRem (by omega) (by decide) (by decide)) ?_
              refine lv_l2i hx hb d_SpectrumDeskModel_bigProduct_152 (lN_i _) ?_
              refine xr_iast X I 184 0 (by decide) (r184 ..) rfl (by omega) (by decide) d_SpectrumDeskModel_bigProduct_153 (fun H locs I => ?_)
              rw [rw3_P] at I
              refine lv_lload hx hb d_SpectrumDeskModel_bigProduct_154 (lv_at hl 0 rfl) ?_
              refine lv_ldc2 (v := lN 16777216) hx hb X.1.2.2.2.1 (X.1.2.2.2.2 _ (List.mem_cons_of_mem _ k_13c981ce9d)) d_SpectrumDeskModel_bigProduct_156 ?_
              refine lv_ldiv hx hb d_SpectrumDeskModel_bigProduct_159 (by decide) ?_
              refine xr_topl (y := lN ((cy + z1 + x1 * y1) / 16777216)) (pk_lDiv (by omega) (by decide) (by decide)) ?_
              refine lv_lstore (lv' := [(5, .long (lN ((cy + z1 + x1 * y1) / 16777216))), (8, .int (nI (300 * w + (i + j)))), (7, .int (nI j)), (4, .int (nI i)), (0, .ref (ad 183)), (1, .int (nI w)), (2, .int (nI u)), (3, .int (nI v))]) hx hb d_SpectrumDeskModel_bigProduct_160 hl (by decide) rfl (fun ls hl => ?_)
              refine lv_iinc (k := 2) (v := nI (j + 1)) (lv' := [(7, .int (nI (j + 1))), (5, .long (lN ((cy + z1 + x1 * y1) / 16777216))), (8, .int (nI (300 * w + (i + j)))), (4, .int (nI i)), (0, .ref (ad 183)), (1, .int (nI w)), (2, .int (nI u)), (3, .int (nI v))]) hx hb d_SpectrumDeskModel_bigProduct_162 hl rfl (nI_1 j) (by decide) rfl (fun ls hl => ?_)
              refine lv_goto hx hb d_SpectrumDeskModel_bigProduct_165 rfl ?_
              have hl := lv_sub hl [0, 1, 3, 4, 5, 6, 7] rfl
              have hl : lv_has ls 9 [(7, .int (nI (j + 1))), (5, .long (lN ((cy + z1 + x1 * y1) / 16777216))), (4, .int (nI i)), (0, .ref (ad 183)), (1, .int (nI w)), (2, .int (nI u)), (3, .int (nI v))] := hl
              refine jh (j + 1) _ _ ls H locs (by omega) c2 (fun q hq => (upd_n (by omega)).trans (hfr2 q hq)) (rg_ok_upd hok2 (by rw [nI_toInt (by omega)]; omega)) (fun q h1 h2 => (upd_n (by omega)).trans (hzero2 q (by omega) h2)) (prod_step (a := fun _ => 0) (by omega) z4 inv2 ?_) hl I
              rw [dg, if_pos (by omega)]; exact y4
        exact inner lb 0 0 P2 ls _ _ (by omega) (by decide) hfr hok (fun q h1 h2 => hzero (i + q) (by omega) (by omega)) (by simp [dv]) hl I
  have zeros : ∀ (k : Nat) (i : Nat) (P2 : Nat → Int32) (ls : Array Slot) (H : Heap) (locs : List Loc), i + k = la + lb → (∀ j, j < 300 * w ∨ 300 * w + 300 ≤ j → P2 j = P j) → (∀ j, j < i → P2 (300 * w + j) = 0) → lv_has ls 9 [(4, .int (nI i)), (0, .ref (ad 183)), (1, .int (nI w)), (2, .int (nI u)), (3, .int (nI v))] → xI D classes 193 ad s.heap (rw3 σ0 ciM cI cZ fs P2 (upd L w (nI (la + lb))) M) H locs → W p l e (xrm 1) s m args below meth c H locs 0 0 (MQ below (va_Qv (rb_up σ0 ciM cI cZ fs P L M w (x * y)) (xS D classes (xT cI cJ cZ cC cG cP) 193 ad) (xA 193 ad)) args s 0 0 (xA 193 ad)) (F0 m 22 ls []) := by
    intro k
    induction k with
    | zero =>
      intro i P2 ls H locs hk hfr hz hl I
      obtain rfl : i = la + lb := by omega
      refine lv_iload hx hb d_SpectrumDeskModel_bigProduct_22 (lv_at hl 0 rfl) ?_
      refine lv_aload_n hx hb d_SpectrumDeskModel_bigProduct_24 rfl (lv_at hl 1 rfl) ?_
      refine xr_get X I fin_M 183 (by decide) (r183 ..) rfl 1 (by decide) (List.mem_cons_of_mem _ k_4ae214c350) rfl (mF_lengths hF) d_SpectrumDeskModel_bigProduct_25 ?_
      refine lv_iload_n hx hb d_SpectrumDeskModel_bigProduct_28 rfl (lv_at hl 2 rfl) ?_
      refine xr_iald X I 185 0 (by decide) (r185 ..) rfl (by omega) (by decide) d_SpectrumDeskModel_bigProduct_29 ?_
      refine xr_topi (y := nI (la + lb)) upd_s ?_
      refine lv_icmp_ge hx hb d_SpectrumDeskModel_bigProduct_30 rfl (fun hc => ?_) (fun hc => ?_)
      · refine lv_iconst (v := nI 0) hx hb d_SpectrumDeskModel_bigProduct_53 (by decide) ?_
        refine lv_istore (lv' := [(4, .int (nI 0)), (0, .ref (ad 183)), (1, .int (nI w)), (2, .int (nI u)), (3, .int (nI v))]) hx hb d_SpectrumDeskModel_bigProduct_54 hl (by decide) rfl (fun ls hl => ?_)
        exact outer la 0 P2 ls _ _ (by omega) hfr (fun j hj => by rw [hz j hj]; decide) (fun q _ h => hz q h) (by rw [rg_zero hz]; simp [rg]) hl I
      · exact absurd (nI_le (Nat.le_refl _) (by omega)) hc
    | succ k ih =>
      intro i P2 ls H locs hk hfr hz hl I
      refine lv_iload hx hb d_SpectrumDeskModel_bigProduct_22 (lv_at hl 0 rfl) ?_
      refine lv_aload_n hx hb d_SpectrumDeskModel_bigProduct_24 rfl (lv_at hl 1 rfl) ?_
      refine xr_get X I fin_M 183 (by decide) (r183 ..) rfl 1 (by decide) (List.mem_cons_of_mem _ k_4ae214c350) rfl (mF_lengths hF) d_SpectrumDeskModel_bigProduct_25 ?_
      refine lv_iload_n hx hb d_SpectrumDeskModel_bigProduct_28 rfl (lv_at hl 2 rfl) ?_
      refine xr_iald X I 185 0 (by decide) (r185 ..) rfl (by omega) (by decide) d_SpectrumDeskModel_bigProduct_29 ?_
      refine xr_topi (y := nI (la + lb)) upd_s ?_
      refine lv_icmp_ge hx hb d_SpectrumDeskModel_bigProduct_30 rfl (fun hc => ?_) (fun hc => ?_)
      · exact absurd hc (nI_ge (by omega) (by omega))
      · refine lv_aload_n hx hb d_SpectrumDeskModel_bigProduct_33 rfl (lv_at hl 1 rfl) ?_
        refine xr_get X I fin_M 183 (by decide) (r183 ..) rfl 0 (by decide) (List.mem_cons_of_mem _ k_eae5455160) rfl (mF_parts hF) d_SpectrumDeskModel_bigProduct_34 ?_
        refine lv_sipush (v := nI 300) hx hb d_SpectrumDeskModel_bigProduct_37 (by decide) ?_
        refine lv_iload_n hx hb d_SpectrumDeskModel_bigProduct_40 rfl (lv_at hl 2 rfl) ?_
        refine lv_imul hx hb d_SpectrumDeskModel_bigProduct_41 (xr_topi (y := nI (300 * w)) (pk_mul 300 w) ?_)
        refine lv_iload hx hb d_SpectrumDeskModel_bigProduct_42 (lv_at hl 0 rfl) ?_
        refine lv_iadd hx hb d_SpectrumDeskModel_bigProduct_44 (xr_topi (y := nI ((300 * w) + i)) (nI_add (300 * w) i) ?_)
        refine lv_iconst (v := 0) hx hb d_SpectrumDeskModel_bigProduct_45 (by decide) ?_
        refine xr_iast X I 184 0 (by decide) (r184 ..) rfl (by omega) (by decide) d_SpectrumDeskModel_bigProduct_46 (fun H locs I => ?_)
        rw [rw3_P] at I
        refine lv_iinc (k := 0) (v := nI (i + 1)) (lv' := [(4, .int (nI (i + 1))), (0, .ref (ad 183)), (1, .int (nI w)), (2, .int (nI u)), (3, .int (nI v))]) hx hb d_SpectrumDeskModel_bigProduct_47 hl rfl (nI_1 i) (by decide) rfl (fun ls hl => ?_)
        refine lv_goto hx hb d_SpectrumDeskModel_bigProduct_50 rfl ?_
        refine ih (i + 1) _ ls H locs (by omega) (fun j hj => (upd_n (by omega)).trans (hfr j hj)) (fun j hj => ?_) hl I
        by_cases ej : j = i
        · rw [ej, upd_s]
        · rw [upd_n (by omega)]; exact hz j (by omega)
  exact zeros (la + lb) 0 P ls _ _ (by omega) (fun _ _ => rfl) (fun j hj => absurd hj (Nat.not_lt_zero _)) hl I
end
section
/-! SpectrumDesk$Polynomial: lowerRoots, multiplyRoots, rootsAtZero, rootsAbove, rootsBelow (written by wip/gen) -/
abbrev b_Polynomial_lowerRoots : ByteArray := prog_5_method_5_code
abbrev y_Polynomial_lowerRoots : MethodName := ⟨"SpectrumDesk$Polynomial", "lowerRoots", "(J)V"⟩
abbrev v_Polynomial_lowerRoots : List Cond := Cond.code y_Polynomial_lowerRoots b_Polynomial_lowerRoots 5 none :: AW
theorem d_Polynomial_lowerRoots_0 : decode b_Polynomial_lowerRoots 0 = .ok (.iconst 0, 1) := by decide +kernel
theorem d_Polynomial_lowerRoots_1 : decode b_Polynomial_lowerRoots 1 = .ok (.istore_n 3, 1) := by decide +kernel
theorem d_Polynomial_lowerRoots_2 : decode b_Polynomial_lowerRoots 2 = .ok (.iload_n 3, 1) := by decide +kernel
theorem d_Polynomial_lowerRoots_3 : decode b_Polynomial_lowerRoots 3 = .ok (.aload_n 0, 1) := by decide +kernel
theorem d_Polynomial_lowerRoots_4 : decode b_Polynomial_lowerRoots 4 = .ok (.getfield 24, 3) := by decide +kernel
theorem d_Polynomial_lowerRoots_7 : decode b_Polynomial_lowerRoots 7 = .ok (.if_icmp .ge (53), 3) := by decide +kernel
theorem d_Polynomial_lowerRoots_10 : decode b_Polynomial_lowerRoots 10 = .ok (.aload_n 0, 1) := by decide +kernel
theorem d_Polynomial_lowerRoots_11 : decode b_Polynomial_lowerRoots 11 = .ok (.getfield 24, 3) := by decide +kernel
theorem d_Polynomial_lowerRoots_14 : decode b_Polynomial_lowerRoots 14 = .ok (.iconst 1, 1) := by decide +kernel
theorem d_Polynomial_lowerRoots_15 : decode b_Polynomial_lowerRoots 15 = .ok (.isub, 1) := by decide +kernel
theorem d_Polynomial_lowerRoots_16 : decode b_Polynomial_lowerRoots 16 = .ok (.istore 4, 2) := by decide +kernel
theorem d_Polynomial_lowerRoots_18 : decode b_Polynomial_lowerRoots 18 = .ok (.iload 4, 2) := by decide +kernel
theorem d_Polynomial_lowerRoots_20 : decode b_Polynomial_lowerRoots 20 = .ok (.iload_n 3, 1) := by decide +kernel
theorem d_Polynomial_lowerRoots_21 : decode b_Polynomial_lowerRoots 21 = .ok (.if_icmp .lt (33), 3) := by decide +kernel
theorem d_Polynomial_lowerRoots_24 : decode b_Polynomial_lowerRoots 24 = .ok (.aload_n 0, 1) := by decide +kernel
theorem d_Polynomial_lowerRoots_25 : decode b_Polynomial_lowerRoots 25 = .ok (.getfield 11, 3) := by decide +kernel
theorem d_Polynomial_lowerRoots_28 : decode b_Polynomial_lowerRoots 28 = .ok (.iload 4, 2) := by decide +kernel
theorem d_Polynomial_lowerRoots_30 : decode b_Polynomial_lowerRoots 30 = .ok (.aaload, 1) := by decide +kernel
theorem d_Polynomial_lowerRoots_31 : decode b_Polynomial_lowerRoots 31 = .ok (.aload_n 0, 1) := by decide +kernel
theorem d_Polynomial_lowerRoots_32 : decode b_Polynomial_lowerRoots 32 = .ok (.getfield 11, 3) := by decide +kernel
theorem d_Polynomial_lowerRoots_35 : decode b_Polynomial_lowerRoots 35 = .ok (.iload 4, 2) := by decide +kernel
theorem d_Polynomial_lowerRoots_37 : decode b_Polynomial_lowerRoots 37 = .ok (.iconst 1, 1) := by decide +kernel
theorem d_Polynomial_lowerRoots_38 : decode b_Polynomial_lowerRoots 38 = .ok (.iadd, 1) := by decide +kernel
theorem d_Polynomial_lowerRoots_39 : decode b_Polynomial_lowerRoots 39 = .ok (.aaload, 1) := by decide +kernel
theorem d_Polynomial_lowerRoots_40 : decode b_Polynomial_lowerRoots 40 = .ok (.lload_n 1, 1) := by decide +kernel
theorem d_Polynomial_lowerRoots_41 : decode b_Polynomial_lowerRoots 41 = .ok (.aload_n 0, 1) := by decide +kernel
theorem d_Polynomial_lowerRoots_42 : decode b_Polynomial_lowerRoots 42 = .ok (.getfield 20, 3) := by decide +kernel
theorem d_Polynomial_lowerRoots_45 : decode b_Polynomial_lowerRoots 45 = .ok (.invokestatic 47, 3) := by decide +kernel
theorem d_Polynomial_lowerRoots_48 : decode b_Polynomial_lowerRoots 48 = .ok (.iinc 4 (-1), 3) := by decide +kernel
theorem d_Polynomial_lowerRoots_51 : decode b_Polynomial_lowerRoots 51 = .ok (.goto (-33), 3) := by decide +kernel
theorem d_Polynomial_lowerRoots_54 : decode b_Polynomial_lowerRoots 54 = .ok (.iinc 3 (1), 3) := by decide +kernel
theorem d_Polynomial_lowerRoots_57 : decode b_Polynomial_lowerRoots 57 = .ok (.goto (-55), 3) := by decide +kernel
theorem d_Polynomial_lowerRoots_60 : decode b_Polynomial_lowerRoots 60 = .ok (.return_, 1) := by decide +kernel
abbrev b_Polynomial_multiplyRoots : ByteArray := prog_5_method_4_code
abbrev y_Polynomial_multiplyRoots : MethodName := ⟨"SpectrumDesk$Polynomial", "multiplyRoots", "(J)V"⟩
abbrev v_Polynomial_multiplyRoots : List Cond := Cond.code y_Polynomial_multiplyRoots b_Polynomial_multiplyRoots 5 none :: AW
theorem d_Polynomial_multiplyRoots_0 : decode b_Polynomial_multiplyRoots 0 = .ok (.iconst 0, 1) := by decide +kernel
theorem d_Polynomial_multiplyRoots_1 : decode b_Polynomial_multiplyRoots 1 = .ok (.istore_n 3, 1) := by decide +kernel
theorem d_Polynomial_multiplyRoots_2 : decode b_Polynomial_multiplyRoots 2 = .ok (.iload_n 3, 1) := by decide +kernel
theorem d_Polynomial_multiplyRoots_3 : decode b_Polynomial_multiplyRoots 3 = .ok (.aload_n 0, 1) := by decide +kernel
theorem d_Polynomial_multiplyRoots_4 : decode b_Polynomial_multiplyRoots 4 = .ok (.getfield 24, 3) := by decide +kernel
theorem d_Polynomial_multiplyRoots_7 : decode b_Polynomial_multiplyRoots 7 = .ok (.if_icmp .ge (77), 3) := by decide +kernel
theorem d_Polynomial_multiplyRoots_10 : decode b_Polynomial_multiplyRoots 10 = .ok (.iload_n 3, 1) := by decide +kernel
theorem d_Polynomial_multiplyRoots_11 : decode b_Polynomial_multiplyRoots 11 = .ok (.istore 4, 2) := by decide +kernel
theorem d_Polynomial_multiplyRoots_13 : decode b_Polynomial_multiplyRoots 13 = .ok (.iload 4, 2) := by decide +kernel
theorem d_Polynomial_multiplyRoots_15 : decode b_Polynomial_multiplyRoots 15 = .ok (.aload_n 0, 1) := by decide +kernel
theorem d_Polynomial_multiplyRoots_16 : decode b_Polynomial_multiplyRoots 16 = .ok (.getfield 24, 3) := by decide +kernel
theorem d_Polynomial_multiplyRoots_19 : decode b_Polynomial_multiplyRoots 19 = .ok (.if_icmp .ge (59), 3) := by decide +kernel
theorem d_Polynomial_multiplyRoots_22 : decode b_Polynomial_multiplyRoots 22 = .ok (.aload_n 0, 1) := by decide +kernel
theorem d_Polynomial_multiplyRoots_23 : decode b_Polynomial_multiplyRoots 23 = .ok (.getfield 16, 3) := by decide +kernel
theorem d_Polynomial_multiplyRoots_26 : decode b_Polynomial_multiplyRoots 26 = .ok (.aload_n 0, 1) := by decide +kernel
theorem d_Polynomial_multiplyRoots_27 : decode b_Polynomial_multiplyRoots 27 = .ok (.getfield 11, 3) := by decide +kernel
theorem d_Polynomial_multiplyRoots_30 : decode b_Polynomial_multiplyRoots 30 = .ok (.iload_n 3, 1) := by decide +kernel
theorem d_Polynomial_multiplyRoots_31 : decode b_Polynomial_multiplyRoots 31 = .ok (.aaload, 1) := by decide +kernel
theorem d_Polynomial_multiplyRoots_32 : decode b_Polynomial_multiplyRoots 32 = .ok (.aload_n 0, 1) := by decide +kernel
theorem d_Polynomial_multiplyRoots_33 : decode b_Polynomial_multiplyRoots 33 = .ok (.getfield 20, 3) := by decide +kernel
theorem d_Polynomial_multiplyRoots_36 : decode b_Polynomial_multiplyRoots 36 = .ok (.invokestatic 43, 3) := by decide +kernel
theorem d_Polynomial_multiplyRoots_39 : decode b_Polynomial_multiplyRoots 39 = .ok (.aload_n 0, 1) := by decide +kernel
theorem d_Polynomial_multiplyRoots_40 : decode b_Polynomial_multiplyRoots 40 = .ok (.getfield 11, 3) := by decide +kernel
theorem d_Polynomial_multiplyRoots_43 : decode b_Polynomial_multiplyRoots 43 = .ok (.iload_n 3, 1) := by decide +kernel
theorem d_Polynomial_multiplyRoots_44 : decode b_Polynomial_multiplyRoots 44 = .ok (.aaload, 1) := by decide +kernel
theorem d_Polynomial_multiplyRoots_45 : decode b_Polynomial_multiplyRoots 45 = .ok (.iconst 0, 1) := by decide +kernel
theorem d_Polynomial_multiplyRoots_46 : decode b_Polynomial_multiplyRoots 46 = .ok (.aload_n 0, 1) := by decide +kernel
theorem d_Polynomial_multiplyRoots_47 : decode b_Polynomial_multiplyRoots 47 = .ok (.getfield 20, 3) := by decide +kernel
theorem d_Polynomial_multiplyRoots_50 : decode b_Polynomial_multiplyRoots 50 = .ok (.iconst 0, 1) := by decide +kernel
theorem d_Polynomial_multiplyRoots_51 : decode b_Polynomial_multiplyRoots 51 = .ok (.invokestatic 33, 3) := by decide +kernel
theorem d_Polynomial_multiplyRoots_54 : decode b_Polynomial_multiplyRoots 54 = .ok (.aload_n 0, 1) := by decide +kernel
theorem d_Polynomial_multiplyRoots_55 : decode b_Polynomial_multiplyRoots 55 = .ok (.getfield 11, 3) := by decide +kernel
theorem d_Polynomial_multiplyRoots_58 : decode b_Polynomial_multiplyRoots 58 = .ok (.iload_n 3, 1) := by decide +kernel
theorem d_Polynomial_multiplyRoots_59 : decode b_Polynomial_multiplyRoots 59 = .ok (.aaload, 1) := by decide +kernel
theorem d_Polynomial_multiplyRoots_60 : decode b_Polynomial_multiplyRoots 60 = .ok (.aload_n 0, 1) := by decide +kernel
theorem d_Polynomial_multiplyRoots_61 : decode b_Polynomial_multiplyRoots 61 = .ok (.getfield 16, 3) := by decide +kernel
theorem d_Polynomial_multiplyRoots_64 : decode b_Polynomial_multiplyRoots 64 = .ok (.lload_n 1, 1) := by decide +kernel
theorem d_Polynomial_multiplyRoots_65 : decode b_Polynomial_multiplyRoots 65 = .ok (.aload_n 0, 1) := by decide +kernel
theorem d_Polynomial_multiplyRoots_66 : decode b_Polynomial_multiplyRoots 66 = .ok (.getfield 20, 3) := by decide +kernel
theorem d_Polynomial_multiplyRoots_69 : decode b_Polynomial_multiplyRoots 69 = .ok (.invokestatic 47, 3) := by decide +kernel
theorem d_Polynomial_multiplyRoots_72 : decode b_Polynomial_multiplyRoots 72 = .ok (.iinc 4 (1), 3) := by decide +kernel
theorem d_Polynomial_multiplyRoots_75 : decode b_Polynomial_multiplyRoots 75 = .ok (.goto (-62), 3) := by decide +kernel
theorem d_Polynomial_multiplyRoots_78 : decode b_Polynomial_multiplyRoots 78 = .ok (.iinc 3 (1), 3) := by decide +kernel
theorem d_Polynomial_multiplyRoots_81 : decode b_Polynomial_multiplyRoots 81 = .ok (.goto (-79), 3) := by decide +kernel
theorem d_Polynomial_multiplyRoots_84 : decode b_Polynomial_multiplyRoots 84 = .ok (.return_, 1) := by decide +kernel
abbrev b_Polynomial_rootsAtZero : ByteArray := prog_5_method_6_code
abbrev y_Polynomial_rootsAtZero : MethodName := ⟨"SpectrumDesk$Polynomial", "rootsAtZero", "()I"⟩
abbrev v_Polynomial_rootsAtZero : List Cond := Cond.code y_Polynomial_rootsAtZero b_Polynomial_rootsAtZero 2 (some .int) :: AW
theorem d_Polynomial_rootsAtZero_0 : decode b_Polynomial_rootsAtZero 0 = .ok (.iconst 0, 1) := by decide +kernel
theorem d_Polynomial_rootsAtZero_1 : decode b_Polynomial_rootsAtZero 1 = .ok (.istore_n 1, 1) := by decide +kernel
theorem d_Polynomial_rootsAtZero_2 : decode b_Polynomial_rootsAtZero 2 = .ok (.iload_n 1, 1) := by decide +kernel
theorem d_Polynomial_rootsAtZero_3 : decode b_Polynomial_rootsAtZero 3 = .ok (.aload_n 0, 1) := by decide +kernel
theorem d_Polynomial_rootsAtZero_4 : decode b_Polynomial_rootsAtZero 4 = .ok (.getfield 24, 3) := by decide +kernel
theorem d_Polynomial_rootsAtZero_7 : decode b_Polynomial_rootsAtZero 7 = .ok (.if_icmp .ge (27), 3) := by decide +kernel
theorem d_Polynomial_rootsAtZero_10 : decode b_Polynomial_rootsAtZero 10 = .ok (.aload_n 0, 1) := by decide +kernel
theorem d_Polynomial_rootsAtZero_11 : decode b_Polynomial_rootsAtZero 11 = .ok (.getfield 11, 3) := by decide +kernel
theorem d_Polynomial_rootsAtZero_14 : decode b_Polynomial_rootsAtZero 14 = .ok (.iload_n 1, 1) := by decide +kernel
theorem d_Polynomial_rootsAtZero_15 : decode b_Polynomial_rootsAtZero 15 = .ok (.aaload, 1) := by decide +kernel
theorem d_Polynomial_rootsAtZero_16 : decode b_Polynomial_rootsAtZero 16 = .ok (.aload_n 0, 1) := by decide +kernel
theorem d_Polynomial_rootsAtZero_17 : decode b_Polynomial_rootsAtZero 17 = .ok (.getfield 20, 3) := by decide +kernel
theorem d_Polynomial_rootsAtZero_20 : decode b_Polynomial_rootsAtZero 20 = .ok (.invokestatic 51, 3) := by decide +kernel
theorem d_Polynomial_rootsAtZero_23 : decode b_Polynomial_rootsAtZero 23 = .ok (.ifCond .eq (5), 3) := by decide +kernel
theorem d_Polynomial_rootsAtZero_26 : decode b_Polynomial_rootsAtZero 26 = .ok (.iload_n 1, 1) := by decide +kernel
theorem d_Polynomial_rootsAtZero_27 : decode b_Polynomial_rootsAtZero 27 = .ok (.ireturn, 1) := by decide +kernel
theorem d_Polynomial_rootsAtZero_28 : decode b_Polynomial_rootsAtZero 28 = .ok (.iinc 1 (1), 3) := by decide +kernel
theorem d_Polynomial_rootsAtZero_31 : decode b_Polynomial_rootsAtZero 31 = .ok (.goto (-29), 3) := by decide +kernel
theorem d_Polynomial_rootsAtZero_34 : decode b_Polynomial_rootsAtZero 34 = .ok (.aload_n 0, 1) := by decide +kernel
theorem d_Polynomial_rootsAtZero_35 : decode b_Polynomial_rootsAtZero 35 = .ok (.getfield 24, 3) := by decide +kernel
theorem d_Polynomial_rootsAtZero_38 : decode b_Polynomial_rootsAtZero 38 = .ok (.ireturn, 1) := by decide +kernel
abbrev b_Polynomial_rootsAbove : ByteArray := prog_5_method_7_code
abbrev y_Polynomial_rootsAbove : MethodName := ⟨"SpectrumDesk$Polynomial", "rootsAbove", "()I"⟩
abbrev v_Polynomial_rootsAbove : List Cond := Cond.code y_Polynomial_rootsAbove b_Polynomial_rootsAbove 5 (some .int) :: AW
theorem d_Polynomial_rootsAbove_0 : decode b_Polynomial_rootsAbove 0 = .ok (.iconst 0, 1) := by decide +kernel
theorem d_Polynomial_rootsAbove_1 : decode b_Polynomial_rootsAbove 1 = .ok (.istore_n 1, 1) := by decide +kernel
theorem d_Polynomial_rootsAbove_2 : decode b_Polynomial_rootsAbove 2 = .ok (.iconst 1, 1) := by decide +kernel
theorem d_Polynomial_rootsAbove_3 : decode b_Polynomial_rootsAbove 3 = .ok (.istore_n 2, 1) := by decide +kernel
theorem d_Polynomial_rootsAbove_4 : decode b_Polynomial_rootsAbove 4 = .ok (.aload_n 0, 1) := by decide +kernel
theorem d_Polynomial_rootsAbove_5 : decode b_Polynomial_rootsAbove 5 = .ok (.getfield 24, 3) := by decide +kernel
theorem d_Polynomial_rootsAbove_8 : decode b_Polynomial_rootsAbove 8 = .ok (.istore_n 3, 1) := by decide +kernel
theorem d_Polynomial_rootsAbove_9 : decode b_Polynomial_rootsAbove 9 = .ok (.iload_n 3, 1) := by decide +kernel
theorem d_Polynomial_rootsAbove_10 : decode b_Polynomial_rootsAbove 10 = .ok (.ifCond .lt (37), 3) := by decide +kernel
theorem d_Polynomial_rootsAbove_13 : decode b_Polynomial_rootsAbove 13 = .ok (.aload_n 0, 1) := by decide +kernel
theorem d_Polynomial_rootsAbove_14 : decode b_Polynomial_rootsAbove 14 = .ok (.getfield 11, 3) := by decide +kernel
theorem d_Polynomial_rootsAbove_17 : decode b_Polynomial_rootsAbove 17 = .ok (.iload_n 3, 1) := by decide +kernel
theorem d_Polynomial_rootsAbove_18 : decode b_Polynomial_rootsAbove 18 = .ok (.aaload, 1) := by decide +kernel
theorem d_Polynomial_rootsAbove_19 : decode b_Polynomial_rootsAbove 19 = .ok (.aload_n 0, 1) := by decide +kernel
theorem d_Polynomial_rootsAbove_20 : decode b_Polynomial_rootsAbove 20 = .ok (.getfield 20, 3) := by decide +kernel
theorem d_Polynomial_rootsAbove_23 : decode b_Polynomial_rootsAbove 23 = .ok (.invokestatic 51, 3) := by decide +kernel
theorem d_Polynomial_rootsAbove_26 : decode b_Polynomial_rootsAbove 26 = .ok (.istore 4, 2) := by decide +kernel
theorem d_Polynomial_rootsAbove_28 : decode b_Polynomial_rootsAbove 28 = .ok (.iload 4, 2) := by decide +kernel
theorem d_Polynomial_rootsAbove_30 : decode b_Polynomial_rootsAbove 30 = .ok (.iload_n 2, 1) := by decide +kernel
theorem d_Polynomial_rootsAbove_31 : decode b_Polynomial_rootsAbove 31 = .ok (.ineg, 1) := by decide +kernel
theorem d_Polynomial_rootsAbove_32 : decode b_Polynomial_rootsAbove 32 = .ok (.if_icmp .ne (9), 3) := by decide +kernel
theorem d_Polynomial_rootsAbove_35 : decode b_Polynomial_rootsAbove 35 = .ok (.iinc 1 (1), 3) := by decide +kernel
theorem d_Polynomial_rootsAbove_38 : decode b_Polynomial_rootsAbove 38 = .ok (.iload 4, 2) := by decide +kernel
theorem d_Polynomial_rootsAbove_40 : decode b_Polynomial_rootsAbove 40 = .ok (.istore_n 2, 1) := by decide +kernel
theorem d_Polynomial_rootsAbove_41 : decode b_Polynomial_rootsAbove 41 = .ok (.iinc 3 (-1), 3) := by decide +kernel
theorem d_Polynomial_rootsAbove_44 : decode b_Polynomial_rootsAbove 44 = .ok (.goto (-35), 3) := by decide +kernel
theorem d_Polynomial_rootsAbove_47 : decode b_Polynomial_rootsAbove 47 = .ok (.iload_n 1, 1) := by decide +kernel
theorem d_Polynomial_rootsAbove_48 : decode b_Polynomial_rootsAbove 48 = .ok (.ireturn, 1) := by decide +kernel
abbrev b_Polynomial_rootsBelow : ByteArray := prog_5_method_8_code
abbrev y_Polynomial_rootsBelow : MethodName := ⟨"SpectrumDesk$Polynomial", "rootsBelow", "()I"⟩
abbrev v_Polynomial_rootsBelow : List Cond := Cond.code y_Polynomial_rootsBelow b_Polynomial_rootsBelow 1 (some .int) :: AW
theorem d_Polynomial_rootsBelow_0 : decode b_Polynomial_rootsBelow 0 = .ok (.aload_n 0, 1) := by decide +kernel
theorem d_Polynomial_rootsBelow_1 : decode b_Polynomial_rootsBelow 1 = .ok (.getfield 24, 3) := by decide +kernel
theorem d_Polynomial_rootsBelow_4 : decode b_Polynomial_rootsBelow 4 = .ok (.aload_n 0, 1) := by decide +kernel
theorem d_Polynomial_rootsBelow_5 : decode b_Polynomial_rootsBelow 5 = .ok (.invokevirtual 55, 3) := by decide +kernel
theorem d_Polynomial_rootsBelow_8 : decode b_Polynomial_rootsBelow 8 = .ok (.isub, 1) := by decide +kernel
theorem d_Polynomial_rootsBelow_9 : decode b_Polynomial_rootsBelow 9 = .ok (.aload_n 0, 1) := by decide +kernel
theorem d_Polynomial_rootsBelow_10 : decode b_Polynomial_rootsBelow 10 = .ok (.invokevirtual 59, 3) := by decide +kernel
theorem d_Polynomial_rootsBelow_13 : decode b_Polynomial_rootsBelow 13 = .ok (.isub, 1) := by decide +kernel
theorem d_Polynomial_rootsBelow_14 : decode b_Polynomial_rootsBelow 14 = .ok (.ireturn, 1) := by decide +kernel
theorem k_d20440e3eb : (Jvm.Cond.fieldLink "SpectrumDesk$Polynomial" (24 : Nat) "SpectrumDesk$Polynomial" "degree" "I") ∈ AW := aw_1 (List.mem_of_getElem? (i := 79) (by decide +kernel)) (by decide +kernel)
theorem k_fc34798cd9 : (Jvm.Cond.fieldLink "SpectrumDesk$Polynomial" (11 : Nat) "SpectrumDesk$Polynomial" "c" "[[I") ∈ AW := aw_1 (List.mem_of_getElem? (i := 70) (by decide +kernel)) (by decide +kernel)
theorem k_e72feda95c : (Jvm.Cond.fieldLink "SpectrumDesk$Polynomial" (20 : Nat) "SpectrumDesk$Polynomial" "limbs" "I") ∈ AW := aw_1 (List.mem_of_getElem? (i := 81) (by decide +kernel)) (by decide +kernel)
theorem k_e71ddd0730 : (Jvm.Cond.methodLink "SpectrumDesk$Polynomial" (47 : Nat) ({ cls := "SpectrumDesk$Limbs", name := "addLongTimes", desc := "([I[IJI)V" } : Jvm.MethodName)) ∈ AW := aw_3 (List.mem_of_getElem? (i := 171) (by decide +kernel)) (by decide +kernel)
theorem k_f18c53f766 : (Jvm.Cond.static ({ cls := "SpectrumDesk$Limbs", name := "addLongTimes", desc := "([I[IJI)V" } : Jvm.MethodName)) ∈ AW := aw_3 (List.mem_of_getElem? (i := 172) (by decide +kernel)) (by decide +kernel)
theorem k_d6e97a041f : (Jvm.Cond.fieldLink "SpectrumDesk$Polynomial" (16 : Nat) "SpectrumDesk$Polynomial" "spare" "[I") ∈ AW := aw_1 (List.mem_of_getElem? (i := 75) (by decide +kernel)) (by decide +kernel)
theorem k_d1c055e526 : (Jvm.Cond.methodLink "SpectrumDesk$Polynomial" (43 : Nat) ({ cls := "SpectrumDesk$Limbs", name := "copy", desc := "([I[II)V" } : Jvm.MethodName)) ∈ AW := aw_3 (List.mem_of_getElem? (i := 169) (by decide +kernel)) (by decide +kernel)
theorem k_d700ff4995 : (Jvm.Cond.static ({ cls := "SpectrumDesk$Limbs", name := "copy", desc := "([I[II)V" } : Jvm.MethodName)) ∈ AW := aw_2 (List.mem_of_getElem? (i := 43) (by decide +kernel)) (by decide +kernel)
theorem k_337ad15048 : (Jvm.Cond.methodLink "SpectrumDesk$Polynomial" (33 : Nat) ({ cls := "java/util/Arrays", name := "fill", desc := "([IIII)V" } : Jvm.MethodName)) ∈ AW := aw_3 (List.mem_of_getElem? (i := 170) (by decide +kernel)) (by decide +kernel)
theorem k_96ffd26084 : (Jvm.Cond.methodLink "SpectrumDesk$Polynomial" (51 : Nat) ({ cls := "SpectrumDesk$Limbs", name := "sign", desc := "([II)I" } : Jvm.MethodName)) ∈ AW := aw_4 (List.mem_of_getElem? (i := 48) (by decide +kernel)) (by decide +kernel)
theorem k_7f7b95cb8b : (Jvm.Cond.static ({ cls := "SpectrumDesk$Limbs", name := "sign", desc := "([II)I" } : Jvm.MethodName)) ∈ AW := aw_3 (List.mem_of_getElem? (i := 182) (by decide +kernel)) (by decide +kernel)
theorem k_bd6ea5fac5 : (Jvm.Cond.methodLink "SpectrumDesk$Polynomial" (55 : Nat) ({ cls := "SpectrumDesk$Polynomial", name := "rootsAtZero", desc := "()I" } : Jvm.MethodName)) ∈ AW := aw_4 (List.mem_of_getElem? (i := 44) (by decide +kernel)) (by decide +kernel)
theorem k_0f9ebc7ecf : (Jvm.Cond.instanceMethod ({ cls := "SpectrumDesk$Polynomial", name := "rootsAtZero", desc := "()I" } : Jvm.MethodName)) ∈ AW := aw_4 (List.mem_of_getElem? (i := 45) (by decide +kernel)) (by decide +kernel)
theorem k_9a3567c35e : (Jvm.Cond.selects "SpectrumDesk$Polynomial" ({ cls := "SpectrumDesk$Polynomial", name := "rootsAtZero", desc := "()I" } : Jvm.MethodName) ({ cls := "SpectrumDesk$Polynomial", name := "rootsAtZero", desc := "()I" } : Jvm.MethodName)) ∈ AW := aw_4 (List.mem_of_getElem? (i := 46) (by decide +kernel)) (by decide +kernel)
theorem k_a8ac99ee00 : (Jvm.Cond.initialized "SpectrumDesk$Polynomial") ∈ AW := aw_1 (List.mem_of_getElem? (i := 4) (by decide +kernel)) (by decide +kernel)
theorem k_2f6b9b0ef3 : (Jvm.Cond.methodLink "SpectrumDesk$Polynomial" (59 : Nat) ({ cls := "SpectrumDesk$Polynomial", name := "rootsAbove", desc := "()I" } : Jvm.MethodName)) ∈ AW := aw_4 (List.mem_of_getElem? (i := 49) (by decide +kernel)) (by decide +kernel)
theorem k_44b0f8a482 : (Jvm.Cond.instanceMethod ({ cls := "SpectrumDesk$Polynomial", name := "rootsAbove", desc := "()I" } : Jvm.MethodName)) ∈ AW := aw_4 (List.mem_of_getElem? (i := 50) (by decide +kernel)) (by decide +kernel)
theorem k_81d928149c : (Jvm.Cond.selects "SpectrumDesk$Polynomial" ({ cls := "SpectrumDesk$Polynomial", name := "rootsAbove", desc := "()I" } : Jvm.MethodName) ({ cls := "SpectrumDesk$Polynomial", name := "rootsAbove", desc := "()I" } : Jvm.MethodName)) ∈ AW := aw_4 (List.mem_of_getElem? (i := 51) (by decide +kernel)) (by decide +kernel)
theorem k_f8d403c61a : (Jvm.Cond.code ({ cls := "SpectrumDesk$Polynomial", name := "lowerRoots", desc := "(J)V" } : Jvm.MethodName) prog_5_method_5_code (5 : Nat) (Option.none : Option Jvm.ClassFile.FieldType)) ∈ AW := aw_4 (List.mem_of_getElem? (i := 39) (by decide +kernel)) (by decide +kernel)
theorem k_68ed1cfc4a : (Jvm.Cond.code ({ cls := "SpectrumDesk$Polynomial", name := "multiplyRoots", desc := "(J)V" } : Jvm.MethodName) prog_5_method_4_code (5 : Nat) (Option.none : Option Jvm.ClassFile.FieldType)) ∈ AW := aw_3 (List.mem_of_getElem? (i := 168) (by decide +kernel)) (by decide +kernel)
theorem k_c5d340c79c : (Jvm.Cond.code ({ cls := "SpectrumDesk$Polynomial", name := "rootsAtZero", desc := "()I" } : Jvm.MethodName) prog_5_method_6_code (2 : Nat) (Option.some Jvm.ClassFile.FieldType.int)) ∈ AW := aw_4 (List.mem_of_getElem? (i := 47) (by decide +kernel)) (by decide +kernel)
theorem k_98465b4a9e : (Jvm.Cond.code ({ cls := "SpectrumDesk$Polynomial", name := "rootsAbove", desc := "()I" } : Jvm.MethodName) prog_5_method_7_code (5 : Nat) (Option.some Jvm.ClassFile.FieldType.int)) ∈ AW := aw_4 (List.mem_of_getElem? (i := 52) (by decide +kernel)) (by decide +kernel)
theorem k_78be9b3f0a : (Jvm.Cond.code ({ cls := "SpectrumDesk$Polynomial", name := "rootsBelow", desc := "()I" } : Jvm.MethodName) prog_5_method_8_code (1 : Nat) (Option.some Jvm.ClassFile.FieldType.int)) ∈ AW := aw_4 (List.mem_of_getElem? (i := 43) (by decide +kernel)) (by decide +kernel)
set_option maxHeartbeats 4000000 in
set_option maxRecDepth 100000 in
theorem c_Polynomial_lowerRoots {l : Launch} {D : va_G} {cI cJ cZ cC cG cP : ClassId} {N : Nat} {ad : Nat → Nat} {σ : Nat → va_E} {i most dgr lbs : Nat} {F : Nat → Nat → Int32} {sp : Nat → Int32} {p0 : Nat → Int} (hN : i + 10 ≤ N) (hp0 : pl ad cI cG σ i most dgr lbs F sp) (hdg : dgr ≤ 6) (hm : most < 2 ^ 31) (hlm : lbs ≤ most) (hl2 : 2 ≤ lbs) (hpi : pl_is F dgr lbs p0) {v : Int64} :
    Met l y_Polynomial_lowerRoots v_Polynomial_lowerRoots (xrm 2) (va_Pc [.ref (ad i), .long v] (xS D classes (xT cI cJ cZ cC cG cP) N ad σ)) (va_Qv (pl_up ad cI cG σ i most dgr lbs (low v.toInt dgr p0 dgr)) (xS D classes (xT cI cJ cZ cC cG cP) N ad) (xA N ad)) 0 0 (xA N ad) := by
  refine xr_met rfl (Nat.le_of_ble_eq_true rfl) ?_
  intro p e s m args below meth c ls hx hb X hr hlk hl I
  have hl : lv_has ls 5 [(0, .ref (ad i)), (1, .long v)] := hl
  refine lv_iconst (v := nI 0) hx hb d_Polynomial_lowerRoots_0 (by decide) ?_
  refine lv_istore_n (lv' := [(3, .int (nI 0)), (0, .ref (ad i)), (1, .long v)]) hx hb d_Polynomial_lowerRoots_1 rfl hl (by decide) rfl (fun ls hl => ?_)
  have outer : ∀ (k : Nat) (a : Nat) (σ1 : Nat → va_E) (F1 : Nat → Nat → Int32) (sp1 : Nat → Int32) (ls : Array Slot) (H : Heap) (locs : List Loc), a + k = dgr → pl_fr σ σ1 i → pl ad cI cG σ1 i most dgr lbs F1 sp1 → pl_is F1 dgr lbs (low v.toInt dgr p0 a) → lv_has ls 5 [(3, .int (nI a)), (0, .ref (ad i)), (1, .long v)] → xI D classes N ad s.heap (σ1) H locs → W p l e (xrm 2) s m args below meth c H locs 0 0 (MQ below (va_Qv (pl_up ad cI cG σ i most dgr lbs (low v.toInt dgr p0 dgr)) (xS D classes (xT cI cJ cZ cC cG cP) N ad) (xA N ad)) args s 0 0 (xA N ad)) (F0 m 2 ls []) := by
    intro k
    induction k with
    | zero =>
      intro a σ1 F1 sp1 ls H locs hk hfr h1 h2 hl I
      obtain rfl : a = dgr := by omega
      refine lv_iload_n hx hb d_Polynomial_lowerRoots_2 rfl (lv_at hl 0 rfl) ?_
      refine lv_aload_n hx hb d_Polynomial_lowerRoots_3 rfl (lv_at hl 1 rfl) ?_
      refine xr_get X I fin_P i (by omega) (pl_o h1) rfl 2 (by decide) (List.mem_cons_of_mem _ k_d20440e3eb) rfl rfl d_Polynomial_lowerRoots_4 ?_
      refine lv_icmp_ge hx hb d_Polynomial_lowerRoots_7 rfl (fun hc => ?_) (fun hc => ?_)
      · exact xr_vret X I hr hlk ⟨F1, sp1, hfr, h1, h2⟩ d_Polynomial_lowerRoots_60
      · exact absurd (nI_le (Nat.le_refl _) (by omega)) hc
    | succ k ih =>
      intro a σ1 F1 sp1 ls H locs hk hfr h1 h2 hl I
      refine lv_iload_n hx hb d_Polynomial_lowerRoots_2 rfl (lv_at hl 0 rfl) ?_
      refine lv_aload_n hx hb d_Polynomial_lowerRoots_3 rfl (lv_at hl 1 rfl) ?_
      refine xr_get X I fin_P i (by omega) (pl_o h1) rfl 2 (by decide) (List.mem_cons_of_mem _ k_d20440e3eb) rfl rfl d_Polynomial_lowerRoots_4 ?_
      refine lv_icmp_ge hx hb d_Polynomial_lowerRoots_7 rfl (fun hc => ?_) (fun hc => ?_)
      · exact absurd hc (nI_ge (by omega) (by omega))
      · refine lv_aload_n hx hb d_Polynomial_lowerRoots_10 rfl (lv_at hl 1 rfl) ?_
        refine xr_get X I fin_P i (by omega) (pl_o h1) rfl 2 (by decide) (List.mem_cons_of_mem _ k_d20440e3eb) rfl rfl d_Polynomial_lowerRoots_11 ?_
        refine lv_iconst (v := nI 1) hx hb d_Polynomial_lowerRoots_14 (by decide) ?_
        refine lv_isub hx hb d_Polynomial_lowerRoots_15 ?_
        refine xr_topi (y := nP dgr) rfl ?_
        refine lv_istore (lv' := [(4, .int (nP dgr)), (3, .int (nI a)), (0, .ref (ad i)), (1, .long v)]) hx hb d_Polynomial_lowerRoots_16 hl (by decide) rfl (fun ls hl => ?_)
        have inner : ∀ (k2 : Nat) (b : Nat) (σ2 : Nat → va_E) (F2 : Nat → Nat → Int32) (sp2 : Nat → Int32) (ls : Array Slot) (H : Heap) (locs : List Loc), b = a + k2 → b ≤ dgr → pl_fr σ σ2 i → pl ad cI cG σ2 i most dgr lbs F2 sp2 → pl_is F2 dgr lbs (swp v.toInt dgr (low v.toInt dgr p0 a) (dgr - b)) → lv_has ls 5 [(4, .int (nP b)), (3, .int (nI a)), (0, .ref (ad i)), (1, .long v)] → xI D classes N ad s.heap (σ2) H locs → W p l e (xrm 2) s m args below meth c H locs 0 0 (MQ below (va_Qv (pl_up ad cI cG σ i most dgr lbs (low v.toInt dgr p0 dgr)) (xS D classes (xT cI cJ cZ cC cG cP) N ad) (xA N ad)) args s 0 0 (xA N ad)) (F0 m 18 ls []) := by
          intro k2
          induction k2 with
          | zero =>
            intro b σ2 F2 sp2 ls H locs hb2 hbd gfr g1 g2 hl I
            obtain rfl : b = a := by omega
            refine lv_iload hx hb d_Polynomial_lowerRoots_18 (lv_at hl 0 rfl) ?_
            refine lv_iload_n hx hb d_Polynomial_lowerRoots_20 rfl (lv_at hl 1 rfl) ?_
            refine lv_icmp_lt hx hb d_Polynomial_lowerRoots_21 rfl (fun hd => ?_) (fun hd => ?_)
            · refine lv_iinc (k := 1) (v := nI (b + 1)) (lv' := [(3, .int (nI (b + 1))), (4, .int (nP b)), (0, .ref (ad i)), (1, .long v)]) hx hb d_Polynomial_lowerRoots_54 hl rfl (nI_1 b) (by decide) rfl (fun ls hl => ?_)
              refine lv_goto hx hb d_Polynomial_lowerRoots_57 rfl ?_
              have hl := lv_sub hl [0, 2, 3] rfl
              have hl : lv_has ls 5 [(3, .int (nI (b + 1))), (0, .ref (ad i)), (1, .long v)] := hl
              exact ih (b + 1) σ2 F2 sp2 ls H locs (by omega) gfr g1 (by have e : low v.toInt dgr p0 (b + 1) = swp v.toInt dgr (low v.toInt dgr p0 b) (dgr - b) := rfl; rw [e]; exact g2) hl I
            · exact absurd (nP_lt (by omega)) hd
          | succ k2 jh =>
            intro b σ2 F2 sp2 ls H locs hb2 hbd gfr g1 g2 hl I
            obtain ⟨b0, rfl⟩ : ∃ b0, b = b0 + 1 := ⟨b - 1, by omega⟩
            refine lv_iload hx hb d_Polynomial_lowerRoots_18 (lv_at hl 0 rfl) ?_
            refine xr_topi (y := nI b0) (nP_succ b0) ?_
            refine lv_iload_n hx hb d_Polynomial_lowerRoots_20 rfl (lv_at hl 1 rfl) ?_
            refine lv_icmp_lt hx hb d_Polynomial_lowerRoots_21 rfl (fun hd => ?_) (fun hd => ?_)
            · exact absurd hd (nI_nlt (by omega) (by omega))
            · refine lv_aload_n hx hb d_Polynomial_lowerRoots_24 rfl (lv_at hl 2 rfl) ?_
              refine xr_get X I fin_P i (by omega) (pl_o g1) rfl 0 (by decide) (List.mem_cons_of_mem _ k_fc34798cd9) rfl rfl d_Polynomial_lowerRoots_25 ?_
              refine lv_iload hx hb d_Polynomial_lowerRoots_28 (lv_at hl 0 rfl) ?_
              refine xr_topi (y := nI b0) (nP_succ b0) ?_
              refine xr_aald X I (i + 1) 4 (by omega) (pl_c g1) rfl rfl (by omega) (by decide) (pl_at (by omega)) d_Polynomial_lowerRoots_30 ?_
              refine lv_aload_n hx hb d_Polynomial_lowerRoots_31 rfl (lv_at hl 2 rfl) ?_
              refine xr_get X I fin_P i (by omega) (pl_o g1) rfl 0 (by decide) (List.mem_cons_of_mem _ k_fc34798cd9) rfl rfl d_Polynomial_lowerRoots_32 ?_
              refine lv_iload hx hb d_Polynomial_lowerRoots_35 (lv_at hl 0 rfl) ?_
              refine xr_topi (y := nI b0) (nP_succ b0) ?_
              refine lv_iconst (v := nI 1) hx hb d_Polynomial_lowerRoots_37 (by decide) ?_
              refine lv_iadd hx hb d_Polynomial_lowerRoots_38 (xr_topi (y := nI (b0 + 1)) (nI_add b0 1) ?_)
              refine xr_aald X I (i + 1) 4 (by omega) (pl_c g1) rfl rfl (by omega) (by decide) (pl_at (by omega)) d_Polynomial_lowerRoots_39 ?_
              refine lv_lload_n hx hb d_Polynomial_lowerRoots_40 rfl (lv_at hl 3 rfl) ?_
              refine lv_aload_n hx hb d_Polynomial_lowerRoots_41 rfl (lv_at hl 2 rfl) ?_
              refine xr_get X I fin_P i (by omega) (pl_o g1) rfl 3 (by decide) (List.mem_cons_of_mem _ k_e72feda95c) rfl rfl d_Polynomial_lowerRoots_42 ?_
              refine xr_callv (xr_runS (kc := 1) (kr := 2) (n := 4) (As := [.ref (ad (i + 2 + b0)), .ref (ad (i + 2 + (b0 + 1))), .long v, .int (nI lbs)]) (rest := []) X I (c_Limbs_addLongTimes (σ := σ2) (show i + 2 + b0 < N by omega) (show i + 2 + (b0 + 1) < N by omega) (pl_r g1 (by omega)) (pl_r g1 (by omega)) (by omega) hl2 hlm hm hlm hm (g2 b0 (by omega)) (g2 (b0 + 1) (by omega))) (xg k_f8f2a75ec6) (List.mem_cons_of_mem _ k_e71ddd0730) (List.mem_cons_of_mem _ k_f18c53f766) (List.mem_cons_of_mem _ k_b15d0305ca) (by decide +kernel) (by decide) rfl hl.1 rfl (Nat.le_of_ble_eq_true rfl) d_Polynomial_lowerRoots_45) I (fun σ3 H locs hp I => ?_)
              obtain ⟨f2, rfl, h3, h4⟩ := hp
              refine lv_iinc (k := 0) (v := nP b0) (lv' := [(4, .int (nP b0)), (3, .int (nI a)), (0, .ref (ad i)), (1, .long v)]) hx hb d_Polynomial_lowerRoots_48 hl rfl (nP_dec b0) (by decide) rfl (fun ls hl => ?_)
              refine lv_goto hx hb d_Polynomial_lowerRoots_51 rfl ?_
              refine jh b0 _ _ sp2 ls H locs (by omega) (by omega) (pl_fr_up gfr (by omega)) (pl_row g1 (by omega) f2) ?_ hl I
              rw [show dgr - b0 = (dgr - (b0 + 1)) + 1 by omega, swp, show dgr - 1 - (dgr - (b0 + 1)) = b0 by omega, show dgr - (dgr - (b0 + 1)) = b0 + 1 by omega]
              intro k hk
              by_cases ek : k = b0
              · subst ek; rw [va_up_self, va_up_self]; exact h4
              · rw [va_up_ne _ _ ek, va_up_ne _ _ ek]; exact g2 k hk
        exact inner (dgr - a) dgr σ1 F1 sp1 ls _ _ (by omega) (Nat.le_refl _) hfr h1 (by rw [Nat.sub_self]; exact h2) hl I
  exact outer dgr 0 σ F sp ls _ _ (by omega) pl_fr_rf hp0 hpi hl I
set_option maxHeartbeats 4000000 in
set_option maxRecDepth 100000 in
theorem c_Polynomial_multiplyRoots {l : Launch} {D : va_G} {cI cJ cZ cC cG cP : ClassId} {N : Nat} {ad : Nat → Nat} {σ : Nat → va_E} {i most dgr lbs : Nat} {F : Nat → Nat → Int32} {sp : Nat → Int32} {p0 : Nat → Int} (hN : i + 10 ≤ N) (hp0 : pl ad cI cG σ i most dgr lbs F sp) (hdg : dgr ≤ 6) (hm : most < 2 ^ 31) (hlm : lbs ≤ most) (hl2 : 2 ≤ lbs) (hpi : pl_is F dgr lbs p0) {v : Int64} :
    Met l y_Polynomial_multiplyRoots v_Polynomial_multiplyRoots (xrm 2) (va_Pc [.ref (ad i), .long v] (xS D classes (xT cI cJ cZ cC cG cP) N ad σ)) (va_Qv (pl_up ad cI cG σ i most dgr lbs (mulp v.toInt dgr p0 dgr)) (xS D classes (xT cI cJ cZ cC cG cP) N ad) (xA N ad)) 0 0 (xA N ad) := by
  refine xr_met rfl (Nat.le_of_ble_eq_true rfl) ?_
  intro p e s m args below meth c ls hx hb X hr hlk hl I
  have hl : lv_has ls 5 [(0, .ref (ad i)), (1, .long v)] := hl
  refine lv_iconst (v := nI 0) hx hb d_Polynomial_multiplyRoots_0 (by decide) ?_
  refine lv_istore_n (lv' := [(3, .int (nI 0)), (0, .ref (ad i)), (1, .long v)]) hx hb d_Polynomial_multiplyRoots_1 rfl hl (by decide) rfl (fun ls hl => ?_)
  have outer : ∀ (k : Nat) (a : Nat) (σ1 : Nat → va_E) (F1 : Nat → Nat → Int32) (sp1 : Nat → Int32) (ls : Array Slot) (H : Heap) (locs : List Loc), a + k = dgr → pl_fr σ σ1 i → pl ad cI cG σ1 i most dgr lbs F1 sp1 → pl_is F1 dgr lbs (mulp v.toInt dgr p0 a) → lv_has ls 5 [(3, .int (nI a)), (0, .ref (ad i)), (1, .long v)] → xI D classes N ad s.heap (σ1) H locs → W p l e (xrm 2) s m args below meth c H locs 0 0 (MQ below (va_Qv (pl_up ad cI cG σ i most dgr lbs (mulp v.toInt dgr p0 dgr)) (xS D classes (xT cI cJ cZ cC cG cP) N ad) (xA N ad)) args s 0 0 (xA N ad)) (F0 m 2 ls []) := by
    intro k
    induction k with
    | zero =>
      intro a σ1 F1 sp1 ls H locs hk hfr h1 h2 hl I
      obtain rfl : a = dgr := by omega
      refine lv_iload_n hx hb d_Polynomial_multiplyRoots_2 rfl (lv_at hl 0 rfl) ?_
      refine lv_aload_n hx hb d_Polynomial_multiplyRoots_3 rfl (lv_at hl 1 rfl) ?_
      refine xr_get X I fin_P i (by omega) (pl_o h1) rfl 2 (by decide) (List.mem_cons_of_mem _ k_d20440e3eb) rfl rfl d_Polynomial_multiplyRoots_4 ?_
      refine lv_icmp_ge hx hb d_Polynomial_multiplyRoots_7 rfl (fun hc => ?_) (fun hc => ?_)
      · exact xr_vret X I hr hlk ⟨F1, sp1, hfr, h1, h2⟩ d_Polynomial_multiplyRoots_84
      · exact absurd (nI_le (Nat.le_refl _) (by omega)) hc
    | succ k ih =>
      intro a σ1 F1 sp1 ls H locs hk hfr h1 h2 hl I
      refine lv_iload_n hx hb d_Polynomial_multiplyRoots_2 rfl (lv_at hl 0 rfl) ?_
      refine lv_aload_n hx hb d_Polynomial_multiplyRoots_3 rfl (lv_at hl 1 rfl) ?_
      refine xr_get X I fin_P i (by omega) (pl_o h1) rfl 2 (by decide) (List.mem_cons_of_mem _ k_d20440e3eb) rfl rfl d_Polynomial_multiplyRoots_4 ?_
      refine lv_icmp_ge hx hb d_Polynomial_multiplyRoots_7 rfl (fun hc => ?_) (fun hc => ?_)
      · exact absurd hc (nI_ge (by omega) (by omega))
      · refine lv_iload_n hx hb d_Polynomial_multiplyRoots_10 rfl (lv_at hl 0 rfl) ?_
        refine lv_istore (lv' := [(4, .int (nI a)), (3, .int (nI a)), (0, .ref (ad i)), (1, .long v)]) hx hb d_Polynomial_multiplyRoots_11 hl (by decide) rfl (fun ls hl => ?_)
        have inner : ∀ (k2 : Nat) (b : Nat) (σ2 : Nat → va_E) (F2 : Nat → Nat → Int32) (sp2 : Nat → Int32) (ls : Array Slot) (H : Heap) (locs : List Loc), b + k2 = dgr → a ≤ b → pl_fr σ σ2 i → pl ad cI cG σ2 i most dgr lbs F2 sp2 → pl_is F2 dgr lbs (va_up (mulp v.toInt dgr p0 a) a (p0 a * v.toInt ^ (b - a))) → lv_has ls 5 [(4, .int (nI b)), (3, .int (nI a)), (0, .ref (ad i)), (1, .long v)] → xI D classes N ad s.heap (σ2) H locs → W p l e (xrm 2) s m args below meth c H locs 0 0 (MQ below (va_Qv (pl_up ad cI cG σ i most dgr lbs (mulp v.toInt dgr p0 dgr)) (xS D classes (xT cI cJ cZ cC cG cP) N ad) (xA N ad)) args s 0 0 (xA N ad)) (F0 m 13 ls []) := by
          intro k2
          induction k2 with
          | zero =>
            intro b σ2 F2 sp2 ls H locs hb2 hab gfr g1 g2 hl I
            obtain rfl : b = dgr := by omega
            refine lv_iload hx hb d_Polynomial_multiplyRoots_13 (lv_at hl 0 rfl) ?_
            refine lv_aload_n hx hb d_Polynomial_multiplyRoots_15 rfl (lv_at hl 2 rfl) ?_
            refine xr_get X I fin_P i (by omega) (pl_o g1) rfl 2 (by decide) (List.mem_cons_of_mem _ k_d20440e3eb) rfl rfl d_Polynomial_multiplyRoots_16 ?_
            refine lv_icmp_ge hx hb d_Polynomial_multiplyRoots_19 rfl (fun hd => ?_) (fun hd => ?_)
            · refine lv_iinc (k := 1) (v := nI (a + 1)) (lv' := [(3, .int (nI (a + 1))), (4, .int (nI b)), (0, .ref (ad i)), (1, .long v)]) hx hb d_Polynomial_multiplyRoots_78 hl rfl (nI_1 a) (by decide) rfl (fun ls hl => ?_)
              refine lv_goto hx hb d_Polynomial_multiplyRoots_81 rfl ?_
              have hl := lv_sub hl [0, 2, 3] rfl
              have hl : lv_has ls 5 [(3, .int (nI (a + 1))), (0, .ref (ad i)), (1, .long v)] := hl
              refine ih (a + 1) σ2 F2 sp2 ls H locs (by omega) gfr g1 (fun k9 hk9 => ?_) hl I
              have h9 := g2 k9 hk9
              simp only [va_up, mulp] at h9 ⊢
              by_cases e1 : k9 = a
              · subst e1; rw [if_pos rfl] at h9; rw [if_pos (by omega)]; exact h9
              · rw [if_neg e1] at h9; by_cases e2 : k9 < a
                · rw [if_pos e2] at h9; rw [if_pos (by omega)]; exact h9
                · rw [if_neg e2] at h9; rw [if_neg (by omega)]; exact h9
            · exact absurd (nI_le (Nat.le_refl _) (by omega)) hd
          | succ k2 jh =>
            intro b σ2 F2 sp2 ls H locs hb2 hab gfr g1 g2 hl I
            refine lv_iload hx hb d_Polynomial_multiplyRoots_13 (lv_at hl 0 rfl) ?_
            refine lv_aload_n hx hb d_Polynomial_multiplyRoots_15 rfl (lv_at hl 2 rfl) ?_
            refine xr_get X I fin_P i (by omega) (pl_o g1) rfl 2 (by decide) (List.mem_cons_of_mem _ k_d20440e3eb) rfl rfl d_Polynomial_multiplyRoots_16 ?_
            refine lv_icmp_ge hx hb d_Polynomial_multiplyRoots_19 rfl (fun hd => ?_) (fun hd => ?_)
            · exact absurd hd (nI_ge (by omega) (by omega))
            · refine lv_aload_n hx hb d_Polynomial_multiplyRoots_22 rfl (lv_at hl 2 rfl) ?_
              refine xr_get X I fin_P i (by omega) (pl_o g1) rfl 1 (by decide) (List.mem_cons_of_mem _ k_d6e97a041f) rfl rfl d_Polynomial_multiplyRoots_23 ?_
              refine lv_aload_n hx hb d_Polynomial_multiplyRoots_26 rfl (lv_at hl 2 rfl) ?_
              refine xr_get X I fin_P i (by omega) (pl_o g1) rfl 0 (by decide) (List.mem_cons_of_mem _ k_fc34798cd9) rfl rfl d_Polynomial_multiplyRoots_27 ?_
              refine lv_iload_n hx hb d_Polynomial_multiplyRoots_30 rfl (lv_at hl 1 rfl) ?_
              refine xr_aald X I (i + 1) 4 (by omega) (pl_c g1) rfl rfl (by omega) (by decide) (pl_at (by omega)) d_Polynomial_multiplyRoots_31 ?_
              refine lv_aload_n hx hb d_Polynomial_multiplyRoots_32 rfl (lv_at hl 2 rfl) ?_
              refine xr_get X I fin_P i (by omega) (pl_o g1) rfl 3 (by decide) (List.mem_cons_of_mem _ k_e72feda95c) rfl rfl d_Polynomial_multiplyRoots_33 ?_
              refine xr_callv (xr_runS (kc := 1) (kr := 2) (n := 3) (As := [.ref (ad (i + 9)), .ref (ad (i + 2 + a)), .int (nI lbs)]) (rest := []) X I (c_Limbs_copy (σ := σ2) (show i + 9 < N by omega) (show i + 2 + a < N by omega) (pl_s g1) (pl_r g1 (by omega)) hlm hm hlm hm) (xg k_a09a60a57c) (List.mem_cons_of_mem _ k_d1c055e526) (List.mem_cons_of_mem _ k_d700ff4995) (List.mem_cons_of_mem _ k_b15d0305ca) (by decide +kernel) (by decide) rfl hl.1 rfl (Nat.le_of_ble_eq_true rfl) d_Polynomial_multiplyRoots_36) I (fun σ3 H locs hp I => ?_)
              obtain rfl := hp
              have g3 := pl_spare g1 (va_cpy (F2 a) sp2 0 0 lbs)
              refine lv_aload_n hx hb d_Polynomial_multiplyRoots_39 rfl (lv_at hl 2 rfl) ?_
              refine xr_get X I fin_P i (by omega) (pl_o g3) rfl 0 (by decide) (List.mem_cons_of_mem _ k_fc34798cd9) rfl rfl d_Polynomial_multiplyRoots_40 ?_
              refine lv_iload_n hx hb d_Polynomial_multiplyRoots_43 rfl (lv_at hl 1 rfl) ?_
              refine xr_aald X I (i + 1) 4 (by omega) (pl_c g3) rfl rfl (by omega) (by decide) (pl_at (by omega)) d_Polynomial_multiplyRoots_44 ?_
              refine lv_iconst (v := nI 0) hx hb d_Polynomial_multiplyRoots_45 (by decide) ?_
              refine lv_aload_n hx hb d_Polynomial_multiplyRoots_46 rfl (lv_at hl 2 rfl) ?_
              refine xr_get X I fin_P i (by omega) (pl_o g3) rfl 3 (by decide) (List.mem_cons_of_mem _ k_e72feda95c) rfl rfl d_Polynomial_multiplyRoots_47 ?_
              refine lv_iconst (v := nI 0) hx hb d_Polynomial_multiplyRoots_50 (by decide) ?_
              refine xr_callv (xr_runS (kc := 1) (kr := 2) (n := 4) (As := [.ref (ad (i + 2 + a)), .int (nI 0), .int (nI lbs), .int (nI 0)]) (rest := []) X I (c_Arrays_fill4 (v := nI 0) (fr := 0) (to := lbs) (show i + 2 + a < N by omega) (pl_r g3 (by omega)) (Nat.zero_le _) hlm hm) (xg k_0d10cb0081) (List.mem_cons_of_mem _ k_337ad15048) (List.mem_cons_of_mem _ k_f06b3a4574) (List.mem_cons_of_mem _ k_9b51368402) (by decide +kernel) (by decide) rfl hl.1 rfl (Nat.le_of_ble_eq_true rfl) d_Polynomial_multiplyRoots_51) I (fun σ3 H locs hp I => ?_)
              obtain ⟨f3, rfl, f4, f5⟩ := hp
              have g4 := pl_row g3 (show a < 7 by omega) f3
              refine lv_aload_n hx hb d_Polynomial_multiplyRoots_54 rfl (lv_at hl 2 rfl) ?_
              refine xr_get X I fin_P i (by omega) (pl_o g4) rfl 0 (by decide) (List.mem_cons_of_mem _ k_fc34798cd9) rfl rfl d_Polynomial_multiplyRoots_55 ?_
              refine lv_iload_n hx hb d_Polynomial_multiplyRoots_58 rfl (lv_at hl 1 rfl) ?_
              refine xr_aald X I (i + 1) 4 (by omega) (pl_c g4) rfl rfl (by omega) (by decide) (pl_at (by omega)) d_Polynomial_multiplyRoots_59 ?_
              refine lv_aload_n hx hb d_Polynomial_multiplyRoots_60 rfl (lv_at hl 2 rfl) ?_
              refine xr_get X I fin_P i (by omega) (pl_o g4) rfl 1 (by decide) (List.mem_cons_of_mem _ k_d6e97a041f) rfl rfl d_Polynomial_multiplyRoots_61 ?_
              refine lv_lload_n hx hb d_Polynomial_multiplyRoots_64 rfl (lv_at hl 3 rfl) ?_
              refine lv_aload_n hx hb d_Polynomial_multiplyRoots_65 rfl (lv_at hl 2 rfl) ?_
              refine xr_get X I fin_P i (by omega) (pl_o g4) rfl 3 (by decide) (List.mem_cons_of_mem _ k_e72feda95c) rfl rfl d_Polynomial_multiplyRoots_66 ?_
              have ha := g2 a (by omega)
              rw [va_up_self] at ha
              have hcp : lm_is (va_cpy (F2 a) sp2 0 0 lbs) lbs (p0 a * v.toInt ^ (b - a)) := lm_is_congr (fun j hj => by rw [pk_cpy_in (by omega) (by omega)]; simp) ha
              refine xr_callv (xr_runS (kc := 1) (kr := 2) (n := 4) (As := [.ref (ad (i + 2 + a)), .ref (ad (i + 9)), .long v, .int (nI lbs)]) (rest := []) X I (c_Limbs_addLongTimes (x := 0) (show i + 2 + a < N by omega) (show i + 9 < N by omega) ((pl_r g4 (show a < 7 by omega)).trans (by rw [va_up_self])) (pl_s g4) (by omega) hl2 hlm hm hlm hm (lm_is_zero (fun j hj => f4 j (Nat.zero_le _) hj)) hcp) (xg k_f8f2a75ec6) (List.mem_cons_of_mem _ k_e71ddd0730) (List.mem_cons_of_mem _ k_f18c53f766) (List.mem_cons_of_mem _ k_b15d0305ca) (by decide +kernel) (by decide) rfl hl.1 rfl (Nat.le_of_ble_eq_true rfl) d_Polynomial_multiplyRoots_69) I (fun σ3 H locs hp I => ?_)
              obtain ⟨f6, rfl, f7, f8⟩ := hp
              have g5 := pl_row g4 (show a < 7 by omega) f6
              refine lv_iinc (k := 0) (v := nI (b + 1)) (lv' := [(4, .int (nI (b + 1))), (3, .int (nI a)), (0, .ref (ad i)), (1, .long v)]) hx hb d_Polynomial_multiplyRoots_72 hl rfl (nI_1 b) (by decide) rfl (fun ls hl => ?_)
              refine lv_goto hx hb d_Polynomial_multiplyRoots_75 rfl ?_
              refine jh (b + 1) _ _ _ ls H locs (by omega) (by omega) (pl_fr_up (pl_fr_up (pl_fr_up gfr (by omega)) (by omega)) (by omega)) g5 (fun k9 hk9 => ?_) hl I
              by_cases e1 : k9 = a
              · subst e1; rw [va_up_self, va_up_self, show b + 1 - k9 = (b - k9) + 1 by omega, Int.pow_succ]; exact lm_is_mod f8 0 (by grind)
              · rw [va_up_ne _ _ e1, va_up_ne _ _ e1, va_up_ne _ _ e1]; have h9 := g2 k9 hk9; rw [va_up_ne _ _ e1] at h9; exact h9
        exact inner (dgr - a) a σ1 F1 sp1 ls _ _ (by omega) (Nat.le_refl _) hfr h1 (by rw [Nat.sub_self, va_up_same (by simp [mulp])]; exact h2) hl I
  exact outer dgr 0 σ F sp ls _ _ (by omega) pl_fr_rf hp0 (by rw [show mulp v.toInt dgr p0 0 = p0 from by funext k; simp [mulp]]; exact hpi) hl I
set_option maxHeartbeats 4000000 in
set_option maxRecDepth 100000 in
theorem c_Polynomial_rootsAtZero {l : Launch} {D : va_G} {cI cJ cZ cC cG cP : ClassId} {N : Nat} {ad : Nat → Nat} {σ : Nat → va_E} {i most dgr lbs : Nat} {F : Nat → Nat → Int32} {sp : Nat → Int32} {p0 : Nat → Int} (hN : i + 10 ≤ N) (hp0 : pl ad cI cG σ i most dgr lbs F sp) (hdg : dgr ≤ 6) (hm : most < 2 ^ 31) (hlm : lbs ≤ most) (hl2 : 2 ≤ lbs) (hpi : pl_is F dgr lbs p0) (hsz : pl_sz dgr lbs p0) :
    Met l y_Polynomial_rootsAtZero v_Polynomial_rootsAtZero (xrm 1) (va_Pc [.ref (ad i)] (xS D classes (xT cI cJ cZ cC cG cP) N ad σ)) (va_Qi (fun r σ2 => r = nI (ez p0 0 dgr) ∧ σ2 = σ) (xS D classes (xT cI cJ cZ cC cG cP) N ad) (xA N ad)) 0 0 (xA N ad) := by
  refine xr_met rfl (Nat.le_of_ble_eq_true rfl) ?_
  intro p e s m args below meth c ls hx hb X hr hlk hl I
  have hl : lv_has ls 2 [(0, .ref (ad i))] := hl
  refine lv_iconst (v := nI 0) hx hb d_Polynomial_rootsAtZero_0 (by decide) ?_
  refine lv_istore_n (lv' := [(1, .int (nI 0)), (0, .ref (ad i))]) hx hb d_Polynomial_rootsAtZero_1 rfl hl (by decide) rfl (fun ls hl => ?_)
  have loop : ∀ (k : Nat) (a : Nat) (ls : Array Slot) (H : Heap) (locs : List Loc), a + k = dgr → ez p0 0 dgr = ez p0 a k → lv_has ls 2 [(1, .int (nI a)), (0, .ref (ad i))] → xI D classes N ad s.heap (σ) H locs → W p l e (xrm 1) s m args below meth c H locs 0 0 (MQ below (va_Qi (fun r σ2 => r = nI (ez p0 0 dgr) ∧ σ2 = σ) (xS D classes (xT cI cJ cZ cC cG cP) N ad) (xA N ad)) args s 0 0 (xA N ad)) (F0 m 2 ls []) := by
    intro k
    induction k with
    | zero =>
      intro a ls H locs hk he hl I
      obtain rfl : a = dgr := by omega
      refine lv_iload_n hx hb d_Polynomial_rootsAtZero_2 rfl (lv_at hl 0 rfl) ?_
      refine lv_aload_n hx hb d_Polynomial_rootsAtZero_3 rfl (lv_at hl 1 rfl) ?_
      refine xr_get X I fin_P i (by omega) (pl_o hp0) rfl 2 (by decide) (List.mem_cons_of_mem _ k_d20440e3eb) rfl rfl d_Polynomial_rootsAtZero_4 ?_
      refine lv_icmp_ge hx hb d_Polynomial_rootsAtZero_7 rfl (fun hc => ?_) (fun hc => ?_)
      · refine lv_aload_n hx hb d_Polynomial_rootsAtZero_34 rfl (lv_at hl 1 rfl) ?_
        refine xr_get X I fin_P i (by omega) (pl_o hp0) rfl 2 (by decide) (List.mem_cons_of_mem _ k_d20440e3eb) rfl rfl d_Polynomial_rootsAtZero_35 ?_
        exact xr_iret X I hr hlk ⟨by rw [he]; rfl, rfl⟩ d_Polynomial_rootsAtZero_38
      · exact absurd (nI_le (Nat.le_refl _) (by omega)) hc
    | succ k ih =>
      intro a ls H locs hk he hl I
      refine lv_iload_n hx hb d_Polynomial_rootsAtZero_2 rfl (lv_at hl 0 rfl) ?_
      refine lv_aload_n hx hb d_Polynomial_rootsAtZero_3 rfl (lv_at hl 1 rfl) ?_
      refine xr_get X I fin_P i (by omega) (pl_o hp0) rfl 2 (by decide) (List.mem_cons_of_mem _ k_d20440e3eb) rfl rfl d_Polynomial_rootsAtZero_4 ?_
      refine lv_icmp_ge hx hb d_Polynomial_rootsAtZero_7 rfl (fun hc => ?_) (fun hc => ?_)
      · exact absurd hc (nI_ge (by omega) (by omega))
      · refine lv_aload_n hx hb d_Polynomial_rootsAtZero_10 rfl (lv_at hl 1 rfl) ?_
        refine xr_get X I fin_P i (by omega) (pl_o hp0) rfl 0 (by decide) (List.mem_cons_of_mem _ k_fc34798cd9) rfl rfl d_Polynomial_rootsAtZero_11 ?_
        refine lv_iload_n hx hb d_Polynomial_rootsAtZero_14 rfl (lv_at hl 0 rfl) ?_
        refine xr_aald X I (i + 1) 4 (by omega) (pl_c hp0) rfl rfl (by omega) (by decide) (pl_at (by omega)) d_Polynomial_rootsAtZero_15 ?_
        refine lv_aload_n hx hb d_Polynomial_rootsAtZero_16 rfl (lv_at hl 1 rfl) ?_
        refine xr_get X I fin_P i (by omega) (pl_o hp0) rfl 3 (by decide) (List.mem_cons_of_mem _ k_e72feda95c) rfl rfl d_Polynomial_rootsAtZero_17 ?_
        refine xr_calli (xr_runS (kc := 0) (kr := 1) (n := 2) (As := [.ref (ad (i + 2 + a)), .int (nI lbs)]) (rest := []) X I (c_Limbs_sign (σ := σ) (show i + 2 + a < N by omega) (pl_r hp0 (by omega)) (by omega) hlm hm ⟨hpi a (by omega), hsz a (by omega)⟩) (xg k_507de67514) (List.mem_cons_of_mem _ k_96ffd26084) (List.mem_cons_of_mem _ k_7f7b95cb8b) (List.mem_cons_of_mem _ k_b15d0305ca) (by decide +kernel) (by decide) rfl hl.1 rfl (Nat.le_of_ble_eq_true rfl) d_Polynomial_rootsAtZero_20) I (fun r σ3 H locs hp I => ?_)
        obtain ⟨rfl, h9⟩ := hp; rw [h9] at I
        refine lv_if_eq hx hb d_Polynomial_rootsAtZero_23 rfl (fun hd => ?_) (fun hd => ?_)
        · have hz := sg_zero.mp hd
          refine lv_iinc (k := 0) (v := nI (a + 1)) (lv' := [(1, .int (nI (a + 1))), (0, .ref (ad i))]) hx hb d_Polynomial_rootsAtZero_28 hl rfl (nI_1 a) (by decide) rfl (fun ls hl => ?_)
          refine lv_goto hx hb d_Polynomial_rootsAtZero_31 rfl ?_
          exact ih (a + 1) ls H locs (by omega) (by rw [he, ez, if_pos hz]) hl I
        · have hz : ¬ p0 a = 0 := fun h => hd (sg_zero.mpr h)
          refine lv_iload_n hx hb d_Polynomial_rootsAtZero_26 rfl (lv_at hl 0 rfl) ?_
          exact xr_iret X I hr hlk ⟨by rw [he, ez, if_neg hz], rfl⟩ d_Polynomial_rootsAtZero_27
  exact loop dgr 0 ls _ _ (by omega) rfl hl I
set_option maxHeartbeats 4000000 in
set_option maxRecDepth 100000 in
theorem c_Polynomial_rootsAbove {l : Launch} {D : va_G} {cI cJ cZ cC cG cP : ClassId} {N : Nat} {ad : Nat → Nat} {σ : Nat → va_E} {i most dgr lbs : Nat} {F : Nat → Nat → Int32} {sp : Nat → Int32} {p0 : Nat → Int} (hN : i + 10 ≤ N) (hp0 : pl ad cI cG σ i most dgr lbs F sp) (hdg : dgr ≤ 6) (hm : most < 2 ^ 31) (hlm : lbs ≤ most) (hl2 : 2 ≤ lbs) (hpi : pl_is F dgr lbs p0) (hsz : pl_sz dgr lbs p0) :
    Met l y_Polynomial_rootsAbove v_Polynomial_rootsAbove (xrm 1) (va_Pc [.ref (ad i)] (xS D classes (xT cI cJ cZ cC cG cP) N ad σ)) (va_Qi (fun r σ2 => r = nI (ra p0 (nI 1) (dgr + 1)) ∧ σ2 = σ) (xS D classes (xT cI cJ cZ cC cG cP) N ad) (xA N ad)) 0 0 (xA N ad) := by
  refine xr_met rfl (Nat.le_of_ble_eq_true rfl) ?_
  intro p e s m args below meth c ls hx hb X hr hlk hl I
  have hl : lv_has ls 5 [(0, .ref (ad i))] := hl
  refine lv_iconst (v := nI 0) hx hb d_Polynomial_rootsAbove_0 (by decide) ?_
  refine lv_istore_n (lv' := [(1, .int (nI 0)), (0, .ref (ad i))]) hx hb d_Polynomial_rootsAbove_1 rfl hl (by decide) rfl (fun ls hl => ?_)
  refine lv_iconst (v := nI 1) hx hb d_Polynomial_rootsAbove_2 (by decide) ?_
  refine lv_istore_n (lv' := [(2, .int (nI 1)), (1, .int (nI 0)), (0, .ref (ad i))]) hx hb d_Polynomial_rootsAbove_3 rfl hl (by decide) rfl (fun ls hl => ?_)
  refine lv_aload_n hx hb d_Polynomial_rootsAbove_4 rfl (lv_at hl 2 rfl) ?_
  refine xr_get X I fin_P i (by omega) (pl_o hp0) rfl 2 (by decide) (List.mem_cons_of_mem _ k_d20440e3eb) rfl rfl d_Polynomial_rootsAbove_5 ?_
  refine xr_topi (y := nP (dgr + 1)) (nP_succ dgr).symm ?_
  refine lv_istore_n (lv' := [(3, .int (nP (dgr + 1))), (2, .int (nI 1)), (1, .int (nI 0)), (0, .ref (ad i))]) hx hb d_Polynomial_rootsAbove_8 rfl hl (by decide) rfl (fun ls hl => ?_)
  have loop : ∀ (k : Nat) (lt : Int32) (ch : Nat) (ls : Array Slot) (H : Heap) (locs : List Loc), k ≤ dgr + 1 → ra p0 (nI 1) (dgr + 1) = ch + ra p0 lt k → lv_has ls 5 [(3, .int (nP k)), (2, .int lt), (1, .int (nI ch)), (0, .ref (ad i))] → xI D classes N ad s.heap (σ) H locs → W p l e (xrm 1) s m args below meth c H locs 0 0 (MQ below (va_Qi (fun r σ2 => r = nI (ra p0 (nI 1) (dgr + 1)) ∧ σ2 = σ) (xS D classes (xT cI cJ cZ cC cG cP) N ad) (xA N ad)) args s 0 0 (xA N ad)) (F0 m 9 ls []) := by
    intro k
    induction k with
    | zero =>
      intro lt ch ls H locs hk he hl I
      refine lv_iload_n hx hb d_Polynomial_rootsAbove_9 rfl (lv_at hl 0 rfl) ?_
      refine lv_if_lt hx hb d_Polynomial_rootsAbove_10 rfl (fun hc => ?_) (fun hc => ?_)
      · refine lv_iload_n hx hb d_Polynomial_rootsAbove_47 rfl (lv_at hl 2 rfl) ?_
        exact xr_iret X I hr hlk ⟨by rw [he]; rfl, rfl⟩ d_Polynomial_rootsAbove_48
      · exact absurd nP_0 hc
    | succ k ih =>
      intro lt ch ls H locs hk he hl I
      refine lv_iload_n hx hb d_Polynomial_rootsAbove_9 rfl (lv_at hl 0 rfl) ?_
      refine xr_topi (y := nI k) (nP_succ k) ?_
      refine lv_if_lt hx hb d_Polynomial_rootsAbove_10 rfl (fun hc => ?_) (fun hc => ?_)
      · exact absurd hc (nI_pos (by omega))
      · refine lv_aload_n hx hb d_Polynomial_rootsAbove_13 rfl (lv_at hl 3 rfl) ?_
        refine xr_get X I fin_P i (by omega) (pl_o hp0) rfl 0 (by decide) (List.mem_cons_of_mem _ k_fc34798cd9) rfl rfl d_Polynomial_rootsAbove_14 ?_
        refine lv_iload_n hx hb d_Polynomial_rootsAbove_17 rfl (lv_at hl 0 rfl) ?_
        refine xr_topi (y := nI k) (nP_succ k) ?_
        refine xr_aald X I (i + 1) 4 (by omega) (pl_c hp0) rfl rfl (by omega) (by decide) (pl_at (by omega)) d_Polynomial_rootsAbove_18 ?_
        refine lv_aload_n hx hb d_Polynomial_rootsAbove_19 rfl (lv_at hl 3 rfl) ?_
        refine xr_get X I fin_P i (by omega) (pl_o hp0) rfl 3 (by decide) (List.mem_cons_of_mem _ k_e72feda95c) rfl rfl d_Polynomial_rootsAbove_20 ?_
        refine xr_calli (xr_runS (kc := 0) (kr := 1) (n := 2) (As := [.ref (ad (i + 2 + k)), .int (nI lbs)]) (rest := []) X I (c_Limbs_sign (σ := σ) (show i + 2 + k < N by omega) (pl_r hp0 (by omega)) (by omega) hlm hm ⟨hpi k (by omega), hsz k (by omega)⟩) (xg k_507de67514) (List.mem_cons_of_mem _ k_96ffd26084) (List.mem_cons_of_mem _ k_7f7b95cb8b) (List.mem_cons_of_mem _ k_b15d0305ca) (by decide +kernel) (by decide) rfl hl.1 rfl (Nat.le_of_ble_eq_true rfl) d_Polynomial_rootsAbove_23) I (fun r σ3 H locs hp I => ?_)
        obtain ⟨rfl, h9⟩ := hp; rw [h9] at I
        refine lv_istore (lv' := [(4, .int (sg (p0 k))), (3, .int (nP (k + 1))), (2, .int lt), (1, .int (nI ch)), (0, .ref (ad i))]) hx hb d_Polynomial_rootsAbove_26 hl (by decide) rfl (fun ls hl => ?_)
        refine lv_iload hx hb d_Polynomial_rootsAbove_28 (lv_at hl 0 rfl) ?_
        refine lv_iload_n hx hb d_Polynomial_rootsAbove_30 rfl (lv_at hl 2 rfl) ?_
        refine lv_ineg hx hb d_Polynomial_rootsAbove_31 ?_
        refine lv_icmp_ne hx hb d_Polynomial_rootsAbove_32 rfl (fun hd => ?_) (fun hd => ?_)
        · refine lv_iinc (k := 1) (v := nP k) (lv' := [(3, .int (nP k)), (4, .int (sg (p0 k))), (2, .int lt), (1, .int (nI ch)), (0, .ref (ad i))]) hx hb d_Polynomial_rootsAbove_41 hl rfl (nP_dec k) (by decide) rfl (fun ls hl => ?_)
          refine lv_goto hx hb d_Polynomial_rootsAbove_44 rfl ?_
          have hl := lv_sub hl [0, 2, 3, 4] rfl
          have hl : lv_has ls 5 [(3, .int (nP k)), (2, .int lt), (1, .int (nI ch)), (0, .ref (ad i))] := hl
          exact ih lt ch ls H locs (by omega) (by rw [he, ra, if_neg hd]) hl I
        · refine lv_iinc (k := 3) (v := nI (ch + 1)) (lv' := [(1, .int (nI (ch + 1))), (4, .int (sg (p0 k))), (3, .int (nP (k + 1))), (2, .int lt), (0, .ref (ad i))]) hx hb d_Polynomial_rootsAbove_35 hl rfl (nI_1 ch) (by decide) rfl (fun ls hl => ?_)
          refine lv_iload hx hb d_Polynomial_rootsAbove_38 (lv_at hl 1 rfl) ?_
          refine lv_istore_n (lv' := [(2, .int (sg (p0 k))), (1, .int (nI (ch + 1))), (4, .int (sg (p0 k))), (3, .int (nP (k + 1))), (0, .ref (ad i))]) hx hb d_Polynomial_rootsAbove_40 rfl hl (by decide) rfl (fun ls hl => ?_)
          refine lv_iinc (k := 3) (v := nP k) (lv' := [(3, .int (nP k)), (2, .int (sg (p0 k))), (1, .int (nI (ch + 1))), (4, .int (sg (p0 k))), (0, .ref (ad i))]) hx hb d_Polynomial_rootsAbove_41 hl rfl (nP_dec k) (by decide) rfl (fun ls hl => ?_)
          refine lv_goto hx hb d_Polynomial_rootsAbove_44 rfl ?_
          have hl := lv_sub hl [0, 1, 2, 4] rfl
          have hl : lv_has ls 5 [(3, .int (nP k)), (2, .int (sg (p0 k))), (1, .int (nI (ch + 1))), (0, .ref (ad i))] := hl
          exact ih (sg (p0 k)) (ch + 1) ls H locs (by omega) (by rw [he, ra, if_pos hd]; omega) hl I
  exact loop (dgr + 1) (nI 1) 0 ls _ _ (Nat.le_refl _) (by omega) hl I
set_option maxHeartbeats 4000000 in
set_option maxRecDepth 100000 in
theorem c_Polynomial_rootsBelow {l : Launch} {D : va_G} {cI cJ cZ cC cG cP : ClassId} {N : Nat} {ad : Nat → Nat} {σ : Nat → va_E} {i most dgr lbs : Nat} {F : Nat → Nat → Int32} {sp : Nat → Int32} {p0 : Nat → Int} (hN : i + 10 ≤ N) (hp0 : pl ad cI cG σ i most dgr lbs F sp) (hdg : dgr ≤ 6) (hm : most < 2 ^ 31) (hlm : lbs ≤ most) (hl2 : 2 ≤ lbs) (hpi : pl_is F dgr lbs p0) (hsz : pl_sz dgr lbs p0) :
    Met l y_Polynomial_rootsBelow v_Polynomial_rootsBelow (xrm 2) (va_Pc [.ref (ad i)] (xS D classes (xT cI cJ cZ cC cG cP) N ad σ)) (va_Qi (fun r σ2 => r = lessI p0 dgr ∧ σ2 = σ) (xS D classes (xT cI cJ cZ cC cG cP) N ad) (xA N ad)) 0 0 (xA N ad) := by
  refine xr_met rfl (Nat.le_of_ble_eq_true rfl) ?_
  intro p e s m args below meth c ls hx hb X hr hlk hl I
  have hl : lv_has ls 1 [(0, .ref (ad i))] := hl
  refine lv_aload_n hx hb d_Polynomial_rootsBelow_0 rfl (lv_at hl 0 rfl) ?_
  refine xr_get X I fin_P i (by omega) (pl_o hp0) rfl 2 (by decide) (List.mem_cons_of_mem _ k_d20440e3eb) rfl rfl d_Polynomial_rootsBelow_1 ?_
  refine lv_aload_n hx hb d_Polynomial_rootsBelow_4 rfl (lv_at hl 0 rfl) ?_
  refine xr_calli (xr_runV (kc := 1) (kr := 2) (n := 0) (As := []) (rest := [.int (nI dgr)]) X I (show i < N by omega) (pl_o hp0) rfl (c_Polynomial_rootsAtZero hN hp0 hdg hm hlm hl2 hpi hsz) (xg k_c5d340c79c) (List.mem_cons_of_mem _ k_bd6ea5fac5) (List.mem_cons_of_mem _ k_0f9ebc7ecf) (List.mem_cons_of_mem _ k_9a3567c35e) (List.mem_cons_of_mem _ k_a8ac99ee00) (by decide +kernel) (by decide) rfl hl.1 rfl (Nat.le_of_ble_eq_true rfl) d_Polynomial_rootsBelow_5) I (fun r σ3 H locs hp I => ?_)
  obtain ⟨rfl, h9⟩ := hp; rw [h9] at I
  refine lv_isub hx hb d_Polynomial_rootsBelow_8 ?_
  refine lv_aload_n hx hb d_Polynomial_rootsBelow_9 rfl (lv_at hl 0 rfl) ?_
  refine xr_calli (xr_runV (kc := 1) (kr := 2) (n := 0) (As := []) (rest := [.int ((nI dgr) - (nI (ez p0 0 dgr)))]) X I (show i < N by omega) (pl_o hp0) rfl (c_Polynomial_rootsAbove hN hp0 hdg hm hlm hl2 hpi hsz) (xg k_98465b4a9e) (List.mem_cons_of_mem _ k_2f6b9b0ef3) (List.mem_cons_of_mem _ k_44b0f8a482) (List.mem_cons_of_mem _ k_81d928149c) (List.mem_cons_of_mem _ k_a8ac99ee00) (by decide +kernel) (by decide) rfl hl.1 rfl (Nat.le_of_ble_eq_true rfl) d_Polynomial_rootsBelow_10) I (fun r σ3 H locs hp I => ?_)
  obtain ⟨rfl, h9⟩ := hp; rw [h9] at I
  refine lv_isub hx hb d_Polynomial_rootsBelow_13 ?_
  exact xr_iret X I hr hlk ⟨rfl, rfl⟩ d_Polynomial_rootsBelow_14
end
section
/-! the reference: rowCopy, weigh (written by wip/gen) -/
abbrev b_SpectrumDeskModel_rowCopy : ByteArray := prog_10_method_17_code
abbrev y_SpectrumDeskModel_rowCopy : MethodName := ⟨"SpectrumDeskModel", "rowCopy", "(II)V"⟩
abbrev v_SpectrumDeskModel_rowCopy : List Cond := Cond.code y_SpectrumDeskModel_rowCopy b_SpectrumDeskModel_rowCopy 4 none :: AW
theorem d_SpectrumDeskModel_rowCopy_0 : decode b_SpectrumDeskModel_rowCopy 0 = .ok (.aload_n 0, 1) := by decide +kernel
theorem d_SpectrumDeskModel_rowCopy_1 : decode b_SpectrumDeskModel_rowCopy 1 = .ok (.getfield 46, 3) := by decide +kernel
theorem d_SpectrumDeskModel_rowCopy_4 : decode b_SpectrumDeskModel_rowCopy 4 = .ok (.iload_n 1, 1) := by decide +kernel
theorem d_SpectrumDeskModel_rowCopy_5 : decode b_SpectrumDeskModel_rowCopy 5 = .ok (.bipush (8), 2) := by decide +kernel
theorem d_SpectrumDeskModel_rowCopy_7 : decode b_SpectrumDeskModel_rowCopy 7 = .ok (.idiv, 1) := by decide +kernel
theorem d_SpectrumDeskModel_rowCopy_8 : decode b_SpectrumDeskModel_rowCopy 8 = .ok (.aload_n 0, 1) := by decide +kernel
theorem d_SpectrumDeskModel_rowCopy_9 : decode b_SpectrumDeskModel_rowCopy 9 = .ok (.getfield 46, 3) := by decide +kernel
theorem d_SpectrumDeskModel_rowCopy_12 : decode b_SpectrumDeskModel_rowCopy 12 = .ok (.iload_n 2, 1) := by decide +kernel
theorem d_SpectrumDeskModel_rowCopy_13 : decode b_SpectrumDeskModel_rowCopy 13 = .ok (.bipush (8), 2) := by decide +kernel
theorem d_SpectrumDeskModel_rowCopy_15 : decode b_SpectrumDeskModel_rowCopy 15 = .ok (.idiv, 1) := by decide +kernel
theorem d_SpectrumDeskModel_rowCopy_16 : decode b_SpectrumDeskModel_rowCopy 16 = .ok (.iaload, 1) := by decide +kernel
theorem d_SpectrumDeskModel_rowCopy_17 : decode b_SpectrumDeskModel_rowCopy 17 = .ok (.iastore, 1) := by decide +kernel
theorem d_SpectrumDeskModel_rowCopy_18 : decode b_SpectrumDeskModel_rowCopy 18 = .ok (.iconst 0, 1) := by decide +kernel
theorem d_SpectrumDeskModel_rowCopy_19 : decode b_SpectrumDeskModel_rowCopy 19 = .ok (.istore_n 3, 1) := by decide +kernel
theorem d_SpectrumDeskModel_rowCopy_20 : decode b_SpectrumDeskModel_rowCopy 20 = .ok (.iload_n 3, 1) := by decide +kernel
theorem d_SpectrumDeskModel_rowCopy_21 : decode b_SpectrumDeskModel_rowCopy 21 = .ok (.aload_n 0, 1) := by decide +kernel
theorem d_SpectrumDeskModel_rowCopy_22 : decode b_SpectrumDeskModel_rowCopy 22 = .ok (.getfield 46, 3) := by decide +kernel
theorem d_SpectrumDeskModel_rowCopy_25 : decode b_SpectrumDeskModel_rowCopy 25 = .ok (.iload_n 2, 1) := by decide +kernel
theorem d_SpectrumDeskModel_rowCopy_26 : decode b_SpectrumDeskModel_rowCopy 26 = .ok (.bipush (8), 2) := by decide +kernel
theorem d_SpectrumDeskModel_rowCopy_28 : decode b_SpectrumDeskModel_rowCopy 28 = .ok (.idiv, 1) := by decide +kernel
theorem d_SpectrumDeskModel_rowCopy_29 : decode b_SpectrumDeskModel_rowCopy 29 = .ok (.iaload, 1) := by decide +kernel
theorem d_SpectrumDeskModel_rowCopy_30 : decode b_SpectrumDeskModel_rowCopy 30 = .ok (.if_icmp .gt (19), 3) := by decide +kernel
theorem d_SpectrumDeskModel_rowCopy_33 : decode b_SpectrumDeskModel_rowCopy 33 = .ok (.aload_n 0, 1) := by decide +kernel
theorem d_SpectrumDeskModel_rowCopy_34 : decode b_SpectrumDeskModel_rowCopy 34 = .ok (.iload_n 1, 1) := by decide +kernel
theorem d_SpectrumDeskModel_rowCopy_35 : decode b_SpectrumDeskModel_rowCopy 35 = .ok (.iload_n 3, 1) := by decide +kernel
theorem d_SpectrumDeskModel_rowCopy_36 : decode b_SpectrumDeskModel_rowCopy 36 = .ok (.iadd, 1) := by decide +kernel
theorem d_SpectrumDeskModel_rowCopy_37 : decode b_SpectrumDeskModel_rowCopy 37 = .ok (.iload_n 2, 1) := by decide +kernel
theorem d_SpectrumDeskModel_rowCopy_38 : decode b_SpectrumDeskModel_rowCopy 38 = .ok (.iload_n 3, 1) := by decide +kernel
theorem d_SpectrumDeskModel_rowCopy_39 : decode b_SpectrumDeskModel_rowCopy 39 = .ok (.iadd, 1) := by decide +kernel
theorem d_SpectrumDeskModel_rowCopy_40 : decode b_SpectrumDeskModel_rowCopy 40 = .ok (.invokevirtual 49, 3) := by decide +kernel
theorem d_SpectrumDeskModel_rowCopy_43 : decode b_SpectrumDeskModel_rowCopy 43 = .ok (.iinc 3 (1), 3) := by decide +kernel
theorem d_SpectrumDeskModel_rowCopy_46 : decode b_SpectrumDeskModel_rowCopy 46 = .ok (.goto (-26), 3) := by decide +kernel
theorem d_SpectrumDeskModel_rowCopy_49 : decode b_SpectrumDeskModel_rowCopy 49 = .ok (.return_, 1) := by decide +kernel
abbrev b_SpectrumDeskModel_weigh : ByteArray := prog_10_method_37_code
abbrev y_SpectrumDeskModel_weigh : MethodName := ⟨"SpectrumDeskModel", "weigh", "(I)V"⟩
abbrev v_SpectrumDeskModel_weigh : List Cond := Cond.code y_SpectrumDeskModel_weigh b_SpectrumDeskModel_weigh 6 none :: AW
theorem d_SpectrumDeskModel_weigh_0 : decode b_SpectrumDeskModel_weigh 0 = .ok (.aload_n 0, 1) := by decide +kernel
theorem d_SpectrumDeskModel_weigh_1 : decode b_SpectrumDeskModel_weigh 1 = .ok (.bipush (32), 2) := by decide +kernel
theorem d_SpectrumDeskModel_weigh_3 : decode b_SpectrumDeskModel_weigh 3 = .ok (.iload_n 1, 1) := by decide +kernel
theorem d_SpectrumDeskModel_weigh_4 : decode b_SpectrumDeskModel_weigh 4 = .ok (.invokevirtual 130, 3) := by decide +kernel
theorem d_SpectrumDeskModel_weigh_7 : decode b_SpectrumDeskModel_weigh 7 = .ok (.iconst 0, 1) := by decide +kernel
theorem d_SpectrumDeskModel_weigh_8 : decode b_SpectrumDeskModel_weigh 8 = .ok (.istore_n 2, 1) := by decide +kernel
theorem d_SpectrumDeskModel_weigh_9 : decode b_SpectrumDeskModel_weigh 9 = .ok (.iload_n 2, 1) := by decide +kernel
theorem d_SpectrumDeskModel_weigh_10 : decode b_SpectrumDeskModel_weigh 10 = .ok (.aload_n 0, 1) := by decide +kernel
theorem d_SpectrumDeskModel_weigh_11 : decode b_SpectrumDeskModel_weigh 11 = .ok (.getfield 46, 3) := by decide +kernel
theorem d_SpectrumDeskModel_weigh_14 : decode b_SpectrumDeskModel_weigh 14 = .ok (.iload_n 1, 1) := by decide +kernel
theorem d_SpectrumDeskModel_weigh_15 : decode b_SpectrumDeskModel_weigh 15 = .ok (.bipush (8), 2) := by decide +kernel
theorem d_SpectrumDeskModel_weigh_17 : decode b_SpectrumDeskModel_weigh 17 = .ok (.idiv, 1) := by decide +kernel
theorem d_SpectrumDeskModel_weigh_18 : decode b_SpectrumDeskModel_weigh 18 = .ok (.iaload, 1) := by decide +kernel
theorem d_SpectrumDeskModel_weigh_19 : decode b_SpectrumDeskModel_weigh 19 = .ok (.if_icmp .ge (44), 3) := by decide +kernel
theorem d_SpectrumDeskModel_weigh_22 : decode b_SpectrumDeskModel_weigh 22 = .ok (.iconst 0, 1) := by decide +kernel
theorem d_SpectrumDeskModel_weigh_23 : decode b_SpectrumDeskModel_weigh 23 = .ok (.istore_n 3, 1) := by decide +kernel
theorem d_SpectrumDeskModel_weigh_24 : decode b_SpectrumDeskModel_weigh 24 = .ok (.iload_n 3, 1) := by decide +kernel
theorem d_SpectrumDeskModel_weigh_25 : decode b_SpectrumDeskModel_weigh 25 = .ok (.iload_n 2, 1) := by decide +kernel
theorem d_SpectrumDeskModel_weigh_26 : decode b_SpectrumDeskModel_weigh 26 = .ok (.if_icmp .gt (31), 3) := by decide +kernel
theorem d_SpectrumDeskModel_weigh_29 : decode b_SpectrumDeskModel_weigh 29 = .ok (.aload_n 0, 1) := by decide +kernel
theorem d_SpectrumDeskModel_weigh_30 : decode b_SpectrumDeskModel_weigh 30 = .ok (.bipush (106), 2) := by decide +kernel
theorem d_SpectrumDeskModel_weigh_32 : decode b_SpectrumDeskModel_weigh 32 = .ok (.bipush (32), 2) := by decide +kernel
theorem d_SpectrumDeskModel_weigh_34 : decode b_SpectrumDeskModel_weigh 34 = .ok (.iload_n 3, 1) := by decide +kernel
theorem d_SpectrumDeskModel_weigh_35 : decode b_SpectrumDeskModel_weigh 35 = .ok (.iadd, 1) := by decide +kernel
theorem d_SpectrumDeskModel_weigh_36 : decode b_SpectrumDeskModel_weigh 36 = .ok (.bipush (109), 2) := by decide +kernel
theorem d_SpectrumDeskModel_weigh_38 : decode b_SpectrumDeskModel_weigh 38 = .ok (.invokevirtual 111, 3) := by decide +kernel
theorem d_SpectrumDeskModel_weigh_41 : decode b_SpectrumDeskModel_weigh 41 = .ok (.aload_n 0, 1) := by decide +kernel
theorem d_SpectrumDeskModel_weigh_42 : decode b_SpectrumDeskModel_weigh 42 = .ok (.bipush (32), 2) := by decide +kernel
theorem d_SpectrumDeskModel_weigh_44 : decode b_SpectrumDeskModel_weigh 44 = .ok (.iload_n 3, 1) := by decide +kernel
theorem d_SpectrumDeskModel_weigh_45 : decode b_SpectrumDeskModel_weigh 45 = .ok (.iadd, 1) := by decide +kernel
theorem d_SpectrumDeskModel_weigh_46 : decode b_SpectrumDeskModel_weigh 46 = .ok (.bipush (106), 2) := by decide +kernel
theorem d_SpectrumDeskModel_weigh_48 : decode b_SpectrumDeskModel_weigh 48 = .ok (.invokevirtual 49, 3) := by decide +kernel
theorem d_SpectrumDeskModel_weigh_51 : decode b_SpectrumDeskModel_weigh 51 = .ok (.iinc 3 (1), 3) := by decide +kernel
theorem d_SpectrumDeskModel_weigh_54 : decode b_SpectrumDeskModel_weigh 54 = .ok (.goto (-30), 3) := by decide +kernel
theorem d_SpectrumDeskModel_weigh_57 : decode b_SpectrumDeskModel_weigh 57 = .ok (.iinc 2 (1), 3) := by decide +kernel
theorem d_SpectrumDeskModel_weigh_60 : decode b_SpectrumDeskModel_weigh 60 = .ok (.goto (-51), 3) := by decide +kernel
theorem d_SpectrumDeskModel_weigh_63 : decode b_SpectrumDeskModel_weigh 63 = .ok (.iconst 0, 1) := by decide +kernel
theorem d_SpectrumDeskModel_weigh_64 : decode b_SpectrumDeskModel_weigh 64 = .ok (.istore_n 2, 1) := by decide +kernel
theorem d_SpectrumDeskModel_weigh_65 : decode b_SpectrumDeskModel_weigh 65 = .ok (.iload_n 2, 1) := by decide +kernel
theorem d_SpectrumDeskModel_weigh_66 : decode b_SpectrumDeskModel_weigh 66 = .ok (.aload_n 0, 1) := by decide +kernel
theorem d_SpectrumDeskModel_weigh_67 : decode b_SpectrumDeskModel_weigh 67 = .ok (.getfield 46, 3) := by decide +kernel
theorem d_SpectrumDeskModel_weigh_70 : decode b_SpectrumDeskModel_weigh 70 = .ok (.iload_n 1, 1) := by decide +kernel
theorem d_SpectrumDeskModel_weigh_71 : decode b_SpectrumDeskModel_weigh 71 = .ok (.bipush (8), 2) := by decide +kernel
theorem d_SpectrumDeskModel_weigh_73 : decode b_SpectrumDeskModel_weigh 73 = .ok (.idiv, 1) := by decide +kernel
theorem d_SpectrumDeskModel_weigh_74 : decode b_SpectrumDeskModel_weigh 74 = .ok (.iaload, 1) := by decide +kernel
theorem d_SpectrumDeskModel_weigh_75 : decode b_SpectrumDeskModel_weigh 75 = .ok (.if_icmp .ge (57), 3) := by decide +kernel
theorem d_SpectrumDeskModel_weigh_78 : decode b_SpectrumDeskModel_weigh 78 = .ok (.aload_n 0, 1) := by decide +kernel
theorem d_SpectrumDeskModel_weigh_79 : decode b_SpectrumDeskModel_weigh 79 = .ok (.getfield 46, 3) := by decide +kernel
theorem d_SpectrumDeskModel_weigh_82 : decode b_SpectrumDeskModel_weigh 82 = .ok (.iload_n 1, 1) := by decide +kernel
theorem d_SpectrumDeskModel_weigh_83 : decode b_SpectrumDeskModel_weigh 83 = .ok (.bipush (8), 2) := by decide +kernel
theorem d_SpectrumDeskModel_weigh_85 : decode b_SpectrumDeskModel_weigh 85 = .ok (.idiv, 1) := by decide +kernel
theorem d_SpectrumDeskModel_weigh_86 : decode b_SpectrumDeskModel_weigh 86 = .ok (.iaload, 1) := by decide +kernel
theorem d_SpectrumDeskModel_weigh_87 : decode b_SpectrumDeskModel_weigh 87 = .ok (.iconst 1, 1) := by decide +kernel
theorem d_SpectrumDeskModel_weigh_88 : decode b_SpectrumDeskModel_weigh 88 = .ok (.isub, 1) := by decide +kernel
theorem d_SpectrumDeskModel_weigh_89 : decode b_SpectrumDeskModel_weigh 89 = .ok (.istore_n 3, 1) := by decide +kernel
theorem d_SpectrumDeskModel_weigh_90 : decode b_SpectrumDeskModel_weigh 90 = .ok (.iload_n 3, 1) := by decide +kernel
theorem d_SpectrumDeskModel_weigh_91 : decode b_SpectrumDeskModel_weigh 91 = .ok (.iload_n 2, 1) := by decide +kernel
theorem d_SpectrumDeskModel_weigh_92 : decode b_SpectrumDeskModel_weigh 92 = .ok (.if_icmp .lt (34), 3) := by decide +kernel
theorem d_SpectrumDeskModel_weigh_95 : decode b_SpectrumDeskModel_weigh 95 = .ok (.aload_n 0, 1) := by decide +kernel
theorem d_SpectrumDeskModel_weigh_96 : decode b_SpectrumDeskModel_weigh 96 = .ok (.bipush (106), 2) := by decide +kernel
theorem d_SpectrumDeskModel_weigh_98 : decode b_SpectrumDeskModel_weigh 98 = .ok (.bipush (32), 2) := by decide +kernel
theorem d_SpectrumDeskModel_weigh_100 : decode b_SpectrumDeskModel_weigh 100 = .ok (.iload_n 3, 1) := by decide +kernel
theorem d_SpectrumDeskModel_weigh_101 : decode b_SpectrumDeskModel_weigh 101 = .ok (.iadd, 1) := by decide +kernel
theorem d_SpectrumDeskModel_weigh_102 : decode b_SpectrumDeskModel_weigh 102 = .ok (.iconst 1, 1) := by decide +kernel
theorem d_SpectrumDeskModel_weigh_103 : decode b_SpectrumDeskModel_weigh 103 = .ok (.iadd, 1) := by decide +kernel
theorem d_SpectrumDeskModel_weigh_104 : decode b_SpectrumDeskModel_weigh 104 = .ok (.bipush (108), 2) := by decide +kernel
theorem d_SpectrumDeskModel_weigh_106 : decode b_SpectrumDeskModel_weigh 106 = .ok (.invokevirtual 111, 3) := by decide +kernel
theorem d_SpectrumDeskModel_weigh_109 : decode b_SpectrumDeskModel_weigh 109 = .ok (.aload_n 0, 1) := by decide +kernel
theorem d_SpectrumDeskModel_weigh_110 : decode b_SpectrumDeskModel_weigh 110 = .ok (.bipush (32), 2) := by decide +kernel
theorem d_SpectrumDeskModel_weigh_112 : decode b_SpectrumDeskModel_weigh 112 = .ok (.iload_n 3, 1) := by decide +kernel
theorem d_SpectrumDeskModel_weigh_113 : decode b_SpectrumDeskModel_weigh 113 = .ok (.iadd, 1) := by decide +kernel
theorem d_SpectrumDeskModel_weigh_114 : decode b_SpectrumDeskModel_weigh 114 = .ok (.bipush (106), 2) := by decide +kernel
theorem d_SpectrumDeskModel_weigh_116 : decode b_SpectrumDeskModel_weigh 116 = .ok (.iconst 0, 1) := by decide +kernel
theorem d_SpectrumDeskModel_weigh_117 : decode b_SpectrumDeskModel_weigh 117 = .ok (.invokevirtual 115, 3) := by decide +kernel
theorem d_SpectrumDeskModel_weigh_120 : decode b_SpectrumDeskModel_weigh 120 = .ok (.iinc 3 (-1), 3) := by decide +kernel
theorem d_SpectrumDeskModel_weigh_123 : decode b_SpectrumDeskModel_weigh 123 = .ok (.goto (-33), 3) := by decide +kernel
theorem d_SpectrumDeskModel_weigh_126 : decode b_SpectrumDeskModel_weigh 126 = .ok (.iinc 2 (1), 3) := by decide +kernel
theorem d_SpectrumDeskModel_weigh_129 : decode b_SpectrumDeskModel_weigh 129 = .ok (.goto (-64), 3) := by decide +kernel
theorem d_SpectrumDeskModel_weigh_132 : decode b_SpectrumDeskModel_weigh 132 = .ok (.aload_n 0, 1) := by decide +kernel
theorem d_SpectrumDeskModel_weigh_133 : decode b_SpectrumDeskModel_weigh 133 = .ok (.iconst 0, 1) := by decide +kernel
theorem d_SpectrumDeskModel_weigh_134 : decode b_SpectrumDeskModel_weigh 134 = .ok (.putfield 133, 3) := by decide +kernel
theorem d_SpectrumDeskModel_weigh_137 : decode b_SpectrumDeskModel_weigh 137 = .ok (.aload_n 0, 1) := by decide +kernel
theorem d_SpectrumDeskModel_weigh_138 : decode b_SpectrumDeskModel_weigh 138 = .ok (.getfield 133, 3) := by decide +kernel
theorem d_SpectrumDeskModel_weigh_141 : decode b_SpectrumDeskModel_weigh 141 = .ok (.aload_n 0, 1) := by decide +kernel
theorem d_SpectrumDeskModel_weigh_142 : decode b_SpectrumDeskModel_weigh 142 = .ok (.getfield 46, 3) := by decide +kernel
theorem d_SpectrumDeskModel_weigh_145 : decode b_SpectrumDeskModel_weigh 145 = .ok (.iload_n 1, 1) := by decide +kernel
theorem d_SpectrumDeskModel_weigh_146 : decode b_SpectrumDeskModel_weigh 146 = .ok (.bipush (8), 2) := by decide +kernel
theorem d_SpectrumDeskModel_weigh_148 : decode b_SpectrumDeskModel_weigh 148 = .ok (.idiv, 1) := by decide +kernel
theorem d_SpectrumDeskModel_weigh_149 : decode b_SpectrumDeskModel_weigh 149 = .ok (.iaload, 1) := by decide +kernel
theorem d_SpectrumDeskModel_weigh_150 : decode b_SpectrumDeskModel_weigh 150 = .ok (.if_icmp .gt (30), 3) := by decide +kernel
theorem d_SpectrumDeskModel_weigh_153 : decode b_SpectrumDeskModel_weigh 153 = .ok (.aload_n 0, 1) := by decide +kernel
theorem d_SpectrumDeskModel_weigh_154 : decode b_SpectrumDeskModel_weigh 154 = .ok (.bipush (32), 2) := by decide +kernel
theorem d_SpectrumDeskModel_weigh_156 : decode b_SpectrumDeskModel_weigh 156 = .ok (.aload_n 0, 1) := by decide +kernel
theorem d_SpectrumDeskModel_weigh_157 : decode b_SpectrumDeskModel_weigh 157 = .ok (.getfield 133, 3) := by decide +kernel
theorem d_SpectrumDeskModel_weigh_160 : decode b_SpectrumDeskModel_weigh 160 = .ok (.iadd, 1) := by decide +kernel
theorem d_SpectrumDeskModel_weigh_161 : decode b_SpectrumDeskModel_weigh 161 = .ok (.invokevirtual 52, 3) := by decide +kernel
theorem d_SpectrumDeskModel_weigh_164 : decode b_SpectrumDeskModel_weigh 164 = .ok (.ifCond .ne (16), 3) := by decide +kernel
theorem d_SpectrumDeskModel_weigh_167 : decode b_SpectrumDeskModel_weigh 167 = .ok (.aload_n 0, 1) := by decide +kernel
theorem d_SpectrumDeskModel_weigh_168 : decode b_SpectrumDeskModel_weigh 168 = .ok (.dup, 1) := by decide +kernel
theorem d_SpectrumDeskModel_weigh_169 : decode b_SpectrumDeskModel_weigh 169 = .ok (.getfield 133, 3) := by decide +kernel
theorem d_SpectrumDeskModel_weigh_172 : decode b_SpectrumDeskModel_weigh 172 = .ok (.iconst 1, 1) := by decide +kernel
theorem d_SpectrumDeskModel_weigh_173 : decode b_SpectrumDeskModel_weigh 173 = .ok (.iadd, 1) := by decide +kernel
theorem d_SpectrumDeskModel_weigh_174 : decode b_SpectrumDeskModel_weigh 174 = .ok (.putfield 133, 3) := by decide +kernel
theorem d_SpectrumDeskModel_weigh_177 : decode b_SpectrumDeskModel_weigh 177 = .ok (.goto (-40), 3) := by decide +kernel
theorem d_SpectrumDeskModel_weigh_180 : decode b_SpectrumDeskModel_weigh 180 = .ok (.iconst 0, 1) := by decide +kernel
theorem d_SpectrumDeskModel_weigh_181 : decode b_SpectrumDeskModel_weigh 181 = .ok (.istore_n 2, 1) := by decide +kernel
theorem d_SpectrumDeskModel_weigh_182 : decode b_SpectrumDeskModel_weigh 182 = .ok (.iconst 0, 1) := by decide +kernel
theorem d_SpectrumDeskModel_weigh_183 : decode b_SpectrumDeskModel_weigh 183 = .ok (.istore_n 3, 1) := by decide +kernel
theorem d_SpectrumDeskModel_weigh_184 : decode b_SpectrumDeskModel_weigh 184 = .ok (.aload_n 0, 1) := by decide +kernel
theorem d_SpectrumDeskModel_weigh_185 : decode b_SpectrumDeskModel_weigh 185 = .ok (.getfield 133, 3) := by decide +kernel
theorem d_SpectrumDeskModel_weigh_188 : decode b_SpectrumDeskModel_weigh 188 = .ok (.istore 4, 2) := by decide +kernel
theorem d_SpectrumDeskModel_weigh_190 : decode b_SpectrumDeskModel_weigh 190 = .ok (.iload 4, 2) := by decide +kernel
theorem d_SpectrumDeskModel_weigh_192 : decode b_SpectrumDeskModel_weigh 192 = .ok (.aload_n 0, 1) := by decide +kernel
theorem d_SpectrumDeskModel_weigh_193 : decode b_SpectrumDeskModel_weigh 193 = .ok (.getfield 46, 3) := by decide +kernel
theorem d_SpectrumDeskModel_weigh_196 : decode b_SpectrumDeskModel_weigh 196 = .ok (.iload_n 1, 1) := by decide +kernel
theorem d_SpectrumDeskModel_weigh_197 : decode b_SpectrumDeskModel_weigh 197 = .ok (.bipush (8), 2) := by decide +kernel
theorem d_SpectrumDeskModel_weigh_199 : decode b_SpectrumDeskModel_weigh 199 = .ok (.idiv, 1) := by decide +kernel
theorem d_SpectrumDeskModel_weigh_200 : decode b_SpectrumDeskModel_weigh 200 = .ok (.iaload, 1) := by decide +kernel
theorem d_SpectrumDeskModel_weigh_201 : decode b_SpectrumDeskModel_weigh 201 = .ok (.if_icmp .gt (47), 3) := by decide +kernel
theorem d_SpectrumDeskModel_weigh_204 : decode b_SpectrumDeskModel_weigh 204 = .ok (.aload_n 0, 1) := by decide +kernel
theorem d_SpectrumDeskModel_weigh_205 : decode b_SpectrumDeskModel_weigh 205 = .ok (.bipush (32), 2) := by decide +kernel
theorem d_SpectrumDeskModel_weigh_207 : decode b_SpectrumDeskModel_weigh 207 = .ok (.iload 4, 2) := by decide +kernel
theorem d_SpectrumDeskModel_weigh_209 : decode b_SpectrumDeskModel_weigh 209 = .ok (.iadd, 1) := by decide +kernel
theorem d_SpectrumDeskModel_weigh_210 : decode b_SpectrumDeskModel_weigh 210 = .ok (.invokevirtual 52, 3) := by decide +kernel
theorem d_SpectrumDeskModel_weigh_213 : decode b_SpectrumDeskModel_weigh 213 = .ok (.istore 5, 2) := by decide +kernel
theorem d_SpectrumDeskModel_weigh_215 : decode b_SpectrumDeskModel_weigh 215 = .ok (.iload 5, 2) := by decide +kernel
theorem d_SpectrumDeskModel_weigh_217 : decode b_SpectrumDeskModel_weigh 217 = .ok (.iload_n 3, 1) := by decide +kernel
theorem d_SpectrumDeskModel_weigh_218 : decode b_SpectrumDeskModel_weigh 218 = .ok (.imul, 1) := by decide +kernel
theorem d_SpectrumDeskModel_weigh_219 : decode b_SpectrumDeskModel_weigh 219 = .ok (.ifCond .ge (9), 3) := by decide +kernel
theorem d_SpectrumDeskModel_weigh_222 : decode b_SpectrumDeskModel_weigh 222 = .ok (.iload_n 2, 1) := by decide +kernel
theorem d_SpectrumDeskModel_weigh_223 : decode b_SpectrumDeskModel_weigh 223 = .ok (.iconst 1, 1) := by decide +kernel
theorem d_SpectrumDeskModel_weigh_224 : decode b_SpectrumDeskModel_weigh 224 = .ok (.iadd, 1) := by decide +kernel
theorem d_SpectrumDeskModel_weigh_225 : decode b_SpectrumDeskModel_weigh 225 = .ok (.goto (4), 3) := by decide +kernel
theorem d_SpectrumDeskModel_weigh_228 : decode b_SpectrumDeskModel_weigh 228 = .ok (.iload_n 2, 1) := by decide +kernel
theorem d_SpectrumDeskModel_weigh_229 : decode b_SpectrumDeskModel_weigh 229 = .ok (.istore_n 2, 1) := by decide +kernel
theorem d_SpectrumDeskModel_weigh_230 : decode b_SpectrumDeskModel_weigh 230 = .ok (.iload 5, 2) := by decide +kernel
theorem d_SpectrumDeskModel_weigh_232 : decode b_SpectrumDeskModel_weigh 232 = .ok (.ifCond .ne (7), 3) := by decide +kernel
theorem d_SpectrumDeskModel_weigh_235 : decode b_SpectrumDeskModel_weigh 235 = .ok (.iload_n 3, 1) := by decide +kernel
theorem d_SpectrumDeskModel_weigh_236 : decode b_SpectrumDeskModel_weigh 236 = .ok (.goto (5), 3) := by decide +kernel
theorem d_SpectrumDeskModel_weigh_239 : decode b_SpectrumDeskModel_weigh 239 = .ok (.iload 5, 2) := by decide +kernel
theorem d_SpectrumDeskModel_weigh_241 : decode b_SpectrumDeskModel_weigh 241 = .ok (.istore_n 3, 1) := by decide +kernel
theorem d_SpectrumDeskModel_weigh_242 : decode b_SpectrumDeskModel_weigh 242 = .ok (.iinc 4 (1), 3) := by decide +kernel
theorem d_SpectrumDeskModel_weigh_245 : decode b_SpectrumDeskModel_weigh 245 = .ok (.goto (-55), 3) := by decide +kernel
theorem d_SpectrumDeskModel_weigh_248 : decode b_SpectrumDeskModel_weigh 248 = .ok (.aload_n 0, 1) := by decide +kernel
theorem d_SpectrumDeskModel_weigh_249 : decode b_SpectrumDeskModel_weigh 249 = .ok (.aload_n 0, 1) := by decide +kernel
theorem d_SpectrumDeskModel_weigh_250 : decode b_SpectrumDeskModel_weigh 250 = .ok (.getfield 46, 3) := by decide +kernel
theorem d_SpectrumDeskModel_weigh_253 : decode b_SpectrumDeskModel_weigh 253 = .ok (.iload_n 1, 1) := by decide +kernel
theorem d_SpectrumDeskModel_weigh_254 : decode b_SpectrumDeskModel_weigh 254 = .ok (.bipush (8), 2) := by decide +kernel
theorem d_SpectrumDeskModel_weigh_256 : decode b_SpectrumDeskModel_weigh 256 = .ok (.idiv, 1) := by decide +kernel
theorem d_SpectrumDeskModel_weigh_257 : decode b_SpectrumDeskModel_weigh 257 = .ok (.iaload, 1) := by decide +kernel
theorem d_SpectrumDeskModel_weigh_258 : decode b_SpectrumDeskModel_weigh 258 = .ok (.aload_n 0, 1) := by decide +kernel
theorem d_SpectrumDeskModel_weigh_259 : decode b_SpectrumDeskModel_weigh 259 = .ok (.getfield 133, 3) := by decide +kernel
theorem d_SpectrumDeskModel_weigh_262 : decode b_SpectrumDeskModel_weigh 262 = .ok (.isub, 1) := by decide +kernel
theorem d_SpectrumDeskModel_weigh_263 : decode b_SpectrumDeskModel_weigh 263 = .ok (.iload_n 2, 1) := by decide +kernel
theorem d_SpectrumDeskModel_weigh_264 : decode b_SpectrumDeskModel_weigh 264 = .ok (.isub, 1) := by decide +kernel
theorem d_SpectrumDeskModel_weigh_265 : decode b_SpectrumDeskModel_weigh 265 = .ok (.putfield 136, 3) := by decide +kernel
theorem d_SpectrumDeskModel_weigh_268 : decode b_SpectrumDeskModel_weigh 268 = .ok (.return_, 1) := by decide +kernel
theorem k_176eac5e1f : (Jvm.Cond.fieldLink "SpectrumDeskModel" (46 : Nat) "SpectrumDeskModel" "degrees" "[I") ∈ AW := aw_4 (List.mem_of_getElem? (i := 183) (by decide +kernel)) (by decide +kernel)
theorem k_4f43ed96b8 : (Jvm.Cond.methodLink "SpectrumDeskModel" (49 : Nat) ({ cls := "SpectrumDeskModel", name := "bigCopy", desc := "(II)V" } : Jvm.MethodName)) ∈ AW := aw_5 (List.mem_of_getElem? (i := 85) (by decide +kernel)) (by decide +kernel)
theorem k_c9c9b5ab57 : (Jvm.Cond.instanceMethod ({ cls := "SpectrumDeskModel", name := "bigCopy", desc := "(II)V" } : Jvm.MethodName)) ∈ AW := aw_5 (List.mem_of_getElem? (i := 87) (by decide +kernel)) (by decide +kernel)
theorem k_5d491bf207 : (Jvm.Cond.selects "SpectrumDeskModel" ({ cls := "SpectrumDeskModel", name := "bigCopy", desc := "(II)V" } : Jvm.MethodName) ({ cls := "SpectrumDeskModel", name := "bigCopy", desc := "(II)V" } : Jvm.MethodName)) ∈ AW := aw_p (by decide +kernel) (by decide +kernel)
theorem k_86ef828392 : (Jvm.Cond.methodLink "SpectrumDeskModel" (130 : Nat) ({ cls := "SpectrumDeskModel", name := "rowCopy", desc := "(II)V" } : Jvm.MethodName)) ∈ AW := aw_5 (List.mem_of_getElem? (i := 105) (by decide +kernel)) (by decide +kernel)
theorem k_fb5b31696c : (Jvm.Cond.instanceMethod ({ cls := "SpectrumDeskModel", name := "rowCopy", desc := "(II)V" } : Jvm.MethodName)) ∈ AW := aw_5 (List.mem_of_getElem? (i := 107) (by decide +kernel)) (by decide +kernel)
theorem k_c87e5177a1 : (Jvm.Cond.selects "SpectrumDeskModel" ({ cls := "SpectrumDeskModel", name := "rowCopy", desc := "(II)V" } : Jvm.MethodName) ({ cls := "SpectrumDeskModel", name := "rowCopy", desc := "(II)V" } : Jvm.MethodName)) ∈ AW := aw_p (by decide +kernel) (by decide +kernel)
theorem k_e06fbbb633 : (Jvm.Cond.fieldLink "SpectrumDeskModel" (133 : Nat) "SpectrumDeskModel" "equal" "I") ∈ AW := aw_4 (List.mem_of_getElem? (i := 193) (by decide +kernel)) (by decide +kernel)
theorem k_15947873ae : (Jvm.Cond.fieldLink "SpectrumDeskModel" (136 : Nat) "SpectrumDeskModel" "less" "I") ∈ AW := aw_4 (List.mem_of_getElem? (i := 192) (by decide +kernel)) (by decide +kernel)
theorem k_6487c7a510 : (Jvm.Cond.methodLink "SpectrumDeskModel" (52 : Nat) ({ cls := "SpectrumDeskModel", name := "bigSign", desc := "(I)I" } : Jvm.MethodName)) ∈ AW := aw_5 (List.mem_of_getElem? (i := 81) (by decide +kernel)) (by decide +kernel)
theorem k_b18f58b667 : (Jvm.Cond.instanceMethod ({ cls := "SpectrumDeskModel", name := "bigSign", desc := "(I)I" } : Jvm.MethodName)) ∈ AW := aw_5 (List.mem_of_getElem? (i := 83) (by decide +kernel)) (by decide +kernel)
theorem k_0ad4753b22 : (Jvm.Cond.selects "SpectrumDeskModel" ({ cls := "SpectrumDeskModel", name := "bigSign", desc := "(I)I" } : Jvm.MethodName) ({ cls := "SpectrumDeskModel", name := "bigSign", desc := "(I)I" } : Jvm.MethodName)) ∈ AW := aw_p (by decide +kernel) (by decide +kernel)
theorem k_bbee4b637e : (Jvm.Cond.methodLink "SpectrumDeskModel" (111 : Nat) ({ cls := "SpectrumDeskModel", name := "bigProduct", desc := "(III)V" } : Jvm.MethodName)) ∈ AW := aw_5 (List.mem_of_getElem? (i := 51) (by decide +kernel)) (by decide +kernel)
theorem k_55f9d50ad7 : (Jvm.Cond.instanceMethod ({ cls := "SpectrumDeskModel", name := "bigProduct", desc := "(III)V" } : Jvm.MethodName)) ∈ AW := aw_5 (List.mem_of_getElem? (i := 53) (by decide +kernel)) (by decide +kernel)
theorem k_ea9d46a281 : (Jvm.Cond.selects "SpectrumDeskModel" ({ cls := "SpectrumDeskModel", name := "bigProduct", desc := "(III)V" } : Jvm.MethodName) ({ cls := "SpectrumDeskModel", name := "bigProduct", desc := "(III)V" } : Jvm.MethodName)) ∈ AW := aw_p (by decide +kernel) (by decide +kernel)
theorem k_1f49c5cd66 : (Jvm.Cond.methodLink "SpectrumDeskModel" (115 : Nat) ({ cls := "SpectrumDeskModel", name := "bigAdd", desc := "(IIZ)V" } : Jvm.MethodName)) ∈ AW := aw_5 (List.mem_of_getElem? (i := 60) (by decide +kernel)) (by decide +kernel)
theorem k_a10028f3d7 : (Jvm.Cond.instanceMethod ({ cls := "SpectrumDeskModel", name := "bigAdd", desc := "(IIZ)V" } : Jvm.MethodName)) ∈ AW := aw_5 (List.mem_of_getElem? (i := 62) (by decide +kernel)) (by decide +kernel)
theorem k_758e0597f6 : (Jvm.Cond.selects "SpectrumDeskModel" ({ cls := "SpectrumDeskModel", name := "bigAdd", desc := "(IIZ)V" } : Jvm.MethodName) ({ cls := "SpectrumDeskModel", name := "bigAdd", desc := "(IIZ)V" } : Jvm.MethodName)) ∈ AW := aw_p (by decide +kernel) (by decide +kernel)
theorem k_9767804b5c : (Jvm.Cond.code ({ cls := "SpectrumDeskModel", name := "rowCopy", desc := "(II)V" } : Jvm.MethodName) prog_10_method_17_code (4 : Nat) (Option.none : Option Jvm.ClassFile.FieldType)) ∈ AW := aw_5 (List.mem_of_getElem? (i := 108) (by decide +kernel)) (by decide +kernel)
theorem k_0500b0c175 : (Jvm.Cond.code ({ cls := "SpectrumDeskModel", name := "weigh", desc := "(I)V" } : Jvm.MethodName) prog_10_method_37_code (6 : Nat) (Option.none : Option Jvm.ClassFile.FieldType)) ∈ AW := aw_5 (List.mem_of_getElem? (i := 104) (by decide +kernel)) (by decide +kernel)
set_option maxHeartbeats 4000000 in
set_option maxRecDepth 100000 in
theorem c_SpectrumDeskModel_rowCopy {l : Launch} {D : va_G} {cI cJ cZ cC cG cP : ClassId} {ad : Nat → Nat} {σ0 : Nat → va_E} {th nn rws ps le eq : Int32} {P L M G : Nat → Int32} {Z : Nat → Int} (hG : σ0 187 = .inl (cI, 5, .inl G)) (hB : RB P L M Z) {a b c9 : Nat} (ha : a < 5) (hb9 : b < 5) (hab : b ≠ a) (hc9 : c9 ≤ 8) (hGb : G b = nP c9) :
    Met l y_SpectrumDeskModel_rowCopy v_SpectrumDeskModel_rowCopy (xrm 1) (va_Pc [.ref (ad 183), .int (nI (8 * a)), .int (nI (8 * b))] (xS D classes (xT cI cJ cZ cC cG cP) 193 ad (rw3 σ0 ciM cI cZ (mfs ad th nn rws ps le eq) P L M))) (va_Qv (RU (va_up σ0 187 (.inl (cI, 5, .inl (upd G a (nP c9))))) cI cZ (mfs ad th nn rws ps le eq) (cpX Z (8 * a) (8 * b) c9)) (xS D classes (xT cI cJ cZ cC cG cP) 193 ad) (xA 193 ad)) 0 0 (xA 193 ad) := by
  refine xr_met rfl (Nat.le_of_ble_eq_true rfl) ?_
  intro p e s m args below meth c ls hx hb X hr hlk hl I
  have hl : lv_has ls 4 [(0, .ref (ad 183)), (1, .int (nI (8 * a))), (2, .int (nI (8 * b)))] := hl
  refine lv_aload_n hx hb d_SpectrumDeskModel_rowCopy_0 rfl (lv_at hl 0 rfl) ?_
  refine xr_get X I fin_M 183 (by decide) (r183 ..) rfl 3 (by decide) (List.mem_cons_of_mem _ k_176eac5e1f) rfl rfl d_SpectrumDeskModel_rowCopy_1 ?_
  refine lv_iload_n hx hb d_SpectrumDeskModel_rowCopy_4 rfl (lv_at hl 1 rfl) ?_
  refine lv_bipush (v := nI 8) hx hb d_SpectrumDeskModel_rowCopy_5 (by decide) ?_
  refine lv_idiv hx hb d_SpectrumDeskModel_rowCopy_7 (by decide) ?_
  refine xr_topi (y := nI a) (q_div8 (by omega)) ?_
  refine lv_aload_n hx hb d_SpectrumDeskModel_rowCopy_8 rfl (lv_at hl 0 rfl) ?_
  refine xr_get X I fin_M 183 (by decide) (r183 ..) rfl 3 (by decide) (List.mem_cons_of_mem _ k_176eac5e1f) rfl rfl d_SpectrumDeskModel_rowCopy_9 ?_
  refine lv_iload_n hx hb d_SpectrumDeskModel_rowCopy_12 rfl (lv_at hl 2 rfl) ?_
  refine lv_bipush (v := nI 8) hx hb d_SpectrumDeskModel_rowCopy_13 (by decide) ?_
  refine lv_idiv hx hb d_SpectrumDeskModel_rowCopy_15 (by decide) ?_
  refine xr_topi (y := nI b) (q_div8 (by omega)) ?_
  refine xr_iald X I 187 0 (by decide) ((r_o (by decide)).trans hG) rfl (by omega) (by decide) d_SpectrumDeskModel_rowCopy_16 ?_
  refine xr_topi (y := nP c9) hGb ?_
  refine xr_iast X I 187 0 (by decide) ((r_o (by decide)).trans hG) rfl (by omega) (by decide) d_SpectrumDeskModel_rowCopy_17 (fun H locs I => ?_)
  rw [rw3_o (by decide)] at I
  refine lv_iconst (v := nI 0) hx hb d_SpectrumDeskModel_rowCopy_18 (by decide) ?_
  refine lv_istore_n (lv' := [(3, .int (nI 0)), (0, .ref (ad 183)), (1, .int (nI (8 * a))), (2, .int (nI (8 * b)))]) hx hb d_SpectrumDeskModel_rowCopy_19 rfl hl (by decide) rfl (fun ls hl => ?_)
  have loop : ∀ (j : Nat) (k : Nat) (P2 L2 M2 : Nat → Int32) (ls : Array Slot) (H : Heap) (locs : List Loc), k + j = c9 → RB P2 L2 M2 (cpX Z (8 * a) (8 * b) k) → lv_has ls 4 [(3, .int (nI k)), (0, .ref (ad 183)), (1, .int (nI (8 * a))), (2, .int (nI (8 * b)))] → xI D classes 193 ad s.heap (rw3 (va_up σ0 187 (.inl (cI, 5, .inl (upd G a (nP c9))))) ciM cI cZ (mfs ad th nn rws ps le eq) P2 L2 M2) H locs → W p l e (xrm 1) s m args below meth c H locs 0 0 (MQ below (va_Qv (RU (va_up σ0 187 (.inl (cI, 5, .inl (upd G a (nP c9))))) cI cZ (mfs ad th nn rws ps le eq) (cpX Z (8 * a) (8 * b) c9)) (xS D classes (xT cI cJ cZ cC cG cP) 193 ad) (xA 193 ad)) args s 0 0 (xA 193 ad)) (F0 m 20 ls []) := by
    intro j
    induction j with
    | zero =>
      intro k P2 L2 M2 ls H locs hk h2 hl I
      obtain rfl : k = c9 := by omega
      refine lv_iload_n hx hb d_SpectrumDeskModel_rowCopy_20 rfl (lv_at hl 0 rfl) ?_
      refine lv_aload_n hx hb d_SpectrumDeskModel_rowCopy_21 rfl (lv_at hl 1 rfl) ?_
      refine xr_get X I fin_M 183 (by decide) (r183 ..) rfl 3 (by decide) (List.mem_cons_of_mem _ k_176eac5e1f) rfl rfl d_SpectrumDeskModel_rowCopy_22 ?_
      refine lv_iload_n hx hb d_SpectrumDeskModel_rowCopy_25 rfl (lv_at hl 3 rfl) ?_
      refine lv_bipush (v := nI 8) hx hb d_SpectrumDeskModel_rowCopy_26 (by decide) ?_
      refine lv_idiv hx hb d_SpectrumDeskModel_rowCopy_28 (by decide) ?_
      refine xr_topi (y := nI b) (q_div8 (by omega)) ?_
      refine xr_iald X I 187 0 (by decide) ((r_o (by decide)).trans (va_up_self _ _ _)) rfl (by omega) (by decide) d_SpectrumDeskModel_rowCopy_29 ?_
      refine xr_topi (y := nP k) ((upd_n hab).trans hGb) ?_
      refine lv_icmp_gt hx hb d_SpectrumDeskModel_rowCopy_30 rfl (fun hc => ?_) (fun hc => ?_)
      · exact xr_vret X I hr hlk ⟨P2, L2, M2, rfl, h2⟩ d_SpectrumDeskModel_rowCopy_49
      · exact absurd (nP_lt (by omega)) hc
    | succ j ih =>
      intro k P2 L2 M2 ls H locs hk h2 hl I
      refine lv_iload_n hx hb d_SpectrumDeskModel_rowCopy_20 rfl (lv_at hl 0 rfl) ?_
      refine lv_aload_n hx hb d_SpectrumDeskModel_rowCopy_21 rfl (lv_at hl 1 rfl) ?_
      refine xr_get X I fin_M 183 (by decide) (r183 ..) rfl 3 (by decide) (List.mem_cons_of_mem _ k_176eac5e1f) rfl rfl d_SpectrumDeskModel_rowCopy_22 ?_
      refine lv_iload_n hx hb d_SpectrumDeskModel_rowCopy_25 rfl (lv_at hl 3 rfl) ?_
      refine lv_bipush (v := nI 8) hx hb d_SpectrumDeskModel_rowCopy_26 (by decide) ?_
      refine lv_idiv hx hb d_SpectrumDeskModel_rowCopy_28 (by decide) ?_
      refine xr_topi (y := nI b) (q_div8 (by omega)) ?_
      refine xr_iald X I 187 0 (by decide) ((r_o (by decide)).trans (va_up_self _ _ _)) rfl (by omega) (by decide) d_SpectrumDeskModel_rowCopy_29 ?_
      refine xr_topi (y := nP c9) ((upd_n hab).trans hGb) ?_
      refine lv_icmp_gt hx hb d_SpectrumDeskModel_rowCopy_30 rfl (fun hc => ?_) (fun hc => ?_)
      · exact absurd hc (nP_nlt (by omega) (by omega))
      · refine lv_aload_n hx hb d_SpectrumDeskModel_rowCopy_33 rfl (lv_at hl 1 rfl) ?_
        refine lv_iload_n hx hb d_SpectrumDeskModel_rowCopy_34 rfl (lv_at hl 2 rfl) ?_
        refine lv_iload_n hx hb d_SpectrumDeskModel_rowCopy_35 rfl (lv_at hl 0 rfl) ?_
        refine lv_iadd hx hb d_SpectrumDeskModel_rowCopy_36 (xr_topi (y := nI ((8 * a) + k)) (nI_add (8 * a) k) ?_)
        refine lv_iload_n hx hb d_SpectrumDeskModel_rowCopy_37 rfl (lv_at hl 3 rfl) ?_
        refine lv_iload_n hx hb d_SpectrumDeskModel_rowCopy_38 rfl (lv_at hl 0 rfl) ?_
        refine lv_iadd hx hb d_SpectrumDeskModel_rowCopy_39 (xr_topi (y := nI ((8 * b) + k)) (nI_add (8 * b) k) ?_)
        refine xr_callv (xr_runV (kc := 0) (kr := 1) (n := 2) (As := [.int (nI ((8 * a) + k)), .int (nI ((8 * b) + k))]) (rest := []) X I (by decide) (r183 ..) rfl (c_SpectrumDeskModel_bigCopy (w := 8 * a + k) (u := 8 * b + k) mfs_ok (by omega) (by omega) (by omega) (h2 (8 * b + k) (by omega))) (xg k_b9c8150a19) (List.mem_cons_of_mem _ k_4f43ed96b8) (List.mem_cons_of_mem _ k_c9c9b5ab57) (List.mem_cons_of_mem _ k_5d491bf207) (List.mem_cons_of_mem _ k_30fa15c9ac) (by decide +kernel) (by decide) rfl hl.1 rfl (Nat.le_of_ble_eq_true rfl) d_SpectrumDeskModel_rowCopy_40) I (fun σ1 H locs hp I => ?_)
        obtain ⟨P3, L3, M3, rfl, hf, hx9⟩ := hp
        have h3 := RB_up h2 hf hx9
        have e9 : cpX Z (8 * a) (8 * b) k (8 * b + k) = Z (8 * b + k) := by simp only [cpX]; rw [if_neg (by omega)]
        rw [e9, cpX_s] at h3
        refine lv_iinc (k := 0) (v := nI (k + 1)) (lv' := [(3, .int (nI (k + 1))), (0, .ref (ad 183)), (1, .int (nI (8 * a))), (2, .int (nI (8 * b)))]) hx hb d_SpectrumDeskModel_rowCopy_43 hl rfl (nI_1 k) (by decide) rfl (fun ls hl => ?_)
        refine lv_goto hx hb d_SpectrumDeskModel_rowCopy_46 rfl ?_
        exact ih (k + 1) P3 L3 M3 ls H locs (by omega) h3 hl I
  exact loop c9 0 P L M ls _ _ (by omega) (by rw [cpX_0]; exact hB) hl I
set_option maxHeartbeats 4000000 in
set_option maxRecDepth 100000 in
theorem c_SpectrumDeskModel_weigh {l : Launch} {D : va_G} {cI cJ cZ cC cG cP : ClassId} {ad : Nat → Nat} {σ0 : Nat → va_E} {th nn rws ps le eq : Int32} {P L M G : Nat → Int32} {Z : Nat → Int} (hG : σ0 187 = .inl (cI, 5, .inl G)) (hB : RB P L M Z) {b dd : Nat} {p0 : Nat → Int} (hb9 : b < 4) (hd6 : dd ≤ 6) (hGb : G b = nI dd) (hp0 : ∀ k, k ≤ dd → Z (8 * b + k) = p0 k) (hs8 : sm (Z 108)) (hs9 : sm (Z 109)) (hsA : ∀ k j, k ≤ dd → j ≤ dd → sm (mA (Z 109) p0 k j)) (hsL : ∀ a j k, a ≤ dd → j ≤ dd → k ≤ dd → sm (swp (Z 108) dd (low (Z 108) dd (mulp (Z 109) dd p0 dd) a) j k)) :
    Met l y_SpectrumDeskModel_weigh v_SpectrumDeskModel_weigh (xrm 3) (va_Pc [.ref (ad 183), .int (nI (8 * b))] (xS D classes (xT cI cJ cZ cC cG cP) 193 ad (rw3 σ0 ciM cI cZ (mfs ad th nn rws ps le eq) P L M))) (va_Qv (fun σ2 => ∃ (P' L' M' : Nat → Int32) (X' : Nat → Int), σ2 = rw3 (va_up σ0 187 (.inl (cI, 5, .inl (upd G 4 (nI dd))))) ciM cI cZ (mfs ad th nn rws ps (nI dd - nI (ez (low (Z 108) dd (mulp (Z 109) dd p0 dd) dd) 0 (dd + 1)) - nI (fa (low (Z 108) dd (mulp (Z 109) dd p0 dd) dd) 0 (ez (low (Z 108) dd (mulp (Z 109) dd p0 dd) dd) 0 (dd + 1)) (dd + 1 - ez (low (Z 108) dd (mulp (Z 109) dd p0 dd) dd) 0 (dd + 1)))) (nI (ez (low (Z 108) dd (mulp (Z 109) dd p0 dd) dd) 0 (dd + 1)))) P' L' M' ∧ RB P' L' M' X' ∧ eqX X' (mvX Z dd (low (Z 108) dd (mulp (Z 109) dd p0 dd) dd))) (xS D classes (xT cI cJ cZ cC cG cP) 193 ad) (xA 193 ad)) 0 0 (xA 193 ad) := by
  refine xr_met rfl (Nat.le_of_ble_eq_true rfl) ?_
  intro p e s m args below meth c ls hx hb X hr hlk hl I
  have hl : lv_has ls 6 [(0, .ref (ad 183)), (1, .int (nI (8 * b)))] := hl
  refine lv_aload_n hx hb d_SpectrumDeskModel_weigh_0 rfl (lv_at hl 0 rfl) ?_
  refine lv_bipush (v := nI 32) hx hb d_SpectrumDeskModel_weigh_1 (by decide) ?_
  refine lv_iload_n hx hb d_SpectrumDeskModel_weigh_3 rfl (lv_at hl 1 rfl) ?_
  refine xr_callv (xr_runV (kc := 1) (kr := 3) (n := 2) (As := [.int (nI 32), .int (nI (8 * b))]) (rest := []) X I (by decide) (r183 ..) rfl (c_SpectrumDeskModel_rowCopy (a := 4) (b := b) (c9 := dd + 1) hG hB (by decide) (by omega) (by omega) (by omega) (by rw [nP_succ]; exact hGb)) (xg k_9767804b5c) (List.mem_cons_of_mem _ k_86ef828392) (List.mem_cons_of_mem _ k_fb5b31696c) (List.mem_cons_of_mem _ k_c87e5177a1) (List.mem_cons_of_mem _ k_30fa15c9ac) (by decide +kernel) (by decide) rfl hl.1 rfl (Nat.le_of_ble_eq_true rfl) d_SpectrumDeskModel_weigh_4) I (fun σ1 H locs hp I => ?_)
  obtain ⟨P1, L1, M1, rfl, hB1⟩ := hp
  rw [nP_succ] at I
  have q0 : eqX (cpX Z (8 * 4) (8 * b) (dd + 1)) (mvX Z dd (mA (Z 109) p0 0)) := by
    intro v _
    simp only [cpX, mvX]
    by_cases h : 32 ≤ v ∧ v ≤ 32 + dd
    · rw [if_pos (by omega), if_pos h, show 8 * 4 = 32 from rfl, hp0 (v - 32) (by omega)]; simp [mA]
    · rw [if_neg (by omega), if_neg h]
  have h8 : ∀ (Y : Nat → Int) (f : Nat → Int), eqX Y (mvX Z dd f) → Y 108 = Z 108 ∧ Y 109 = Z 109 := fun Y f h => ⟨(h 108 (by decide)).trans (mvX_out (by omega)), (h 109 (by decide)).trans (mvX_out (by omega))⟩
  have changes : ∀ (q : Nat) (hq : ez (low (Z 108) dd (mulp (Z 109) dd p0 dd) dd) 0 (dd + 1) = q) (j : Nat) (k : Nat) (bf : Int32) (ch : Nat) (P2 L2 M2 : Nat → Int32) (X2 : Nat → Int) (ls : Array Slot) (H : Heap) (locs : List Loc), k + j = dd + 1 → ch + j ≤ 100 → fa (low (Z 108) dd (mulp (Z 109) dd p0 dd) dd) 0 q (dd + 1 - q) = ch + fa (low (Z 108) dd (mulp (Z 109) dd p0 dd) dd) bf k j → RB P2 L2 M2 X2 → eqX X2 (mvX Z dd (low (Z 108) dd (mulp (Z 109) dd p0 dd) dd)) → lv_has ls 6 [(4, .int (nI k)), (3, .int bf), (2, .int (nI ch)), (0, .ref (ad 183)), (1, .int (nI (8 * b)))] → xI D classes 193 ad s.heap (rw3 (va_up σ0 187 (.inl (cI, 5, .inl (upd G 4 (nI dd))))) ciM cI cZ (mfs ad th nn rws ps le (nI q)) P2 L2 M2) H locs → W p l e (xrm 3) s m args below meth c H locs 0 0 (MQ below (va_Qv (fun σ2 => ∃ (P' L' M' : Nat → Int32) (X' : Nat → Int), σ2 = rw3 (va_up σ0 187 (.inl (cI, 5, .inl (upd G 4 (nI dd))))) ciM cI cZ (mfs ad th nn rws ps (nI dd - nI (ez (low (Z 108) dd (mulp (Z 109) dd p0 dd) dd) 0 (dd + 1)) - nI (fa (low (Z 108) dd (mulp (Z 109) dd p0 dd) dd) 0 (ez (low (Z 108) dd (mulp (Z 109) dd p0 dd) dd) 0 (dd + 1)) (dd + 1 - ez (low (Z 108) dd (mulp (Z 109) dd p0 dd) dd) 0 (dd + 1)))) (nI (ez (low (Z 108) dd (mulp (Z 109) dd p0 dd) dd) 0 (dd + 1)))) P' L' M' ∧ RB P' L' M' X' ∧ eqX X' (mvX Z dd (low (Z 108) dd (mulp (Z 109) dd p0 dd) dd))) (xS D classes (xT cI cJ cZ cC cG cP) 193 ad) (xA 193 ad)) args s 0 0 (xA 193 ad)) (F0 m 190 ls []) := by
    intro q hq j
    induction j with
    | zero =>
      intro k bf ch P2 L2 M2 X2 ls H locs hk hch he h2 h3 hl I
      obtain rfl : k = dd + 1 := by omega
      refine lv_iload hx hb d_SpectrumDeskModel_weigh_190 (lv_at hl 0 rfl) ?_
      refine lv_aload_n hx hb d_SpectrumDeskModel_weigh_192 rfl (lv_at hl 3 rfl) ?_
      refine xr_get X I fin_M 183 (by decide) (r183 ..) rfl 3 (by decide) (List.mem_cons_of_mem _ k_176eac5e1f) rfl rfl d_SpectrumDeskModel_weigh_193 ?_
      refine lv_iload_n hx hb d_SpectrumDeskModel_weigh_196 rfl (lv_at hl 4 rfl) ?_
      refine lv_bipush (v := nI 8) hx hb d_SpectrumDeskModel_weigh_197 (by decide) ?_
      refine lv_idiv hx hb d_SpectrumDeskModel_weigh_199 (by decide) ?_
      refine xr_topi (y := nI b) (q_div8 (by omega)) ?_
      refine xr_iald X I 187 0 (by decide) ((r_o (by decide)).trans (va_up_self _ _ _)) rfl (by omega) (by decide) d_SpectrumDeskModel_weigh_200 ?_
      refine xr_topi (y := nI dd) ((upd_n (by omega)).trans hGb) ?_
      refine lv_icmp_gt hx hb d_SpectrumDeskModel_weigh_201 rfl (fun hc => ?_) (fun hc => ?_)
      · refine lv_aload_n hx hb d_SpectrumDeskModel_weigh_248 rfl (lv_at hl 3 rfl) ?_
        refine lv_aload_n hx hb d_SpectrumDeskModel_weigh_249 rfl (lv_at hl 3 rfl) ?_
        refine xr_get X I fin_M 183 (by decide) (r183 ..) rfl 3 (by decide) (List.mem_cons_of_mem _ k_176eac5e1f) rfl rfl d_SpectrumDeskModel_weigh_250 ?_
        refine lv_iload_n hx hb d_SpectrumDeskModel_weigh_253 rfl (lv_at hl 4 rfl) ?_
        refine lv_bipush (v := nI 8) hx hb d_SpectrumDeskModel_weigh_254 (by decide) ?_
        refine lv_idiv hx hb d_SpectrumDeskModel_weigh_256 (by decide) ?_
        refine xr_topi (y := nI b) (q_div8 (by omega)) ?_
        refine xr_iald X I 187 0 (by decide) ((r_o (by decide)).trans (va_up_self _ _ _)) rfl (by omega) (by decide) d_SpectrumDeskModel_weigh_257 ?_
        refine xr_topi (y := nI dd) ((upd_n (by omega)).trans hGb) ?_
        refine lv_aload_n hx hb d_SpectrumDeskModel_weigh_258 rfl (lv_at hl 3 rfl) ?_
        refine xr_get X I fin_M 183 (by decide) (r183 ..) rfl 13 (by decide) (List.mem_cons_of_mem _ k_e06fbbb633) rfl rfl d_SpectrumDeskModel_weigh_259 ?_
        refine lv_isub hx hb d_SpectrumDeskModel_weigh_262 ?_
        refine lv_iload_n hx hb d_SpectrumDeskModel_weigh_263 rfl (lv_at hl 2 rfl) ?_
        refine lv_isub hx hb d_SpectrumDeskModel_weigh_264 ?_
        refine xr_put (ty := .int) X I fin_M t_M t_M_ok n_M 183 (by decide) (r183 ..) rfl 12 (by decide) (List.mem_cons_of_mem _ k_15947873ae) rfl rfl (by decide +kernel) rfl rfl (Nat.le_of_ble_eq_true rfl) d_SpectrumDeskModel_weigh_265 (fun H locs I => ?_)
        rw [rw3_F] at I
        have I : xI D classes 193 ad s.heap (rw3 (va_up σ0 187 (.inl (cI, 5, .inl (upd G 4 (nI dd))))) ciM cI cZ (mfs ad th nn rws ps (((nI dd) - (nI q)) - (nI ch)) (nI q)) P2 L2 M2) H locs := I
        exact xr_vret X I hr hlk ⟨P2, L2, M2, X2, by rw [hq, he]; rfl, h2, h3⟩ d_SpectrumDeskModel_weigh_268
      · exact absurd (nI_lt (Nat.lt_succ_self _) (by omega)) hc
    | succ j ih =>
      intro k bf ch P2 L2 M2 X2 ls H locs hk hch he h2 h3 hl I
      refine lv_iload hx hb d_SpectrumDeskModel_weigh_190 (lv_at hl 0 rfl) ?_
      refine lv_aload_n hx hb d_SpectrumDeskModel_weigh_192 rfl (lv_at hl 3 rfl) ?_
      refine xr_get X I fin_M 183 (by decide) (r183 ..) rfl 3 (by decide) (List.mem_cons_of_mem _ k_176eac5e1f) rfl rfl d_SpectrumDeskModel_weigh_193 ?_
      refine lv_iload_n hx hb d_SpectrumDeskModel_weigh_196 rfl (lv_at hl 4 rfl) ?_
      refine lv_bipush (v := nI 8) hx hb d_SpectrumDeskModel_weigh_197 (by decide) ?_
      refine lv_idiv hx hb d_SpectrumDeskModel_weigh_199 (by decide) ?_
      refine xr_topi (y := nI b) (q_div8 (by omega)) ?_
      refine xr_iald X I 187 0 (by decide) ((r_o (by decide)).trans (va_up_self _ _ _)) rfl (by omega) (by decide) d_SpectrumDeskModel_weigh_200 ?_
      refine xr_topi (y := nI dd) ((upd_n (by omega)).trans hGb) ?_
      refine lv_icmp_gt hx hb d_SpectrumDeskModel_weigh_201 rfl (fun hc => ?_) (fun hc => ?_)
      · exact absurd hc (nI_nlt (by omega) (by omega))
      · refine lv_aload_n hx hb d_SpectrumDeskModel_weigh_204 rfl (lv_at hl 3 rfl) ?_
        refine lv_bipush (v := nI 32) hx hb d_SpectrumDeskModel_weigh_205 (by decide) ?_
        refine lv_iload hx hb d_SpectrumDeskModel_weigh_207 (lv_at hl 0 rfl) ?_
        refine lv_iadd hx hb d_SpectrumDeskModel_weigh_209 (xr_topi (y := nI (32 + k)) (nI_add 32 k) ?_)
        refine xr_calli (xr_runV (kc := 0) (kr := 3) (n := 1) (As := [.int (nI (32 + k))]) (rest := []) X I (by decide) (r183 ..) rfl (c_SpectrumDeskModel_bigSign (w := 32 + k) mfs_ok (by omega) (h2 (32 + k) (by omega))) (xg k_e13fc765ad) (List.mem_cons_of_mem _ k_6487c7a510) (List.mem_cons_of_mem _ k_b18f58b667) (List.mem_cons_of_mem _ k_0ad4753b22) (List.mem_cons_of_mem _ k_30fa15c9ac) (by decide +kernel) (by decide) rfl hl.1 rfl (Nat.le_of_ble_eq_true rfl) d_SpectrumDeskModel_weigh_210) I (fun r1 σ1 H locs hp I => ?_)
        obtain ⟨rfl, rfl⟩ := hp
        have e9 : X2 (32 + k) = (low (Z 108) dd (mulp (Z 109) dd p0 dd) dd) k := (h3 _ (by omega)).trans (mvX_in (by omega))
        refine xr_topi (y := sg ((low (Z 108) dd (mulp (Z 109) dd p0 dd) dd) k)) (by rw [e9]) ?_
        refine lv_istore (lv' := [(5, .int (sg ((low (Z 108) dd (mulp (Z 109) dd p0 dd) dd) k))), (4, .int (nI k)), (3, .int bf), (2, .int (nI ch)), (0, .ref (ad 183)), (1, .int (nI (8 * b)))]) hx hb d_SpectrumDeskModel_weigh_213 hl (by decide) rfl (fun ls hl => ?_)
        refine lv_iload hx hb d_SpectrumDeskModel_weigh_215 (lv_at hl 0 rfl) ?_
        refine lv_iload_n hx hb d_SpectrumDeskModel_weigh_217 rfl (lv_at hl 2 rfl) ?_
        refine lv_imul hx hb d_SpectrumDeskModel_weigh_218 ?_
        refine lv_if_ge hx hb d_SpectrumDeskModel_weigh_219 rfl (fun hd => ?_) (fun hd => ?_)
        · have hs1 : ¬ sg ((low (Z 108) dd (mulp (Z 109) dd p0 dd) dd) k) * bf < 0 := fun h => absurd hd (Int32.not_le.mpr h)
          refine lv_iload_n hx hb d_SpectrumDeskModel_weigh_228 rfl (lv_at hl 3 rfl) ?_
          refine lv_istore_n (lv' := [(2, .int (nI ch)), (5, .int (sg ((low (Z 108) dd (mulp (Z 109) dd p0 dd) dd) k))), (4, .int (nI k)), (3, .int bf), (0, .ref (ad 183)), (1, .int (nI (8 * b)))]) hx hb d_SpectrumDeskModel_weigh_229 rfl hl (by decide) rfl (fun ls hl => ?_)
          refine lv_iload hx hb d_SpectrumDeskModel_weigh_230 (lv_at hl 1 rfl) ?_
          refine lv_if_ne hx hb d_SpectrumDeskModel_weigh_232 rfl (fun hz => ?_) (fun hz => ?_)
          · refine lv_iload hx hb d_SpectrumDeskModel_weigh_239 (lv_at hl 1 rfl) ?_
            refine lv_istore_n (lv' := [(3, .int (sg ((low (Z 108) dd (mulp (Z 109) dd p0 dd) dd) k))), (2, .int (nI ch)), (5, .int (sg ((low (Z 108) dd (mulp (Z 109) dd p0 dd) dd) k))), (4, .int (nI k)), (0, .ref (ad 183)), (1, .int (nI (8 * b)))]) hx hb d_SpectrumDeskModel_weigh_241 rfl hl (by decide) rfl (fun ls hl => ?_)
            refine lv_iinc (k := 3) (v := nI (k + 1)) (lv' := [(4, .int (nI (k + 1))), (3, .int (sg ((low (Z 108) dd (mulp (Z 109) dd p0 dd) dd) k))), (2, .int (nI ch)), (5, .int (sg ((low (Z 108) dd (mulp (Z 109) dd p0 dd) dd) k))), (0, .ref (ad 183)), (1, .int (nI (8 * b)))]) hx hb d_SpectrumDeskModel_weigh_242 hl rfl (nI_1 k) (by decide) rfl (fun ls hl => ?_)
            refine lv_goto hx hb d_SpectrumDeskModel_weigh_245 rfl ?_
            have hl := lv_sub hl [0, 1, 2, 4, 5] rfl
            have hl : lv_has ls 6 [(4, .int (nI (k + 1))), (3, .int (sg ((low (Z 108) dd (mulp (Z 109) dd p0 dd) dd) k))), (2, .int (nI ch)), (0, .ref (ad 183)), (1, .int (nI (8 * b)))] := hl
            exact ih (k + 1) (sg ((low (Z 108) dd (mulp (Z 109) dd p0 dd) dd) k)) (ch) P2 L2 M2 X2 ls H locs (by omega) (by omega) (by rw [he, fa, if_neg hs1, if_neg hz]; omega) h2 h3 hl I
          · refine lv_iload_n hx hb d_SpectrumDeskModel_weigh_235 rfl (lv_at hl 3 rfl) ?_
            refine lv_goto hx hb d_SpectrumDeskModel_weigh_236 rfl ?_
            refine lv_istore_n (lv' := [(3, .int bf), (2, .int (nI ch)), (5, .int (sg ((low (Z 108) dd (mulp (Z 109) dd p0 dd) dd) k))), (4, .int (nI k)), (0, .ref (ad 183)), (1, .int (nI (8 * b)))]) hx hb d_SpectrumDeskModel_weigh_241 rfl hl (by decide) rfl (fun ls hl => ?_)
            refine lv_iinc (k := 3) (v := nI (k + 1)) (lv' := [(4, .int (nI (k + 1))), (3, .int bf), (2, .int (nI ch)), (5, .int (sg ((low (Z 108) dd (mulp (Z 109) dd p0 dd) dd) k))), (0, .ref (ad 183)), (1, .int (nI (8 * b)))]) hx hb d_SpectrumDeskModel_weigh_242 hl rfl (nI_1 k) (by decide) rfl (fun ls hl => ?_)
            refine lv_goto hx hb d_SpectrumDeskModel_weigh_245 rfl ?_
            have hl := lv_sub hl [0, 1, 2, 4, 5] rfl
            have hl : lv_has ls 6 [(4, .int (nI (k + 1))), (3, .int bf), (2, .int (nI ch)), (0, .ref (ad 183)), (1, .int (nI (8 * b)))] := hl
            exact ih (k + 1) bf (ch) P2 L2 M2 X2 ls H locs (by omega) (by omega) (by rw [he, fa, if_neg hs1, if_pos hz]; omega) h2 h3 hl I
        · have hs1 : sg ((low (Z 108) dd (mulp (Z 109) dd p0 dd) dd) k) * bf < 0 := Int32.not_le.mp hd
          refine lv_iload_n hx hb d_SpectrumDeskModel_weigh_222 rfl (lv_at hl 3 rfl) ?_
          refine lv_iconst (v := nI 1) hx hb d_SpectrumDeskModel_weigh_223 (by decide) ?_
          refine lv_iadd hx hb d_SpectrumDeskModel_weigh_224 (xr_topi (y := nI (ch + 1)) (nI_add ch 1) ?_)
          refine lv_goto hx hb d_SpectrumDeskModel_weigh_225 rfl ?_
          refine lv_istore_n (lv' := [(2, .int (nI (ch + 1))), (5, .int (sg ((low (Z 108) dd (mulp (Z 109) dd p0 dd) dd) k))), (4, .int (nI k)), (3, .int bf), (0, .ref (ad 183)), (1, .int (nI (8 * b)))]) hx hb d_SpectrumDeskModel_weigh_229 rfl hl (by decide) rfl (fun ls hl => ?_)
          refine lv_iload hx hb d_SpectrumDeskModel_weigh_230 (lv_at hl 1 rfl) ?_
          refine lv_if_ne hx hb d_SpectrumDeskModel_weigh_232 rfl (fun hz => ?_) (fun hz => ?_)
          · refine lv_iload hx hb d_SpectrumDeskModel_weigh_239 (lv_at hl 1 rfl) ?_
            refine lv_istore_n (lv' := [(3, .int (sg ((low (Z 108) dd (mulp (Z 109) dd p0 dd) dd) k))), (2, .int (nI (ch + 1))), (5, .int (sg ((low (Z 108) dd (mulp (Z 109) dd p0 dd) dd) k))), (4, .int (nI k)), (0, .ref (ad 183)), (1, .int (nI (8 * b)))]) hx hb d_SpectrumDeskModel_weigh_241 rfl hl (by decide) rfl (fun ls hl => ?_)
            refine lv_iinc (k := 3) (v := nI (k + 1)) (lv' := [(4, .int (nI (k + 1))), (3, .int (sg ((low (Z 108) dd (mulp (Z 109) dd p0 dd) dd) k))), (2, .int (nI (ch + 1))), (5, .int (sg ((low (Z 108) dd (mulp (Z 109) dd p0 dd) dd) k))), (0, .ref (ad 183)), (1, .int (nI (8 * b)))]) hx hb d_SpectrumDeskModel_weigh_242 hl rfl (nI_1 k) (by decide) rfl (fun ls hl => ?_)
            refine lv_goto hx hb d_SpectrumDeskModel_weigh_245 rfl ?_
            have hl := lv_sub hl [0, 1, 2, 4, 5] rfl
            have hl : lv_has ls 6 [(4, .int (nI (k + 1))), (3, .int (sg ((low (Z 108) dd (mulp (Z 109) dd p0 dd) dd) k))), (2, .int (nI (ch + 1))), (0, .ref (ad 183)), (1, .int (nI (8 * b)))] := hl
            exact ih (k + 1) (sg ((low (Z 108) dd (mulp (Z 109) dd p0 dd) dd) k)) (ch + 1) P2 L2 M2 X2 ls H locs (by omega) (by omega) (by rw [he, fa, if_pos hs1, if_neg hz]; omega) h2 h3 hl I
          · refine lv_iload_n hx hb d_SpectrumDeskModel_weigh_235 rfl (lv_at hl 3 rfl) ?_
            refine lv_goto hx hb d_SpectrumDeskModel_weigh_236 rfl ?_
            refine lv_istore_n (lv' := [(3, .int bf), (2, .int (nI (ch + 1))), (5, .int (sg ((low (Z 108) dd (mulp (Z 109) dd p0 dd) dd) k))), (4, .int (nI k)), (0, .ref (ad 183)), (1, .int (nI (8 * b)))]) hx hb d_SpectrumDeskModel_weigh_241 rfl hl (by decide) rfl (fun ls hl => ?_)
            refine lv_iinc (k := 3) (v := nI (k + 1)) (lv' := [(4, .int (nI (k + 1))), (3, .int bf), (2, .int (nI (ch + 1))), (5, .int (sg ((low (Z 108) dd (mulp (Z 109) dd p0 dd) dd) k))), (0, .ref (ad 183)), (1, .int (nI (8 * b)))]) hx hb d_SpectrumDeskModel_weigh_242 hl rfl (nI_1 k) (by decide) rfl (fun ls hl => ?_)
            refine lv_goto hx hb d_SpectrumDeskModel_weigh_245 rfl ?_
            have hl := lv_sub hl [0, 1, 2, 4, 5] rfl
            have hl : lv_has ls 6 [(4, .int (nI (k + 1))), (3, .int bf), (2, .int (nI (ch + 1))), (0, .ref (ad 183)), (1, .int (nI (8 * b)))] := hl
            exact ih (k + 1) bf (ch + 1) P2 L2 M2 X2 ls H locs (by omega) (by omega) (by rw [he, fa, if_pos hs1, if_pos hz]; omega) h2 h3 hl I
  have equals : ∀ (j : Nat) (q : Nat) (P2 L2 M2 : Nat → Int32) (X2 : Nat → Int) (ls : Array Slot) (H : Heap) (locs : List Loc), q + j = dd + 1 → ez (low (Z 108) dd (mulp (Z 109) dd p0 dd) dd) 0 (dd + 1) = ez (low (Z 108) dd (mulp (Z 109) dd p0 dd) dd) q j → RB P2 L2 M2 X2 → eqX X2 (mvX Z dd (low (Z 108) dd (mulp (Z 109) dd p0 dd) dd)) → lv_has ls 6 [(0, .ref (ad 183)), (1, .int (nI (8 * b)))] → xI D classes 193 ad s.heap (rw3 (va_up σ0 187 (.inl (cI, 5, .inl (upd G 4 (nI dd))))) ciM cI cZ (mfs ad th nn rws ps le (nI q)) P2 L2 M2) H locs → W p l e (xrm 3) s m args below meth c H locs 0 0 (MQ below (va_Qv (fun σ2 => ∃ (P' L' M' : Nat → Int32) (X' : Nat → Int), σ2 = rw3 (va_up σ0 187 (.inl (cI, 5, .inl (upd G 4 (nI dd))))) ciM cI cZ (mfs ad th nn rws ps (nI dd - nI (ez (low (Z 108) dd (mulp (Z 109) dd p0 dd) dd) 0 (dd + 1)) - nI (fa (low (Z 108) dd (mulp (Z 109) dd p0 dd) dd) 0 (ez (low (Z 108) dd (mulp (Z 109) dd p0 dd) dd) 0 (dd + 1)) (dd + 1 - ez (low (Z 108) dd (mulp (Z 109) dd p0 dd) dd) 0 (dd + 1)))) (nI (ez (low (Z 108) dd (mulp (Z 109) dd p0 dd) dd) 0 (dd + 1)))) P' L' M' ∧ RB P' L' M' X' ∧ eqX X' (mvX Z dd (low (Z 108) dd (mulp (Z 109) dd p0 dd) dd))) (xS D classes (xT cI cJ cZ cC cG cP) 193 ad) (xA 193 ad)) args s 0 0 (xA 193 ad)) (F0 m 137 ls []) := by
    intro j
    induction j with
    | zero =>
      intro q P2 L2 M2 X2 ls H locs hk he h2 h3 hl I
      obtain rfl : q = dd + 1 := by omega
      refine lv_aload_n hx hb d_SpectrumDeskModel_weigh_137 rfl (lv_at hl 0 rfl) ?_
      refine xr_get X I fin_M 183 (by decide) (r183 ..) rfl 13 (by decide) (List.mem_cons_of_mem _ k_e06fbbb633) rfl rfl d_SpectrumDeskModel_weigh_138 ?_
      refine lv_aload_n hx hb d_SpectrumDeskModel_weigh_141 rfl (lv_at hl 0 rfl) ?_
      refine xr_get X I fin_M 183 (by decide) (r183 ..) rfl 3 (by decide) (List.mem_cons_of_mem _ k_176eac5e1f) rfl rfl d_SpectrumDeskModel_weigh_142 ?_
      refine lv_iload_n hx hb d_SpectrumDeskModel_weigh_145 rfl (lv_at hl 1 rfl) ?_
      refine lv_bipush (v := nI 8) hx hb d_SpectrumDeskModel_weigh_146 (by decide) ?_
      refine lv_idiv hx hb d_SpectrumDeskModel_weigh_148 (by decide) ?_
      refine xr_topi (y := nI b) (q_div8 (by omega)) ?_
      refine xr_iald X I 187 0 (by decide) ((r_o (by decide)).trans (va_up_self _ _ _)) rfl (by omega) (by decide) d_SpectrumDeskModel_weigh_149 ?_
      refine xr_topi (y := nI dd) ((upd_n (by omega)).trans hGb) ?_
      refine lv_icmp_gt hx hb d_SpectrumDeskModel_weigh_150 rfl (fun hc => ?_) (fun hc => ?_)
      · refine lv_iconst (v := nI 0) hx hb d_SpectrumDeskModel_weigh_180 (by decide) ?_
        refine lv_istore_n (lv' := [(2, .int (nI 0)), (0, .ref (ad 183)), (1, .int (nI (8 * b)))]) hx hb d_SpectrumDeskModel_weigh_181 rfl hl (by decide) rfl (fun ls hl => ?_)
        refine lv_iconst (v := 0) hx hb d_SpectrumDeskModel_weigh_182 (by decide) ?_
        refine lv_istore_n (lv' := [(3, .int 0), (2, .int (nI 0)), (0, .ref (ad 183)), (1, .int (nI (8 * b)))]) hx hb d_SpectrumDeskModel_weigh_183 rfl hl (by decide) rfl (fun ls hl => ?_)
        refine lv_aload_n hx hb d_SpectrumDeskModel_weigh_184 rfl (lv_at hl 2 rfl) ?_
        refine xr_get X I fin_M 183 (by decide) (r183 ..) rfl 13 (by decide) (List.mem_cons_of_mem _ k_e06fbbb633) rfl rfl d_SpectrumDeskModel_weigh_185 ?_
        refine lv_istore (lv' := [(4, .int (nI (dd + 1))), (3, .int 0), (2, .int (nI 0)), (0, .ref (ad 183)), (1, .int (nI (8 * b)))]) hx hb d_SpectrumDeskModel_weigh_188 hl (by decide) rfl (fun ls hl => ?_)
        exact changes (dd + 1) he 0 (dd + 1) 0 0 P2 L2 M2 X2 ls H locs (by omega) (by decide) (by rw [Nat.sub_self]; rfl) h2 h3 hl I
      · exact absurd (nI_lt (Nat.lt_succ_self _) (by omega)) hc
    | succ j ih =>
      intro q P2 L2 M2 X2 ls H locs hk he h2 h3 hl I
      refine lv_aload_n hx hb d_SpectrumDeskModel_weigh_137 rfl (lv_at hl 0 rfl) ?_
      refine xr_get X I fin_M 183 (by decide) (r183 ..) rfl 13 (by decide) (List.mem_cons_of_mem _ k_e06fbbb633) rfl rfl d_SpectrumDeskModel_weigh_138 ?_
      refine lv_aload_n hx hb d_SpectrumDeskModel_weigh_141 rfl (lv_at hl 0 rfl) ?_
      refine xr_get X I fin_M 183 (by decide) (r183 ..) rfl 3 (by decide) (List.mem_cons_of_mem _ k_176eac5e1f) rfl rfl d_SpectrumDeskModel_weigh_142 ?_
      refine lv_iload_n hx hb d_SpectrumDeskModel_weigh_145 rfl (lv_at hl 1 rfl) ?_
      refine lv_bipush (v := nI 8) hx hb d_SpectrumDeskModel_weigh_146 (by decide) ?_
      refine lv_idiv hx hb d_SpectrumDeskModel_weigh_148 (by decide) ?_
      refine xr_topi (y := nI b) (q_div8 (by omega)) ?_
      refine xr_iald X I 187 0 (by decide) ((r_o (by decide)).trans (va_up_self _ _ _)) rfl (by omega) (by decide) d_SpectrumDeskModel_weigh_149 ?_
      refine xr_topi (y := nI dd) ((upd_n (by omega)).trans hGb) ?_
      refine lv_icmp_gt hx hb d_SpectrumDeskModel_weigh_150 rfl (fun hc => ?_) (fun hc => ?_)
      · exact absurd hc (nI_nlt (by omega) (by omega))
      · refine lv_aload_n hx hb d_SpectrumDeskModel_weigh_153 rfl (lv_at hl 0 rfl) ?_
        refine lv_bipush (v := nI 32) hx hb d_SpectrumDeskModel_weigh_154 (by decide) ?_
        refine lv_aload_n hx hb d_SpectrumDeskModel_weigh_156 rfl (lv_at hl 0 rfl) ?_
        refine xr_get X I fin_M 183 (by decide) (r183 ..) rfl 13 (by decide) (List.mem_cons_of_mem _ k_e06fbbb633) rfl rfl d_SpectrumDeskModel_weigh_157 ?_
        refine lv_iadd hx hb d_SpectrumDeskModel_weigh_160 (xr_topi (y := nI (32 + q)) (nI_add 32 q) ?_)
        refine xr_calli (xr_runV (kc := 0) (kr := 3) (n := 1) (As := [.int (nI (32 + q))]) (rest := []) X I (by decide) (r183 ..) rfl (c_SpectrumDeskModel_bigSign (w := 32 + q) mfs_ok (by omega) (h2 (32 + q) (by omega))) (xg k_e13fc765ad) (List.mem_cons_of_mem _ k_6487c7a510) (List.mem_cons_of_mem _ k_b18f58b667) (List.mem_cons_of_mem _ k_0ad4753b22) (List.mem_cons_of_mem _ k_30fa15c9ac) (by decide +kernel) (by decide) rfl hl.1 rfl (Nat.le_of_ble_eq_true rfl) d_SpectrumDeskModel_weigh_161) I (fun r1 σ1 H locs hp I => ?_)
        obtain ⟨rfl, rfl⟩ := hp
        have e9 : X2 (32 + q) = (low (Z 108) dd (mulp (Z 109) dd p0 dd) dd) q := (h3 _ (by omega)).trans (mvX_in (by omega))
        refine xr_topi (y := sg ((low (Z 108) dd (mulp (Z 109) dd p0 dd) dd) q)) (by rw [e9]) ?_
        refine lv_if_ne hx hb d_SpectrumDeskModel_weigh_164 rfl (fun hd => ?_) (fun hd => ?_)
        · have hz : ¬ (low (Z 108) dd (mulp (Z 109) dd p0 dd) dd) q = 0 := fun h => hd (sg_zero.mpr h)
          refine lv_iconst (v := nI 0) hx hb d_SpectrumDeskModel_weigh_180 (by decide) ?_
          refine lv_istore_n (lv' := [(2, .int (nI 0)), (0, .ref (ad 183)), (1, .int (nI (8 * b)))]) hx hb d_SpectrumDeskModel_weigh_181 rfl hl (by decide) rfl (fun ls hl => ?_)
          refine lv_iconst (v := 0) hx hb d_SpectrumDeskModel_weigh_182 (by decide) ?_
          refine lv_istore_n (lv' := [(3, .int 0), (2, .int (nI 0)), (0, .ref (ad 183)), (1, .int (nI (8 * b)))]) hx hb d_SpectrumDeskModel_weigh_183 rfl hl (by decide) rfl (fun ls hl => ?_)
          refine lv_aload_n hx hb d_SpectrumDeskModel_weigh_184 rfl (lv_at hl 2 rfl) ?_
          refine xr_get X I fin_M 183 (by decide) (r183 ..) rfl 13 (by decide) (List.mem_cons_of_mem _ k_e06fbbb633) rfl rfl d_SpectrumDeskModel_weigh_185 ?_
          refine lv_istore (lv' := [(4, .int (nI q)), (3, .int 0), (2, .int (nI 0)), (0, .ref (ad 183)), (1, .int (nI (8 * b)))]) hx hb d_SpectrumDeskModel_weigh_188 hl (by decide) rfl (fun ls hl => ?_)
          exact changes q (by rw [he, ez, if_neg hz]) (dd + 1 - q) q 0 0 P2 L2 M2 X2 ls H locs (by omega) (by omega) (by simp) h2 h3 hl I
        · have hz : (low (Z 108) dd (mulp (Z 109) dd p0 dd) dd) q = 0 := sg_zero.mp hd
          refine lv_aload_n hx hb d_SpectrumDeskModel_weigh_167 rfl (lv_at hl 0 rfl) ?_
          refine lv_dup hx hb d_SpectrumDeskModel_weigh_168 rfl ?_
          refine xr_get X I fin_M 183 (by decide) (r183 ..) rfl 13 (by decide) (List.mem_cons_of_mem _ k_e06fbbb633) rfl rfl d_SpectrumDeskModel_weigh_169 ?_
          refine lv_iconst (v := nI 1) hx hb d_SpectrumDeskModel_weigh_172 (by decide) ?_
          refine lv_iadd hx hb d_SpectrumDeskModel_weigh_173 (xr_topi (y := nI (q + 1)) (nI_add q 1) ?_)
          refine xr_put (ty := .int) X I fin_M t_M t_M_ok n_M 183 (by decide) (r183 ..) rfl 13 (by decide) (List.mem_cons_of_mem _ k_e06fbbb633) rfl rfl (by decide +kernel) rfl rfl (Nat.le_of_ble_eq_true rfl) d_SpectrumDeskModel_weigh_174 (fun H locs I => ?_)
          rw [rw3_F] at I
          have I : xI D classes 193 ad s.heap (rw3 (va_up σ0 187 (.inl (cI, 5, .inl (upd G 4 (nI dd))))) ciM cI cZ (mfs ad th nn rws ps le (nI (q + 1))) P2 L2 M2) H locs := I
          refine lv_goto hx hb d_SpectrumDeskModel_weigh_177 rfl ?_
          exact ih (q + 1) P2 L2 M2 X2 ls H locs (by omega) (by rw [he, ez, if_pos hz]) h2 h3 hl I
  have shift : ∀ (k : Nat) (a : Nat) (P2 L2 M2 : Nat → Int32) (X2 : Nat → Int) (ls : Array Slot) (H : Heap) (locs : List Loc), a + k = dd → RB P2 L2 M2 X2 → eqX X2 (mvX Z dd (low (Z 108) dd (mulp (Z 109) dd p0 dd) a)) → lv_has ls 6 [(2, .int (nI a)), (0, .ref (ad 183)), (1, .int (nI (8 * b)))] → xI D classes 193 ad s.heap (rw3 (va_up σ0 187 (.inl (cI, 5, .inl (upd G 4 (nI dd))))) ciM cI cZ (mfs ad th nn rws ps le eq) P2 L2 M2) H locs → W p l e (xrm 3) s m args below meth c H locs 0 0 (MQ below (va_Qv (fun σ2 => ∃ (P' L' M' : Nat → Int32) (X' : Nat → Int), σ2 = rw3 (va_up σ0 187 (.inl (cI, 5, .inl (upd G 4 (nI dd))))) ciM cI cZ (mfs ad th nn rws ps (nI dd - nI (ez (low (Z 108) dd (mulp (Z 109) dd p0 dd) dd) 0 (dd + 1)) - nI (fa (low (Z 108) dd (mulp (Z 109) dd p0 dd) dd) 0 (ez (low (Z 108) dd (mulp (Z 109) dd p0 dd) dd) 0 (dd + 1)) (dd + 1 - ez (low (Z 108) dd (mulp (Z 109) dd p0 dd) dd) 0 (dd + 1)))) (nI (ez (low (Z 108) dd (mulp (Z 109) dd p0 dd) dd) 0 (dd + 1)))) P' L' M' ∧ RB P' L' M' X' ∧ eqX X' (mvX Z dd (low (Z 108) dd (mulp (Z 109) dd p0 dd) dd))) (xS D classes (xT cI cJ cZ cC cG cP) 193 ad) (xA 193 ad)) args s 0 0 (xA 193 ad)) (F0 m 65 ls []) := by
    intro k
    induction k with
    | zero =>
      intro a P2 L2 M2 X2 ls H locs hk h2 h3 hl I
      obtain rfl : a = dd := by omega
      refine lv_iload_n hx hb d_SpectrumDeskModel_weigh_65 rfl (lv_at hl 0 rfl) ?_
      refine lv_aload_n hx hb d_SpectrumDeskModel_weigh_66 rfl (lv_at hl 1 rfl) ?_
      refine xr_get X I fin_M 183 (by decide) (r183 ..) rfl 3 (by decide) (List.mem_cons_of_mem _ k_176eac5e1f) rfl rfl d_SpectrumDeskModel_weigh_67 ?_
      refine lv_iload_n hx hb d_SpectrumDeskModel_weigh_70 rfl (lv_at hl 2 rfl) ?_
      refine lv_bipush (v := nI 8) hx hb d_SpectrumDeskModel_weigh_71 (by decide) ?_
      refine lv_idiv hx hb d_SpectrumDeskModel_weigh_73 (by decide) ?_
      refine xr_topi (y := nI b) (q_div8 (by omega)) ?_
      refine xr_iald X I 187 0 (by decide) ((r_o (by decide)).trans (va_up_self _ _ _)) rfl (by omega) (by decide) d_SpectrumDeskModel_weigh_74 ?_
      refine xr_topi (y := nI a) ((upd_n (by omega)).trans hGb) ?_
      refine lv_icmp_ge hx hb d_SpectrumDeskModel_weigh_75 rfl (fun hc => ?_) (fun hc => ?_)
      · refine lv_aload_n hx hb d_SpectrumDeskModel_weigh_132 rfl (lv_at hl 1 rfl) ?_
        refine lv_iconst (v := nI 0) hx hb d_SpectrumDeskModel_weigh_133 (by decide) ?_
        refine xr_put (ty := .int) X I fin_M t_M t_M_ok n_M 183 (by decide) (r183 ..) rfl 13 (by decide) (List.mem_cons_of_mem _ k_e06fbbb633) rfl rfl (by decide +kernel) rfl rfl (Nat.le_of_ble_eq_true rfl) d_SpectrumDeskModel_weigh_134 (fun H locs I => ?_)
        rw [rw3_F] at I
        have I : xI D classes 193 ad s.heap (rw3 (va_up σ0 187 (.inl (cI, 5, .inl (upd G 4 (nI a))))) ciM cI cZ (mfs ad th nn rws ps le (nI 0)) P2 L2 M2) H locs := I
        have hl := lv_sub hl [1, 2] rfl
        have hl : lv_has ls 6 [(0, .ref (ad 183)), (1, .int (nI (8 * b)))] := hl
        exact equals (a + 1) 0 P2 L2 M2 X2 ls H locs (by omega) rfl h2 h3 hl I
      · exact absurd (nI_le (Nat.le_refl _) (by omega)) hc
    | succ k ih =>
      intro a P2 L2 M2 X2 ls H locs hk h2 h3 hl I
      refine lv_iload_n hx hb d_SpectrumDeskModel_weigh_65 rfl (lv_at hl 0 rfl) ?_
      refine lv_aload_n hx hb d_SpectrumDeskModel_weigh_66 rfl (lv_at hl 1 rfl) ?_
      refine xr_get X I fin_M 183 (by decide) (r183 ..) rfl 3 (by decide) (List.mem_cons_of_mem _ k_176eac5e1f) rfl rfl d_SpectrumDeskModel_weigh_67 ?_
      refine lv_iload_n hx hb d_SpectrumDeskModel_weigh_70 rfl (lv_at hl 2 rfl) ?_
      refine lv_bipush (v := nI 8) hx hb d_SpectrumDeskModel_weigh_71 (by decide) ?_
      refine lv_idiv hx hb d_SpectrumDeskModel_weigh_73 (by decide) ?_
      refine xr_topi (y := nI b) (q_div8 (by omega)) ?_
      refine xr_iald X I 187 0 (by decide) ((r_o (by decide)).trans (va_up_self _ _ _)) rfl (by omega) (by decide) d_SpectrumDeskModel_weigh_74 ?_
      refine xr_topi (y := nI dd) ((upd_n (by omega)).trans hGb) ?_
      refine lv_icmp_ge hx hb d_SpectrumDeskModel_weigh_75 rfl (fun hc => ?_) (fun hc => ?_)
      · exact absurd hc (nI_ge (by omega) (by omega))
      · refine lv_aload_n hx hb d_SpectrumDeskModel_weigh_78 rfl (lv_at hl 1 rfl) ?_
        refine xr_get X I fin_M 183 (by decide) (r183 ..) rfl 3 (by decide) (List.mem_cons_of_mem _ k_176eac5e1f) rfl rfl d_SpectrumDeskModel_weigh_79 ?_
        refine lv_iload_n hx hb d_SpectrumDeskModel_weigh_82 rfl (lv_at hl 2 rfl) ?_
        refine lv_bipush (v := nI 8) hx hb d_SpectrumDeskModel_weigh_83 (by decide) ?_
        refine lv_idiv hx hb d_SpectrumDeskModel_weigh_85 (by decide) ?_
        refine xr_topi (y := nI b) (q_div8 (by omega)) ?_
        refine xr_iald X I 187 0 (by decide) ((r_o (by decide)).trans (va_up_self _ _ _)) rfl (by omega) (by decide) d_SpectrumDeskModel_weigh_86 ?_
        refine xr_topi (y := nI dd) ((upd_n (by omega)).trans hGb) ?_
        refine lv_iconst (v := nI 1) hx hb d_SpectrumDeskModel_weigh_87 (by decide) ?_
        refine lv_isub hx hb d_SpectrumDeskModel_weigh_88 ?_
        refine xr_topi (y := nP dd) rfl ?_
        refine lv_istore_n (lv' := [(3, .int (nP dd)), (2, .int (nI a)), (0, .ref (ad 183)), (1, .int (nI (8 * b)))]) hx hb d_SpectrumDeskModel_weigh_89 rfl hl (by decide) rfl (fun ls hl => ?_)
        have inner : ∀ (k2 : Nat) (bb : Nat) (P3 L3 M3 : Nat → Int32) (X3 : Nat → Int) (ls : Array Slot) (H : Heap) (locs : List Loc), bb = a + k2 → bb ≤ dd → RB P3 L3 M3 X3 → eqX X3 (mvX Z dd (swp (Z 108) dd (low (Z 108) dd (mulp (Z 109) dd p0 dd) a) (dd - bb))) → lv_has ls 6 [(3, .int (nP bb)), (2, .int (nI a)), (0, .ref (ad 183)), (1, .int (nI (8 * b)))] → xI D classes 193 ad s.heap (rw3 (va_up σ0 187 (.inl (cI, 5, .inl (upd G 4 (nI dd))))) ciM cI cZ (mfs ad th nn rws ps le eq) P3 L3 M3) H locs → W p l e (xrm 3) s m args below meth c H locs 0 0 (MQ below (va_Qv (fun σ2 => ∃ (P' L' M' : Nat → Int32) (X' : Nat → Int), σ2 = rw3 (va_up σ0 187 (.inl (cI, 5, .inl (upd G 4 (nI dd))))) ciM cI cZ (mfs ad th nn rws ps (nI dd - nI (ez (low (Z 108) dd (mulp (Z 109) dd p0 dd) dd) 0 (dd + 1)) - nI (fa (low (Z 108) dd (mulp (Z 109) dd p0 dd) dd) 0 (ez (low (Z 108) dd (mulp (Z 109) dd p0 dd) dd) 0 (dd + 1)) (dd + 1 - ez (low (Z 108) dd (mulp (Z 109) dd p0 dd) dd) 0 (dd + 1)))) (nI (ez (low (Z 108) dd (mulp (Z 109) dd p0 dd) dd) 0 (dd + 1)))) P' L' M' ∧ RB P' L' M' X' ∧ eqX X' (mvX Z dd (low (Z 108) dd (mulp (Z 109) dd p0 dd) dd))) (xS D classes (xT cI cJ cZ cC cG cP) 193 ad) (xA 193 ad)) args s 0 0 (xA 193 ad)) (F0 m 90 ls []) := by
          intro k2
          induction k2 with
          | zero =>
            intro bb P3 L3 M3 X3 ls H locs hb2 hbd g2 g3 hl I
            obtain rfl : bb = a := by omega
            refine lv_iload_n hx hb d_SpectrumDeskModel_weigh_90 rfl (lv_at hl 0 rfl) ?_
            refine lv_iload_n hx hb d_SpectrumDeskModel_weigh_91 rfl (lv_at hl 1 rfl) ?_
            refine lv_icmp_lt hx hb d_SpectrumDeskModel_weigh_92 rfl (fun hd => ?_) (fun hd => ?_)
            · refine lv_iinc (k := 1) (v := nI (bb + 1)) (lv' := [(2, .int (nI (bb + 1))), (3, .int (nP bb)), (0, .ref (ad 183)), (1, .int (nI (8 * b)))]) hx hb d_SpectrumDeskModel_weigh_126 hl rfl (nI_1 bb) (by decide) rfl (fun ls hl => ?_)
              refine lv_goto hx hb d_SpectrumDeskModel_weigh_129 rfl ?_
              have hl := lv_sub hl [0, 2, 3] rfl
              have hl : lv_has ls 6 [(2, .int (nI (bb + 1))), (0, .ref (ad 183)), (1, .int (nI (8 * b)))] := hl
              exact ih (bb + 1) P3 L3 M3 X3 ls H locs (by omega) g2 (by have e : low (Z 108) dd (mulp (Z 109) dd p0 dd) (bb + 1) = swp (Z 108) dd (low (Z 108) dd (mulp (Z 109) dd p0 dd) bb) (dd - bb) := rfl; rw [e]; exact g3) hl I
            · exact absurd (nP_lt (by omega)) hd
          | succ k2 jh =>
            intro bb P3 L3 M3 X3 ls H locs hb2 hbd g2 g3 hl I
            obtain ⟨b0, rfl⟩ : ∃ b0, bb = b0 + 1 := ⟨bb - 1, by omega⟩
            refine lv_iload_n hx hb d_SpectrumDeskModel_weigh_90 rfl (lv_at hl 0 rfl) ?_
            refine xr_topi (y := nI b0) (nP_succ b0) ?_
            refine lv_iload_n hx hb d_SpectrumDeskModel_weigh_91 rfl (lv_at hl 1 rfl) ?_
            refine lv_icmp_lt hx hb d_SpectrumDeskModel_weigh_92 rfl (fun hd => ?_) (fun hd => ?_)
            · exact absurd hd (nI_nlt (by omega) (by omega))
            · have v1 : X3 (32 + b0) = (swp (Z 108) dd (low (Z 108) dd (mulp (Z 109) dd p0 dd) a) (dd - (b0 + 1))) b0 := (g3 _ (by omega)).trans (mvX_in (by omega))
              have v2 : X3 (32 + (b0 + 1)) = (swp (Z 108) dd (low (Z 108) dd (mulp (Z 109) dd p0 dd) a) (dd - (b0 + 1))) (b0 + 1) := (g3 _ (by omega)).trans (mvX_in (by omega))
              have v3 := (h8 _ _ g3).1
              have k1 := hsL a (dd - (b0 + 1)) b0 (by omega) (by omega) (by omega)
              have k2 := hsL a (dd - (b0 + 1)) (b0 + 1) (by omega) (by omega) (by omega)
              obtain ⟨la, la1, la2⟩ := rb_sm (g2 (32 + (b0 + 1)) (by omega)) (by rw [v2]; exact k2)
              obtain ⟨lb, lb1, lb2⟩ := rb_sm (g2 108 (by decide)) (by rw [v3]; exact hs8)
              refine lv_aload_n hx hb d_SpectrumDeskModel_weigh_95 rfl (lv_at hl 2 rfl) ?_
              refine lv_bipush (v := nI 106) hx hb d_SpectrumDeskModel_weigh_96 (by decide) ?_
              refine lv_bipush (v := nI 32) hx hb d_SpectrumDeskModel_weigh_98 (by decide) ?_
              refine lv_iload_n hx hb d_SpectrumDeskModel_weigh_100 rfl (lv_at hl 0 rfl) ?_
              refine xr_topi (y := nI b0) (nP_succ b0) ?_
              refine lv_iadd hx hb d_SpectrumDeskModel_weigh_101 (xr_topi (y := nI (32 + b0)) (nI_add 32 b0) ?_)
              refine lv_iconst (v := nI 1) hx hb d_SpectrumDeskModel_weigh_102 (by decide) ?_
              refine lv_iadd hx hb d_SpectrumDeskModel_weigh_103 (xr_topi (y := nI (32 + (b0 + 1))) (by rw [nI_add, Nat.add_assoc]) ?_)
              refine lv_bipush (v := nI 108) hx hb d_SpectrumDeskModel_weigh_104 (by decide) ?_
              refine xr_callv (xr_runV (kc := 1) (kr := 3) (n := 3) (As := [.int (nI 106), .int (nI (32 + (b0 + 1))), .int (nI 108)]) (rest := []) X I (by decide) (r183 ..) rfl (c_SpectrumDeskModel_bigProduct (w := 106) (u := 32 + (b0 + 1)) (v := 108) mfs_ok (by decide) (by omega) (by decide) (by omega) (by decide) la2 lb2 (by omega) (g2 (32 + (b0 + 1)) (by omega)) (g2 108 (by decide))) (xg k_d838ee6d72) (List.mem_cons_of_mem _ k_bbee4b637e) (List.mem_cons_of_mem _ k_55f9d50ad7) (List.mem_cons_of_mem _ k_ea9d46a281) (List.mem_cons_of_mem _ k_30fa15c9ac) (by decide +kernel) (by decide) rfl hl.1 rfl (Nat.le_of_ble_eq_true rfl) d_SpectrumDeskModel_weigh_106) I (fun σ1 H locs hp I => ?_)
              obtain ⟨P4, L4, M4, rfl, hf, hx9⟩ := hp
              have g4 := RB_up g2 hf hx9
              refine lv_aload_n hx hb d_SpectrumDeskModel_weigh_109 rfl (lv_at hl 2 rfl) ?_
              refine lv_bipush (v := nI 32) hx hb d_SpectrumDeskModel_weigh_110 (by decide) ?_
              refine lv_iload_n hx hb d_SpectrumDeskModel_weigh_112 rfl (lv_at hl 0 rfl) ?_
              refine xr_topi (y := nI b0) (nP_succ b0) ?_
              refine lv_iadd hx hb d_SpectrumDeskModel_weigh_113 (xr_topi (y := nI (32 + b0)) (nI_add 32 b0) ?_)
              refine lv_bipush (v := nI 106) hx hb d_SpectrumDeskModel_weigh_114 (by decide) ?_
              refine lv_iconst (v := nI 0) hx hb d_SpectrumDeskModel_weigh_116 (by decide) ?_
              have w1 : va_up X3 106 (X3 (32 + (b0 + 1)) * X3 108) (32 + b0) = X3 (32 + b0) := va_up_ne _ _ (by omega)
              have w2 : va_up X3 106 (X3 (32 + (b0 + 1)) * X3 108) 106 = X3 (32 + (b0 + 1)) * X3 108 := va_up_self _ _ _
              refine xr_callv (xr_runV (kc := 2) (kr := 3) (n := 3) (As := [.int (nI (32 + b0)), .int (nI 106), .int (nI 0)]) (rest := []) X I (by decide) (r183 ..) rfl (c_SpectrumDeskModel_bigAdd0 (w := 32 + b0) (u := 106) mfs_ok (by omega) (by decide) (by omega) (g4 (32 + b0) (by omega)) (g4 106 (by decide)) (by rw [w1, v1]; exact sm_rbd k1) (by rw [w2, v2, v3]; exact sm_mul k2 hs8)) (xg k_dd45f20b23) (List.mem_cons_of_mem _ k_1f49c5cd66) (List.mem_cons_of_mem _ k_a10028f3d7) (List.mem_cons_of_mem _ k_758e0597f6) (List.mem_cons_of_mem _ k_30fa15c9ac) (by decide +kernel) (by decide) rfl hl.1 rfl (Nat.le_of_ble_eq_true rfl) d_SpectrumDeskModel_weigh_117) I (fun σ1 H locs hp I => ?_)
              obtain ⟨P5, L5, M5, rfl, hf2, hx8⟩ := hp
              have g5 := RB_up g4 hf2 hx8
              rw [w1, w2] at g5
              refine lv_iinc (k := 0) (v := nP b0) (lv' := [(3, .int (nP b0)), (2, .int (nI a)), (0, .ref (ad 183)), (1, .int (nI (8 * b)))]) hx hb d_SpectrumDeskModel_weigh_120 hl rfl (nP_dec b0) (by decide) rfl (fun ls hl => ?_)
              refine lv_goto hx hb d_SpectrumDeskModel_weigh_123 rfl ?_
              refine jh b0 P5 L5 M5 _ ls H locs (by omega) (by omega) g5 ?_ hl I
              rw [show dd - b0 = (dd - (b0 + 1)) + 1 by omega, swp, show dd - 1 - (dd - (b0 + 1)) = b0 by omega, show dd - (dd - (b0 + 1)) = b0 + 1 by omega, Int.mul_comm (Z 108), v1, v2, v3]
              exact mvX_set (by omega) (by omega) g3
        exact inner (dd - a) dd P2 L2 M2 X2 ls _ _ (by omega) (Nat.le_refl _) h2 (by rw [Nat.sub_self]; exact h3) hl I
  have products : ∀ (k : Nat) (a : Nat) (P2 L2 M2 : Nat → Int32) (X2 : Nat → Int) (ls : Array Slot) (H : Heap) (locs : List Loc), a + k = dd → RB P2 L2 M2 X2 → eqX X2 (mvX Z dd (mA (Z 109) p0 a)) → lv_has ls 6 [(2, .int (nI a)), (0, .ref (ad 183)), (1, .int (nI (8 * b)))] → xI D classes 193 ad s.heap (rw3 (va_up σ0 187 (.inl (cI, 5, .inl (upd G 4 (nI dd))))) ciM cI cZ (mfs ad th nn rws ps le eq) P2 L2 M2) H locs → W p l e (xrm 3) s m args below meth c H locs 0 0 (MQ below (va_Qv (fun σ2 => ∃ (P' L' M' : Nat → Int32) (X' : Nat → Int), σ2 = rw3 (va_up σ0 187 (.inl (cI, 5, .inl (upd G 4 (nI dd))))) ciM cI cZ (mfs ad th nn rws ps (nI dd - nI (ez (low (Z 108) dd (mulp (Z 109) dd p0 dd) dd) 0 (dd + 1)) - nI (fa (low (Z 108) dd (mulp (Z 109) dd p0 dd) dd) 0 (ez (low (Z 108) dd (mulp (Z 109) dd p0 dd) dd) 0 (dd + 1)) (dd + 1 - ez (low (Z 108) dd (mulp (Z 109) dd p0 dd) dd) 0 (dd + 1)))) (nI (ez (low (Z 108) dd (mulp (Z 109) dd p0 dd) dd) 0 (dd + 1)))) P' L' M' ∧ RB P' L' M' X' ∧ eqX X' (mvX Z dd (low (Z 108) dd (mulp (Z 109) dd p0 dd) dd))) (xS D classes (xT cI cJ cZ cC cG cP) 193 ad) (xA 193 ad)) args s 0 0 (xA 193 ad)) (F0 m 9 ls []) := by
    intro k
    induction k with
    | zero =>
      intro a P2 L2 M2 X2 ls H locs hk h2 h3 hl I
      obtain rfl : a = dd := by omega
      refine lv_iload_n hx hb d_SpectrumDeskModel_weigh_9 rfl (lv_at hl 0 rfl) ?_
      refine lv_aload_n hx hb d_SpectrumDeskModel_weigh_10 rfl (lv_at hl 1 rfl) ?_
      refine xr_get X I fin_M 183 (by decide) (r183 ..) rfl 3 (by decide) (List.mem_cons_of_mem _ k_176eac5e1f) rfl rfl d_SpectrumDeskModel_weigh_11 ?_
      refine lv_iload_n hx hb d_SpectrumDeskModel_weigh_14 rfl (lv_at hl 2 rfl) ?_
      refine lv_bipush (v := nI 8) hx hb d_SpectrumDeskModel_weigh_15 (by decide) ?_
      refine lv_idiv hx hb d_SpectrumDeskModel_weigh_17 (by decide) ?_
      refine xr_topi (y := nI b) (q_div8 (by omega)) ?_
      refine xr_iald X I 187 0 (by decide) ((r_o (by decide)).trans (va_up_self _ _ _)) rfl (by omega) (by decide) d_SpectrumDeskModel_weigh_18 ?_
      refine xr_topi (y := nI a) ((upd_n (by omega)).trans hGb) ?_
      refine lv_icmp_ge hx hb d_SpectrumDeskModel_weigh_19 rfl (fun hc => ?_) (fun hc => ?_)
      · refine lv_iconst (v := nI 0) hx hb d_SpectrumDeskModel_weigh_63 (by decide) ?_
        refine lv_istore_n (lv' := [(2, .int (nI 0)), (0, .ref (ad 183)), (1, .int (nI (8 * b)))]) hx hb d_SpectrumDeskModel_weigh_64 rfl hl (by decide) rfl (fun ls hl => ?_)
        exact shift a 0 P2 L2 M2 X2 ls H locs (by omega) h2 h3 hl I
      · exact absurd (nI_le (Nat.le_refl _) (by omega)) hc
    | succ k ih =>
      intro a P2 L2 M2 X2 ls H locs hk h2 h3 hl I
      refine lv_iload_n hx hb d_SpectrumDeskModel_weigh_9 rfl (lv_at hl 0 rfl) ?_
      refine lv_aload_n hx hb d_SpectrumDeskModel_weigh_10 rfl (lv_at hl 1 rfl) ?_
      refine xr_get X I fin_M 183 (by decide) (r183 ..) rfl 3 (by decide) (List.mem_cons_of_mem _ k_176eac5e1f) rfl rfl d_SpectrumDeskModel_weigh_11 ?_
      refine lv_iload_n hx hb d_SpectrumDeskModel_weigh_14 rfl (lv_at hl 2 rfl) ?_
      refine lv_bipush (v := nI 8) hx hb d_SpectrumDeskModel_weigh_15 (by decide) ?_
      refine lv_idiv hx hb d_SpectrumDeskModel_weigh_17 (by decide) ?_
      refine xr_topi (y := nI b) (q_div8 (by omega)) ?_
      refine xr_iald X I 187 0 (by decide) ((r_o (by decide)).trans (va_up_self _ _ _)) rfl (by omega) (by decide) d_SpectrumDeskModel_weigh_18 ?_
      refine xr_topi (y := nI dd) ((upd_n (by omega)).trans hGb) ?_
      refine lv_icmp_ge hx hb d_SpectrumDeskModel_weigh_19 rfl (fun hc => ?_) (fun hc => ?_)
      · exact absurd hc (nI_ge (by omega) (by omega))
      · refine lv_iconst (v := nI 0) hx hb d_SpectrumDeskModel_weigh_22 (by decide) ?_
        refine lv_istore_n (lv' := [(3, .int (nI 0)), (2, .int (nI a)), (0, .ref (ad 183)), (1, .int (nI (8 * b)))]) hx hb d_SpectrumDeskModel_weigh_23 rfl hl (by decide) rfl (fun ls hl => ?_)
        have inner : ∀ (k2 : Nat) (f9 : Nat) (P3 L3 M3 : Nat → Int32) (X3 : Nat → Int) (ls : Array Slot) (H : Heap) (locs : List Loc), f9 + k2 = a + 1 → RB P3 L3 M3 X3 → eqX X3 (mvX Z dd (mAe (Z 109) p0 a f9)) → lv_has ls 6 [(3, .int (nI f9)), (2, .int (nI a)), (0, .ref (ad 183)), (1, .int (nI (8 * b)))] → xI D classes 193 ad s.heap (rw3 (va_up σ0 187 (.inl (cI, 5, .inl (upd G 4 (nI dd))))) ciM cI cZ (mfs ad th nn rws ps le eq) P3 L3 M3) H locs → W p l e (xrm 3) s m args below meth c H locs 0 0 (MQ below (va_Qv (fun σ2 => ∃ (P' L' M' : Nat → Int32) (X' : Nat → Int), σ2 = rw3 (va_up σ0 187 (.inl (cI, 5, .inl (upd G 4 (nI dd))))) ciM cI cZ (mfs ad th nn rws ps (nI dd - nI (ez (low (Z 108) dd (mulp (Z 109) dd p0 dd) dd) 0 (dd + 1)) - nI (fa (low (Z 108) dd (mulp (Z 109) dd p0 dd) dd) 0 (ez (low (Z 108) dd (mulp (Z 109) dd p0 dd) dd) 0 (dd + 1)) (dd + 1 - ez (low (Z 108) dd (mulp (Z 109) dd p0 dd) dd) 0 (dd + 1)))) (nI (ez (low (Z 108) dd (mulp (Z 109) dd p0 dd) dd) 0 (dd + 1)))) P' L' M' ∧ RB P' L' M' X' ∧ eqX X' (mvX Z dd (low (Z 108) dd (mulp (Z 109) dd p0 dd) dd))) (xS D classes (xT cI cJ cZ cC cG cP) 193 ad) (xA 193 ad)) args s 0 0 (xA 193 ad)) (F0 m 24 ls []) := by
          intro k2
          induction k2 with
          | zero =>
            intro f9 P3 L3 M3 X3 ls H locs hb2 g2 g3 hl I
            obtain rfl : f9 = a + 1 := by omega
            refine lv_iload_n hx hb d_SpectrumDeskModel_weigh_24 rfl (lv_at hl 0 rfl) ?_
            refine lv_iload_n hx hb d_SpectrumDeskModel_weigh_25 rfl (lv_at hl 1 rfl) ?_
            refine lv_icmp_gt hx hb d_SpectrumDeskModel_weigh_26 rfl (fun hd => ?_) (fun hd => ?_)
            · refine lv_iinc (k := 1) (v := nI (a + 1)) (lv' := [(2, .int (nI (a + 1))), (3, .int (nI (a + 1))), (0, .ref (ad 183)), (1, .int (nI (8 * b)))]) hx hb d_SpectrumDeskModel_weigh_57 hl rfl (nI_1 a) (by decide) rfl (fun ls hl => ?_)
              refine lv_goto hx hb d_SpectrumDeskModel_weigh_60 rfl ?_
              have hl := lv_sub hl [0, 2, 3] rfl
              have hl : lv_has ls 6 [(2, .int (nI (a + 1))), (0, .ref (ad 183)), (1, .int (nI (8 * b)))] := hl
              exact ih (a + 1) P3 L3 M3 X3 ls H locs (by omega) g2 (by rw [mAe_e] at g3; exact g3) hl I
            · exact absurd (nI_lt (Nat.lt_succ_self _) (by omega)) hd
          | succ k2 jh =>
            intro f9 P3 L3 M3 X3 ls H locs hb2 g2 g3 hl I
            refine lv_iload_n hx hb d_SpectrumDeskModel_weigh_24 rfl (lv_at hl 0 rfl) ?_
            refine lv_iload_n hx hb d_SpectrumDeskModel_weigh_25 rfl (lv_at hl 1 rfl) ?_
            refine lv_icmp_gt hx hb d_SpectrumDeskModel_weigh_26 rfl (fun hd => ?_) (fun hd => ?_)
            · exact absurd hd (nI_nlt (by omega) (by omega))
            · have v1 : X3 (32 + f9) = mAe (Z 109) p0 a f9 f9 := (g3 _ (by omega)).trans (mvX_in (by omega))
              have v3 := (h8 _ _ g3).2
              have k1 : sm (mAe (Z 109) p0 a f9 f9) := by simp only [mAe]; rw [if_neg (Nat.lt_irrefl _)]; exact hsA a f9 (by omega) (by omega)
              obtain ⟨la, la1, la2⟩ := rb_sm (g2 (32 + f9) (by omega)) (by rw [v1]; exact k1)
              obtain ⟨lb, lb1, lb2⟩ := rb_sm (g2 109 (by decide)) (by rw [v3]; exact hs9)
              refine lv_aload_n hx hb d_SpectrumDeskModel_weigh_29 rfl (lv_at hl 2 rfl) ?_
              refine lv_bipush (v := nI 106) hx hb d_SpectrumDeskModel_weigh_30 (by decide) ?_
              refine lv_bipush (v := nI 32) hx hb d_SpectrumDeskModel_weigh_32 (by decide) ?_
              refine lv_iload_n hx hb d_SpectrumDeskModel_weigh_34 rfl (lv_at hl 0 rfl) ?_
              refine lv_iadd hx hb d_SpectrumDeskModel_weigh_35 (xr_topi (y := nI (32 + f9)) (nI_add 32 f9) ?_)
              refine lv_bipush (v := nI 109) hx hb d_SpectrumDeskModel_weigh_36 (by decide) ?_
              refine xr_callv (xr_runV (kc := 1) (kr := 3) (n := 3) (As := [.int (nI 106), .int (nI (32 + f9)), .int (nI 109)]) (rest := []) X I (by decide) (r183 ..) rfl (c_SpectrumDeskModel_bigProduct (w := 106) (u := 32 + f9) (v := 109) mfs_ok (by decide) (by omega) (by decide) (by omega) (by decide) la2 lb2 (by omega) (g2 (32 + f9) (by omega)) (g2 109 (by decide))) (xg k_d838ee6d72) (List.mem_cons_of_mem _ k_bbee4b637e) (List.mem_cons_of_mem _ k_55f9d50ad7) (List.mem_cons_of_mem _ k_ea9d46a281) (List.mem_cons_of_mem _ k_30fa15c9ac) (by decide +kernel) (by decide) rfl hl.1 rfl (Nat.le_of_ble_eq_true rfl) d_SpectrumDeskModel_weigh_38) I (fun σ1 H locs hp I => ?_)
              obtain ⟨P4, L4, M4, rfl, hf, hx9⟩ := hp
              have g4 := RB_up g2 hf hx9
              refine lv_aload_n hx hb d_SpectrumDeskModel_weigh_41 rfl (lv_at hl 2 rfl) ?_
              refine lv_bipush (v := nI 32) hx hb d_SpectrumDeskModel_weigh_42 (by decide) ?_
              refine lv_iload_n hx hb d_SpectrumDeskModel_weigh_44 rfl (lv_at hl 0 rfl) ?_
              refine lv_iadd hx hb d_SpectrumDeskModel_weigh_45 (xr_topi (y := nI (32 + f9)) (nI_add 32 f9) ?_)
              refine lv_bipush (v := nI 106) hx hb d_SpectrumDeskModel_weigh_46 (by decide) ?_
              have w2 : va_up X3 106 (X3 (32 + f9) * X3 109) 106 = X3 (32 + f9) * X3 109 := va_up_self _ _ _
              refine xr_callv (xr_runV (kc := 0) (kr := 3) (n := 2) (As := [.int (nI (32 + f9)), .int (nI 106)]) (rest := []) X I (by decide) (r183 ..) rfl (c_SpectrumDeskModel_bigCopy (w := 32 + f9) (u := 106) mfs_ok (by omega) (by decide) (by omega) (g4 106 (by decide))) (xg k_b9c8150a19) (List.mem_cons_of_mem _ k_4f43ed96b8) (List.mem_cons_of_mem _ k_c9c9b5ab57) (List.mem_cons_of_mem _ k_5d491bf207) (List.mem_cons_of_mem _ k_30fa15c9ac) (by decide +kernel) (by decide) rfl hl.1 rfl (Nat.le_of_ble_eq_true rfl) d_SpectrumDeskModel_weigh_48) I (fun σ1 H locs hp I => ?_)
              obtain ⟨P5, L5, M5, rfl, hf2, hx8⟩ := hp
              have g5 := RB_up g4 hf2 hx8
              rw [w2] at g5
              refine lv_iinc (k := 0) (v := nI (f9 + 1)) (lv' := [(3, .int (nI (f9 + 1))), (2, .int (nI a)), (0, .ref (ad 183)), (1, .int (nI (8 * b)))]) hx hb d_SpectrumDeskModel_weigh_51 hl rfl (nI_1 f9) (by decide) rfl (fun ls hl => ?_)
              refine lv_goto hx hb d_SpectrumDeskModel_weigh_54 rfl ?_
              refine jh (f9 + 1) P5 L5 M5 _ ls H locs (by omega) g5 ?_ hl I
              rw [← mAe_s (by omega), v1, v3]
              exact mvX_set (by omega) (by omega) g3
        exact inner (a + 1) 0 P2 L2 M2 X2 ls _ _ (by omega) h2 (by rw [mAe_0]; exact h3) hl I
  refine lv_iconst (v := nI 0) hx hb d_SpectrumDeskModel_weigh_7 (by decide) ?_
  refine lv_istore_n (lv' := [(2, .int (nI 0)), (0, .ref (ad 183)), (1, .int (nI (8 * b)))]) hx hb d_SpectrumDeskModel_weigh_8 rfl hl (by decide) rfl (fun ls hl => ?_)
  exact products dd 0 P1 L1 M1 _ ls _ _ (by omega) hB1 q0 hl I
end
section
/-! what weigh answers, and when its numbers are small enough -/
def wR (t b : Int) (d : Nat) (p : Nat → Int) : Nat → Int := low t d (mulp b d p d) d
def wE (t b : Int) (d : Nat) (p : Nat → Int) : Nat := ez (wR t b d p) 0 (d + 1)
def wL (t b : Int) (d : Nat) (p : Nat → Int) : Int32 := nI d - nI (wE t b d p) - nI (fa (wR t b d p) 0 (wE t b d p) (d + 1 - wE t b d p))
def wH (t b : Int) (d : Nat) (p : Nat → Int) : Prop := sm t ∧ sm b ∧ (∀ k j, k ≤ d → j ≤ d → sm (mA b p k j)) ∧ ∀ a j k, a ≤ d → j ≤ d → k ≤ d → sm (swp t d (low t d (mulp b d p d) a) j k)
def wU (σ0 : Nat → va_E) (cI cZ : ClassId) (ad : Nat → Nat) (th nn rws ps : Int32) (G : Nat → Int32) (Z : Nat → Int) (t b : Int) (d : Nat) (p : Nat → Int) : (Nat → va_E) → Prop := fun σ' =>
  ∃ (P' L' M' : Nat → Int32) (Z' : Nat → Int), σ' = rw3 (va_up σ0 187 (.inl (cI, 5, .inl (upd G 4 (nI d))))) ciM cI cZ (mfs ad th nn rws ps (wL t b d p) (nI (wE t b d p))) P' L' M' ∧ RB P' L' M' Z' ∧ eqX Z' (mvX Z d (wR t b d p))
/-- |x| at most u -/
def bd (u x : Int) : Prop := -u ≤ x ∧ x ≤ u
theorem bd_mul {u v x y : Int} (hx : bd u x) (hy : bd v y) : bd (u * v) (x * y) := by
  obtain ⟨x1, x2⟩ := hx
  obtain ⟨y1, y2⟩ := hy
  have a1 : 0 ≤ (u - x) * (v + y) := Int.mul_nonneg (by omega) (by omega)
  have a2 : 0 ≤ (u + x) * (v - y) := Int.mul_nonneg (by omega) (by omega)
  have a3 : 0 ≤ (u - x) * (v - y) := Int.mul_nonneg (by omega) (by omega)
  have a4 : 0 ≤ (u + x) * (v + y) := Int.mul_nonneg (by omega) (by omega)
  constructor <;> grind
theorem bd_add {u v x y : Int} (hx : bd u x) (hy : bd v y) : bd (u + v) (x + y) := ⟨by have := hx.1; have := hy.1; omega, by have := hx.2; have := hy.2; omega⟩
theorem bd_le {u v x : Int} (h : u ≤ v) (hx : bd u x) : bd v x := ⟨by have := hx.1; omega, by have := hx.2; omega⟩
theorem bd_pow {v b : Int} (hb : bd v b) : ∀ n : Nat, bd (v ^ n) (b ^ n)
  | 0 => by simp [bd]
  | n + 1 => by rw [Int.pow_succ, Int.pow_succ]; exact bd_mul (bd_pow hb n) hb
theorem swp_bd {u v t : Int} {d : Nat} {p : Nat → Int} (ht : bd v t) (hp : ∀ k, k ≤ d → bd (u * v ^ (d - k)) (p k)) : ∀ j, j ≤ d → ∀ k, k ≤ d → bd (2 ^ j * u * v ^ (d - k)) (swp t d p j k)
  | 0, _, k, hk => by
    have := hp k hk
    simp only [swp]
    rw [show (2 : Int) ^ 0 * u = u by simp]
    exact this
  | j + 1, hj, k, hk => by
    have ih := swp_bd ht hp j (by omega)
    have e2 : (2 : Int) ^ (j + 1) * u * v ^ (d - k) = 2 ^ j * u * v ^ (d - k) + 2 ^ j * u * v ^ (d - k) := by rw [Int.pow_succ]; grind
    simp only [swp, va_up]
    split
    · next h =>
      subst h
      have h1 := ih (d - 1 - j) (by omega)
      have h2 := ih (d - j) (by omega)
      have h3 := bd_mul ht h2
      rw [e2]
      refine bd_add h1 ?_
      have e3 : v * (2 ^ j * u * v ^ (d - (d - j))) = 2 ^ j * u * v ^ (d - (d - 1 - j)) := by
        rw [show d - (d - 1 - j) = (d - (d - j)) + 1 by omega, Int.pow_succ]
        grind
      rw [e3] at h3
      exact h3
    · have h1 := ih k hk
      refine bd_le ?_ h1
      rw [e2]
      have : 0 ≤ 2 ^ j * u * v ^ (d - k) := by
        have a := h1.1
        have b := h1.2
        omega
      omega
theorem low_bd {u v t : Int} {d : Nat} {p : Nat → Int} (ht : bd v t) (hp : ∀ k, k ≤ d → bd (u * v ^ (d - k)) (p k)) : ∀ a, a ≤ d → ∀ k, k ≤ d → bd (2 ^ (d * a) * u * v ^ (d - k)) (low t d p a k)
  | 0, _, k, hk => by
    have := hp k hk
    simp only [low]
    rw [Nat.mul_zero, show (2 : Int) ^ 0 * u = u by simp]
    exact this
  | a + 1, ha, k, hk => by
    have ih := low_bd ht hp a (by omega)
    have h := swp_bd (u := 2 ^ (d * a) * u) ht ih (d - a) (by omega) k hk
    simp only [low]
    refine bd_le ?_ h
    have h0 : 0 ≤ 2 ^ (d * a) * u * v ^ (d - k) := by
      have q := ih k hk
      have q1 := q.1
      have q2 := q.2
      omega
    have e1 : (2 : Int) ^ (d * (a + 1)) = 2 ^ a * (2 ^ (d - a) * 2 ^ (d * a)) := by
      rw [← Int.pow_add, ← Int.pow_add]
      congr 1
      rw [Nat.mul_succ]
      omega
    have e2 : (2 : Int) ^ (d * (a + 1)) * u * v ^ (d - k) = 2 ^ a * (2 ^ (d - a) * (2 ^ (d * a) * u) * v ^ (d - k)) := by rw [e1]; grind
    rw [e2]
    have h0' : (0 : Int) < 2 ^ a := Int.pow_pos (by decide)
    have h1 : (1 : Int) ≤ 2 ^ a := by omega
    have h2 : 0 ≤ 2 ^ (d - a) * (2 ^ (d * a) * u) * v ^ (d - k) := by
      have q1 := h.1
      have q2 := h.2
      omega
    have := Int.mul_le_mul_of_nonneg_right h1 h2
    omega
theorem p2_lt {a b : Nat} (h : a < b) : (2 : Int) ^ a < 2 ^ b := by
  obtain ⟨d, rfl⟩ : ∃ d, b = a + 1 + d := ⟨b - (a + 1), by omega⟩
  rw [Int.pow_add, Int.pow_succ]
  have h1 : (0 : Int) < 2 ^ a := Int.pow_pos (by decide)
  have h2 : (0 : Int) < 2 ^ d := Int.pow_pos (by decide)
  have := Int.mul_le_mul_of_nonneg_left (show (1 : Int) ≤ 2 ^ d by omega) (show (0 : Int) ≤ 2 ^ a * 2 by omega)
  omega
theorem p2_le {a b : Nat} (h : a ≤ b) : (2 : Int) ^ a ≤ 2 ^ b := by
  rcases Nat.lt_or_eq_of_le h with h | h
  · exact Int.le_of_lt (p2_lt h)
  · rw [h]
    exact Int.le_refl _
theorem sBB_2 : sBB = 2 ^ 2400 := by
  show (16777216 : Int) ^ 100 = 2 ^ (24 * 100)
  rw [Int.pow_mul]
  rfl
theorem sm_of {n : Nat} {x : Int} (hn : n < 2400) (h : bd (2 ^ n) x) : sm x := by
  have h1 := p2_lt hn
  have h2 := h.1
  have h3 := h.2
  have e := sBB_2
  constructor
  · show -sBB < x
    omega
  · show x < sBB
    omega
theorem wH_of {t b : Int} {d : Nat} {p : Nat → Int} (hd : d ≤ 6) (ht : bd (2 ^ 200) t) (hb : bd (2 ^ 200) b) (hp : ∀ k, k ≤ d → bd (2 ^ 900) (p k)) : wH t b d p := by
  have hv : ∀ n : Nat, ((2 : Int) ^ 200) ^ n = 2 ^ (200 * n) := fun n => (Int.pow_mul ..).symm
  refine ⟨sm_of (by decide) ht, sm_of (by decide) hb, fun k j hk hj => ?_, fun a j k ha hj hk => ?_⟩
  · simp only [mA]
    split
    · next h =>
      have h1 := bd_mul (hp j hj) (bd_pow hb (k - j))
      rw [hv, ← Int.pow_add] at h1
      exact sm_of (n := 900 + 200 * (k - j)) (by omega) h1
    · exact sm_of (by decide) (hp j hj)
  · have h1 : ∀ k, k ≤ d → bd (2 ^ 900 * (2 ^ 200) ^ (d - k)) (mulp b d p d k) := fun k hk => by
      simp only [mulp]
      split
      · exact bd_mul (hp k hk) (bd_pow hb _)
      · refine bd_le ?_ (hp k hk)
        rw [hv, ← Int.pow_add]
        exact p2_le (by omega)
    have h2 := low_bd ht h1 a ha
    have h3 := swp_bd (u := 2 ^ (d * a) * 2 ^ 900) ht h2 j hj k hk
    rw [hv, ← Int.pow_add, ← Int.pow_add, ← Int.pow_add] at h3
    have hda : d * a ≤ 6 * 6 := Nat.mul_le_mul hd (by omega)
    exact sm_of (n := j + (d * a + 900) + 200 * (d - k)) (by omega) h3
end
section
/-! what the reference's questions leave as it was -/
def zOK (Z Z' : Nat → Int) : Prop := ∀ w, w < 32 ∨ w = 110 ∨ w = 111 → Z' w = Z w
theorem zOK_rf {Z : Nat → Int} : zOK Z Z := fun _ _ => rfl
theorem zOK_tr {Z Y X : Nat → Int} (a : zOK Z Y) (b : zOK Y X) : zOK Z X := fun w h => (b w h).trans (a w h)
theorem zOK_up {Z Y : Nat → Int} {k : Nat} {v : Int} (a : zOK Z Y) (h : 32 ≤ k ∧ k ≠ 110 ∧ k ≠ 111) : zOK Z (va_up Y k v) := fun w hw => (va_up_ne _ _ (by omega)).trans (a w hw)
theorem zOK_mv {Z Y X : Nat → Int} {d : Nat} {f : Nat → Int} (a : zOK Z Y) (hd : d ≤ 7) (h : eqX X (mvX Y d f)) : zOK Z X := fun w hw => (h w (by omega)).trans ((mvX_out (by omega)).trans (a w hw))
def mE (σ0 : Nat → va_E) (cI cZ : ClassId) (ad : Nat → Nat) (th nn rws ps : Int32) (G : Nat → Int32) (Z : Nat → Int) : (Nat → va_E) → Prop := fun σ' =>
  ∃ (s0 : Nat → va_E) (G' P' L' M' : Nat → Int32) (Z' : Nat → Int) (le eq : Int32), σ' = rw3 s0 ciM cI cZ (mfs ad th nn rws ps le eq) P' L' M' ∧ s0 187 = .inl (cI, 5, .inl G') ∧ (∀ q, q ≠ 187 → s0 q = σ0 q) ∧ (∀ a, a ≠ 4 → G' a = G a) ∧ RB P' L' M' Z' ∧ zOK Z Z'
/-- the answer of cellOf: found by halving from the edges -/
def cellP (p : Nat → Int) (d w : Nat) (i : Int32) (r : Int64) : Prop := -(8000000 * 2 ^ w) ≤ r.toInt ∧ r.toInt < 8000000 * 2 ^ w ∧ (r.toInt = -(8000000 * 2 ^ w) ∨ wL r.toInt (2 ^ w) d p ≤ i) ∧ (r.toInt + 1 = 8000000 * 2 ^ w ∨ ¬ wL (r.toInt + 1) (2 ^ w) d p ≤ i)
theorem q_p2 {w : Nat} (h : w ≤ 30) : (1 : Int) ≤ 2 ^ w ∧ (2 : Int) ^ w ≤ 1073741824 := ⟨by have : (0 : Int) < 2 ^ w := Int.pow_pos (by decide); omega, p2_le (b := 30) h⟩
theorem q_shl {n w : Nat} (hw : w ≤ 30) (hn : n ≤ 8000000) : (lN n <<< ((nI w).toInt64 &&& 63)).toInt = (n : Int) * 2 ^ w := by
  have h2 : (2 : Nat) ^ w ≤ 1073741824 := Nat.pow_le_pow_right (by decide) hw (n := 2)
  have h3 : n * 2 ^ w ≤ 8000000 * 1073741824 := Nat.mul_le_mul hn h2
  rw [wb_shl n (by omega), pk_lT (by omega)]
  simp
theorem q_lneg {x : Int64} (h : -9223372036854775808 < x.toInt) : (-x).toInt = -x.toInt := by
  rw [Int64.toInt_neg]
  have := x.toInt_lt
  exact Int.bmod_eq_of_le (by omega) (by omega)
theorem q_mid {lo hi : Int64} (h1 : -8589934592000000 ≤ lo.toInt) (h2 : hi.toInt ≤ 8589934592000000) (h3 : lo.toInt < hi.toInt) : (hi - lo).toInt = hi.toInt - lo.toInt ∧ (lo + (hi - lo) / 2).toInt = lo.toInt + (hi.toInt - lo.toInt) / 2 := by
  have e1 : (hi - lo).toInt = hi.toInt - lo.toInt := q_lsub (by omega) (by omega)
  have e2 : (2 : Int64).toInt = 2 := by decide
  have e3 : ((hi - lo) / 2).toInt = (hi.toInt - lo.toInt) / 2 := by rw [lg_ldiv_nonneg (by omega) (by omega), e1, e2]
  exact ⟨e1, by rw [q_ladd (by rw [e3]; omega) (by rw [e3]; omega), e3]⟩
theorem bd_53 {x : Int} (h1 : -8589934592000000 ≤ x) (h2 : x ≤ 8589934592000000) : bd (2 ^ 200) x := by
  have : (8589934592000000 : Int) ≤ 2 ^ 200 := by decide
  exact ⟨by omega, by omega⟩
end
section
/-! the reference: lessThan, isAtLeast, cellOf (written by wip/gen) -/
abbrev b_SpectrumDeskModel_lessThan : ByteArray := prog_10_method_38_code
abbrev y_SpectrumDeskModel_lessThan : MethodName := ⟨"SpectrumDeskModel", "lessThan", "(I)I"⟩
abbrev v_SpectrumDeskModel_lessThan : List Cond := Cond.code y_SpectrumDeskModel_lessThan b_SpectrumDeskModel_lessThan 2 (some .int) :: AW
theorem d_SpectrumDeskModel_lessThan_0 : decode b_SpectrumDeskModel_lessThan 0 = .ok (.aload_n 0, 1) := by decide +kernel
theorem d_SpectrumDeskModel_lessThan_1 : decode b_SpectrumDeskModel_lessThan 1 = .ok (.iload_n 1, 1) := by decide +kernel
theorem d_SpectrumDeskModel_lessThan_2 : decode b_SpectrumDeskModel_lessThan 2 = .ok (.invokevirtual 139, 3) := by decide +kernel
theorem d_SpectrumDeskModel_lessThan_5 : decode b_SpectrumDeskModel_lessThan 5 = .ok (.aload_n 0, 1) := by decide +kernel
theorem d_SpectrumDeskModel_lessThan_6 : decode b_SpectrumDeskModel_lessThan 6 = .ok (.getfield 136, 3) := by decide +kernel
theorem d_SpectrumDeskModel_lessThan_9 : decode b_SpectrumDeskModel_lessThan 9 = .ok (.ireturn, 1) := by decide +kernel
abbrev b_SpectrumDeskModel_isAtLeast : ByteArray := prog_10_method_43_code
abbrev y_SpectrumDeskModel_isAtLeast : MethodName := ⟨"SpectrumDeskModel", "isAtLeast", "(I)Z"⟩
abbrev v_SpectrumDeskModel_isAtLeast : List Cond := Cond.code y_SpectrumDeskModel_isAtLeast b_SpectrumDeskModel_isAtLeast 2 (some .boolean) :: AW
theorem d_SpectrumDeskModel_isAtLeast_0 : decode b_SpectrumDeskModel_isAtLeast 0 = .ok (.aload_n 0, 1) := by decide +kernel
theorem d_SpectrumDeskModel_isAtLeast_1 : decode b_SpectrumDeskModel_isAtLeast 1 = .ok (.iconst 0, 1) := by decide +kernel
theorem d_SpectrumDeskModel_isAtLeast_2 : decode b_SpectrumDeskModel_isAtLeast 2 = .ok (.invokevirtual 154, 3) := by decide +kernel
theorem d_SpectrumDeskModel_isAtLeast_5 : decode b_SpectrumDeskModel_isAtLeast 5 = .ok (.iload_n 1, 1) := by decide +kernel
theorem d_SpectrumDeskModel_isAtLeast_6 : decode b_SpectrumDeskModel_isAtLeast 6 = .ok (.if_icmp .gt (7), 3) := by decide +kernel
theorem d_SpectrumDeskModel_isAtLeast_9 : decode b_SpectrumDeskModel_isAtLeast 9 = .ok (.iconst 1, 1) := by decide +kernel
theorem d_SpectrumDeskModel_isAtLeast_10 : decode b_SpectrumDeskModel_isAtLeast 10 = .ok (.goto (4), 3) := by decide +kernel
theorem d_SpectrumDeskModel_isAtLeast_13 : decode b_SpectrumDeskModel_isAtLeast 13 = .ok (.iconst 0, 1) := by decide +kernel
theorem d_SpectrumDeskModel_isAtLeast_14 : decode b_SpectrumDeskModel_isAtLeast 14 = .ok (.ireturn, 1) := by decide +kernel
abbrev b_SpectrumDeskModel_cellOf : ByteArray := prog_10_method_44_code
abbrev y_SpectrumDeskModel_cellOf : MethodName := ⟨"SpectrumDeskModel", "cellOf", "(II)J"⟩
abbrev v_SpectrumDeskModel_cellOf : List Cond := Cond.code y_SpectrumDeskModel_cellOf b_SpectrumDeskModel_cellOf 9 (some .long) :: AW
theorem d_SpectrumDeskModel_cellOf_0 : decode b_SpectrumDeskModel_cellOf 0 = .ok (.ldc2_w 157, 3) := by decide +kernel
theorem d_SpectrumDeskModel_cellOf_3 : decode b_SpectrumDeskModel_cellOf 3 = .ok (.iload_n 2, 1) := by decide +kernel
theorem d_SpectrumDeskModel_cellOf_4 : decode b_SpectrumDeskModel_cellOf 4 = .ok (.lshl, 1) := by decide +kernel
theorem d_SpectrumDeskModel_cellOf_5 : decode b_SpectrumDeskModel_cellOf 5 = .ok (.lneg, 1) := by decide +kernel
theorem d_SpectrumDeskModel_cellOf_6 : decode b_SpectrumDeskModel_cellOf 6 = .ok (.lstore_n 3, 1) := by decide +kernel
theorem d_SpectrumDeskModel_cellOf_7 : decode b_SpectrumDeskModel_cellOf 7 = .ok (.ldc2_w 157, 3) := by decide +kernel
theorem d_SpectrumDeskModel_cellOf_10 : decode b_SpectrumDeskModel_cellOf 10 = .ok (.iload_n 2, 1) := by decide +kernel
theorem d_SpectrumDeskModel_cellOf_11 : decode b_SpectrumDeskModel_cellOf 11 = .ok (.lshl, 1) := by decide +kernel
theorem d_SpectrumDeskModel_cellOf_12 : decode b_SpectrumDeskModel_cellOf 12 = .ok (.lstore 5, 2) := by decide +kernel
theorem d_SpectrumDeskModel_cellOf_14 : decode b_SpectrumDeskModel_cellOf 14 = .ok (.aload_n 0, 1) := by decide +kernel
theorem d_SpectrumDeskModel_cellOf_15 : decode b_SpectrumDeskModel_cellOf 15 = .ok (.bipush (109), 2) := by decide +kernel
theorem d_SpectrumDeskModel_cellOf_17 : decode b_SpectrumDeskModel_cellOf 17 = .ok (.lconst 1, 1) := by decide +kernel
theorem d_SpectrumDeskModel_cellOf_18 : decode b_SpectrumDeskModel_cellOf 18 = .ok (.iload_n 2, 1) := by decide +kernel
theorem d_SpectrumDeskModel_cellOf_19 : decode b_SpectrumDeskModel_cellOf 19 = .ok (.lshl, 1) := by decide +kernel
theorem d_SpectrumDeskModel_cellOf_20 : decode b_SpectrumDeskModel_cellOf 20 = .ok (.invokevirtual 104, 3) := by decide +kernel
theorem d_SpectrumDeskModel_cellOf_23 : decode b_SpectrumDeskModel_cellOf 23 = .ok (.lload 5, 2) := by decide +kernel
theorem d_SpectrumDeskModel_cellOf_25 : decode b_SpectrumDeskModel_cellOf 25 = .ok (.lload_n 3, 1) := by decide +kernel
theorem d_SpectrumDeskModel_cellOf_26 : decode b_SpectrumDeskModel_cellOf 26 = .ok (.lsub, 1) := by decide +kernel
theorem d_SpectrumDeskModel_cellOf_27 : decode b_SpectrumDeskModel_cellOf 27 = .ok (.lconst 1, 1) := by decide +kernel
theorem d_SpectrumDeskModel_cellOf_28 : decode b_SpectrumDeskModel_cellOf 28 = .ok (.lcmp, 1) := by decide +kernel
theorem d_SpectrumDeskModel_cellOf_29 : decode b_SpectrumDeskModel_cellOf 29 = .ok (.ifCond .le (44), 3) := by decide +kernel
theorem d_SpectrumDeskModel_cellOf_32 : decode b_SpectrumDeskModel_cellOf 32 = .ok (.lload_n 3, 1) := by decide +kernel
theorem d_SpectrumDeskModel_cellOf_33 : decode b_SpectrumDeskModel_cellOf 33 = .ok (.lload 5, 2) := by decide +kernel
theorem d_SpectrumDeskModel_cellOf_35 : decode b_SpectrumDeskModel_cellOf 35 = .ok (.lload_n 3, 1) := by decide +kernel
theorem d_SpectrumDeskModel_cellOf_36 : decode b_SpectrumDeskModel_cellOf 36 = .ok (.lsub, 1) := by decide +kernel
theorem d_SpectrumDeskModel_cellOf_37 : decode b_SpectrumDeskModel_cellOf 37 = .ok (.ldc2_w 159, 3) := by decide +kernel
theorem d_SpectrumDeskModel_cellOf_40 : decode b_SpectrumDeskModel_cellOf 40 = .ok (.ldiv, 1) := by decide +kernel
theorem d_SpectrumDeskModel_cellOf_41 : decode b_SpectrumDeskModel_cellOf 41 = .ok (.ladd, 1) := by decide +kernel
theorem d_SpectrumDeskModel_cellOf_42 : decode b_SpectrumDeskModel_cellOf 42 = .ok (.lstore 7, 2) := by decide +kernel
theorem d_SpectrumDeskModel_cellOf_44 : decode b_SpectrumDeskModel_cellOf 44 = .ok (.aload_n 0, 1) := by decide +kernel
theorem d_SpectrumDeskModel_cellOf_45 : decode b_SpectrumDeskModel_cellOf 45 = .ok (.bipush (108), 2) := by decide +kernel
theorem d_SpectrumDeskModel_cellOf_47 : decode b_SpectrumDeskModel_cellOf 47 = .ok (.lload 7, 2) := by decide +kernel
theorem d_SpectrumDeskModel_cellOf_49 : decode b_SpectrumDeskModel_cellOf 49 = .ok (.invokevirtual 104, 3) := by decide +kernel
theorem d_SpectrumDeskModel_cellOf_52 : decode b_SpectrumDeskModel_cellOf 52 = .ok (.aload_n 0, 1) := by decide +kernel
theorem d_SpectrumDeskModel_cellOf_53 : decode b_SpectrumDeskModel_cellOf 53 = .ok (.iload_n 1, 1) := by decide +kernel
theorem d_SpectrumDeskModel_cellOf_54 : decode b_SpectrumDeskModel_cellOf 54 = .ok (.invokevirtual 161, 3) := by decide +kernel
theorem d_SpectrumDeskModel_cellOf_57 : decode b_SpectrumDeskModel_cellOf 57 = .ok (.ifCond .eq (9), 3) := by decide +kernel
theorem d_SpectrumDeskModel_cellOf_60 : decode b_SpectrumDeskModel_cellOf 60 = .ok (.lload 7, 2) := by decide +kernel
theorem d_SpectrumDeskModel_cellOf_62 : decode b_SpectrumDeskModel_cellOf 62 = .ok (.lstore_n 3, 1) := by decide +kernel
theorem d_SpectrumDeskModel_cellOf_63 : decode b_SpectrumDeskModel_cellOf 63 = .ok (.goto (7), 3) := by decide +kernel
theorem d_SpectrumDeskModel_cellOf_66 : decode b_SpectrumDeskModel_cellOf 66 = .ok (.lload 7, 2) := by decide +kernel
theorem d_SpectrumDeskModel_cellOf_68 : decode b_SpectrumDeskModel_cellOf 68 = .ok (.lstore 5, 2) := by decide +kernel
theorem d_SpectrumDeskModel_cellOf_70 : decode b_SpectrumDeskModel_cellOf 70 = .ok (.goto (-47), 3) := by decide +kernel
theorem d_SpectrumDeskModel_cellOf_73 : decode b_SpectrumDeskModel_cellOf 73 = .ok (.lload_n 3, 1) := by decide +kernel
theorem d_SpectrumDeskModel_cellOf_74 : decode b_SpectrumDeskModel_cellOf 74 = .ok (.lreturn, 1) := by decide +kernel
theorem k_608a9280a6 : (Jvm.Cond.methodLink "SpectrumDeskModel" (139 : Nat) ({ cls := "SpectrumDeskModel", name := "weigh", desc := "(I)V" } : Jvm.MethodName)) ∈ AW := aw_5 (List.mem_of_getElem? (i := 101) (by decide +kernel)) (by decide +kernel)
theorem k_9be29ce48e : (Jvm.Cond.instanceMethod ({ cls := "SpectrumDeskModel", name := "weigh", desc := "(I)V" } : Jvm.MethodName)) ∈ AW := aw_5 (List.mem_of_getElem? (i := 103) (by decide +kernel)) (by decide +kernel)
theorem k_f13629996f : (Jvm.Cond.selects "SpectrumDeskModel" ({ cls := "SpectrumDeskModel", name := "weigh", desc := "(I)V" } : Jvm.MethodName) ({ cls := "SpectrumDeskModel", name := "weigh", desc := "(I)V" } : Jvm.MethodName)) ∈ AW := aw_p (by decide +kernel) (by decide +kernel)
theorem k_3baecd7f24 : (Jvm.Cond.methodLink "SpectrumDeskModel" (154 : Nat) ({ cls := "SpectrumDeskModel", name := "lessThan", desc := "(I)I" } : Jvm.MethodName)) ∈ AW := aw_5 (List.mem_of_getElem? (i := 123) (by decide +kernel)) (by decide +kernel)
theorem k_f6e6d76f54 : (Jvm.Cond.instanceMethod ({ cls := "SpectrumDeskModel", name := "lessThan", desc := "(I)I" } : Jvm.MethodName)) ∈ AW := aw_5 (List.mem_of_getElem? (i := 125) (by decide +kernel)) (by decide +kernel)
theorem k_6a49491994 : (Jvm.Cond.selects "SpectrumDeskModel" ({ cls := "SpectrumDeskModel", name := "lessThan", desc := "(I)I" } : Jvm.MethodName) ({ cls := "SpectrumDeskModel", name := "lessThan", desc := "(I)I" } : Jvm.MethodName)) ∈ AW := aw_p (by decide +kernel) (by decide +kernel)
theorem k_ad913d9892 : (Jvm.Cond.constantLong "SpectrumDeskModel" (159 : Nat) (2 : Int64)) ∈ AW := aw_5 (List.mem_of_getElem? (i := 118) (by decide +kernel)) (by decide +kernel)
theorem k_7a89662665 : (Jvm.Cond.methodLink "SpectrumDeskModel" (104 : Nat) ({ cls := "SpectrumDeskModel", name := "bigSet", desc := "(IJ)V" } : Jvm.MethodName)) ∈ AW := aw_5 (List.mem_of_getElem? (i := 36) (by decide +kernel)) (by decide +kernel)
theorem k_203da126f2 : (Jvm.Cond.instanceMethod ({ cls := "SpectrumDeskModel", name := "bigSet", desc := "(IJ)V" } : Jvm.MethodName)) ∈ AW := aw_5 (List.mem_of_getElem? (i := 38) (by decide +kernel)) (by decide +kernel)
theorem k_e2b6114fa3 : (Jvm.Cond.selects "SpectrumDeskModel" ({ cls := "SpectrumDeskModel", name := "bigSet", desc := "(IJ)V" } : Jvm.MethodName) ({ cls := "SpectrumDeskModel", name := "bigSet", desc := "(IJ)V" } : Jvm.MethodName)) ∈ AW := aw_p (by decide +kernel) (by decide +kernel)
theorem k_06b9e39d42 : (Jvm.Cond.methodLink "SpectrumDeskModel" (161 : Nat) ({ cls := "SpectrumDeskModel", name := "isAtLeast", desc := "(I)Z" } : Jvm.MethodName)) ∈ AW := aw_5 (List.mem_of_getElem? (i := 119) (by decide +kernel)) (by decide +kernel)
theorem k_36b5ef1bbf : (Jvm.Cond.instanceMethod ({ cls := "SpectrumDeskModel", name := "isAtLeast", desc := "(I)Z" } : Jvm.MethodName)) ∈ AW := aw_5 (List.mem_of_getElem? (i := 121) (by decide +kernel)) (by decide +kernel)
theorem k_abacde11fd : (Jvm.Cond.selects "SpectrumDeskModel" ({ cls := "SpectrumDeskModel", name := "isAtLeast", desc := "(I)Z" } : Jvm.MethodName) ({ cls := "SpectrumDeskModel", name := "isAtLeast", desc := "(I)Z" } : Jvm.MethodName)) ∈ AW := aw_p (by decide +kernel) (by decide +kernel)
theorem k_57c8867ebf : (Jvm.Cond.constantLong "SpectrumDeskModel" (157 : Nat) (8000000 : Int64)) ∈ AW := aw_5 (List.mem_of_getElem? (i := 117) (by decide +kernel)) (by decide +kernel)
theorem k_28e184ee74 : (Jvm.Cond.code ({ cls := "SpectrumDeskModel", name := "lessThan", desc := "(I)I" } : Jvm.MethodName) prog_10_method_38_code (2 : Nat) (Option.some Jvm.ClassFile.FieldType.int)) ∈ AW := aw_5 (List.mem_of_getElem? (i := 126) (by decide +kernel)) (by decide +kernel)
theorem k_b12ea24c8e : (Jvm.Cond.code ({ cls := "SpectrumDeskModel", name := "isAtLeast", desc := "(I)Z" } : Jvm.MethodName) prog_10_method_43_code (2 : Nat) (Option.some Jvm.ClassFile.FieldType.boolean)) ∈ AW := aw_5 (List.mem_of_getElem? (i := 122) (by decide +kernel)) (by decide +kernel)
theorem k_f126756040 : (Jvm.Cond.code ({ cls := "SpectrumDeskModel", name := "cellOf", desc := "(II)J" } : Jvm.MethodName) prog_10_method_44_code (9 : Nat) (Option.some Jvm.ClassFile.FieldType.long)) ∈ AW := aw_5 (List.mem_of_getElem? (i := 116) (by decide +kernel)) (by decide +kernel)
set_option maxHeartbeats 4000000 in
set_option maxRecDepth 100000 in
theorem c_SpectrumDeskModel_lessThan {l : Launch} {D : va_G} {cI cJ cZ cC cG cP : ClassId} {ad : Nat → Nat} {σ0 : Nat → va_E} {th nn rws ps le eq : Int32} {P L M G : Nat → Int32} {Z : Nat → Int} (hG : σ0 187 = .inl (cI, 5, .inl G)) (hB : RB P L M Z) {b dd : Nat} {p0 : Nat → Int} (hb9 : b < 4) (hd6 : dd ≤ 6) (hGb : G b = nI dd) (hp0 : ∀ k, k ≤ dd → Z (8 * b + k) = p0 k) (hH : wH (Z 108) (Z 109) dd p0) :
    Met l y_SpectrumDeskModel_lessThan v_SpectrumDeskModel_lessThan (xrm 4) (va_Pc [.ref (ad 183), .int (nI (8 * b))] (xS D classes (xT cI cJ cZ cC cG cP) 193 ad (rw3 σ0 ciM cI cZ (mfs ad th nn rws ps le eq) P L M))) (va_Qi (fun r σ2 => r = wL (Z 108) (Z 109) dd p0 ∧ wU σ0 cI cZ ad th nn rws ps G Z (Z 108) (Z 109) dd p0 σ2) (xS D classes (xT cI cJ cZ cC cG cP) 193 ad) (xA 193 ad)) 0 0 (xA 193 ad) := by
  refine xr_met rfl (Nat.le_of_ble_eq_true rfl) ?_
  intro p e s m args below meth c ls hx hb X hr hlk hl I
  have hl : lv_has ls 2 [(0, .ref (ad 183)), (1, .int (nI (8 * b)))] := hl
  refine lv_aload_n hx hb d_SpectrumDeskModel_lessThan_0 rfl (lv_at hl 0 rfl) ?_
  refine lv_iload_n hx hb d_SpectrumDeskModel_lessThan_1 rfl (lv_at hl 1 rfl) ?_
  refine xr_callv (xr_runV (kc := 3) (kr := 4) (n := 1) (As := [.int (nI (8 * b))]) (rest := []) X I (by decide) (r183 ..) rfl (c_SpectrumDeskModel_weigh hG hB hb9 hd6 hGb hp0 hH.1 hH.2.1 hH.2.2.1 hH.2.2.2) (xg k_0500b0c175) (List.mem_cons_of_mem _ k_608a9280a6) (List.mem_cons_of_mem _ k_9be29ce48e) (List.mem_cons_of_mem _ k_f13629996f) (List.mem_cons_of_mem _ k_30fa15c9ac) (by decide +kernel) (by decide) rfl hl.1 rfl (Nat.le_of_ble_eq_true rfl) d_SpectrumDeskModel_lessThan_2) I (fun σ1 H locs hp I => ?_)
  have hp : wU σ0 cI cZ ad th nn rws ps G Z (Z 108) (Z 109) dd p0 σ1 := hp
  obtain ⟨P1, L1, M1, Z1, rfl, hB1, hE1⟩ := hp
  refine lv_aload_n hx hb d_SpectrumDeskModel_lessThan_5 rfl (lv_at hl 0 rfl) ?_
  refine xr_get X I fin_M 183 (by decide) (r183 ..) rfl 12 (by decide) (List.mem_cons_of_mem _ k_15947873ae) rfl rfl d_SpectrumDeskModel_lessThan_6 ?_
  exact xr_iret X I hr hlk ⟨rfl, P1, L1, M1, Z1, rfl, hB1, hE1⟩ d_SpectrumDeskModel_lessThan_9
set_option maxHeartbeats 4000000 in
set_option maxRecDepth 100000 in
theorem c_SpectrumDeskModel_isAtLeast {l : Launch} {D : va_G} {cI cJ cZ cC cG cP : ClassId} {ad : Nat → Nat} {σ0 : Nat → va_E} {th nn rws ps le eq : Int32} {P L M G : Nat → Int32} {Z : Nat → Int} (hG : σ0 187 = .inl (cI, 5, .inl G)) (hB : RB P L M Z) {dd : Nat} {p0 : Nat → Int} (hd6 : dd ≤ 6) (hGb : G 0 = nI dd) (hp0 : ∀ k, k ≤ dd → Z (k) = p0 k) (hH : wH (Z 108) (Z 109) dd p0) {i : Int32} :
    Met l y_SpectrumDeskModel_isAtLeast v_SpectrumDeskModel_isAtLeast (xrm 5) (va_Pc [.ref (ad 183), .int i] (xS D classes (xT cI cJ cZ cC cG cP) 193 ad (rw3 σ0 ciM cI cZ (mfs ad th nn rws ps le eq) P L M))) (va_Qi (fun r σ2 => r = (if wL (Z 108) (Z 109) dd p0 ≤ i then nI 1 else nI 0) ∧ wU σ0 cI cZ ad th nn rws ps G Z (Z 108) (Z 109) dd p0 σ2) (xS D classes (xT cI cJ cZ cC cG cP) 193 ad) (xA 193 ad)) 0 0 (xA 193 ad) := by
  refine xr_met rfl (Nat.le_of_ble_eq_true rfl) ?_
  intro p e s m args below meth c ls hx hb X hr hlk hl I
  have hl : lv_has ls 2 [(0, .ref (ad 183)), (1, .int i)] := hl
  refine lv_aload_n hx hb d_SpectrumDeskModel_isAtLeast_0 rfl (lv_at hl 0 rfl) ?_
  refine lv_iconst (v := nI 0) hx hb d_SpectrumDeskModel_isAtLeast_1 (by decide) ?_
  refine xr_calli (xr_runV (kc := 4) (kr := 5) (n := 1) (As := [.int (nI 0)]) (rest := []) X I (by decide) (r183 ..) rfl (c_SpectrumDeskModel_lessThan (b := 0) hG hB (by decide) hd6 hGb (fun k hk => by rw [Nat.mul_zero, Nat.zero_add]; exact hp0 k hk) hH) (xg k_28e184ee74) (List.mem_cons_of_mem _ k_3baecd7f24) (List.mem_cons_of_mem _ k_f6e6d76f54) (List.mem_cons_of_mem _ k_6a49491994) (List.mem_cons_of_mem _ k_30fa15c9ac) (by decide +kernel) (by decide) rfl hl.1 rfl (Nat.le_of_ble_eq_true rfl) d_SpectrumDeskModel_isAtLeast_2) I (fun r1 σ1 H locs hp I => ?_)
  obtain ⟨rfl, hu⟩ := hp
  obtain ⟨P1, L1, M1, Z1, rfl, hB1, hE1⟩ := hu
  refine lv_iload_n hx hb d_SpectrumDeskModel_isAtLeast_5 rfl (lv_at hl 1 rfl) ?_
  refine lv_icmp_gt hx hb d_SpectrumDeskModel_isAtLeast_6 rfl (fun hc => ?_) (fun hc => ?_)
  · refine lv_iconst (v := nI 0) hx hb d_SpectrumDeskModel_isAtLeast_13 (by decide) ?_
    exact xr_zret X I hr hlk (by decide +kernel) ⟨by rw [if_neg (Int32.not_le.mpr hc)], P1, L1, M1, Z1, rfl, hB1, hE1⟩ d_SpectrumDeskModel_isAtLeast_14
  · refine lv_iconst (v := nI 1) hx hb d_SpectrumDeskModel_isAtLeast_9 (by decide) ?_
    refine lv_goto hx hb d_SpectrumDeskModel_isAtLeast_10 rfl ?_
    exact xr_zret X I hr hlk (by decide +kernel) ⟨by rw [if_pos (Int32.not_lt.mp hc)], P1, L1, M1, Z1, rfl, hB1, hE1⟩ d_SpectrumDeskModel_isAtLeast_14
set_option maxHeartbeats 4000000 in
set_option maxRecDepth 100000 in
theorem c_SpectrumDeskModel_cellOf {l : Launch} {D : va_G} {cI cJ cZ cC cG cP : ClassId} {ad : Nat → Nat} {σ0 : Nat → va_E} {th nn rws ps le eq : Int32} {P L M G : Nat → Int32} {Z : Nat → Int} (hG : σ0 187 = .inl (cI, 5, .inl G)) (hB : RB P L M Z) {dd w9 : Nat} {p0 : Nat → Int} {i : Int32} (hw9 : w9 ≤ 30) (hd6 : dd ≤ 6) (hGb : G 0 = nI dd) (hp0 : ∀ k, k ≤ dd → Z k = p0 k) (hpb : ∀ k, k ≤ dd → bd (2 ^ 900) (p0 k)) :
    Met l y_SpectrumDeskModel_cellOf v_SpectrumDeskModel_cellOf (xrm 6) (va_Pc [.ref (ad 183), .int i, .int (nI w9)] (xS D classes (xT cI cJ cZ cC cG cP) 193 ad (rw3 σ0 ciM cI cZ (mfs ad th nn rws ps le eq) P L M))) (va_Ql (fun r σ2 => cellP p0 dd w9 i r ∧ mE σ0 cI cZ ad th nn rws ps G Z σ2) (xS D classes (xT cI cJ cZ cC cG cP) 193 ad) (xA 193 ad)) 0 0 (xA 193 ad) := by
  refine xr_met rfl (Nat.le_of_ble_eq_true rfl) ?_
  intro p e s m args below meth c ls hx hb X hr hlk hl I
  have hl : lv_has ls 9 [(0, .ref (ad 183)), (1, .int i), (2, .int (nI w9))] := hl
  have hp2 := q_p2 hw9
  have loop : ∀ (k : Nat) (hi lo : Int64) (s2 : Nat → va_E) (G2 : Nat → Int32) (zz : Unit) (P2 L2 M2 : Nat → Int32) (Z2 : Nat → Int) (le2 eq2 : Int32) (ls : Array Slot) (H : Heap) (locs : List Loc), hi.toInt - lo.toInt ≤ (k : Int) + 1 → lo.toInt < hi.toInt → -(8000000 * 2 ^ w9) ≤ lo.toInt → hi.toInt ≤ 8000000 * 2 ^ w9 → (lo.toInt = -(8000000 * 2 ^ w9) ∨ wL lo.toInt (2 ^ w9) dd p0 ≤ i) → (hi.toInt = 8000000 * 2 ^ w9 ∨ ¬ wL hi.toInt (2 ^ w9) dd p0 ≤ i) → s2 187 = .inl (cI, 5, .inl G2) → (∀ q, q ≠ 187 → s2 q = σ0 q) → (∀ a, a ≠ 4 → G2 a = G a) → RB P2 L2 M2 Z2 → zOK Z Z2 → Z2 109 = 2 ^ w9 → lv_has ls 9 [(5, .long hi), (3, .long lo), (0, .ref (ad 183)), (1, .int i), (2, .int (nI w9))] → xI D classes 193 ad s.heap (rw3 s2 ciM cI cZ (mfs ad th nn rws ps le2 eq2) P2 L2 M2) H locs → W p l e (xrm 6) s m args below meth c H locs 0 0 (MQ below (va_Ql (fun r σ2 => cellP p0 dd w9 i r ∧ mE σ0 cI cZ ad th nn rws ps G Z σ2) (xS D classes (xT cI cJ cZ cC cG cP) 193 ad) (xA 193 ad)) args s 0 0 (xA 193 ad)) (F0 m 23 ls []) := by
    intro k
    induction k with
    | zero =>
      intro hi lo s2 G2 zz P2 L2 M2 Z2 le2 eq2 ls H locs hk hlt b1 b2 hlo hhi hG2 hs2 hg2 hB2 hz2 hz9 hl I
      have b3 : 8000000 * 2 ^ w9 ≤ (8589934592000000 : Int) := by omega
      have hm := q_mid (show -8589934592000000 ≤ lo.toInt by omega) (show hi.toInt ≤ 8589934592000000 by omega) hlt
      refine lv_lload hx hb d_SpectrumDeskModel_cellOf_23 (lv_at hl 0 rfl) ?_
      refine lv_lload_n hx hb d_SpectrumDeskModel_cellOf_25 rfl (lv_at hl 1 rfl) ?_
      refine lv_lsub hx hb d_SpectrumDeskModel_cellOf_26 ?_
      refine lv_lconst (v := 1) hx hb d_SpectrumDeskModel_cellOf_27 (by decide) ?_
      refine W.lcmp hx hb d_SpectrumDeskModel_cellOf_28 ?_
      refine lv_if_le hx hb d_SpectrumDeskModel_cellOf_29 rfl (fun hc => ?_) (fun hc => ?_)
      · have h1 : hi.toInt = lo.toInt + 1 := by have h := Int64.le_iff_toInt_le.mp ((lg_cmp_le _ _).mp hc); rw [hm.1, show (1 : Int64).toInt = 1 by decide] at h; omega
        refine lv_lload_n hx hb d_SpectrumDeskModel_cellOf_73 rfl (lv_at hl 1 rfl) ?_
        exact xr_lret X I hr hlk ⟨⟨b1, by omega, hlo, by rw [← h1]; exact hhi⟩, s2, G2, P2, L2, M2, Z2, le2, eq2, rfl, hG2, hs2, hg2, hB2, hz2⟩ d_SpectrumDeskModel_cellOf_74
      · exact absurd ((lg_cmp_le _ _).mpr (Int64.le_iff_toInt_le.mpr (by rw [hm.1, show (1 : Int64).toInt = 1 by decide]; simp at hk; omega))) hc
    | succ k ih =>
      intro hi lo s2 G2 zz P2 L2 M2 Z2 le2 eq2 ls H locs hk hlt b1 b2 hlo hhi hG2 hs2 hg2 hB2 hz2 hz9 hl I
      have b3 : 8000000 * 2 ^ w9 ≤ (8589934592000000 : Int) := by omega
      have hm := q_mid (show -8589934592000000 ≤ lo.toInt by omega) (show hi.toInt ≤ 8589934592000000 by omega) hlt
      refine lv_lload hx hb d_SpectrumDeskModel_cellOf_23 (lv_at hl 0 rfl) ?_
      refine lv_lload_n hx hb d_SpectrumDeskModel_cellOf_25 rfl (lv_at hl 1 rfl) ?_
      refine lv_lsub hx hb d_SpectrumDeskModel_cellOf_26 ?_
      refine lv_lconst (v := 1) hx hb d_SpectrumDeskModel_cellOf_27 (by decide) ?_
      refine W.lcmp hx hb d_SpectrumDeskModel_cellOf_28 ?_
      refine lv_if_le hx hb d_SpectrumDeskModel_cellOf_29 rfl (fun hc => ?_) (fun hc => ?_)
      · have h1 : hi.toInt = lo.toInt + 1 := by have h := Int64.le_iff_toInt_le.mp ((lg_cmp_le _ _).mp hc); rw [hm.1, show (1 : Int64).toInt = 1 by decide] at h; omega
        refine lv_lload_n hx hb d_SpectrumDeskModel_cellOf_73 rfl (lv_at hl 1 rfl) ?_
        exact xr_lret X I hr hlk ⟨⟨b1, by omega, hlo, by rw [← h1]; exact hhi⟩, s2, G2, P2, L2, M2, Z2, le2, eq2, rfl, hG2, hs2, hg2, hB2, hz2⟩ d_SpectrumDeskModel_cellOf_74
      · have hgt : 1 < hi.toInt - lo.toInt := by rcases Int.lt_or_le 1 (hi.toInt - lo.toInt) with h | h; exact h; exact absurd ((lg_cmp_le _ _).mpr (Int64.le_iff_toInt_le.mpr (by rw [hm.1, show (1 : Int64).toInt = 1 by decide]; exact h))) hc
        refine lv_lload_n hx hb d_SpectrumDeskModel_cellOf_32 rfl (lv_at hl 1 rfl) ?_
        refine lv_lload hx hb d_SpectrumDeskModel_cellOf_33 (lv_at hl 0 rfl) ?_
        refine lv_lload_n hx hb d_SpectrumDeskModel_cellOf_35 rfl (lv_at hl 1 rfl) ?_
        refine lv_lsub hx hb d_SpectrumDeskModel_cellOf_36 ?_
        refine lv_ldc2 (v := 2) hx hb X.1.2.2.2.1 (X.1.2.2.2.2 _ (List.mem_cons_of_mem _ k_ad913d9892)) d_SpectrumDeskModel_cellOf_37 ?_
        refine lv_ldiv hx hb d_SpectrumDeskModel_cellOf_40 (by decide) ?_
        refine lv_ladd hx hb d_SpectrumDeskModel_cellOf_41 ?_
        refine lv_topl (fun mi emi => ?_)
        have hmi : mi.toInt = lo.toInt + (hi.toInt - lo.toInt) / 2 := by rw [emi]; exact hm.2
        refine lv_lstore (lv' := [(7, .long mi), (5, .long hi), (3, .long lo), (0, .ref (ad 183)), (1, .int i), (2, .int (nI w9))]) hx hb d_SpectrumDeskModel_cellOf_42 hl (by decide) rfl (fun ls hl => ?_)
        refine lv_aload_n hx hb d_SpectrumDeskModel_cellOf_44 rfl (lv_at hl 3 rfl) ?_
        refine lv_bipush (v := nI 108) hx hb d_SpectrumDeskModel_cellOf_45 (by decide) ?_
        refine lv_lload hx hb d_SpectrumDeskModel_cellOf_47 (lv_at hl 0 rfl) ?_
        refine xr_callv (xr_runV (kc := 0) (kr := 6) (n := 2) (As := [.int (nI 108), .long mi]) (rest := []) X I (by decide) (r183 ..) rfl (c_SpectrumDeskModel_bigSet (w := 108) (v := mi) mfs_ok (by decide)) (xg k_5f300b8d49) (List.mem_cons_of_mem _ k_7a89662665) (List.mem_cons_of_mem _ k_203da126f2) (List.mem_cons_of_mem _ k_e2b6114fa3) (List.mem_cons_of_mem _ k_30fa15c9ac) (by decide +kernel) (by decide) rfl hl.1 rfl (Nat.le_of_ble_eq_true rfl) d_SpectrumDeskModel_cellOf_49) I (fun σ1 H locs hp I => ?_)
        obtain ⟨P3, L3, M3, rfl, hf, hx9⟩ := hp
        have hB3 := RB_up hB2 hf hx9
        refine lv_aload_n hx hb d_SpectrumDeskModel_cellOf_52 rfl (lv_at hl 3 rfl) ?_
        refine lv_iload_n hx hb d_SpectrumDeskModel_cellOf_53 rfl (lv_at hl 4 rfl) ?_
        have e8 : va_up Z2 108 mi.toInt 108 = mi.toInt := va_up_self _ _ _
        have e9 : va_up Z2 108 mi.toInt 109 = 2 ^ w9 := (va_up_ne _ _ (by decide)).trans hz9
        have hpp : ∀ k, k ≤ dd → va_up Z2 108 mi.toInt k = p0 k := fun k hk => (va_up_ne _ _ (by omega)).trans ((hz2 k (by omega)).trans (hp0 k hk))
        have hHH : wH (va_up Z2 108 mi.toInt 108) (va_up Z2 108 mi.toInt 109) dd p0 := by rw [e8, e9]; exact wH_of hd6 (bd_53 (by omega) (by omega)) (bd_53 (by omega) (by omega)) hpb
        refine xr_calli (xr_runV (kc := 5) (kr := 6) (n := 1) (As := [.int i]) (rest := []) X I (by decide) (r183 ..) rfl (c_SpectrumDeskModel_isAtLeast (i := i) hG2 hB3 hd6 ((hg2 0 (by decide)).trans hGb) hpp hHH) (xg k_b12ea24c8e) (List.mem_cons_of_mem _ k_06b9e39d42) (List.mem_cons_of_mem _ k_36b5ef1bbf) (List.mem_cons_of_mem _ k_abacde11fd) (List.mem_cons_of_mem _ k_30fa15c9ac) (by decide +kernel) (by decide) rfl hl.1 rfl (Nat.le_of_ble_eq_true rfl) d_SpectrumDeskModel_cellOf_54) I (fun r1 σ1 H locs hp I => ?_)
        obtain ⟨rfl, P4, L4, M4, Z4, rfl, hB4, hE4⟩ := hp
        rw [e8, e9] at I hE4 ⊢
        refine lv_if_eq hx hb d_SpectrumDeskModel_cellOf_57 rfl (fun hd => ?_) (fun hd => ?_)
        · have hn : ¬ wL mi.toInt (2 ^ w9) dd p0 ≤ i := fun h => by rw [if_pos h] at hd; exact absurd hd (by decide)
          refine lv_lload hx hb d_SpectrumDeskModel_cellOf_66 (lv_at hl 0 rfl) ?_
          refine lv_lstore (lv' := [(5, .long mi), (7, .long mi), (3, .long lo), (0, .ref (ad 183)), (1, .int i), (2, .int (nI w9))]) hx hb d_SpectrumDeskModel_cellOf_68 hl (by decide) rfl (fun ls hl => ?_)
          refine lv_goto hx hb d_SpectrumDeskModel_cellOf_70 rfl ?_
          have hl := lv_sub hl [0, 2, 3, 4, 5] rfl
          have hl : lv_has ls 9 [(5, .long mi), (3, .long lo), (0, .ref (ad 183)), (1, .int i), (2, .int (nI w9))] := hl
          exact ih mi lo _ _ () P4 L4 M4 Z4 _ _ ls H locs (by omega) (by omega) b1 (by omega) hlo (Or.inr hn) (va_up_self _ _ _) (fun q hq => (va_up_ne _ _ hq).trans (hs2 q hq)) (fun a ha => (upd_n ha).trans (hg2 a ha)) hB4 (zOK_mv (zOK_up hz2 (by decide)) (by omega) hE4) ((hE4 109 (by decide)).trans ((mvX_out (by omega)).trans e9)) hl I
        · have hn : wL mi.toInt (2 ^ w9) dd p0 ≤ i := Decidable.byContradiction fun h => by rw [if_neg h] at hd; exact absurd rfl hd
          refine lv_lload hx hb d_SpectrumDeskModel_cellOf_60 (lv_at hl 0 rfl) ?_
          refine lv_lstore_n (lv' := [(3, .long mi), (7, .long mi), (5, .long hi), (0, .ref (ad 183)), (1, .int i), (2, .int (nI w9))]) hx hb d_SpectrumDeskModel_cellOf_62 rfl hl (by decide) rfl (fun ls hl => ?_)
          refine lv_goto hx hb d_SpectrumDeskModel_cellOf_63 rfl ?_
          refine lv_goto hx hb d_SpectrumDeskModel_cellOf_70 rfl ?_
          have hl := lv_sub hl [2, 0, 3, 4, 5] rfl
          have hl : lv_has ls 9 [(5, .long hi), (3, .long mi), (0, .ref (ad 183)), (1, .int i), (2, .int (nI w9))] := hl
          exact ih hi mi _ _ () P4 L4 M4 Z4 _ _ ls H locs (by omega) (by omega) (by omega) b2 (Or.inr hn) hhi (va_up_self _ _ _) (fun q hq => (va_up_ne _ _ hq).trans (hs2 q hq)) (fun a ha => (upd_n ha).trans (hg2 a ha)) hB4 (zOK_mv (zOK_up hz2 (by decide)) (by omega) hE4) ((hE4 109 (by decide)).trans ((mvX_out (by omega)).trans e9)) hl I
  refine lv_ldc2 (v := lN 8000000) hx hb X.1.2.2.2.1 (X.1.2.2.2.2 _ (List.mem_cons_of_mem _ k_57c8867ebf)) d_SpectrumDeskModel_cellOf_0 ?_
  refine lv_iload_n hx hb d_SpectrumDeskModel_cellOf_3 rfl (lv_at hl 2 rfl) ?_
  refine lv_lshl hx hb d_SpectrumDeskModel_cellOf_4 rfl ?_
  refine lv_lneg hx hb d_SpectrumDeskModel_cellOf_5 ?_
  refine lv_topl (fun lo0 el0 => ?_)
  refine lv_lstore_n (lv' := [(3, .long lo0), (0, .ref (ad 183)), (1, .int i), (2, .int (nI w9))]) hx hb d_SpectrumDeskModel_cellOf_6 rfl hl (by decide) rfl (fun ls hl => ?_)
  refine lv_ldc2 (v := lN 8000000) hx hb X.1.2.2.2.1 (X.1.2.2.2.2 _ (List.mem_cons_of_mem _ k_57c8867ebf)) d_SpectrumDeskModel_cellOf_7 ?_
  refine lv_iload_n hx hb d_SpectrumDeskModel_cellOf_10 rfl (lv_at hl 3 rfl) ?_
  refine lv_lshl hx hb d_SpectrumDeskModel_cellOf_11 rfl ?_
  refine lv_topl (fun hi0 eh0 => ?_)
  have q1 : hi0.toInt = 8000000 * 2 ^ w9 := by rw [eh0]; exact q_shl hw9 (by decide)
  have q2 : lo0.toInt = -(8000000 * 2 ^ w9) := by rw [el0, q_lneg (by rw [q_shl hw9 (by decide)]; omega), q_shl hw9 (by decide)]; rfl
  refine lv_lstore (lv' := [(5, .long hi0), (3, .long lo0), (0, .ref (ad 183)), (1, .int i), (2, .int (nI w9))]) hx hb d_SpectrumDeskModel_cellOf_12 hl (by decide) rfl (fun ls hl => ?_)
  refine lv_aload_n hx hb d_SpectrumDeskModel_cellOf_14 rfl (lv_at hl 2 rfl) ?_
  refine lv_bipush (v := nI 109) hx hb d_SpectrumDeskModel_cellOf_15 (by decide) ?_
  refine lv_lconst (v := lN 1) hx hb d_SpectrumDeskModel_cellOf_17 (by decide) ?_
  refine lv_iload_n hx hb d_SpectrumDeskModel_cellOf_18 rfl (lv_at hl 4 rfl) ?_
  refine lv_lshl hx hb d_SpectrumDeskModel_cellOf_19 rfl ?_
  refine lv_topl (fun gr eg => ?_)
  have q3 : gr.toInt = 2 ^ w9 := by rw [eg, q_shl hw9 (by decide)]; simp
  refine xr_callv (xr_runV (kc := 0) (kr := 6) (n := 2) (As := [.int (nI 109), .long gr]) (rest := []) X I (by decide) (r183 ..) rfl (c_SpectrumDeskModel_bigSet (w := 109) (v := gr) mfs_ok (by decide)) (xg k_5f300b8d49) (List.mem_cons_of_mem _ k_7a89662665) (List.mem_cons_of_mem _ k_203da126f2) (List.mem_cons_of_mem _ k_e2b6114fa3) (List.mem_cons_of_mem _ k_30fa15c9ac) (by decide +kernel) (by decide) rfl hl.1 rfl (Nat.le_of_ble_eq_true rfl) d_SpectrumDeskModel_cellOf_20) I (fun σ1 H locs hp I => ?_)
  obtain ⟨P3, L3, M3, rfl, hf, hx9⟩ := hp
  have hB3 := RB_up hB hf hx9
  exact loop 20000000000000000 hi0 lo0 σ0 G () P3 L3 M3 _ le eq ls _ _ (by simp; omega) (by omega) (by omega) (by omega) (Or.inl q2) (Or.inl q1) hG (fun _ _ => rfl) (fun _ _ => rfl) hB3 (zOK_up zOK_rf (by decide)) (by rw [va_up_self]; exact q3) hl I
end
section
theorem wU_any {σ0 σ' : Nat → va_E} {cI cZ : ClassId} {ad : Nat → Nat} {th nn rws ps : Int32} {G : Nat → Int32} {Z : Nat → Int} {t b : Int} {d : Nat} {p : Nat → Int} (hd : d ≤ 6) (h : wU σ0 cI cZ ad th nn rws ps G Z t b d p σ') :
    ∃ (s1 : Nat → va_E) (G1 P1 L1 M1 : Nat → Int32) (Z1 : Nat → Int) (le1 eq1 : Int32), σ' = rw3 s1 ciM cI cZ (mfs ad th nn rws ps le1 eq1) P1 L1 M1 ∧ s1 187 = .inl (cI, 5, .inl G1) ∧ (∀ q, q ≠ 187 → s1 q = σ0 q) ∧ (∀ a, a ≠ 4 → G1 a = G a) ∧ RB P1 L1 M1 Z1 ∧ (∀ w, w < 32 ∨ (40 ≤ w ∧ w ≠ 106) → Z1 w = Z w) := by
  obtain ⟨P1, L1, M1, Z1, rfl, hB1, hE1⟩ := h
  exact ⟨_, _, P1, L1, M1, Z1, _, _, rfl, va_up_self _ _ _, fun q hq => va_up_ne _ _ hq, fun a ha => upd_n ha, hB1, fun w hw => (hE1 w (by omega)).trans (mvX_out (by omega))⟩
theorem bd_1 {n : Nat} {x : Int} (hn : n < 200) (h : bd (2 ^ n) x) : bd (2 ^ 200) (x + 1) := by
  have h1 := p2_lt hn
  have h2 := h.1
  have h3 := h.2
  have h4 : (0 : Int) < 2 ^ n := Int.pow_pos (by decide)
  exact ⟨by omega, by omega⟩
theorem bd_up {n m : Nat} {x : Int} (hn : n ≤ m) (h : bd (2 ^ n) x) : bd (2 ^ m) x := bd_le (p2_le hn) h
theorem sm_1 : sm 1 := sm_of (n := 0) (by decide) ⟨by decide, by decide⟩
/-- within(1): different eigenvalues in the cell, by the counts at its edges -/
def win1 (pl g : Int) (d0 d1 : Nat) (p0 p1 : Nat → Int) : Int32 := (wL (pl + 1) g d0 p0 - wL (pl + 1) g d1 p1) - (wL pl g d0 p0 - wL pl g d1 p1)
def win0 (pl g : Int) (d0 : Nat) (p0 : Nat → Int) : Int32 := (wL (pl + 1) g d0 p0 - nI 0) - (wL pl g d0 p0 - nI 0)
/-- behind halve: the place and the grid are new -/
def mH (σ0 : Nat → va_E) (cI cZ : ClassId) (ad : Nat → Nat) (th nn rws ps : Int32) (G : Nat → Int32) (Z : Nat → Int) (pl g : Int) : (Nat → va_E) → Prop := fun σ' =>
  ∃ (s0 : Nat → va_E) (G' P' L' M' : Nat → Int32) (Z' : Nat → Int) (le eq : Int32), σ' = rw3 s0 ciM cI cZ (mfs ad th nn rws ps le eq) P' L' M' ∧ s0 187 = .inl (cI, 5, .inl G') ∧ (∀ q, q ≠ 187 → s0 q = σ0 q) ∧ (∀ a, a ≠ 4 → G' a = G a) ∧ RB P' L' M' Z' ∧ (∀ w, w < 32 → Z' w = Z w) ∧ Z' 110 = pl ∧ Z' 111 = g
theorem bd_2 {n : Nat} {x : Int} (h : bd (2 ^ n) x) : bd (2 ^ (n + 1)) (x + x) := by
  rw [Int.pow_succ]
  have h2 := h.1
  have h3 := h.2
  exact ⟨by omega, by omega⟩
end
section
/-! the reference: within, halve (written by wip/gen) -/
abbrev b_SpectrumDeskModel_within : ByteArray := prog_10_method_46_code
abbrev y_SpectrumDeskModel_within : MethodName := ⟨"SpectrumDeskModel", "within", "(I)I"⟩
abbrev v_SpectrumDeskModel_within : List Cond := Cond.code y_SpectrumDeskModel_within b_SpectrumDeskModel_within 3 (some .int) :: AW
theorem d_SpectrumDeskModel_within_0 : decode b_SpectrumDeskModel_within 0 = .ok (.aload_n 0, 1) := by decide +kernel
theorem d_SpectrumDeskModel_within_1 : decode b_SpectrumDeskModel_within 1 = .ok (.bipush (108), 2) := by decide +kernel
theorem d_SpectrumDeskModel_within_3 : decode b_SpectrumDeskModel_within 3 = .ok (.bipush (110), 2) := by decide +kernel
theorem d_SpectrumDeskModel_within_5 : decode b_SpectrumDeskModel_within 5 = .ok (.invokevirtual 49, 3) := by decide +kernel
theorem d_SpectrumDeskModel_within_8 : decode b_SpectrumDeskModel_within 8 = .ok (.aload_n 0, 1) := by decide +kernel
theorem d_SpectrumDeskModel_within_9 : decode b_SpectrumDeskModel_within 9 = .ok (.bipush (109), 2) := by decide +kernel
theorem d_SpectrumDeskModel_within_11 : decode b_SpectrumDeskModel_within 11 = .ok (.bipush (111), 2) := by decide +kernel
theorem d_SpectrumDeskModel_within_13 : decode b_SpectrumDeskModel_within 13 = .ok (.invokevirtual 49, 3) := by decide +kernel
theorem d_SpectrumDeskModel_within_16 : decode b_SpectrumDeskModel_within 16 = .ok (.aload_n 0, 1) := by decide +kernel
theorem d_SpectrumDeskModel_within_17 : decode b_SpectrumDeskModel_within 17 = .ok (.iconst 0, 1) := by decide +kernel
theorem d_SpectrumDeskModel_within_18 : decode b_SpectrumDeskModel_within 18 = .ok (.invokevirtual 154, 3) := by decide +kernel
theorem d_SpectrumDeskModel_within_21 : decode b_SpectrumDeskModel_within 21 = .ok (.iload_n 1, 1) := by decide +kernel
theorem d_SpectrumDeskModel_within_22 : decode b_SpectrumDeskModel_within 22 = .ok (.iconst 1, 1) := by decide +kernel
theorem d_SpectrumDeskModel_within_23 : decode b_SpectrumDeskModel_within 23 = .ok (.if_icmp .ne (12), 3) := by decide +kernel
theorem d_SpectrumDeskModel_within_26 : decode b_SpectrumDeskModel_within 26 = .ok (.aload_n 0, 1) := by decide +kernel
theorem d_SpectrumDeskModel_within_27 : decode b_SpectrumDeskModel_within 27 = .ok (.bipush (8), 2) := by decide +kernel
theorem d_SpectrumDeskModel_within_29 : decode b_SpectrumDeskModel_within 29 = .ok (.invokevirtual 154, 3) := by decide +kernel
theorem d_SpectrumDeskModel_within_32 : decode b_SpectrumDeskModel_within 32 = .ok (.goto (4), 3) := by decide +kernel
theorem d_SpectrumDeskModel_within_35 : decode b_SpectrumDeskModel_within 35 = .ok (.iconst 0, 1) := by decide +kernel
theorem d_SpectrumDeskModel_within_36 : decode b_SpectrumDeskModel_within 36 = .ok (.isub, 1) := by decide +kernel
theorem d_SpectrumDeskModel_within_37 : decode b_SpectrumDeskModel_within 37 = .ok (.istore_n 2, 1) := by decide +kernel
theorem d_SpectrumDeskModel_within_38 : decode b_SpectrumDeskModel_within 38 = .ok (.aload_n 0, 1) := by decide +kernel
theorem d_SpectrumDeskModel_within_39 : decode b_SpectrumDeskModel_within 39 = .ok (.bipush (104), 2) := by decide +kernel
theorem d_SpectrumDeskModel_within_41 : decode b_SpectrumDeskModel_within 41 = .ok (.lconst 1, 1) := by decide +kernel
theorem d_SpectrumDeskModel_within_42 : decode b_SpectrumDeskModel_within 42 = .ok (.invokevirtual 104, 3) := by decide +kernel
theorem d_SpectrumDeskModel_within_45 : decode b_SpectrumDeskModel_within 45 = .ok (.aload_n 0, 1) := by decide +kernel
theorem d_SpectrumDeskModel_within_46 : decode b_SpectrumDeskModel_within 46 = .ok (.bipush (108), 2) := by decide +kernel
theorem d_SpectrumDeskModel_within_48 : decode b_SpectrumDeskModel_within 48 = .ok (.bipush (104), 2) := by decide +kernel
theorem d_SpectrumDeskModel_within_50 : decode b_SpectrumDeskModel_within 50 = .ok (.iconst 0, 1) := by decide +kernel
theorem d_SpectrumDeskModel_within_51 : decode b_SpectrumDeskModel_within 51 = .ok (.invokevirtual 115, 3) := by decide +kernel
theorem d_SpectrumDeskModel_within_54 : decode b_SpectrumDeskModel_within 54 = .ok (.aload_n 0, 1) := by decide +kernel
theorem d_SpectrumDeskModel_within_55 : decode b_SpectrumDeskModel_within 55 = .ok (.iconst 0, 1) := by decide +kernel
theorem d_SpectrumDeskModel_within_56 : decode b_SpectrumDeskModel_within 56 = .ok (.invokevirtual 154, 3) := by decide +kernel
theorem d_SpectrumDeskModel_within_59 : decode b_SpectrumDeskModel_within 59 = .ok (.iload_n 1, 1) := by decide +kernel
theorem d_SpectrumDeskModel_within_60 : decode b_SpectrumDeskModel_within 60 = .ok (.iconst 1, 1) := by decide +kernel
theorem d_SpectrumDeskModel_within_61 : decode b_SpectrumDeskModel_within 61 = .ok (.if_icmp .ne (12), 3) := by decide +kernel
theorem d_SpectrumDeskModel_within_64 : decode b_SpectrumDeskModel_within 64 = .ok (.aload_n 0, 1) := by decide +kernel
theorem d_SpectrumDeskModel_within_65 : decode b_SpectrumDeskModel_within 65 = .ok (.bipush (8), 2) := by decide +kernel
theorem d_SpectrumDeskModel_within_67 : decode b_SpectrumDeskModel_within 67 = .ok (.invokevirtual 154, 3) := by decide +kernel
theorem d_SpectrumDeskModel_within_70 : decode b_SpectrumDeskModel_within 70 = .ok (.goto (4), 3) := by decide +kernel
theorem d_SpectrumDeskModel_within_73 : decode b_SpectrumDeskModel_within 73 = .ok (.iconst 0, 1) := by decide +kernel
theorem d_SpectrumDeskModel_within_74 : decode b_SpectrumDeskModel_within 74 = .ok (.isub, 1) := by decide +kernel
theorem d_SpectrumDeskModel_within_75 : decode b_SpectrumDeskModel_within 75 = .ok (.iload_n 2, 1) := by decide +kernel
theorem d_SpectrumDeskModel_within_76 : decode b_SpectrumDeskModel_within 76 = .ok (.isub, 1) := by decide +kernel
theorem d_SpectrumDeskModel_within_77 : decode b_SpectrumDeskModel_within 77 = .ok (.ireturn, 1) := by decide +kernel
abbrev b_SpectrumDeskModel_halve : ByteArray := prog_10_method_47_code
abbrev y_SpectrumDeskModel_halve : MethodName := ⟨"SpectrumDeskModel", "halve", "(I)V"⟩
abbrev v_SpectrumDeskModel_halve : List Cond := Cond.code y_SpectrumDeskModel_halve b_SpectrumDeskModel_halve 2 none :: AW
theorem d_SpectrumDeskModel_halve_0 : decode b_SpectrumDeskModel_halve 0 = .ok (.aload_n 0, 1) := by decide +kernel
theorem d_SpectrumDeskModel_halve_1 : decode b_SpectrumDeskModel_halve 1 = .ok (.bipush (106), 2) := by decide +kernel
theorem d_SpectrumDeskModel_halve_3 : decode b_SpectrumDeskModel_halve 3 = .ok (.bipush (110), 2) := by decide +kernel
theorem d_SpectrumDeskModel_halve_5 : decode b_SpectrumDeskModel_halve 5 = .ok (.invokevirtual 49, 3) := by decide +kernel
theorem d_SpectrumDeskModel_halve_8 : decode b_SpectrumDeskModel_halve 8 = .ok (.aload_n 0, 1) := by decide +kernel
theorem d_SpectrumDeskModel_halve_9 : decode b_SpectrumDeskModel_halve 9 = .ok (.bipush (110), 2) := by decide +kernel
theorem d_SpectrumDeskModel_halve_11 : decode b_SpectrumDeskModel_halve 11 = .ok (.bipush (106), 2) := by decide +kernel
theorem d_SpectrumDeskModel_halve_13 : decode b_SpectrumDeskModel_halve 13 = .ok (.iconst 0, 1) := by decide +kernel
theorem d_SpectrumDeskModel_halve_14 : decode b_SpectrumDeskModel_halve 14 = .ok (.invokevirtual 115, 3) := by decide +kernel
theorem d_SpectrumDeskModel_halve_17 : decode b_SpectrumDeskModel_halve 17 = .ok (.aload_n 0, 1) := by decide +kernel
theorem d_SpectrumDeskModel_halve_18 : decode b_SpectrumDeskModel_halve 18 = .ok (.bipush (106), 2) := by decide +kernel
theorem d_SpectrumDeskModel_halve_20 : decode b_SpectrumDeskModel_halve 20 = .ok (.bipush (111), 2) := by decide +kernel
theorem d_SpectrumDeskModel_halve_22 : decode b_SpectrumDeskModel_halve 22 = .ok (.invokevirtual 49, 3) := by decide +kernel
theorem d_SpectrumDeskModel_halve_25 : decode b_SpectrumDeskModel_halve 25 = .ok (.aload_n 0, 1) := by decide +kernel
theorem d_SpectrumDeskModel_halve_26 : decode b_SpectrumDeskModel_halve 26 = .ok (.bipush (111), 2) := by decide +kernel
theorem d_SpectrumDeskModel_halve_28 : decode b_SpectrumDeskModel_halve 28 = .ok (.bipush (106), 2) := by decide +kernel
theorem d_SpectrumDeskModel_halve_30 : decode b_SpectrumDeskModel_halve 30 = .ok (.iconst 0, 1) := by decide +kernel
theorem d_SpectrumDeskModel_halve_31 : decode b_SpectrumDeskModel_halve 31 = .ok (.invokevirtual 115, 3) := by decide +kernel
theorem d_SpectrumDeskModel_halve_34 : decode b_SpectrumDeskModel_halve 34 = .ok (.aload_n 0, 1) := by decide +kernel
theorem d_SpectrumDeskModel_halve_35 : decode b_SpectrumDeskModel_halve 35 = .ok (.bipush (108), 2) := by decide +kernel
theorem d_SpectrumDeskModel_halve_37 : decode b_SpectrumDeskModel_halve 37 = .ok (.bipush (110), 2) := by decide +kernel
theorem d_SpectrumDeskModel_halve_39 : decode b_SpectrumDeskModel_halve 39 = .ok (.invokevirtual 49, 3) := by decide +kernel
theorem d_SpectrumDeskModel_halve_42 : decode b_SpectrumDeskModel_halve 42 = .ok (.aload_n 0, 1) := by decide +kernel
theorem d_SpectrumDeskModel_halve_43 : decode b_SpectrumDeskModel_halve 43 = .ok (.bipush (104), 2) := by decide +kernel
theorem d_SpectrumDeskModel_halve_45 : decode b_SpectrumDeskModel_halve 45 = .ok (.lconst 1, 1) := by decide +kernel
theorem d_SpectrumDeskModel_halve_46 : decode b_SpectrumDeskModel_halve 46 = .ok (.invokevirtual 104, 3) := by decide +kernel
theorem d_SpectrumDeskModel_halve_49 : decode b_SpectrumDeskModel_halve 49 = .ok (.aload_n 0, 1) := by decide +kernel
theorem d_SpectrumDeskModel_halve_50 : decode b_SpectrumDeskModel_halve 50 = .ok (.bipush (108), 2) := by decide +kernel
theorem d_SpectrumDeskModel_halve_52 : decode b_SpectrumDeskModel_halve 52 = .ok (.bipush (104), 2) := by decide +kernel
theorem d_SpectrumDeskModel_halve_54 : decode b_SpectrumDeskModel_halve 54 = .ok (.iconst 0, 1) := by decide +kernel
theorem d_SpectrumDeskModel_halve_55 : decode b_SpectrumDeskModel_halve 55 = .ok (.invokevirtual 115, 3) := by decide +kernel
theorem d_SpectrumDeskModel_halve_58 : decode b_SpectrumDeskModel_halve 58 = .ok (.aload_n 0, 1) := by decide +kernel
theorem d_SpectrumDeskModel_halve_59 : decode b_SpectrumDeskModel_halve 59 = .ok (.bipush (109), 2) := by decide +kernel
theorem d_SpectrumDeskModel_halve_61 : decode b_SpectrumDeskModel_halve 61 = .ok (.bipush (111), 2) := by decide +kernel
theorem d_SpectrumDeskModel_halve_63 : decode b_SpectrumDeskModel_halve 63 = .ok (.invokevirtual 49, 3) := by decide +kernel
theorem d_SpectrumDeskModel_halve_66 : decode b_SpectrumDeskModel_halve 66 = .ok (.aload_n 0, 1) := by decide +kernel
theorem d_SpectrumDeskModel_halve_67 : decode b_SpectrumDeskModel_halve 67 = .ok (.iload_n 1, 1) := by decide +kernel
theorem d_SpectrumDeskModel_halve_68 : decode b_SpectrumDeskModel_halve 68 = .ok (.invokevirtual 161, 3) := by decide +kernel
theorem d_SpectrumDeskModel_halve_71 : decode b_SpectrumDeskModel_halve 71 = .ok (.ifCond .eq (11), 3) := by decide +kernel
theorem d_SpectrumDeskModel_halve_74 : decode b_SpectrumDeskModel_halve 74 = .ok (.aload_n 0, 1) := by decide +kernel
theorem d_SpectrumDeskModel_halve_75 : decode b_SpectrumDeskModel_halve 75 = .ok (.bipush (110), 2) := by decide +kernel
theorem d_SpectrumDeskModel_halve_77 : decode b_SpectrumDeskModel_halve 77 = .ok (.bipush (108), 2) := by decide +kernel
theorem d_SpectrumDeskModel_halve_79 : decode b_SpectrumDeskModel_halve 79 = .ok (.invokevirtual 49, 3) := by decide +kernel
theorem d_SpectrumDeskModel_halve_82 : decode b_SpectrumDeskModel_halve 82 = .ok (.return_, 1) := by decide +kernel
theorem k_b1d1f78dd0 : (Jvm.Cond.code ({ cls := "SpectrumDeskModel", name := "within", desc := "(I)I" } : Jvm.MethodName) prog_10_method_46_code (3 : Nat) (Option.some Jvm.ClassFile.FieldType.int)) ∈ AW := aw_5 (List.mem_of_getElem? (i := 162) (by decide +kernel)) (by decide +kernel)
theorem k_9d9441f9ca : (Jvm.Cond.code ({ cls := "SpectrumDeskModel", name := "halve", desc := "(I)V" } : Jvm.MethodName) prog_10_method_47_code (2 : Nat) (Option.none : Option Jvm.ClassFile.FieldType)) ∈ AW := aw_5 (List.mem_of_getElem? (i := 166) (by decide +kernel)) (by decide +kernel)
set_option maxHeartbeats 4000000 in
set_option maxRecDepth 100000 in
theorem c_SpectrumDeskModel_within1 {l : Launch} {D : va_G} {cI cJ cZ cC cG cP : ClassId} {ad : Nat → Nat} {σ0 : Nat → va_E} {th nn rws ps le eq : Int32} {P L M G : Nat → Int32} {Z : Nat → Int} (hG : σ0 187 = .inl (cI, 5, .inl G)) (hB : RB P L M Z) {dgs : Nat → Nat} {p0 p1 : Nat → Int} (hd0 : dgs 0 ≤ 6) (hd1 : dgs 1 ≤ 6) (hgq : ∀ a, a < 2 → G a = nI (dgs a)) (hp0 : ∀ k, k ≤ dgs 0 → Z (8 * 0 + k) = p0 k) (hp1 : ∀ k, k ≤ dgs 1 → Z (8 * 1 + k) = p1 k) (hb0 : ∀ k, k ≤ dgs 0 → bd (2 ^ 900) (p0 k)) (hb1 : ∀ k, k ≤ dgs 1 → bd (2 ^ 900) (p1 k)) (hpl : bd (2 ^ 190) (Z 110)) (hgr : bd (2 ^ 190) (Z 111)) :
    Met l y_SpectrumDeskModel_within v_SpectrumDeskModel_within (xrm 5) (va_Pc [.ref (ad 183), .int (nI 1)] (xS D classes (xT cI cJ cZ cC cG cP) 193 ad (rw3 σ0 ciM cI cZ (mfs ad th nn rws ps le eq) P L M))) (va_Qi (fun r σ2 => r = win1 (Z 110) (Z 111) (dgs 0) (dgs 1) p0 p1 ∧ mE σ0 cI cZ ad th nn rws ps G Z σ2) (xS D classes (xT cI cJ cZ cC cG cP) 193 ad) (xA 193 ad)) 0 0 (xA 193 ad) := by
  refine xr_met rfl (Nat.le_of_ble_eq_true rfl) ?_
  intro p e s m args below meth c ls hx hb X hr hlk hl I
  have hl : lv_has ls 3 [(0, .ref (ad 183)), (1, .int (nI 1))] := hl
  have hss : ∀ q, q ≠ 187 → σ0 q = σ0 q := fun _ _ => rfl
  have hgf : ∀ a, a ≠ 4 → G a = G a := fun _ _ => rfl
  have hzs : ∀ w, w < 32 → Z w = Z w := fun _ _ => rfl
  have z110 : Z 110 = Z 110 := rfl
  have z111 : Z 111 = Z 111 := rfl
  have hH0 : ∀ t, bd (2 ^ 200) t → wH t (Z 111) (dgs 0) p0 := fun t ht => wH_of hd0 ht (bd_up (by decide) hgr) hb0
  have hH1 : ∀ t, bd (2 ^ 200) t → wH t (Z 111) (dgs 1) p1 := fun t ht => wH_of hd1 ht (bd_up (by decide) hgr) hb1
  have ht0 : bd (2 ^ 200) (Z 110) := bd_up (by decide) hpl
  have ht1 : bd (2 ^ 200) (Z 110 + 1) := bd_1 (by decide) hpl
  refine lv_aload_n hx hb d_SpectrumDeskModel_within_0 rfl (lv_at hl 0 rfl) ?_
  refine lv_bipush (v := nI 108) hx hb d_SpectrumDeskModel_within_1 (by decide) ?_
  refine lv_bipush (v := nI 110) hx hb d_SpectrumDeskModel_within_3 (by decide) ?_
  refine xr_callv (xr_runV (kc := 0) (kr := 5) (n := 2) (As := [.int (nI 108), .int (nI 110)]) (rest := []) X I (by decide) (r183 ..) rfl (c_SpectrumDeskModel_bigCopy (w := 108) (u := 110) mfs_ok (by decide) (by decide) (by decide) (hB 110 (by decide))) (xg k_b9c8150a19) (List.mem_cons_of_mem _ k_4f43ed96b8) (List.mem_cons_of_mem _ k_c9c9b5ab57) (List.mem_cons_of_mem _ k_5d491bf207) (List.mem_cons_of_mem _ k_30fa15c9ac) (by decide +kernel) (by decide) rfl hl.1 rfl (Nat.le_of_ble_eq_true rfl) d_SpectrumDeskModel_within_5) I (fun σ9 H locs hp I => ?_)
  obtain ⟨P1, L1, M1, rfl, hf, hx9⟩ := hp
  have hB1 := RB_up hB hf hx9
  clear hf hx9
  obtain ⟨Z1, eZ1⟩ : ∃ Y, Y = va_up Z 108 (Z 110) := ⟨_, rfl⟩
  rw [← eZ1] at hB1
  have hz1 : ∀ w, w < 32 → Z1 w = Z w := fun w hw => by rw [eZ1]; exact (va_up_ne _ _ (by omega)).trans (hzs w hw)
  have z108 : Z1 108 = Z 110 := by rw [eZ1, va_up_self]
  have z110 : Z1 110 = Z 110 := by rw [eZ1]; exact (va_up_ne _ _ (by decide)).trans z110
  have z111 : Z1 111 = Z 111 := by rw [eZ1]; exact (va_up_ne _ _ (by decide)).trans z111
  refine lv_aload_n hx hb d_SpectrumDeskModel_within_8 rfl (lv_at hl 0 rfl) ?_
  refine lv_bipush (v := nI 109) hx hb d_SpectrumDeskModel_within_9 (by decide) ?_
  refine lv_bipush (v := nI 111) hx hb d_SpectrumDeskModel_within_11 (by decide) ?_
  refine xr_callv (xr_runV (kc := 0) (kr := 5) (n := 2) (As := [.int (nI 109), .int (nI 111)]) (rest := []) X I (by decide) (r183 ..) rfl (c_SpectrumDeskModel_bigCopy (w := 109) (u := 111) mfs_ok (by decide) (by decide) (by decide) (hB1 111 (by decide))) (xg k_b9c8150a19) (List.mem_cons_of_mem _ k_4f43ed96b8) (List.mem_cons_of_mem _ k_c9c9b5ab57) (List.mem_cons_of_mem _ k_5d491bf207) (List.mem_cons_of_mem _ k_30fa15c9ac) (by decide +kernel) (by decide) rfl hl.1 rfl (Nat.le_of_ble_eq_true rfl) d_SpectrumDeskModel_within_13) I (fun σ9 H locs hp I => ?_)
  obtain ⟨P2, L2, M2, rfl, hf, hx9⟩ := hp
  have hB2 := RB_up hB1 hf hx9
  clear hf hx9
  obtain ⟨Z2, eZ2⟩ : ∃ Y, Y = va_up Z1 109 (Z1 111) := ⟨_, rfl⟩
  rw [← eZ2] at hB2
  have hz2 : ∀ w, w < 32 → Z2 w = Z w := fun w hw => by rw [eZ2]; exact (va_up_ne _ _ (by omega)).trans (hz1 w hw)
  have z109 : Z2 109 = Z 111 := by rw [eZ2, va_up_self]; exact z111
  have z110 : Z2 110 = Z 110 := by rw [eZ2]; exact (va_up_ne _ _ (by decide)).trans z110
  have z111 : Z2 111 = Z 111 := by rw [eZ2]; exact (va_up_ne _ _ (by decide)).trans z111
  have z108 : Z2 108 = Z 110 := by rw [eZ2]; exact (va_up_ne _ _ (by decide)).trans z108
  refine lv_aload_n hx hb d_SpectrumDeskModel_within_16 rfl (lv_at hl 0 rfl) ?_
  refine lv_iconst (v := nI 0) hx hb d_SpectrumDeskModel_within_17 (by decide) ?_
  refine xr_calli (xr_runV (kc := 4) (kr := 5) (n := 1) (As := [.int (nI 0)]) (rest := []) X I (by decide) (r183 ..) rfl (c_SpectrumDeskModel_lessThan (b := 0) hG hB2 (by decide) hd0 (hgq 0 (by decide)) (fun k hk => (hz2 (8 * 0 + k) (by omega)).trans (hp0 k hk)) (by rw [z108, z109]; exact hH0 _ ht0)) (xg k_28e184ee74) (List.mem_cons_of_mem _ k_3baecd7f24) (List.mem_cons_of_mem _ k_f6e6d76f54) (List.mem_cons_of_mem _ k_6a49491994) (List.mem_cons_of_mem _ k_30fa15c9ac) (by decide +kernel) (by decide) rfl hl.1 rfl (Nat.le_of_ble_eq_true rfl) d_SpectrumDeskModel_within_18) I (fun ra0 σ9 H locs hp I => ?_)
  obtain ⟨era0, hu⟩ := hp
  obtain ⟨s3, G3, P3, L3, M3, Z3, le3, eq3, rfl, hG3, hsa, hga, hB3, hza⟩ := wU_any hd0 hu
  rw [z108, z109] at era0
  have hs3 : ∀ q, q ≠ 187 → s3 q = σ0 q := fun q hq => (hsa q hq).trans (hss q hq)
  have hg3 : ∀ a, a ≠ 4 → G3 a = G a := fun a ha => (hga a ha).trans (hgf a ha)
  have hq3 : ∀ a, a < 2 → G3 a = nI (dgs a) := fun a ha => (hga a (by omega)).trans (hgq a ha)
  have hz3 : ∀ w, w < 32 → Z3 w = Z w := fun w hw => (hza w (by omega)).trans (hz2 w hw)
  have z110 : Z3 110 = Z 110 := (hza 110 (by decide)).trans z110
  have z111 : Z3 111 = Z 111 := (hza 111 (by decide)).trans z111
  have z108 : Z3 108 = Z 110 := (hza 108 (by decide)).trans z108
  have z109 : Z3 109 = Z 111 := (hza 109 (by decide)).trans z109
  clear hu hsa hga hza
  refine lv_iload_n hx hb d_SpectrumDeskModel_within_21 rfl (lv_at hl 1 rfl) ?_
  refine lv_iconst (v := nI 1) hx hb d_SpectrumDeskModel_within_22 (by decide) ?_
  refine lv_icmp_ne hx hb d_SpectrumDeskModel_within_23 rfl (fun hw1 => ?_) (fun hw1 => ?_)
  · exact absurd rfl hw1
  · refine lv_aload_n hx hb d_SpectrumDeskModel_within_26 rfl (lv_at hl 0 rfl) ?_
    refine lv_bipush (v := nI 8) hx hb d_SpectrumDeskModel_within_27 (by decide) ?_
    refine xr_calli (xr_runV (kc := 4) (kr := 5) (n := 1) (As := [.int (nI 8)]) (rest := [.int ra0]) X I (by decide) (r183 ..) rfl (c_SpectrumDeskModel_lessThan (b := 1) hG3 hB3 (by decide) hd1 (hq3 1 (by decide)) (fun k hk => (hz3 (8 * 1 + k) (by omega)).trans (hp1 k hk)) (by rw [z108, z109]; exact hH1 _ ht0)) (xg k_28e184ee74) (List.mem_cons_of_mem _ k_3baecd7f24) (List.mem_cons_of_mem _ k_f6e6d76f54) (List.mem_cons_of_mem _ k_6a49491994) (List.mem_cons_of_mem _ k_30fa15c9ac) (by decide +kernel) (by decide) rfl hl.1 rfl (Nat.le_of_ble_eq_true rfl) d_SpectrumDeskModel_within_29) I (fun ra1 σ9 H locs hp I => ?_)
    obtain ⟨era1, hu⟩ := hp
    obtain ⟨s4, G4, P4, L4, M4, Z4, le4, eq4, rfl, hG4, hsa, hga, hB4, hza⟩ := wU_any hd1 hu
    rw [z108, z109] at era1
    have hs4 : ∀ q, q ≠ 187 → s4 q = σ0 q := fun q hq => (hsa q hq).trans (hs3 q hq)
    have hg4 : ∀ a, a ≠ 4 → G4 a = G a := fun a ha => (hga a ha).trans (hg3 a ha)
    have hq4 : ∀ a, a < 2 → G4 a = nI (dgs a) := fun a ha => (hga a (by omega)).trans (hq3 a ha)
    have hz4 : ∀ w, w < 32 → Z4 w = Z w := fun w hw => (hza w (by omega)).trans (hz3 w hw)
    have z110 : Z4 110 = Z 110 := (hza 110 (by decide)).trans z110
    have z111 : Z4 111 = Z 111 := (hza 111 (by decide)).trans z111
    have z108 : Z4 108 = Z 110 := (hza 108 (by decide)).trans z108
    have z109 : Z4 109 = Z 111 := (hza 109 (by decide)).trans z109
    clear hu hsa hga hza
    refine lv_goto hx hb d_SpectrumDeskModel_within_32 rfl ?_
    refine lv_isub hx hb d_SpectrumDeskModel_within_36 ?_
    refine lv_istore_n (lv' := [(2, .int (ra0 - ra1)), (0, .ref (ad 183)), (1, .int (nI 1))]) hx hb d_SpectrumDeskModel_within_37 rfl hl (by decide) rfl (fun ls hl => ?_)
    refine lv_aload_n hx hb d_SpectrumDeskModel_within_38 rfl (lv_at hl 1 rfl) ?_
    refine lv_bipush (v := nI 104) hx hb d_SpectrumDeskModel_within_39 (by decide) ?_
    refine lv_lconst (v := 1) hx hb d_SpectrumDeskModel_within_41 (by decide) ?_
    refine xr_callv (xr_runV (kc := 0) (kr := 5) (n := 2) (As := [.int (nI 104), .long 1]) (rest := []) X I (by decide) (r183 ..) rfl (c_SpectrumDeskModel_bigSet (w := 104) (v := 1) mfs_ok (by decide)) (xg k_5f300b8d49) (List.mem_cons_of_mem _ k_7a89662665) (List.mem_cons_of_mem _ k_203da126f2) (List.mem_cons_of_mem _ k_e2b6114fa3) (List.mem_cons_of_mem _ k_30fa15c9ac) (by decide +kernel) (by decide) rfl hl.1 rfl (Nat.le_of_ble_eq_true rfl) d_SpectrumDeskModel_within_42) I (fun σ9 H locs hp I => ?_)
    obtain ⟨P5, L5, M5, rfl, hf, hx9⟩ := hp
    have hB5 := RB_up hB4 hf hx9
    clear hf hx9
    obtain ⟨Z5, eZ5⟩ : ∃ Y, Y = va_up Z4 104 ((1 : Int64).toInt) := ⟨_, rfl⟩
    rw [← eZ5] at hB5
    have hz5 : ∀ w, w < 32 → Z5 w = Z w := fun w hw => by rw [eZ5]; exact (va_up_ne _ _ (by omega)).trans (hz4 w hw)
    have z104 : Z5 104 = 1 := by rw [eZ5, va_up_self]; decide
    have z110 : Z5 110 = Z 110 := by rw [eZ5]; exact (va_up_ne _ _ (by decide)).trans z110
    have z111 : Z5 111 = Z 111 := by rw [eZ5]; exact (va_up_ne _ _ (by decide)).trans z111
    have z108 : Z5 108 = Z 110 := by rw [eZ5]; exact (va_up_ne _ _ (by decide)).trans z108
    have z109 : Z5 109 = Z 111 := by rw [eZ5]; exact (va_up_ne _ _ (by decide)).trans z109
    refine lv_aload_n hx hb d_SpectrumDeskModel_within_45 rfl (lv_at hl 1 rfl) ?_
    refine lv_bipush (v := nI 108) hx hb d_SpectrumDeskModel_within_46 (by decide) ?_
    refine lv_bipush (v := nI 104) hx hb d_SpectrumDeskModel_within_48 (by decide) ?_
    refine lv_iconst (v := nI 0) hx hb d_SpectrumDeskModel_within_50 (by decide) ?_
    refine xr_callv (xr_runV (kc := 2) (kr := 5) (n := 3) (As := [.int (nI 108), .int (nI 104), .int (nI 0)]) (rest := []) X I (by decide) (r183 ..) rfl (c_SpectrumDeskModel_bigAdd0 (w := 108) (u := 104) mfs_ok (by decide) (by decide) (by decide) (hB5 108 (by decide)) (hB5 104 (by decide)) (by rw [z108]; exact sm_rbd (sm_of (by decide) ht0)) (by rw [z104]; exact sm_rbd sm_1)) (xg k_dd45f20b23) (List.mem_cons_of_mem _ k_1f49c5cd66) (List.mem_cons_of_mem _ k_a10028f3d7) (List.mem_cons_of_mem _ k_758e0597f6) (List.mem_cons_of_mem _ k_30fa15c9ac) (by decide +kernel) (by decide) rfl hl.1 rfl (Nat.le_of_ble_eq_true rfl) d_SpectrumDeskModel_within_51) I (fun σ9 H locs hp I => ?_)
    obtain ⟨P6, L6, M6, rfl, hf, hx9⟩ := hp
    have hB6 := RB_up hB5 hf hx9
    clear hf hx9
    obtain ⟨Z6, eZ6⟩ : ∃ Y, Y = va_up Z5 108 (Z5 108 + Z5 104) := ⟨_, rfl⟩
    rw [← eZ6] at hB6
    have hz6 : ∀ w, w < 32 → Z6 w = Z w := fun w hw => by rw [eZ6]; exact (va_up_ne _ _ (by omega)).trans (hz5 w hw)
    have z108b : Z6 108 = Z 110 + 1 := by rw [eZ6, va_up_self, z108, z104]
    have z110 : Z6 110 = Z 110 := by rw [eZ6]; exact (va_up_ne _ _ (by decide)).trans z110
    have z111 : Z6 111 = Z 111 := by rw [eZ6]; exact (va_up_ne _ _ (by decide)).trans z111
    have z109 : Z6 109 = Z 111 := by rw [eZ6]; exact (va_up_ne _ _ (by decide)).trans z109
    have z108 := z108b
    refine lv_aload_n hx hb d_SpectrumDeskModel_within_54 rfl (lv_at hl 1 rfl) ?_
    refine lv_iconst (v := nI 0) hx hb d_SpectrumDeskModel_within_55 (by decide) ?_
    refine xr_calli (xr_runV (kc := 4) (kr := 5) (n := 1) (As := [.int (nI 0)]) (rest := []) X I (by decide) (r183 ..) rfl (c_SpectrumDeskModel_lessThan (b := 0) hG4 hB6 (by decide) hd0 (hq4 0 (by decide)) (fun k hk => (hz6 (8 * 0 + k) (by omega)).trans (hp0 k hk)) (by rw [z108, z109]; exact hH0 _ ht1)) (xg k_28e184ee74) (List.mem_cons_of_mem _ k_3baecd7f24) (List.mem_cons_of_mem _ k_f6e6d76f54) (List.mem_cons_of_mem _ k_6a49491994) (List.mem_cons_of_mem _ k_30fa15c9ac) (by decide +kernel) (by decide) rfl hl.1 rfl (Nat.le_of_ble_eq_true rfl) d_SpectrumDeskModel_within_56) I (fun rb0 σ9 H locs hp I => ?_)
    obtain ⟨erb0, hu⟩ := hp
    obtain ⟨s7, G7, P7, L7, M7, Z7, le7, eq7, rfl, hG7, hsa, hga, hB7, hza⟩ := wU_any hd0 hu
    rw [z108, z109] at erb0
    have hs7 : ∀ q, q ≠ 187 → s7 q = σ0 q := fun q hq => (hsa q hq).trans (hs4 q hq)
    have hg7 : ∀ a, a ≠ 4 → G7 a = G a := fun a ha => (hga a ha).trans (hg4 a ha)
    have hq7 : ∀ a, a < 2 → G7 a = nI (dgs a) := fun a ha => (hga a (by omega)).trans (hq4 a ha)
    have hz7 : ∀ w, w < 32 → Z7 w = Z w := fun w hw => (hza w (by omega)).trans (hz6 w hw)
    have z110 : Z7 110 = Z 110 := (hza 110 (by decide)).trans z110
    have z111 : Z7 111 = Z 111 := (hza 111 (by decide)).trans z111
    have z109 : Z7 109 = Z 111 := (hza 109 (by decide)).trans z109
    have z108 : Z7 108 = Z 110 + 1 := (hza 108 (by decide)).trans z108
    clear hu hsa hga hza
    refine lv_iload_n hx hb d_SpectrumDeskModel_within_59 rfl (lv_at hl 2 rfl) ?_
    refine lv_iconst (v := nI 1) hx hb d_SpectrumDeskModel_within_60 (by decide) ?_
    refine lv_icmp_ne hx hb d_SpectrumDeskModel_within_61 rfl (fun hw2 => ?_) (fun hw2 => ?_)
    · exact absurd rfl hw2
    · refine lv_aload_n hx hb d_SpectrumDeskModel_within_64 rfl (lv_at hl 1 rfl) ?_
      refine lv_bipush (v := nI 8) hx hb d_SpectrumDeskModel_within_65 (by decide) ?_
      refine xr_calli (xr_runV (kc := 4) (kr := 5) (n := 1) (As := [.int (nI 8)]) (rest := [.int rb0]) X I (by decide) (r183 ..) rfl (c_SpectrumDeskModel_lessThan (b := 1) hG7 hB7 (by decide) hd1 (hq7 1 (by decide)) (fun k hk => (hz7 (8 * 1 + k) (by omega)).trans (hp1 k hk)) (by rw [z108, z109]; exact hH1 _ ht1)) (xg k_28e184ee74) (List.mem_cons_of_mem _ k_3baecd7f24) (List.mem_cons_of_mem _ k_f6e6d76f54) (List.mem_cons_of_mem _ k_6a49491994) (List.mem_cons_of_mem _ k_30fa15c9ac) (by decide +kernel) (by decide) rfl hl.1 rfl (Nat.le_of_ble_eq_true rfl) d_SpectrumDeskModel_within_67) I (fun rb1 σ9 H locs hp I => ?_)
      obtain ⟨erb1, hu⟩ := hp
      obtain ⟨s8, G8, P8, L8, M8, Z8, le8, eq8, rfl, hG8, hsa, hga, hB8, hza⟩ := wU_any hd1 hu
      rw [z108, z109] at erb1
      have hs8 : ∀ q, q ≠ 187 → s8 q = σ0 q := fun q hq => (hsa q hq).trans (hs7 q hq)
      have hg8 : ∀ a, a ≠ 4 → G8 a = G a := fun a ha => (hga a ha).trans (hg7 a ha)
      have hq8 : ∀ a, a < 2 → G8 a = nI (dgs a) := fun a ha => (hga a (by omega)).trans (hq7 a ha)
      have hz8 : ∀ w, w < 32 → Z8 w = Z w := fun w hw => (hza w (by omega)).trans (hz7 w hw)
      have z110 : Z8 110 = Z 110 := (hza 110 (by decide)).trans z110
      have z111 : Z8 111 = Z 111 := (hza 111 (by decide)).trans z111
      have z109 : Z8 109 = Z 111 := (hza 109 (by decide)).trans z109
      have z108 : Z8 108 = Z 110 + 1 := (hza 108 (by decide)).trans z108
      clear hu hsa hga hza
      refine lv_goto hx hb d_SpectrumDeskModel_within_70 rfl ?_
      refine lv_isub hx hb d_SpectrumDeskModel_within_74 ?_
      refine lv_iload_n hx hb d_SpectrumDeskModel_within_75 rfl (lv_at hl 0 rfl) ?_
      refine lv_isub hx hb d_SpectrumDeskModel_within_76 ?_
      exact xr_iret X I hr hlk ⟨by rw [era0, era1, erb0, erb1]; rfl, s8, G8, P8, L8, M8, Z8, le8, eq8, rfl, hG8, hs8, hg8, hB8, fun w hw => by rcases hw with h | rfl | rfl; exact hz8 w h; exact z110; exact z111⟩ d_SpectrumDeskModel_within_77
set_option maxHeartbeats 4000000 in
set_option maxRecDepth 100000 in
theorem c_SpectrumDeskModel_within0 {l : Launch} {D : va_G} {cI cJ cZ cC cG cP : ClassId} {ad : Nat → Nat} {σ0 : Nat → va_E} {th nn rws ps le eq : Int32} {P L M G : Nat → Int32} {Z : Nat → Int} (hG : σ0 187 = .inl (cI, 5, .inl G)) (hB : RB P L M Z) {dgs : Nat → Nat} {p0 p1 : Nat → Int} (hd0 : dgs 0 ≤ 6) (hd1 : dgs 1 ≤ 6) (hgq : ∀ a, a < 2 → G a = nI (dgs a)) (hp0 : ∀ k, k ≤ dgs 0 → Z (8 * 0 + k) = p0 k) (hp1 : ∀ k, k ≤ dgs 1 → Z (8 * 1 + k) = p1 k) (hb0 : ∀ k, k ≤ dgs 0 → bd (2 ^ 900) (p0 k)) (hb1 : ∀ k, k ≤ dgs 1 → bd (2 ^ 900) (p1 k)) (hpl : bd (2 ^ 190) (Z 110)) (hgr : bd (2 ^ 190) (Z 111)) :
    Met l y_SpectrumDeskModel_within v_SpectrumDeskModel_within (xrm 5) (va_Pc [.ref (ad 183), .int (nI 0)] (xS D classes (xT cI cJ cZ cC cG cP) 193 ad (rw3 σ0 ciM cI cZ (mfs ad th nn rws ps le eq) P L M))) (va_Qi (fun r σ2 => r = win0 (Z 110) (Z 111) (dgs 0) p0 ∧ mE σ0 cI cZ ad th nn rws ps G Z σ2) (xS D classes (xT cI cJ cZ cC cG cP) 193 ad) (xA 193 ad)) 0 0 (xA 193 ad) := by
  refine xr_met rfl (Nat.le_of_ble_eq_true rfl) ?_
  intro p e s m args below meth c ls hx hb X hr hlk hl I
  have hl : lv_has ls 3 [(0, .ref (ad 183)), (1, .int (nI 0))] := hl
  have hss : ∀ q, q ≠ 187 → σ0 q = σ0 q := fun _ _ => rfl
  have hgf : ∀ a, a ≠ 4 → G a = G a := fun _ _ => rfl
  have hzs : ∀ w, w < 32 → Z w = Z w := fun _ _ => rfl
  have z110 : Z 110 = Z 110 := rfl
  have z111 : Z 111 = Z 111 := rfl
  have hH0 : ∀ t, bd (2 ^ 200) t → wH t (Z 111) (dgs 0) p0 := fun t ht => wH_of hd0 ht (bd_up (by decide) hgr) hb0
  have hH1 : ∀ t, bd (2 ^ 200) t → wH t (Z 111) (dgs 1) p1 := fun t ht => wH_of hd1 ht (bd_up (by decide) hgr) hb1
  have ht0 : bd (2 ^ 200) (Z 110) := bd_up (by decide) hpl
  have ht1 : bd (2 ^ 200) (Z 110 + 1) := bd_1 (by decide) hpl
  refine lv_aload_n hx hb d_SpectrumDeskModel_within_0 rfl (lv_at hl 0 rfl) ?_
  refine lv_bipush (v := nI 108) hx hb d_SpectrumDeskModel_within_1 (by decide) ?_
  refine lv_bipush (v := nI 110) hx hb d_SpectrumDeskModel_within_3 (by decide) ?_
  refine xr_callv (xr_runV (kc := 0) (kr := 5) (n := 2) (As := [.int (nI 108), .int (nI 110)]) (rest := []) X I (by decide) (r183 ..) rfl (c_SpectrumDeskModel_bigCopy (w := 108) (u := 110) mfs_ok (by decide) (by decide) (by decide) (hB 110 (by decide))) (xg k_b9c8150a19) (List.mem_cons_of_mem _ k_4f43ed96b8) (List.mem_cons_of_mem _ k_c9c9b5ab57) (List.mem_cons_of_mem _ k_5d491bf207) (List.mem_cons_of_mem _ k_30fa15c9ac) (by decide +kernel) (by decide) rfl hl.1 rfl (Nat.le_of_ble_eq_true rfl) d_SpectrumDeskModel_within_5) I (fun σ9 H locs hp I => ?_)
  obtain ⟨P1, L1, M1, rfl, hf, hx9⟩ := hp
  have hB1 := RB_up hB hf hx9
  clear hf hx9
  obtain ⟨Z1, eZ1⟩ : ∃ Y, Y = va_up Z 108 (Z 110) := ⟨_, rfl⟩
  rw [← eZ1] at hB1
  have hz1 : ∀ w, w < 32 → Z1 w = Z w := fun w hw => by rw [eZ1]; exact (va_up_ne _ _ (by omega)).trans (hzs w hw)
  have z108 : Z1 108 = Z 110 := by rw [eZ1, va_up_self]
  have z110 : Z1 110 = Z 110 := by rw [eZ1]; exact (va_up_ne _ _ (by decide)).trans z110
  have z111 : Z1 111 = Z 111 := by rw [eZ1]; exact (va_up_ne _ _ (by decide)).trans z111
  refine lv_aload_n hx hb d_SpectrumDeskModel_within_8 rfl (lv_at hl 0 rfl) ?_
  refine lv_bipush (v := nI 109) hx hb d_SpectrumDeskModel_within_9 (by decide) ?_
  refine lv_bipush (v := nI 111) hx hb d_SpectrumDeskModel_within_11 (by decide) ?_
  refine xr_callv (xr_runV (kc := 0) (kr := 5) (n := 2) (As := [.int (nI 109), .int (nI 111)]) (rest := []) X I (by decide) (r183 ..) rfl (c_SpectrumDeskModel_bigCopy (w := 109) (u := 111) mfs_ok (by decide) (by decide) (by decide) (hB1 111 (by decide))) (xg k_b9c8150a19) (List.mem_cons_of_mem _ k_4f43ed96b8) (List.mem_cons_of_mem _ k_c9c9b5ab57) (List.mem_cons_of_mem _ k_5d491bf207) (List.mem_cons_of_mem _ k_30fa15c9ac) (by decide +kernel) (by decide) rfl hl.1 rfl (Nat.le_of_ble_eq_true rfl) d_SpectrumDeskModel_within_13) I (fun σ9 H locs hp I => ?_)
  obtain ⟨P2, L2, M2, rfl, hf, hx9⟩ := hp
  have hB2 := RB_up hB1 hf hx9
  clear hf hx9
  obtain ⟨Z2, eZ2⟩ : ∃ Y, Y = va_up Z1 109 (Z1 111) := ⟨_, rfl⟩
  rw [← eZ2] at hB2
  have hz2 : ∀ w, w < 32 → Z2 w = Z w := fun w hw => by rw [eZ2]; exact (va_up_ne _ _ (by omega)).trans (hz1 w hw)
  have z109 : Z2 109 = Z 111 := by rw [eZ2, va_up_self]; exact z111
  have z110 : Z2 110 = Z 110 := by rw [eZ2]; exact (va_up_ne _ _ (by decide)).trans z110
  have z111 : Z2 111 = Z 111 := by rw [eZ2]; exact (va_up_ne _ _ (by decide)).trans z111
  have z108 : Z2 108 = Z 110 := by rw [eZ2]; exact (va_up_ne _ _ (by decide)).trans z108
  refine lv_aload_n hx hb d_SpectrumDeskModel_within_16 rfl (lv_at hl 0 rfl) ?_
  refine lv_iconst (v := nI 0) hx hb d_SpectrumDeskModel_within_17 (by decide) ?_
  refine xr_calli (xr_runV (kc := 4) (kr := 5) (n := 1) (As := [.int (nI 0)]) (rest := []) X I (by decide) (r183 ..) rfl (c_SpectrumDeskModel_lessThan (b := 0) hG hB2 (by decide) hd0 (hgq 0 (by decide)) (fun k hk => (hz2 (8 * 0 + k) (by omega)).trans (hp0 k hk)) (by rw [z108, z109]; exact hH0 _ ht0)) (xg k_28e184ee74) (List.mem_cons_of_mem _ k_3baecd7f24) (List.mem_cons_of_mem _ k_f6e6d76f54) (List.mem_cons_of_mem _ k_6a49491994) (List.mem_cons_of_mem _ k_30fa15c9ac) (by decide +kernel) (by decide) rfl hl.1 rfl (Nat.le_of_ble_eq_true rfl) d_SpectrumDeskModel_within_18) I (fun ra0 σ9 H locs hp I => ?_)
  obtain ⟨era0, hu⟩ := hp
  obtain ⟨s3, G3, P3, L3, M3, Z3, le3, eq3, rfl, hG3, hsa, hga, hB3, hza⟩ := wU_any hd0 hu
  rw [z108, z109] at era0
  have hs3 : ∀ q, q ≠ 187 → s3 q = σ0 q := fun q hq => (hsa q hq).trans (hss q hq)
  have hg3 : ∀ a, a ≠ 4 → G3 a = G a := fun a ha => (hga a ha).trans (hgf a ha)
  have hq3 : ∀ a, a < 2 → G3 a = nI (dgs a) := fun a ha => (hga a (by omega)).trans (hgq a ha)
  have hz3 : ∀ w, w < 32 → Z3 w = Z w := fun w hw => (hza w (by omega)).trans (hz2 w hw)
  have z110 : Z3 110 = Z 110 := (hza 110 (by decide)).trans z110
  have z111 : Z3 111 = Z 111 := (hza 111 (by decide)).trans z111
  have z108 : Z3 108 = Z 110 := (hza 108 (by decide)).trans z108
  have z109 : Z3 109 = Z 111 := (hza 109 (by decide)).trans z109
  clear hu hsa hga hza
  refine lv_iload_n hx hb d_SpectrumDeskModel_within_21 rfl (lv_at hl 1 rfl) ?_
  refine lv_iconst (v := nI 1) hx hb d_SpectrumDeskModel_within_22 (by decide) ?_
  refine lv_icmp_ne hx hb d_SpectrumDeskModel_within_23 rfl (fun hw1 => ?_) (fun hw1 => ?_)
  · refine lv_iconst (v := nI 0) hx hb d_SpectrumDeskModel_within_35 (by decide) ?_
    refine lv_isub hx hb d_SpectrumDeskModel_within_36 ?_
    refine lv_istore_n (lv' := [(2, .int (ra0 - (nI 0))), (0, .ref (ad 183)), (1, .int (nI 0))]) hx hb d_SpectrumDeskModel_within_37 rfl hl (by decide) rfl (fun ls hl => ?_)
    refine lv_aload_n hx hb d_SpectrumDeskModel_within_38 rfl (lv_at hl 1 rfl) ?_
    refine lv_bipush (v := nI 104) hx hb d_SpectrumDeskModel_within_39 (by decide) ?_
    refine lv_lconst (v := 1) hx hb d_SpectrumDeskModel_within_41 (by decide) ?_
    refine xr_callv (xr_runV (kc := 0) (kr := 5) (n := 2) (As := [.int (nI 104), .long 1]) (rest := []) X I (by decide) (r183 ..) rfl (c_SpectrumDeskModel_bigSet (w := 104) (v := 1) mfs_ok (by decide)) (xg k_5f300b8d49) (List.mem_cons_of_mem _ k_7a89662665) (List.mem_cons_of_mem _ k_203da126f2) (List.mem_cons_of_mem _ k_e2b6114fa3) (List.mem_cons_of_mem _ k_30fa15c9ac) (by decide +kernel) (by decide) rfl hl.1 rfl (Nat.le_of_ble_eq_true rfl) d_SpectrumDeskModel_within_42) I (fun σ9 H locs hp I => ?_)
    obtain ⟨P4, L4, M4, rfl, hf, hx9⟩ := hp
    have hB4 := RB_up hB3 hf hx9
    clear hf hx9
    obtain ⟨Z4, eZ4⟩ : ∃ Y, Y = va_up Z3 104 ((1 : Int64).toInt) := ⟨_, rfl⟩
    rw [← eZ4] at hB4
    have hz4 : ∀ w, w < 32 → Z4 w = Z w := fun w hw => by rw [eZ4]; exact (va_up_ne _ _ (by omega)).trans (hz3 w hw)
    have z104 : Z4 104 = 1 := by rw [eZ4, va_up_self]; decide
    have z110 : Z4 110 = Z 110 := by rw [eZ4]; exact (va_up_ne _ _ (by decide)).trans z110
    have z111 : Z4 111 = Z 111 := by rw [eZ4]; exact (va_up_ne _ _ (by decide)).trans z111
    have z108 : Z4 108 = Z 110 := by rw [eZ4]; exact (va_up_ne _ _ (by decide)).trans z108
    have z109 : Z4 109 = Z 111 := by rw [eZ4]; exact (va_up_ne _ _ (by decide)).trans z109
    refine lv_aload_n hx hb d_SpectrumDeskModel_within_45 rfl (lv_at hl 1 rfl) ?_
    refine lv_bipush (v := nI 108) hx hb d_SpectrumDeskModel_within_46 (by decide) ?_
    refine lv_bipush (v := nI 104) hx hb d_SpectrumDeskModel_within_48 (by decide) ?_
    refine lv_iconst (v := nI 0) hx hb d_SpectrumDeskModel_within_50 (by decide) ?_
    refine xr_callv (xr_runV (kc := 2) (kr := 5) (n := 3) (As := [.int (nI 108), .int (nI 104), .int (nI 0)]) (rest := []) X I (by decide) (r183 ..) rfl (c_SpectrumDeskModel_bigAdd0 (w := 108) (u := 104) mfs_ok (by decide) (by decide) (by decide) (hB4 108 (by decide)) (hB4 104 (by decide)) (by rw [z108]; exact sm_rbd (sm_of (by decide) ht0)) (by rw [z104]; exact sm_rbd sm_1)) (xg k_dd45f20b23) (List.mem_cons_of_mem _ k_1f49c5cd66) (List.mem_cons_of_mem _ k_a10028f3d7) (List.mem_cons_of_mem _ k_758e0597f6) (List.mem_cons_of_mem _ k_30fa15c9ac) (by decide +kernel) (by decide) rfl hl.1 rfl (Nat.le_of_ble_eq_true rfl) d_SpectrumDeskModel_within_51) I (fun σ9 H locs hp I => ?_)
    obtain ⟨P5, L5, M5, rfl, hf, hx9⟩ := hp
    have hB5 := RB_up hB4 hf hx9
    clear hf hx9
    obtain ⟨Z5, eZ5⟩ : ∃ Y, Y = va_up Z4 108 (Z4 108 + Z4 104) := ⟨_, rfl⟩
    rw [← eZ5] at hB5
    have hz5 : ∀ w, w < 32 → Z5 w = Z w := fun w hw => by rw [eZ5]; exact (va_up_ne _ _ (by omega)).trans (hz4 w hw)
    have z108b : Z5 108 = Z 110 + 1 := by rw [eZ5, va_up_self, z108, z104]
    have z110 : Z5 110 = Z 110 := by rw [eZ5]; exact (va_up_ne _ _ (by decide)).trans z110
    have z111 : Z5 111 = Z 111 := by rw [eZ5]; exact (va_up_ne _ _ (by decide)).trans z111
    have z109 : Z5 109 = Z 111 := by rw [eZ5]; exact (va_up_ne _ _ (by decide)).trans z109
    have z108 := z108b
    refine lv_aload_n hx hb d_SpectrumDeskModel_within_54 rfl (lv_at hl 1 rfl) ?_
    refine lv_iconst (v := nI 0) hx hb d_SpectrumDeskModel_within_55 (by decide) ?_
    refine xr_calli (xr_runV (kc := 4) (kr := 5) (n := 1) (As := [.int (nI 0)]) (rest := []) X I (by decide) (r183 ..) rfl (c_SpectrumDeskModel_lessThan (b := 0) hG3 hB5 (by decide) hd0 (hq3 0 (by decide)) (fun k hk => (hz5 (8 * 0 + k) (by omega)).trans (hp0 k hk)) (by rw [z108, z109]; exact hH0 _ ht1)) (xg k_28e184ee74) (List.mem_cons_of_mem _ k_3baecd7f24) (List.mem_cons_of_mem _ k_f6e6d76f54) (List.mem_cons_of_mem _ k_6a49491994) (List.mem_cons_of_mem _ k_30fa15c9ac) (by decide +kernel) (by decide) rfl hl.1 rfl (Nat.le_of_ble_eq_true rfl) d_SpectrumDeskModel_within_56) I (fun rb0 σ9 H locs hp I => ?_)
    obtain ⟨erb0, hu⟩ := hp
    obtain ⟨s6, G6, P6, L6, M6, Z6, le6, eq6, rfl, hG6, hsa, hga, hB6, hza⟩ := wU_any hd0 hu
    rw [z108, z109] at erb0
    have hs6 : ∀ q, q ≠ 187 → s6 q = σ0 q := fun q hq => (hsa q hq).trans (hs3 q hq)
    have hg6 : ∀ a, a ≠ 4 → G6 a = G a := fun a ha => (hga a ha).trans (hg3 a ha)
    have hq6 : ∀ a, a < 2 → G6 a = nI (dgs a) := fun a ha => (hga a (by omega)).trans (hq3 a ha)
    have hz6 : ∀ w, w < 32 → Z6 w = Z w := fun w hw => (hza w (by omega)).trans (hz5 w hw)
    have z110 : Z6 110 = Z 110 := (hza 110 (by decide)).trans z110
    have z111 : Z6 111 = Z 111 := (hza 111 (by decide)).trans z111
    have z109 : Z6 109 = Z 111 := (hza 109 (by decide)).trans z109
    have z108 : Z6 108 = Z 110 + 1 := (hza 108 (by decide)).trans z108
    clear hu hsa hga hza
    refine lv_iload_n hx hb d_SpectrumDeskModel_within_59 rfl (lv_at hl 2 rfl) ?_
    refine lv_iconst (v := nI 1) hx hb d_SpectrumDeskModel_within_60 (by decide) ?_
    refine lv_icmp_ne hx hb d_SpectrumDeskModel_within_61 rfl (fun hw2 => ?_) (fun hw2 => ?_)
    · refine lv_iconst (v := nI 0) hx hb d_SpectrumDeskModel_within_73 (by decide) ?_
      refine lv_isub hx hb d_SpectrumDeskModel_within_74 ?_
      refine lv_iload_n hx hb d_SpectrumDeskModel_within_75 rfl (lv_at hl 0 rfl) ?_
      refine lv_isub hx hb d_SpectrumDeskModel_within_76 ?_
      exact xr_iret X I hr hlk ⟨by rw [era0, erb0]; rfl, s6, G6, P6, L6, M6, Z6, le6, eq6, rfl, hG6, hs6, hg6, hB6, fun w hw => by rcases hw with h | rfl | rfl; exact hz6 w h; exact z110; exact z111⟩ d_SpectrumDeskModel_within_77
    · exact absurd hw2 (by decide)
  · exact absurd hw1 (by decide)
set_option maxHeartbeats 4000000 in
set_option maxRecDepth 100000 in
theorem c_SpectrumDeskModel_halve {l : Launch} {D : va_G} {cI cJ cZ cC cG cP : ClassId} {ad : Nat → Nat} {σ0 : Nat → va_E} {th nn rws ps le eq : Int32} {P L M G : Nat → Int32} {Z : Nat → Int} (hG : σ0 187 = .inl (cI, 5, .inl G)) (hB : RB P L M Z) {dd : Nat} {p0 : Nat → Int} {i : Int32} (hd0 : dd ≤ 6) (hG0 : G 0 = nI dd) (hp0 : ∀ k, k ≤ dd → Z k = p0 k) (hb0 : ∀ k, k ≤ dd → bd (2 ^ 900) (p0 k)) (hpl : bd (2 ^ 190) (Z 110)) (hgr : bd (2 ^ 190) (Z 111)) :
    Met l y_SpectrumDeskModel_halve v_SpectrumDeskModel_halve (xrm 6) (va_Pc [.ref (ad 183), .int i] (xS D classes (xT cI cJ cZ cC cG cP) 193 ad (rw3 σ0 ciM cI cZ (mfs ad th nn rws ps le eq) P L M))) (va_Qv (mH σ0 cI cZ ad th nn rws ps G Z (if wL (Z 110 + Z 110 + 1) (Z 111 + Z 111) dd p0 ≤ i then Z 110 + Z 110 + 1 else Z 110 + Z 110) (Z 111 + Z 111)) (xS D classes (xT cI cJ cZ cC cG cP) 193 ad) (xA 193 ad)) 0 0 (xA 193 ad) := by
  refine xr_met rfl (Nat.le_of_ble_eq_true rfl) ?_
  intro p e s m args below meth c ls hx hb X hr hlk hl I
  have hl : lv_has ls 2 [(0, .ref (ad 183)), (1, .int i)] := hl
  have hzs : ∀ w, w < 32 → Z w = Z w := fun _ _ => rfl
  have z110 : Z 110 = Z 110 := rfl
  have z111 : Z 111 = Z 111 := rfl
  have r0 : rbd (Z 110) := sm_rbd (sm_of (by decide) hpl)
  have r1 : rbd (Z 111) := sm_rbd (sm_of (by decide) hgr)
  have b0 := bd_2 hpl
  have b1 := bd_2 hgr
  have b2 : bd (2 ^ 200) (Z 110 + Z 110 + 1) := bd_1 (by decide) b0
  refine lv_aload_n hx hb d_SpectrumDeskModel_halve_0 rfl (lv_at hl 0 rfl) ?_
  refine lv_bipush (v := nI 106) hx hb d_SpectrumDeskModel_halve_1 (by decide) ?_
  refine lv_bipush (v := nI 110) hx hb d_SpectrumDeskModel_halve_3 (by decide) ?_
  refine xr_callv (xr_runV (kc := 0) (kr := 6) (n := 2) (As := [.int (nI 106), .int (nI 110)]) (rest := []) X I (by decide) (r183 ..) rfl (c_SpectrumDeskModel_bigCopy (w := 106) (u := 110) mfs_ok (by decide) (by decide) (by decide) (hB 110 (by decide))) (xg k_b9c8150a19) (List.mem_cons_of_mem _ k_4f43ed96b8) (List.mem_cons_of_mem _ k_c9c9b5ab57) (List.mem_cons_of_mem _ k_5d491bf207) (List.mem_cons_of_mem _ k_30fa15c9ac) (by decide +kernel) (by decide) rfl hl.1 rfl (Nat.le_of_ble_eq_true rfl) d_SpectrumDeskModel_halve_5) I (fun σ9 H locs hp I => ?_)
  obtain ⟨P1, L1, M1, rfl, hf, hx9⟩ := hp
  have hB1 := RB_up hB hf hx9
  clear hf hx9
  obtain ⟨Z1, eZ1⟩ : ∃ Y, Y = va_up Z 106 (Z 110) := ⟨_, rfl⟩
  rw [← eZ1] at hB1
  have hz1 : ∀ w, w < 32 → Z1 w = Z w := fun w hw => by rw [eZ1]; exact (va_up_ne _ _ (by omega)).trans (hzs w hw)
  have y106 : Z1 106 = Z 110 := by rw [eZ1]; exact (va_up_self _ _ _).trans z110
  have z110 : Z1 110 = Z 110 := by rw [eZ1]; exact (va_up_ne _ _ (by decide)).trans z110
  have z111 : Z1 111 = Z 111 := by rw [eZ1]; exact (va_up_ne _ _ (by decide)).trans z111
  have z106 := y106
  refine lv_aload_n hx hb d_SpectrumDeskModel_halve_8 rfl (lv_at hl 0 rfl) ?_
  refine lv_bipush (v := nI 110) hx hb d_SpectrumDeskModel_halve_9 (by decide) ?_
  refine lv_bipush (v := nI 106) hx hb d_SpectrumDeskModel_halve_11 (by decide) ?_
  refine lv_iconst (v := nI 0) hx hb d_SpectrumDeskModel_halve_13 (by decide) ?_
  refine xr_callv (xr_runV (kc := 2) (kr := 6) (n := 3) (As := [.int (nI 110), .int (nI 106), .int (nI 0)]) (rest := []) X I (by decide) (r183 ..) rfl (c_SpectrumDeskModel_bigAdd0 (w := 110) (u := 106) mfs_ok (by decide) (by decide) (by decide) (hB1 110 (by decide)) (hB1 106 (by decide)) (by rw [z110]; exact r0) (by rw [z106]; exact r0)) (xg k_dd45f20b23) (List.mem_cons_of_mem _ k_1f49c5cd66) (List.mem_cons_of_mem _ k_a10028f3d7) (List.mem_cons_of_mem _ k_758e0597f6) (List.mem_cons_of_mem _ k_30fa15c9ac) (by decide +kernel) (by decide) rfl hl.1 rfl (Nat.le_of_ble_eq_true rfl) d_SpectrumDeskModel_halve_14) I (fun σ9 H locs hp I => ?_)
  obtain ⟨P2, L2, M2, rfl, hf, hx9⟩ := hp
  have hB2 := RB_up hB1 hf hx9
  clear hf hx9
  obtain ⟨Z2, eZ2⟩ : ∃ Y, Y = va_up Z1 110 (Z1 110 + Z1 106) := ⟨_, rfl⟩
  rw [← eZ2] at hB2
  have hz2 : ∀ w, w < 32 → Z2 w = Z w := fun w hw => by rw [eZ2]; exact (va_up_ne _ _ (by omega)).trans (hz1 w hw)
  have y110 : Z2 110 = Z 110 + Z 110 := by rw [eZ2, va_up_self, z110, z106]
  have z111 : Z2 111 = Z 111 := by rw [eZ2]; exact (va_up_ne _ _ (by decide)).trans z111
  have z106 : Z2 106 = Z 110 := by rw [eZ2]; exact (va_up_ne _ _ (by decide)).trans z106
  have z110 := y110
  refine lv_aload_n hx hb d_SpectrumDeskModel_halve_17 rfl (lv_at hl 0 rfl) ?_
  refine lv_bipush (v := nI 106) hx hb d_SpectrumDeskModel_halve_18 (by decide) ?_
  refine lv_bipush (v := nI 111) hx hb d_SpectrumDeskModel_halve_20 (by decide) ?_
  refine xr_callv (xr_runV (kc := 0) (kr := 6) (n := 2) (As := [.int (nI 106), .int (nI 111)]) (rest := []) X I (by decide) (r183 ..) rfl (c_SpectrumDeskModel_bigCopy (w := 106) (u := 111) mfs_ok (by decide) (by decide) (by decide) (hB2 111 (by decide))) (xg k_b9c8150a19) (List.mem_cons_of_mem _ k_4f43ed96b8) (List.mem_cons_of_mem _ k_c9c9b5ab57) (List.mem_cons_of_mem _ k_5d491bf207) (List.mem_cons_of_mem _ k_30fa15c9ac) (by decide +kernel) (by decide) rfl hl.1 rfl (Nat.le_of_ble_eq_true rfl) d_SpectrumDeskModel_halve_22) I (fun σ9 H locs hp I => ?_)
  obtain ⟨P3, L3, M3, rfl, hf, hx9⟩ := hp
  have hB3 := RB_up hB2 hf hx9
  clear hf hx9
  obtain ⟨Z3, eZ3⟩ : ∃ Y, Y = va_up Z2 106 (Z2 111) := ⟨_, rfl⟩
  rw [← eZ3] at hB3
  have hz3 : ∀ w, w < 32 → Z3 w = Z w := fun w hw => by rw [eZ3]; exact (va_up_ne _ _ (by omega)).trans (hz2 w hw)
  have y106 : Z3 106 = Z 111 := by rw [eZ3]; exact (va_up_self _ _ _).trans z111
  have z111 : Z3 111 = Z 111 := by rw [eZ3]; exact (va_up_ne _ _ (by decide)).trans z111
  have z110 : Z3 110 = Z 110 + Z 110 := by rw [eZ3]; exact (va_up_ne _ _ (by decide)).trans z110
  have z106 := y106
  refine lv_aload_n hx hb d_SpectrumDeskModel_halve_25 rfl (lv_at hl 0 rfl) ?_
  refine lv_bipush (v := nI 111) hx hb d_SpectrumDeskModel_halve_26 (by decide) ?_
  refine lv_bipush (v := nI 106) hx hb d_SpectrumDeskModel_halve_28 (by decide) ?_
  refine lv_iconst (v := nI 0) hx hb d_SpectrumDeskModel_halve_30 (by decide) ?_
  refine xr_callv (xr_runV (kc := 2) (kr := 6) (n := 3) (As := [.int (nI 111), .int (nI 106), .int (nI 0)]) (rest := []) X I (by decide) (r183 ..) rfl (c_SpectrumDeskModel_bigAdd0 (w := 111) (u := 106) mfs_ok (by decide) (by decide) (by decide) (hB3 111 (by decide)) (hB3 106 (by decide)) (by rw [z111]; exact r1) (by rw [z106]; exact r1)) (xg k_dd45f20b23) (List.mem_cons_of_mem _ k_1f49c5cd66) (List.mem_cons_of_mem _ k_a10028f3d7) (List.mem_cons_of_mem _ k_758e0597f6) (List.mem_cons_of_mem _ k_30fa15c9ac) (by decide +kernel) (by decide) rfl hl.1 rfl (Nat.le_of_ble_eq_true rfl) d_SpectrumDeskModel_halve_31) I (fun σ9 H locs hp I => ?_)
  obtain ⟨P4, L4, M4, rfl, hf, hx9⟩ := hp
  have hB4 := RB_up hB3 hf hx9
  clear hf hx9
  obtain ⟨Z4, eZ4⟩ : ∃ Y, Y = va_up Z3 111 (Z3 111 + Z3 106) := ⟨_, rfl⟩
  rw [← eZ4] at hB4
  have hz4 : ∀ w, w < 32 → Z4 w = Z w := fun w hw => by rw [eZ4]; exact (va_up_ne _ _ (by omega)).trans (hz3 w hw)
  have y111 : Z4 111 = Z 111 + Z 111 := by rw [eZ4, va_up_self, z111, z106]
  have z110 : Z4 110 = Z 110 + Z 110 := by rw [eZ4]; exact (va_up_ne _ _ (by decide)).trans z110
  have z106 : Z4 106 = Z 111 := by rw [eZ4]; exact (va_up_ne _ _ (by decide)).trans z106
  have z111 := y111
  refine lv_aload_n hx hb d_SpectrumDeskModel_halve_34 rfl (lv_at hl 0 rfl) ?_
  refine lv_bipush (v := nI 108) hx hb d_SpectrumDeskModel_halve_35 (by decide) ?_
  refine lv_bipush (v := nI 110) hx hb d_SpectrumDeskModel_halve_37 (by decide) ?_
  refine xr_callv (xr_runV (kc := 0) (kr := 6) (n := 2) (As := [.int (nI 108), .int (nI 110)]) (rest := []) X I (by decide) (r183 ..) rfl (c_SpectrumDeskModel_bigCopy (w := 108) (u := 110) mfs_ok (by decide) (by decide) (by decide) (hB4 110 (by decide))) (xg k_b9c8150a19) (List.mem_cons_of_mem _ k_4f43ed96b8) (List.mem_cons_of_mem _ k_c9c9b5ab57) (List.mem_cons_of_mem _ k_5d491bf207) (List.mem_cons_of_mem _ k_30fa15c9ac) (by decide +kernel) (by decide) rfl hl.1 rfl (Nat.le_of_ble_eq_true rfl) d_SpectrumDeskModel_halve_39) I (fun σ9 H locs hp I => ?_)
  obtain ⟨P5, L5, M5, rfl, hf, hx9⟩ := hp
  have hB5 := RB_up hB4 hf hx9
  clear hf hx9
  obtain ⟨Z5, eZ5⟩ : ∃ Y, Y = va_up Z4 108 (Z4 110) := ⟨_, rfl⟩
  rw [← eZ5] at hB5
  have hz5 : ∀ w, w < 32 → Z5 w = Z w := fun w hw => by rw [eZ5]; exact (va_up_ne _ _ (by omega)).trans (hz4 w hw)
  have y108 : Z5 108 = Z 110 + Z 110 := by rw [eZ5]; exact (va_up_self _ _ _).trans z110
  have z110 : Z5 110 = Z 110 + Z 110 := by rw [eZ5]; exact (va_up_ne _ _ (by decide)).trans z110
  have z111 : Z5 111 = Z 111 + Z 111 := by rw [eZ5]; exact (va_up_ne _ _ (by decide)).trans z111
  have z108 := y108
  refine lv_aload_n hx hb d_SpectrumDeskModel_halve_42 rfl (lv_at hl 0 rfl) ?_
  refine lv_bipush (v := nI 104) hx hb d_SpectrumDeskModel_halve_43 (by decide) ?_
  refine lv_lconst (v := 1) hx hb d_SpectrumDeskModel_halve_45 (by decide) ?_
  refine xr_callv (xr_runV (kc := 0) (kr := 6) (n := 2) (As := [.int (nI 104), .long 1]) (rest := []) X I (by decide) (r183 ..) rfl (c_SpectrumDeskModel_bigSet (w := 104) (v := 1) mfs_ok (by decide)) (xg k_5f300b8d49) (List.mem_cons_of_mem _ k_7a89662665) (List.mem_cons_of_mem _ k_203da126f2) (List.mem_cons_of_mem _ k_e2b6114fa3) (List.mem_cons_of_mem _ k_30fa15c9ac) (by decide +kernel) (by decide) rfl hl.1 rfl (Nat.le_of_ble_eq_true rfl) d_SpectrumDeskModel_halve_46) I (fun σ9 H locs hp I => ?_)
  obtain ⟨P6, L6, M6, rfl, hf, hx9⟩ := hp
  have hB6 := RB_up hB5 hf hx9
  clear hf hx9
  obtain ⟨Z6, eZ6⟩ : ∃ Y, Y = va_up Z5 104 ((1 : Int64).toInt) := ⟨_, rfl⟩
  rw [← eZ6] at hB6
  have hz6 : ∀ w, w < 32 → Z6 w = Z w := fun w hw => by rw [eZ6]; exact (va_up_ne _ _ (by omega)).trans (hz5 w hw)
  have z104 : Z6 104 = 1 := by rw [eZ6, va_up_self]; decide
  have z110 : Z6 110 = Z 110 + Z 110 := by rw [eZ6]; exact (va_up_ne _ _ (by decide)).trans z110
  have z111 : Z6 111 = Z 111 + Z 111 := by rw [eZ6]; exact (va_up_ne _ _ (by decide)).trans z111
  have z108 : Z6 108 = Z 110 + Z 110 := by rw [eZ6]; exact (va_up_ne _ _ (by decide)).trans z108
  refine lv_aload_n hx hb d_SpectrumDeskModel_halve_49 rfl (lv_at hl 0 rfl) ?_
  refine lv_bipush (v := nI 108) hx hb d_SpectrumDeskModel_halve_50 (by decide) ?_
  refine lv_bipush (v := nI 104) hx hb d_SpectrumDeskModel_halve_52 (by decide) ?_
  refine lv_iconst (v := nI 0) hx hb d_SpectrumDeskModel_halve_54 (by decide) ?_
  refine xr_callv (xr_runV (kc := 2) (kr := 6) (n := 3) (As := [.int (nI 108), .int (nI 104), .int (nI 0)]) (rest := []) X I (by decide) (r183 ..) rfl (c_SpectrumDeskModel_bigAdd0 (w := 108) (u := 104) mfs_ok (by decide) (by decide) (by decide) (hB6 108 (by decide)) (hB6 104 (by decide)) (by rw [z108]; exact (sm_rbd (sm_of (by decide) b0))) (by rw [z104]; exact (sm_rbd sm_1))) (xg k_dd45f20b23) (List.mem_cons_of_mem _ k_1f49c5cd66) (List.mem_cons_of_mem _ k_a10028f3d7) (List.mem_cons_of_mem _ k_758e0597f6) (List.mem_cons_of_mem _ k_30fa15c9ac) (by decide +kernel) (by decide) rfl hl.1 rfl (Nat.le_of_ble_eq_true rfl) d_SpectrumDeskModel_halve_55) I (fun σ9 H locs hp I => ?_)
  obtain ⟨P7, L7, M7, rfl, hf, hx9⟩ := hp
  have hB7 := RB_up hB6 hf hx9
  clear hf hx9
  obtain ⟨Z7, eZ7⟩ : ∃ Y, Y = va_up Z6 108 (Z6 108 + Z6 104) := ⟨_, rfl⟩
  rw [← eZ7] at hB7
  have hz7 : ∀ w, w < 32 → Z7 w = Z w := fun w hw => by rw [eZ7]; exact (va_up_ne _ _ (by omega)).trans (hz6 w hw)
  have y108 : Z7 108 = Z 110 + Z 110 + 1 := by rw [eZ7, va_up_self, z108, z104]
  have z110 : Z7 110 = Z 110 + Z 110 := by rw [eZ7]; exact (va_up_ne _ _ (by decide)).trans z110
  have z111 : Z7 111 = Z 111 + Z 111 := by rw [eZ7]; exact (va_up_ne _ _ (by decide)).trans z111
  have z104 : Z7 104 = 1 := by rw [eZ7]; exact (va_up_ne _ _ (by decide)).trans z104
  have z108 := y108
  refine lv_aload_n hx hb d_SpectrumDeskModel_halve_58 rfl (lv_at hl 0 rfl) ?_
  refine lv_bipush (v := nI 109) hx hb d_SpectrumDeskModel_halve_59 (by decide) ?_
  refine lv_bipush (v := nI 111) hx hb d_SpectrumDeskModel_halve_61 (by decide) ?_
  refine xr_callv (xr_runV (kc := 0) (kr := 6) (n := 2) (As := [.int (nI 109), .int (nI 111)]) (rest := []) X I (by decide) (r183 ..) rfl (c_SpectrumDeskModel_bigCopy (w := 109) (u := 111) mfs_ok (by decide) (by decide) (by decide) (hB7 111 (by decide))) (xg k_b9c8150a19) (List.mem_cons_of_mem _ k_4f43ed96b8) (List.mem_cons_of_mem _ k_c9c9b5ab57) (List.mem_cons_of_mem _ k_5d491bf207) (List.mem_cons_of_mem _ k_30fa15c9ac) (by decide +kernel) (by decide) rfl hl.1 rfl (Nat.le_of_ble_eq_true rfl) d_SpectrumDeskModel_halve_63) I (fun σ9 H locs hp I => ?_)
  obtain ⟨P8, L8, M8, rfl, hf, hx9⟩ := hp
  have hB8 := RB_up hB7 hf hx9
  clear hf hx9
  obtain ⟨Z8, eZ8⟩ : ∃ Y, Y = va_up Z7 109 (Z7 111) := ⟨_, rfl⟩
  rw [← eZ8] at hB8
  have hz8 : ∀ w, w < 32 → Z8 w = Z w := fun w hw => by rw [eZ8]; exact (va_up_ne _ _ (by omega)).trans (hz7 w hw)
  have y109 : Z8 109 = Z 111 + Z 111 := by rw [eZ8]; exact (va_up_self _ _ _).trans z111
  have z110 : Z8 110 = Z 110 + Z 110 := by rw [eZ8]; exact (va_up_ne _ _ (by decide)).trans z110
  have z111 : Z8 111 = Z 111 + Z 111 := by rw [eZ8]; exact (va_up_ne _ _ (by decide)).trans z111
  have z108 : Z8 108 = Z 110 + Z 110 + 1 := by rw [eZ8]; exact (va_up_ne _ _ (by decide)).trans z108
  have z109 := y109
  refine lv_aload_n hx hb d_SpectrumDeskModel_halve_66 rfl (lv_at hl 0 rfl) ?_
  refine lv_iload_n hx hb d_SpectrumDeskModel_halve_67 rfl (lv_at hl 1 rfl) ?_
  refine xr_calli (xr_runV (kc := 5) (kr := 6) (n := 1) (As := [.int i]) (rest := []) X I (by decide) (r183 ..) rfl (c_SpectrumDeskModel_isAtLeast (i := i) (p0 := p0) hG hB8 hd0 hG0 (fun k hk => (hz8 k (by omega)).trans (hp0 k hk)) (by rw [z108, z109]; exact wH_of hd0 b2 (bd_up (by decide) b1) hb0)) (xg k_b12ea24c8e) (List.mem_cons_of_mem _ k_06b9e39d42) (List.mem_cons_of_mem _ k_36b5ef1bbf) (List.mem_cons_of_mem _ k_abacde11fd) (List.mem_cons_of_mem _ k_30fa15c9ac) (by decide +kernel) (by decide) rfl hl.1 rfl (Nat.le_of_ble_eq_true rfl) d_SpectrumDeskModel_halve_68) I (fun r1 σ9 H locs hp I => ?_)
  obtain ⟨er, hu⟩ := hp
  obtain ⟨s9, G9, P9, L9, M9, Z9, le9, eq9, rfl, hG9, hs9, hg9, hB9, hza⟩ := wU_any hd0 hu
  rw [z108, z109] at er
  have hz9 : ∀ w, w < 32 → Z9 w = Z w := fun w hw => (hza w (by omega)).trans (hz8 w hw)
  have z108 : Z9 108 = Z 110 + Z 110 + 1 := (hza 108 (by decide)).trans z108
  have z110 : Z9 110 = Z 110 + Z 110 := (hza 110 (by decide)).trans z110
  have z111 : Z9 111 = Z 111 + Z 111 := (hza 111 (by decide)).trans z111
  refine lv_if_eq hx hb d_SpectrumDeskModel_halve_71 rfl (fun hd => ?_) (fun hd => ?_)
  · have hn : ¬ wL (Z 110 + Z 110 + 1) (Z 111 + Z 111) dd p0 ≤ i := fun h => by rw [er, if_pos h] at hd; exact absurd hd (by decide)
    exact xr_vret X I hr hlk ⟨s9, G9, P9, L9, M9, Z9, le9, eq9, rfl, hG9, hs9, hg9, hB9, hz9, by rw [if_neg hn]; exact z110, z111⟩ d_SpectrumDeskModel_halve_82
  · have hn : wL (Z 110 + Z 110 + 1) (Z 111 + Z 111) dd p0 ≤ i := Decidable.byContradiction fun h => by rw [er, if_neg h] at hd; exact absurd rfl hd
    refine lv_aload_n hx hb d_SpectrumDeskModel_halve_74 rfl (lv_at hl 0 rfl) ?_
    refine lv_bipush (v := nI 110) hx hb d_SpectrumDeskModel_halve_75 (by decide) ?_
    refine lv_bipush (v := nI 108) hx hb d_SpectrumDeskModel_halve_77 (by decide) ?_
    refine xr_callv (xr_runV (kc := 0) (kr := 6) (n := 2) (As := [.int (nI 110), .int (nI 108)]) (rest := []) X I (by decide) (r183 ..) rfl (c_SpectrumDeskModel_bigCopy (w := 110) (u := 108) mfs_ok (by decide) (by decide) (by decide) (hB9 108 (by decide))) (xg k_b9c8150a19) (List.mem_cons_of_mem _ k_4f43ed96b8) (List.mem_cons_of_mem _ k_c9c9b5ab57) (List.mem_cons_of_mem _ k_5d491bf207) (List.mem_cons_of_mem _ k_30fa15c9ac) (by decide +kernel) (by decide) rfl hl.1 rfl (Nat.le_of_ble_eq_true rfl) d_SpectrumDeskModel_halve_79) I (fun σ9 H locs hp I => ?_)
    obtain ⟨Pa, La, Ma, rfl, hf, hx9⟩ := hp
    have hBa := RB_up hB9 hf hx9
    exact xr_vret X I hr hlk ⟨s9, G9, Pa, La, Ma, _, le9, eq9, rfl, hG9, hs9, hg9, hBa, fun w hw => (va_up_ne _ _ (by omega)).trans (hz9 w hw), by rw [if_pos hn, va_up_self]; exact z108, (va_up_ne _ _ (by decide)).trans z111⟩ d_SpectrumDeskModel_halve_82
end
section
/-! the reference's minors, as it works them out -/
def pcn (s : Nat) : Nat → Nat
  | 0 => 0
  | k + 1 => pcn s k + s / 2 ^ k % 2
def plF (set sz : Nat) : Nat → Nat × Nat
  | 0 => (0, 0)
  | i + 1 => if set / 2 ^ i % 2 = 1 then (if (plF set sz i).2 + 1 = sz then i else (plF set sz i).1, (plF set sz i).2 + 1) else plF set sz i
def inF (A : Nat → Nat → Int) (part sz col : Nat) (prev : Nat → Int) : Nat → Int × Nat
  | 0 => (if sz = 0 then 1 else 0, 0)
  | i + 1 => if part / 2 ^ i % 2 = 1 then (if ((inF A part sz col prev i).2 + sz - 1) % 2 = 1 then (inF A part sz col prev i).1 - A i col * prev (part - 2 ^ i) else (inF A part sz col prev i).1 + A i col * prev (part - 2 ^ i), (inF A part sz col prev i).2 + 1) else inF A part sz col prev i
def mnF (A : Nat → Nat → Int) (set : Nat) : Nat → Nat → Int
  | 0, part => (inF A part 0 (plF set 0 6).1 (fun _ => 0) 6).1
  | s + 1, part => (inF A part (s + 1) (plF set (s + 1) 6).1 (mnF A set s) 6).1
def mn (A : Nat → Nat → Int) (set part : Nat) : Int := mnF A set (pcn part 6) part
def chF (A : Nat → Nat → Int) (k : Nat) : Nat → Nat → Int
  | 0 => fun _ => 0
  | set + 1 => va_up (chF A k set) (k - pcn set 6) (if pcn set 6 % 2 = 1 then chF A k set (k - pcn set 6) - mn A set set else chF A k set (k - pcn set 6) + mn A set set)
theorem pcn_le {s : Nat} : ∀ k, pcn s k ≤ k
  | 0 => Nat.le_refl _
  | k + 1 => by
    have := pcn_le (s := s) k
    rw [pcn]
    omega
theorem pl_lt {set sz : Nat} : ∀ i, i ≤ 6 → (plF set sz i).1 < 6 ∧ (plF set sz i).2 ≤ i
  | 0, _ => by simp [plF]
  | i + 1, h => by
    have := pl_lt (set := set) (sz := sz) i (by omega)
    simp only [plF]
    split
    · constructor
      · split <;> simp <;> omega
      · simp; omega
    · omega
theorem mb_clear : ∀ p, p < 64 → ∀ i, i < 6 → p / 2 ^ i % 2 = 1 → (nI p &&& ((nI 1 <<< (nI i &&& 31)) ^^^ (-1))) = nI (p - 2 ^ i) := by decide +kernel
theorem mb_and : ∀ p, p < 64 → ∀ s, s < 64 → (nI p &&& nI s) = nI (p &&& s) := by decide +kernel
theorem mb_bit : ∀ p, p < 64 → ∀ i, i < 6 → ((nI p >>> (nI i &&& 31)) &&& nI 1) = nI (p / 2 ^ i % 2) := by decide +kernel
theorem mb_one : ∀ k, k ≤ 6 → (nI 1 <<< (nI k &&& 31)) = nI (2 ^ k) := by decide +kernel
/-- a member taken out: one fewer, and still among them -/
theorem mb_sub : ∀ p, p < 64 → ∀ i, i < 6 → p / 2 ^ i % 2 = 1 → pcn (p - 2 ^ i) 6 + 1 = pcn p 6 ∧ p - 2 ^ i < p ∧ 2 ^ i ≤ p := by decide +kernel
theorem mb_in : ∀ s, s < 64 → ∀ p, p < 64 → ∀ i, i < 6 → p / 2 ^ i % 2 = 1 → p &&& s = p → (p - 2 ^ i) &&& s = p - 2 ^ i := by decide +kernel
theorem mb_self : ∀ s, s < 64 → s &&& s = s := by decide +kernel
theorem mb_sz : ∀ k, k ≤ 6 → ∀ s, s < 2 ^ k → pcn s 6 ≤ k ∧ s < 64 := by decide +kernel
/-- sizes -/
theorem inF_bd {A : Nat → Nat → Int} {part sz col : Nat} {prev : Nat → Int} {u : Int} (hu : 1 ≤ u) (hA : ∀ i, i < 6 → bd 1000000 (A i col)) (hp : ∀ i, i < 6 → part / 2 ^ i % 2 = 1 → bd u (prev (part - 2 ^ i))) : ∀ i : Nat, i ≤ 6 → bd (1 + (i : Int) * (1000000 * u)) (inF A part sz col prev i).1
  | 0, _ => by
    simp only [inF, bd]
    split <;> simp
  | i + 1, hi => by
    have ih := inF_bd hu hA hp (sz := sz) i (by omega)
    have hm : 0 ≤ 1000000 * u := by omega
    have e : (1 : Int) + ((i + 1 : Nat) : Int) * (1000000 * u) = 1 + (i : Int) * (1000000 * u) + 1000000 * u := by
      rw [show ((i + 1 : Nat) : Int) = (i : Int) + 1 by simp, Int.add_mul]
      omega
    rw [e]
    simp only [inF]
    split
    · next hb =>
      have h1 := bd_mul (hA i (by omega)) (hp i (by omega) hb)
      obtain ⟨a1, a2⟩ := h1
      obtain ⟨b1, b2⟩ := ih
      split
      · exact ⟨by show -_ ≤ _ - _; omega, by show _ - _ ≤ _; omega⟩
      · exact ⟨by show -_ ≤ _ + _; omega, by show _ + _ ≤ _; omega⟩
    · exact bd_le (by omega) ih
theorem mnF_bd {A : Nat → Nat → Int} {set : Nat} (hA : ∀ i j, i < 6 → j < 6 → bd 1000000 (A i j)) : ∀ s part, bd (8388608 ^ s) (mnF A set s part)
  | 0, part => by
    have h : ∀ i, (inF A part 0 (plF set 0 6).1 (fun _ => 0) i).1 = 1 := fun i => by
      induction i with
      | zero => rfl
      | succ i ih =>
        simp only [inF]
        split
        · split <;> simp [ih]
        · exact ih
    simp only [mnF]
    rw [h]
    exact ⟨by decide, by decide⟩
  | s + 1, part => by
    have h0 : (0 : Int) < 8388608 ^ s := Int.pow_pos (by decide)
    have h := inF_bd (A := A) (part := part) (sz := s + 1) (col := (plF set (s + 1) 6).1) (prev := mnF A set s) (u := 8388608 ^ s) (by omega) (fun i hi => hA i _ hi (pl_lt 6 (Nat.le_refl _)).1) (fun i _ _ => mnF_bd hA s _) 6 (Nat.le_refl _)
    simp only [mnF]
    refine bd_le ?_ h
    rw [Int.pow_succ]
    simp
    omega
end
section
theorem nP_eq {m sz : Nat} (hm : m < 2 ^ 30) (hs : sz < 2 ^ 30) : nI m = nP sz ↔ m + 1 = sz := by
  cases sz with
  | zero =>
    constructor
    · intro h
      have h0 : nP 0 < 0 := nP_0
      rw [← h] at h0
      exact absurd h0 (nI_pos (by omega))
    · intro h
      omega
  | succ sz =>
    rw [nP_succ, nI_eq (by omega) (by omega)]
    omega
def prv (A : Nat → Nat → Int) (set sz : Nat) : Nat → Int := match sz with
  | 0 => fun _ => 0
  | s + 1 => mnF A set s
theorem mn_in {A : Nat → Nat → Int} {set part sz : Nat} (h : pcn part 6 = sz) : mn A set part = (inF A part sz (plF set sz 6).1 (prv A set sz) 6).1 := by
  subst h
  unfold mn prv
  cases pcn part 6 <;> rfl
theorem prv_mn {A : Nat → Nat → Int} {set part sz i : Nat} (hp : part < 64) (hi : i < 6) (hb : part / 2 ^ i % 2 = 1) (hs : pcn part 6 = sz) : prv A set sz (part - 2 ^ i) = mn A set (part - 2 ^ i) := by
  have h := (mb_sub part hp i hi hb).1
  rw [hs] at h
  unfold mn
  subst h
  rfl
theorem p8 (n : Nat) : (8388608 : Int) ^ n = 2 ^ (23 * n) := by
  rw [Int.pow_mul]
  rfl
theorem mn_bd {A : Nat → Nat → Int} {set part : Nat} (hA : ∀ i j, i < 6 → j < 6 → bd 1000000 (A i j)) : bd (2 ^ 138) (mn A set part) := by
  have h := mnF_bd (set := set) hA (pcn part 6) part
  rw [p8] at h
  have := pcn_le (s := part) 6
  exact bd_le (p2_le (by omega)) h
theorem inF_sm {A : Nat → Nat → Int} {set part sz i : Nat} (hA : ∀ i j, i < 6 → j < 6 → bd 1000000 (A i j)) (hp : part < 64) (hs : pcn part 6 = sz) (hi : i ≤ 6) : bd (2 ^ 200) (inF A part sz (plF set sz 6).1 (prv A set sz) i).1 := by
  have h := inF_bd (A := A) (part := part) (sz := sz) (col := (plF set sz 6).1) (prev := prv A set sz) (u := 2 ^ 138) (by decide) (fun j hj => hA j _ hj (pl_lt 6 (Nat.le_refl _)).1) (fun j hj hb => by rw [prv_mn hp hj hb hs]; exact mn_bd hA) i hi
  refine bd_le ?_ h
  have hi' : (i : Int) ≤ 6 := by omega
  have := Int.mul_le_mul_of_nonneg_right hi' (show (0 : Int) ≤ 1000000 * 2 ^ 138 by decide)
  have e : (1 : Int) + 6 * (1000000 * 2 ^ 138) ≤ 2 ^ 200 := by decide
  omega
theorem chF_bd {A : Nat → Nat → Int} {k : Nat} (hA : ∀ i j, i < 6 → j < 6 → bd 1000000 (A i j)) : ∀ (set e : Nat), bd ((set : Int) * 2 ^ 138) (chF A k set e)
  | 0, e => by simp [chF, bd]
  | set + 1, e => by
    have ih := chF_bd (k := k) hA set
    have h := mn_bd (set := set) (part := set) hA
    have e1 : ((set + 1 : Nat) : Int) * 2 ^ 138 = (set : Int) * 2 ^ 138 + 2 ^ 138 := by
      rw [show ((set + 1 : Nat) : Int) = (set : Int) + 1 by simp, Int.add_mul, Int.one_mul]
    rw [e1]
    simp only [chF, va_up]
    have h0 : (0 : Int) < 2 ^ 138 := by decide
    split
    · obtain ⟨a1, a2⟩ := ih (k - pcn set 6)
      obtain ⟨b1, b2⟩ := h
      split
      · exact ⟨by omega, by omega⟩
      · exact ⟨by omega, by omega⟩
    · exact bd_le (by omega) (ih e)
theorem chF_sm {A : Nat → Nat → Int} {k set e : Nat} (hA : ∀ i j, i < 6 → j < 6 → bd 1000000 (A i j)) (hs : set ≤ 64) : bd (2 ^ 150) (chF A k set e) := by
  refine bd_le ?_ (chF_bd hA set e)
  have := Int.mul_le_mul_of_nonneg_right (show (set : Int) ≤ 64 by omega) (show (0 : Int) ≤ 2 ^ 138 by decide)
  have e : (64 : Int) * 2 ^ 138 ≤ 2 ^ 150 := by decide
  omega
theorem inF_at {A : Nat → Nat → Int} {part sz col : Nat} {prev : Nat → Int} : ∀ i, (inF A part sz col prev i).2 ≤ i
  | 0 => by simp [inF]
  | i + 1 => by
    have := inF_at (A := A) (part := part) (sz := sz) (col := col) (prev := prev) i
    simp only [inF]
    split
    · simp; omega
    · omega
end
section
/-! the reference: sizeOf, placeOf, findMinor (written by wip/gen) -/
abbrev b_SpectrumDeskModel_sizeOf : ByteArray := prog_10_method_31_code
abbrev y_SpectrumDeskModel_sizeOf : MethodName := ⟨"SpectrumDeskModel", "sizeOf", "(I)I"⟩
abbrev v_SpectrumDeskModel_sizeOf : List Cond := Cond.code y_SpectrumDeskModel_sizeOf b_SpectrumDeskModel_sizeOf 3 (some .int) :: AW
theorem d_SpectrumDeskModel_sizeOf_0 : decode b_SpectrumDeskModel_sizeOf 0 = .ok (.iconst 0, 1) := by decide +kernel
theorem d_SpectrumDeskModel_sizeOf_1 : decode b_SpectrumDeskModel_sizeOf 1 = .ok (.istore_n 1, 1) := by decide +kernel
theorem d_SpectrumDeskModel_sizeOf_2 : decode b_SpectrumDeskModel_sizeOf 2 = .ok (.iconst 0, 1) := by decide +kernel
theorem d_SpectrumDeskModel_sizeOf_3 : decode b_SpectrumDeskModel_sizeOf 3 = .ok (.istore_n 2, 1) := by decide +kernel
theorem d_SpectrumDeskModel_sizeOf_4 : decode b_SpectrumDeskModel_sizeOf 4 = .ok (.iload_n 2, 1) := by decide +kernel
theorem d_SpectrumDeskModel_sizeOf_5 : decode b_SpectrumDeskModel_sizeOf 5 = .ok (.bipush (6), 2) := by decide +kernel
theorem d_SpectrumDeskModel_sizeOf_7 : decode b_SpectrumDeskModel_sizeOf 7 = .ok (.if_icmp .ge (17), 3) := by decide +kernel
theorem d_SpectrumDeskModel_sizeOf_10 : decode b_SpectrumDeskModel_sizeOf 10 = .ok (.iload_n 1, 1) := by decide +kernel
theorem d_SpectrumDeskModel_sizeOf_11 : decode b_SpectrumDeskModel_sizeOf 11 = .ok (.iload_n 0, 1) := by decide +kernel
theorem d_SpectrumDeskModel_sizeOf_12 : decode b_SpectrumDeskModel_sizeOf 12 = .ok (.iload_n 2, 1) := by decide +kernel
theorem d_SpectrumDeskModel_sizeOf_13 : decode b_SpectrumDeskModel_sizeOf 13 = .ok (.ishr, 1) := by decide +kernel
theorem d_SpectrumDeskModel_sizeOf_14 : decode b_SpectrumDeskModel_sizeOf 14 = .ok (.iconst 1, 1) := by decide +kernel
theorem d_SpectrumDeskModel_sizeOf_15 : decode b_SpectrumDeskModel_sizeOf 15 = .ok (.iand, 1) := by decide +kernel
theorem d_SpectrumDeskModel_sizeOf_16 : decode b_SpectrumDeskModel_sizeOf 16 = .ok (.iadd, 1) := by decide +kernel
theorem d_SpectrumDeskModel_sizeOf_17 : decode b_SpectrumDeskModel_sizeOf 17 = .ok (.istore_n 1, 1) := by decide +kernel
theorem d_SpectrumDeskModel_sizeOf_18 : decode b_SpectrumDeskModel_sizeOf 18 = .ok (.iinc 2 (1), 3) := by decide +kernel
theorem d_SpectrumDeskModel_sizeOf_21 : decode b_SpectrumDeskModel_sizeOf 21 = .ok (.goto (-17), 3) := by decide +kernel
theorem d_SpectrumDeskModel_sizeOf_24 : decode b_SpectrumDeskModel_sizeOf 24 = .ok (.iload_n 1, 1) := by decide +kernel
theorem d_SpectrumDeskModel_sizeOf_25 : decode b_SpectrumDeskModel_sizeOf 25 = .ok (.ireturn, 1) := by decide +kernel
abbrev b_SpectrumDeskModel_placeOf : ByteArray := prog_10_method_33_code
abbrev y_SpectrumDeskModel_placeOf : MethodName := ⟨"SpectrumDeskModel", "placeOf", "(II)I"⟩
abbrev v_SpectrumDeskModel_placeOf : List Cond := Cond.code y_SpectrumDeskModel_placeOf b_SpectrumDeskModel_placeOf 5 (some .int) :: AW
theorem d_SpectrumDeskModel_placeOf_0 : decode b_SpectrumDeskModel_placeOf 0 = .ok (.iconst 0, 1) := by decide +kernel
theorem d_SpectrumDeskModel_placeOf_1 : decode b_SpectrumDeskModel_placeOf 1 = .ok (.istore_n 2, 1) := by decide +kernel
theorem d_SpectrumDeskModel_placeOf_2 : decode b_SpectrumDeskModel_placeOf 2 = .ok (.iconst 0, 1) := by decide +kernel
theorem d_SpectrumDeskModel_placeOf_3 : decode b_SpectrumDeskModel_placeOf 3 = .ok (.istore_n 3, 1) := by decide +kernel
theorem d_SpectrumDeskModel_placeOf_4 : decode b_SpectrumDeskModel_placeOf 4 = .ok (.iconst 0, 1) := by decide +kernel
theorem d_SpectrumDeskModel_placeOf_5 : decode b_SpectrumDeskModel_placeOf 5 = .ok (.istore 4, 2) := by decide +kernel
theorem d_SpectrumDeskModel_placeOf_7 : decode b_SpectrumDeskModel_placeOf 7 = .ok (.iload 4, 2) := by decide +kernel
theorem d_SpectrumDeskModel_placeOf_9 : decode b_SpectrumDeskModel_placeOf 9 = .ok (.bipush (6), 2) := by decide +kernel
theorem d_SpectrumDeskModel_placeOf_11 : decode b_SpectrumDeskModel_placeOf 11 = .ok (.if_icmp .ge (34), 3) := by decide +kernel
theorem d_SpectrumDeskModel_placeOf_14 : decode b_SpectrumDeskModel_placeOf 14 = .ok (.iload_n 0, 1) := by decide +kernel
theorem d_SpectrumDeskModel_placeOf_15 : decode b_SpectrumDeskModel_placeOf 15 = .ok (.iload 4, 2) := by decide +kernel
theorem d_SpectrumDeskModel_placeOf_17 : decode b_SpectrumDeskModel_placeOf 17 = .ok (.ishr, 1) := by decide +kernel
theorem d_SpectrumDeskModel_placeOf_18 : decode b_SpectrumDeskModel_placeOf 18 = .ok (.iconst 1, 1) := by decide +kernel
theorem d_SpectrumDeskModel_placeOf_19 : decode b_SpectrumDeskModel_placeOf 19 = .ok (.iand, 1) := by decide +kernel
theorem d_SpectrumDeskModel_placeOf_20 : decode b_SpectrumDeskModel_placeOf 20 = .ok (.iconst 1, 1) := by decide +kernel
theorem d_SpectrumDeskModel_placeOf_21 : decode b_SpectrumDeskModel_placeOf 21 = .ok (.if_icmp .ne (18), 3) := by decide +kernel
theorem d_SpectrumDeskModel_placeOf_24 : decode b_SpectrumDeskModel_placeOf 24 = .ok (.iload_n 3, 1) := by decide +kernel
theorem d_SpectrumDeskModel_placeOf_25 : decode b_SpectrumDeskModel_placeOf 25 = .ok (.iload_n 1, 1) := by decide +kernel
theorem d_SpectrumDeskModel_placeOf_26 : decode b_SpectrumDeskModel_placeOf 26 = .ok (.if_icmp .ne (8), 3) := by decide +kernel
theorem d_SpectrumDeskModel_placeOf_29 : decode b_SpectrumDeskModel_placeOf 29 = .ok (.iload 4, 2) := by decide +kernel
theorem d_SpectrumDeskModel_placeOf_31 : decode b_SpectrumDeskModel_placeOf 31 = .ok (.goto (4), 3) := by decide +kernel
theorem d_SpectrumDeskModel_placeOf_34 : decode b_SpectrumDeskModel_placeOf 34 = .ok (.iload_n 2, 1) := by decide +kernel
theorem d_SpectrumDeskModel_placeOf_35 : decode b_SpectrumDeskModel_placeOf 35 = .ok (.istore_n 2, 1) := by decide +kernel
theorem d_SpectrumDeskModel_placeOf_36 : decode b_SpectrumDeskModel_placeOf 36 = .ok (.iinc 3 (1), 3) := by decide +kernel
theorem d_SpectrumDeskModel_placeOf_39 : decode b_SpectrumDeskModel_placeOf 39 = .ok (.iinc 4 (1), 3) := by decide +kernel
theorem d_SpectrumDeskModel_placeOf_42 : decode b_SpectrumDeskModel_placeOf 42 = .ok (.goto (-35), 3) := by decide +kernel
theorem d_SpectrumDeskModel_placeOf_45 : decode b_SpectrumDeskModel_placeOf 45 = .ok (.iload_n 2, 1) := by decide +kernel
theorem d_SpectrumDeskModel_placeOf_46 : decode b_SpectrumDeskModel_placeOf 46 = .ok (.ireturn, 1) := by decide +kernel
abbrev b_SpectrumDeskModel_findMinor : ByteArray := prog_10_method_32_code
abbrev y_SpectrumDeskModel_findMinor : MethodName := ⟨"SpectrumDeskModel", "findMinor", "(I)V"⟩
abbrev v_SpectrumDeskModel_findMinor : List Cond := Cond.code y_SpectrumDeskModel_findMinor b_SpectrumDeskModel_findMinor 7 none :: AW
theorem d_SpectrumDeskModel_findMinor_0 : decode b_SpectrumDeskModel_findMinor 0 = .ok (.iconst 0, 1) := by decide +kernel
theorem d_SpectrumDeskModel_findMinor_1 : decode b_SpectrumDeskModel_findMinor 1 = .ok (.istore_n 2, 1) := by decide +kernel
theorem d_SpectrumDeskModel_findMinor_2 : decode b_SpectrumDeskModel_findMinor 2 = .ok (.iload_n 2, 1) := by decide +kernel
theorem d_SpectrumDeskModel_findMinor_3 : decode b_SpectrumDeskModel_findMinor 3 = .ok (.iload_n 1, 1) := by decide +kernel
theorem d_SpectrumDeskModel_findMinor_4 : decode b_SpectrumDeskModel_findMinor 4 = .ok (.if_icmp .gt (145), 3) := by decide +kernel
theorem d_SpectrumDeskModel_findMinor_7 : decode b_SpectrumDeskModel_findMinor 7 = .ok (.iload_n 2, 1) := by decide +kernel
theorem d_SpectrumDeskModel_findMinor_8 : decode b_SpectrumDeskModel_findMinor 8 = .ok (.iload_n 1, 1) := by decide +kernel
theorem d_SpectrumDeskModel_findMinor_9 : decode b_SpectrumDeskModel_findMinor 9 = .ok (.iand, 1) := by decide +kernel
theorem d_SpectrumDeskModel_findMinor_10 : decode b_SpectrumDeskModel_findMinor 10 = .ok (.iload_n 2, 1) := by decide +kernel
theorem d_SpectrumDeskModel_findMinor_11 : decode b_SpectrumDeskModel_findMinor 11 = .ok (.if_icmp .ne (132), 3) := by decide +kernel
theorem d_SpectrumDeskModel_findMinor_14 : decode b_SpectrumDeskModel_findMinor 14 = .ok (.iload_n 2, 1) := by decide +kernel
theorem d_SpectrumDeskModel_findMinor_15 : decode b_SpectrumDeskModel_findMinor 15 = .ok (.invokestatic 101, 3) := by decide +kernel
theorem d_SpectrumDeskModel_findMinor_18 : decode b_SpectrumDeskModel_findMinor 18 = .ok (.istore_n 3, 1) := by decide +kernel
theorem d_SpectrumDeskModel_findMinor_19 : decode b_SpectrumDeskModel_findMinor 19 = .ok (.aload_n 0, 1) := by decide +kernel
theorem d_SpectrumDeskModel_findMinor_20 : decode b_SpectrumDeskModel_findMinor 20 = .ok (.bipush (40), 2) := by decide +kernel
theorem d_SpectrumDeskModel_findMinor_22 : decode b_SpectrumDeskModel_findMinor 22 = .ok (.iload_n 2, 1) := by decide +kernel
theorem d_SpectrumDeskModel_findMinor_23 : decode b_SpectrumDeskModel_findMinor 23 = .ok (.iadd, 1) := by decide +kernel
theorem d_SpectrumDeskModel_findMinor_24 : decode b_SpectrumDeskModel_findMinor 24 = .ok (.iload_n 3, 1) := by decide +kernel
theorem d_SpectrumDeskModel_findMinor_25 : decode b_SpectrumDeskModel_findMinor 25 = .ok (.ifCond .ne (7), 3) := by decide +kernel
theorem d_SpectrumDeskModel_findMinor_28 : decode b_SpectrumDeskModel_findMinor 28 = .ok (.lconst 1, 1) := by decide +kernel
theorem d_SpectrumDeskModel_findMinor_29 : decode b_SpectrumDeskModel_findMinor 29 = .ok (.goto (4), 3) := by decide +kernel
theorem d_SpectrumDeskModel_findMinor_32 : decode b_SpectrumDeskModel_findMinor 32 = .ok (.lconst 0, 1) := by decide +kernel
theorem d_SpectrumDeskModel_findMinor_33 : decode b_SpectrumDeskModel_findMinor 33 = .ok (.invokevirtual 104, 3) := by decide +kernel
theorem d_SpectrumDeskModel_findMinor_36 : decode b_SpectrumDeskModel_findMinor 36 = .ok (.iload_n 1, 1) := by decide +kernel
theorem d_SpectrumDeskModel_findMinor_37 : decode b_SpectrumDeskModel_findMinor 37 = .ok (.iload_n 3, 1) := by decide +kernel
theorem d_SpectrumDeskModel_findMinor_38 : decode b_SpectrumDeskModel_findMinor 38 = .ok (.iconst 1, 1) := by decide +kernel
theorem d_SpectrumDeskModel_findMinor_39 : decode b_SpectrumDeskModel_findMinor 39 = .ok (.isub, 1) := by decide +kernel
theorem d_SpectrumDeskModel_findMinor_40 : decode b_SpectrumDeskModel_findMinor 40 = .ok (.invokestatic 108, 3) := by decide +kernel
theorem d_SpectrumDeskModel_findMinor_43 : decode b_SpectrumDeskModel_findMinor 43 = .ok (.istore 4, 2) := by decide +kernel
theorem d_SpectrumDeskModel_findMinor_45 : decode b_SpectrumDeskModel_findMinor 45 = .ok (.iconst 0, 1) := by decide +kernel
theorem d_SpectrumDeskModel_findMinor_46 : decode b_SpectrumDeskModel_findMinor 46 = .ok (.istore 5, 2) := by decide +kernel
theorem d_SpectrumDeskModel_findMinor_48 : decode b_SpectrumDeskModel_findMinor 48 = .ok (.iconst 0, 1) := by decide +kernel
theorem d_SpectrumDeskModel_findMinor_49 : decode b_SpectrumDeskModel_findMinor 49 = .ok (.istore 6, 2) := by decide +kernel
theorem d_SpectrumDeskModel_findMinor_51 : decode b_SpectrumDeskModel_findMinor 51 = .ok (.iload 6, 2) := by decide +kernel
theorem d_SpectrumDeskModel_findMinor_53 : decode b_SpectrumDeskModel_findMinor 53 = .ok (.bipush (6), 2) := by decide +kernel
theorem d_SpectrumDeskModel_findMinor_55 : decode b_SpectrumDeskModel_findMinor 55 = .ok (.if_icmp .ge (88), 3) := by decide +kernel
theorem d_SpectrumDeskModel_findMinor_58 : decode b_SpectrumDeskModel_findMinor 58 = .ok (.iload_n 2, 1) := by decide +kernel
theorem d_SpectrumDeskModel_findMinor_59 : decode b_SpectrumDeskModel_findMinor 59 = .ok (.iload 6, 2) := by decide +kernel
theorem d_SpectrumDeskModel_findMinor_61 : decode b_SpectrumDeskModel_findMinor 61 = .ok (.ishr, 1) := by decide +kernel
theorem d_SpectrumDeskModel_findMinor_62 : decode b_SpectrumDeskModel_findMinor 62 = .ok (.iconst 1, 1) := by decide +kernel
theorem d_SpectrumDeskModel_findMinor_63 : decode b_SpectrumDeskModel_findMinor 63 = .ok (.iand, 1) := by decide +kernel
theorem d_SpectrumDeskModel_findMinor_64 : decode b_SpectrumDeskModel_findMinor 64 = .ok (.iconst 1, 1) := by decide +kernel
theorem d_SpectrumDeskModel_findMinor_65 : decode b_SpectrumDeskModel_findMinor 65 = .ok (.if_icmp .ne (72), 3) := by decide +kernel
theorem d_SpectrumDeskModel_findMinor_68 : decode b_SpectrumDeskModel_findMinor 68 = .ok (.aload_n 0, 1) := by decide +kernel
theorem d_SpectrumDeskModel_findMinor_69 : decode b_SpectrumDeskModel_findMinor 69 = .ok (.bipush (104), 2) := by decide +kernel
theorem d_SpectrumDeskModel_findMinor_71 : decode b_SpectrumDeskModel_findMinor 71 = .ok (.aload_n 0, 1) := by decide +kernel
theorem d_SpectrumDeskModel_findMinor_72 : decode b_SpectrumDeskModel_findMinor 72 = .ok (.getfield 67, 3) := by decide +kernel
theorem d_SpectrumDeskModel_findMinor_75 : decode b_SpectrumDeskModel_findMinor 75 = .ok (.bipush (6), 2) := by decide +kernel
theorem d_SpectrumDeskModel_findMinor_77 : decode b_SpectrumDeskModel_findMinor 77 = .ok (.iload 6, 2) := by decide +kernel
theorem d_SpectrumDeskModel_findMinor_79 : decode b_SpectrumDeskModel_findMinor 79 = .ok (.imul, 1) := by decide +kernel
theorem d_SpectrumDeskModel_findMinor_80 : decode b_SpectrumDeskModel_findMinor 80 = .ok (.iload 4, 2) := by decide +kernel
theorem d_SpectrumDeskModel_findMinor_82 : decode b_SpectrumDeskModel_findMinor 82 = .ok (.iadd, 1) := by decide +kernel
theorem d_SpectrumDeskModel_findMinor_83 : decode b_SpectrumDeskModel_findMinor 83 = .ok (.iaload, 1) := by decide +kernel
theorem d_SpectrumDeskModel_findMinor_84 : decode b_SpectrumDeskModel_findMinor 84 = .ok (.i2l, 1) := by decide +kernel
theorem d_SpectrumDeskModel_findMinor_85 : decode b_SpectrumDeskModel_findMinor 85 = .ok (.invokevirtual 104, 3) := by decide +kernel
theorem d_SpectrumDeskModel_findMinor_88 : decode b_SpectrumDeskModel_findMinor 88 = .ok (.aload_n 0, 1) := by decide +kernel
theorem d_SpectrumDeskModel_findMinor_89 : decode b_SpectrumDeskModel_findMinor 89 = .ok (.bipush (105), 2) := by decide +kernel
theorem d_SpectrumDeskModel_findMinor_91 : decode b_SpectrumDeskModel_findMinor 91 = .ok (.bipush (104), 2) := by decide +kernel
theorem d_SpectrumDeskModel_findMinor_93 : decode b_SpectrumDeskModel_findMinor 93 = .ok (.bipush (40), 2) := by decide +kernel
theorem d_SpectrumDeskModel_findMinor_95 : decode b_SpectrumDeskModel_findMinor 95 = .ok (.iload_n 2, 1) := by decide +kernel
theorem d_SpectrumDeskModel_findMinor_96 : decode b_SpectrumDeskModel_findMinor 96 = .ok (.iconst 1, 1) := by decide +kernel
theorem d_SpectrumDeskModel_findMinor_97 : decode b_SpectrumDeskModel_findMinor 97 = .ok (.iload 6, 2) := by decide +kernel
theorem d_SpectrumDeskModel_findMinor_99 : decode b_SpectrumDeskModel_findMinor 99 = .ok (.ishl, 1) := by decide +kernel
theorem d_SpectrumDeskModel_findMinor_100 : decode b_SpectrumDeskModel_findMinor 100 = .ok (.iconst (-1), 1) := by decide +kernel
theorem d_SpectrumDeskModel_findMinor_101 : decode b_SpectrumDeskModel_findMinor 101 = .ok (.ixor, 1) := by decide +kernel
theorem d_SpectrumDeskModel_findMinor_102 : decode b_SpectrumDeskModel_findMinor 102 = .ok (.iand, 1) := by decide +kernel
theorem d_SpectrumDeskModel_findMinor_103 : decode b_SpectrumDeskModel_findMinor 103 = .ok (.iadd, 1) := by decide +kernel
theorem d_SpectrumDeskModel_findMinor_104 : decode b_SpectrumDeskModel_findMinor 104 = .ok (.invokevirtual 111, 3) := by decide +kernel
theorem d_SpectrumDeskModel_findMinor_107 : decode b_SpectrumDeskModel_findMinor 107 = .ok (.aload_n 0, 1) := by decide +kernel
theorem d_SpectrumDeskModel_findMinor_108 : decode b_SpectrumDeskModel_findMinor 108 = .ok (.bipush (40), 2) := by decide +kernel
theorem d_SpectrumDeskModel_findMinor_110 : decode b_SpectrumDeskModel_findMinor 110 = .ok (.iload_n 2, 1) := by decide +kernel
theorem d_SpectrumDeskModel_findMinor_111 : decode b_SpectrumDeskModel_findMinor 111 = .ok (.iadd, 1) := by decide +kernel
theorem d_SpectrumDeskModel_findMinor_112 : decode b_SpectrumDeskModel_findMinor 112 = .ok (.bipush (105), 2) := by decide +kernel
theorem d_SpectrumDeskModel_findMinor_114 : decode b_SpectrumDeskModel_findMinor 114 = .ok (.iload 5, 2) := by decide +kernel
theorem d_SpectrumDeskModel_findMinor_116 : decode b_SpectrumDeskModel_findMinor 116 = .ok (.iload_n 3, 1) := by decide +kernel
theorem d_SpectrumDeskModel_findMinor_117 : decode b_SpectrumDeskModel_findMinor 117 = .ok (.iadd, 1) := by decide +kernel
theorem d_SpectrumDeskModel_findMinor_118 : decode b_SpectrumDeskModel_findMinor 118 = .ok (.iconst 1, 1) := by decide +kernel
theorem d_SpectrumDeskModel_findMinor_119 : decode b_SpectrumDeskModel_findMinor 119 = .ok (.isub, 1) := by decide +kernel
theorem d_SpectrumDeskModel_findMinor_120 : decode b_SpectrumDeskModel_findMinor 120 = .ok (.iconst 2, 1) := by decide +kernel
theorem d_SpectrumDeskModel_findMinor_121 : decode b_SpectrumDeskModel_findMinor 121 = .ok (.irem, 1) := by decide +kernel
theorem d_SpectrumDeskModel_findMinor_122 : decode b_SpectrumDeskModel_findMinor 122 = .ok (.iconst 1, 1) := by decide +kernel
theorem d_SpectrumDeskModel_findMinor_123 : decode b_SpectrumDeskModel_findMinor 123 = .ok (.if_icmp .ne (7), 3) := by decide +kernel
theorem d_SpectrumDeskModel_findMinor_126 : decode b_SpectrumDeskModel_findMinor 126 = .ok (.iconst 1, 1) := by decide +kernel
theorem d_SpectrumDeskModel_findMinor_127 : decode b_SpectrumDeskModel_findMinor 127 = .ok (.goto (4), 3) := by decide +kernel
theorem d_SpectrumDeskModel_findMinor_130 : decode b_SpectrumDeskModel_findMinor 130 = .ok (.iconst 0, 1) := by decide +kernel
theorem d_SpectrumDeskModel_findMinor_131 : decode b_SpectrumDeskModel_findMinor 131 = .ok (.invokevirtual 115, 3) := by decide +kernel
theorem d_SpectrumDeskModel_findMinor_134 : decode b_SpectrumDeskModel_findMinor 134 = .ok (.iinc 5 (1), 3) := by decide +kernel
theorem d_SpectrumDeskModel_findMinor_137 : decode b_SpectrumDeskModel_findMinor 137 = .ok (.iinc 6 (1), 3) := by decide +kernel
theorem d_SpectrumDeskModel_findMinor_140 : decode b_SpectrumDeskModel_findMinor 140 = .ok (.goto (-89), 3) := by decide +kernel
theorem d_SpectrumDeskModel_findMinor_143 : decode b_SpectrumDeskModel_findMinor 143 = .ok (.iinc 2 (1), 3) := by decide +kernel
theorem d_SpectrumDeskModel_findMinor_146 : decode b_SpectrumDeskModel_findMinor 146 = .ok (.goto (-144), 3) := by decide +kernel
theorem d_SpectrumDeskModel_findMinor_149 : decode b_SpectrumDeskModel_findMinor 149 = .ok (.return_, 1) := by decide +kernel
theorem k_56215041f4 : (Jvm.Cond.methodLink "SpectrumDeskModel" (101 : Nat) ({ cls := "SpectrumDeskModel", name := "sizeOf", desc := "(I)I" } : Jvm.MethodName)) ∈ AW := aw_5 (List.mem_of_getElem? (i := 45) (by decide +kernel)) (by decide +kernel)
theorem k_5eb33858fb : (Jvm.Cond.static ({ cls := "SpectrumDeskModel", name := "sizeOf", desc := "(I)I" } : Jvm.MethodName)) ∈ AW := aw_5 (List.mem_of_getElem? (i := 46) (by decide +kernel)) (by decide +kernel)
theorem k_78efd7a03a : (Jvm.Cond.fieldLink "SpectrumDeskModel" (67 : Nat) "SpectrumDeskModel" "matrix" "[I") ∈ AW := aw_4 (List.mem_of_getElem? (i := 186) (by decide +kernel)) (by decide +kernel)
theorem k_4aacde9f3d : (Jvm.Cond.methodLink "SpectrumDeskModel" (108 : Nat) ({ cls := "SpectrumDeskModel", name := "placeOf", desc := "(II)I" } : Jvm.MethodName)) ∈ AW := aw_5 (List.mem_of_getElem? (i := 48) (by decide +kernel)) (by decide +kernel)
theorem k_c9cf2d4db0 : (Jvm.Cond.static ({ cls := "SpectrumDeskModel", name := "placeOf", desc := "(II)I" } : Jvm.MethodName)) ∈ AW := aw_5 (List.mem_of_getElem? (i := 49) (by decide +kernel)) (by decide +kernel)
theorem k_5bb586f254 : (Jvm.Cond.code ({ cls := "SpectrumDeskModel", name := "sizeOf", desc := "(I)I" } : Jvm.MethodName) prog_10_method_31_code (3 : Nat) (Option.some Jvm.ClassFile.FieldType.int)) ∈ AW := aw_5 (List.mem_of_getElem? (i := 47) (by decide +kernel)) (by decide +kernel)
theorem k_039dba0db2 : (Jvm.Cond.code ({ cls := "SpectrumDeskModel", name := "placeOf", desc := "(II)I" } : Jvm.MethodName) prog_10_method_33_code (5 : Nat) (Option.some Jvm.ClassFile.FieldType.int)) ∈ AW := aw_5 (List.mem_of_getElem? (i := 50) (by decide +kernel)) (by decide +kernel)
theorem k_e6e20e2407 : (Jvm.Cond.code ({ cls := "SpectrumDeskModel", name := "findMinor", desc := "(I)V" } : Jvm.MethodName) prog_10_method_32_code (7 : Nat) (Option.none : Option Jvm.ClassFile.FieldType)) ∈ AW := aw_5 (List.mem_of_getElem? (i := 44) (by decide +kernel)) (by decide +kernel)
set_option maxHeartbeats 4000000 in
set_option maxRecDepth 100000 in
theorem c_SpectrumDeskModel_sizeOf {l : Launch} {D : va_G} {cI cJ cZ cC cG cP : ClassId} {N : Nat} {ad : Nat → Nat} {σ : Nat → va_E} {s9 : Nat} (hs9 : s9 < 64) :
    Met l y_SpectrumDeskModel_sizeOf v_SpectrumDeskModel_sizeOf (xrm 0) (va_Pc [.int (nI s9)] (xS D classes (xT cI cJ cZ cC cG cP) N ad σ)) (va_Qi (fun r σ2 => r = nI (pcn s9 6) ∧ σ2 = σ) (xS D classes (xT cI cJ cZ cC cG cP) N ad) (xA N ad)) 0 0 (xA N ad) := by
  refine xr_met rfl (Nat.le_of_ble_eq_true rfl) ?_
  intro p e s m args below meth c ls hx hb X hr hlk hl I
  have hl : lv_has ls 3 [(0, .int (nI s9))] := hl
  refine lv_iconst (v := nI 0) hx hb d_SpectrumDeskModel_sizeOf_0 (by decide) ?_
  refine lv_istore_n (lv' := [(1, .int (nI 0)), (0, .int (nI s9))]) hx hb d_SpectrumDeskModel_sizeOf_1 rfl hl (by decide) rfl (fun ls hl => ?_)
  refine lv_iconst (v := nI 0) hx hb d_SpectrumDeskModel_sizeOf_2 (by decide) ?_
  refine lv_istore_n (lv' := [(2, .int (nI 0)), (1, .int (nI 0)), (0, .int (nI s9))]) hx hb d_SpectrumDeskModel_sizeOf_3 rfl hl (by decide) rfl (fun ls hl => ?_)
  have loop : ∀ (j : Nat) (k : Nat) (ls : Array Slot) (H : Heap) (locs : List Loc), k + j = 6 → lv_has ls 3 [(2, .int (nI k)), (1, .int (nI (pcn s9 k))), (0, .int (nI s9))] → xI D classes N ad s.heap (σ) H locs → W p l e (xrm 0) s m args below meth c H locs 0 0 (MQ below (va_Qi (fun r σ2 => r = nI (pcn s9 6) ∧ σ2 = σ) (xS D classes (xT cI cJ cZ cC cG cP) N ad) (xA N ad)) args s 0 0 (xA N ad)) (F0 m 4 ls []) := by
    intro j
    induction j with
    | zero =>
      intro k ls H locs hk hl I
      obtain rfl : k = 6 := by omega
      refine lv_iload_n hx hb d_SpectrumDeskModel_sizeOf_4 rfl (lv_at hl 0 rfl) ?_
      refine lv_bipush (v := nI 6) hx hb d_SpectrumDeskModel_sizeOf_5 (by decide) ?_
      refine lv_icmp_ge hx hb d_SpectrumDeskModel_sizeOf_7 rfl (fun hc => ?_) (fun hc => ?_)
      · refine lv_iload_n hx hb d_SpectrumDeskModel_sizeOf_24 rfl (lv_at hl 1 rfl) ?_
        exact xr_iret X I hr hlk ⟨rfl, rfl⟩ d_SpectrumDeskModel_sizeOf_25
      · exact absurd (by decide) hc
    | succ j ih =>
      intro k ls H locs hk hl I
      refine lv_iload_n hx hb d_SpectrumDeskModel_sizeOf_4 rfl (lv_at hl 0 rfl) ?_
      refine lv_bipush (v := nI 6) hx hb d_SpectrumDeskModel_sizeOf_5 (by decide) ?_
      refine lv_icmp_ge hx hb d_SpectrumDeskModel_sizeOf_7 rfl (fun hc => ?_) (fun hc => ?_)
      · exact absurd hc (nI_ge (by omega) (by omega))
      · refine lv_iload_n hx hb d_SpectrumDeskModel_sizeOf_10 rfl (lv_at hl 1 rfl) ?_
        refine lv_iload_n hx hb d_SpectrumDeskModel_sizeOf_11 rfl (lv_at hl 2 rfl) ?_
        refine lv_iload_n hx hb d_SpectrumDeskModel_sizeOf_12 rfl (lv_at hl 0 rfl) ?_
        refine lv_ishr hx hb d_SpectrumDeskModel_sizeOf_13 ?_
        refine lv_iconst (v := nI 1) hx hb d_SpectrumDeskModel_sizeOf_14 (by decide) ?_
        refine lv_iand hx hb d_SpectrumDeskModel_sizeOf_15 ?_
        refine xr_topi (y := nI (s9 / 2 ^ k % 2)) (mb_bit s9 hs9 k (by omega)) ?_
        refine lv_iadd hx hb d_SpectrumDeskModel_sizeOf_16 (xr_topi (y := nI ((pcn s9 k) + (s9 / 2 ^ k % 2))) (nI_add (pcn s9 k) (s9 / 2 ^ k % 2)) ?_)
        refine lv_istore_n (lv' := [(1, .int (nI ((pcn s9 k) + (s9 / 2 ^ k % 2)))), (2, .int (nI k)), (0, .int (nI s9))]) hx hb d_SpectrumDeskModel_sizeOf_17 rfl hl (by decide) rfl (fun ls hl => ?_)
        refine lv_iinc (k := 1) (v := nI (k + 1)) (lv' := [(2, .int (nI (k + 1))), (1, .int (nI ((pcn s9 k) + (s9 / 2 ^ k % 2)))), (0, .int (nI s9))]) hx hb d_SpectrumDeskModel_sizeOf_18 hl rfl (nI_1 k) (by decide) rfl (fun ls hl => ?_)
        refine lv_goto hx hb d_SpectrumDeskModel_sizeOf_21 rfl ?_
        exact ih (k + 1) ls H locs (by omega) hl I
  exact loop 6 0 ls _ _ (by omega) hl I
set_option maxHeartbeats 4000000 in
set_option maxRecDepth 100000 in
theorem c_SpectrumDeskModel_placeOf {l : Launch} {D : va_G} {cI cJ cZ cC cG cP : ClassId} {N : Nat} {ad : Nat → Nat} {σ : Nat → va_E} {s9 sz : Nat} (hs9 : s9 < 64) (hsz : sz ≤ 6) :
    Met l y_SpectrumDeskModel_placeOf v_SpectrumDeskModel_placeOf (xrm 0) (va_Pc [.int (nI s9), .int (nP sz)] (xS D classes (xT cI cJ cZ cC cG cP) N ad σ)) (va_Qi (fun r σ2 => r = nI (plF s9 sz 6).1 ∧ σ2 = σ) (xS D classes (xT cI cJ cZ cC cG cP) N ad) (xA N ad)) 0 0 (xA N ad) := by
  refine xr_met rfl (Nat.le_of_ble_eq_true rfl) ?_
  intro p e s m args below meth c ls hx hb X hr hlk hl I
  have hl : lv_has ls 5 [(0, .int (nI s9)), (1, .int (nP sz))] := hl
  refine lv_iconst (v := nI 0) hx hb d_SpectrumDeskModel_placeOf_0 (by decide) ?_
  refine lv_istore_n (lv' := [(2, .int (nI 0)), (0, .int (nI s9)), (1, .int (nP sz))]) hx hb d_SpectrumDeskModel_placeOf_1 rfl hl (by decide) rfl (fun ls hl => ?_)
  refine lv_iconst (v := nI 0) hx hb d_SpectrumDeskModel_placeOf_2 (by decide) ?_
  refine lv_istore_n (lv' := [(3, .int (nI 0)), (2, .int (nI 0)), (0, .int (nI s9)), (1, .int (nP sz))]) hx hb d_SpectrumDeskModel_placeOf_3 rfl hl (by decide) rfl (fun ls hl => ?_)
  refine lv_iconst (v := nI 0) hx hb d_SpectrumDeskModel_placeOf_4 (by decide) ?_
  refine lv_istore (lv' := [(4, .int (nI 0)), (3, .int (nI 0)), (2, .int (nI 0)), (0, .int (nI s9)), (1, .int (nP sz))]) hx hb d_SpectrumDeskModel_placeOf_5 hl (by decide) rfl (fun ls hl => ?_)
  have loop : ∀ (j : Nat) (i : Nat) (ls : Array Slot) (H : Heap) (locs : List Loc), i + j = 6 → lv_has ls 5 [(4, .int (nI i)), (3, .int (nI (plF s9 sz i).2)), (2, .int (nI (plF s9 sz i).1)), (0, .int (nI s9)), (1, .int (nP sz))] → xI D classes N ad s.heap (σ) H locs → W p l e (xrm 0) s m args below meth c H locs 0 0 (MQ below (va_Qi (fun r σ2 => r = nI (plF s9 sz 6).1 ∧ σ2 = σ) (xS D classes (xT cI cJ cZ cC cG cP) N ad) (xA N ad)) args s 0 0 (xA N ad)) (F0 m 7 ls []) := by
    intro j
    induction j with
    | zero =>
      intro i ls H locs hk hl I
      obtain rfl : i = 6 := by omega
      refine lv_iload hx hb d_SpectrumDeskModel_placeOf_7 (lv_at hl 0 rfl) ?_
      refine lv_bipush (v := nI 6) hx hb d_SpectrumDeskModel_placeOf_9 (by decide) ?_
      refine lv_icmp_ge hx hb d_SpectrumDeskModel_placeOf_11 rfl (fun hc => ?_) (fun hc => ?_)
      · refine lv_iload_n hx hb d_SpectrumDeskModel_placeOf_45 rfl (lv_at hl 2 rfl) ?_
        exact xr_iret X I hr hlk ⟨rfl, rfl⟩ d_SpectrumDeskModel_placeOf_46
      · exact absurd (by decide) hc
    | succ j ih =>
      intro i ls H locs hk hl I
      have hpl := pl_lt (set := s9) (sz := sz) i (by omega)
      refine lv_iload hx hb d_SpectrumDeskModel_placeOf_7 (lv_at hl 0 rfl) ?_
      refine lv_bipush (v := nI 6) hx hb d_SpectrumDeskModel_placeOf_9 (by decide) ?_
      refine lv_icmp_ge hx hb d_SpectrumDeskModel_placeOf_11 rfl (fun hc => ?_) (fun hc => ?_)
      · exact absurd hc (nI_ge (by omega) (by omega))
      · refine lv_iload_n hx hb d_SpectrumDeskModel_placeOf_14 rfl (lv_at hl 3 rfl) ?_
        refine lv_iload hx hb d_SpectrumDeskModel_placeOf_15 (lv_at hl 0 rfl) ?_
        refine lv_ishr hx hb d_SpectrumDeskModel_placeOf_17 ?_
        refine lv_iconst (v := nI 1) hx hb d_SpectrumDeskModel_placeOf_18 (by decide) ?_
        refine lv_iand hx hb d_SpectrumDeskModel_placeOf_19 ?_
        refine xr_topi (y := nI (s9 / 2 ^ i % 2)) (mb_bit s9 hs9 i (by omega)) ?_
        refine lv_iconst (v := nI 1) hx hb d_SpectrumDeskModel_placeOf_20 (by decide) ?_
        refine lv_icmp_ne hx hb d_SpectrumDeskModel_placeOf_21 rfl (fun hd => ?_) (fun hd => ?_)
        · have hb1 : ¬ s9 / 2 ^ i % 2 = 1 := fun h => hd (by rw [h])
          refine lv_iinc (k := 0) (v := nI (i + 1)) (lv' := [(4, .int (nI (i + 1))), (3, .int (nI (plF s9 sz i).2)), (2, .int (nI (plF s9 sz i).1)), (0, .int (nI s9)), (1, .int (nP sz))]) hx hb d_SpectrumDeskModel_placeOf_39 hl rfl (nI_1 i) (by decide) rfl (fun ls hl => ?_)
          refine lv_goto hx hb d_SpectrumDeskModel_placeOf_42 rfl ?_
          have e9 : plF s9 sz (i + 1) = plF s9 sz i := by rw [plF, if_neg hb1]
          exact ih (i + 1) ls H locs (by omega) (by rw [e9]; exact hl) I
        · have hb1 : s9 / 2 ^ i % 2 = 1 := (nI_eq (by omega) (by decide)).mp hd
          refine lv_iload_n hx hb d_SpectrumDeskModel_placeOf_24 rfl (lv_at hl 1 rfl) ?_
          refine lv_iload_n hx hb d_SpectrumDeskModel_placeOf_25 rfl (lv_at hl 4 rfl) ?_
          refine lv_icmp_ne hx hb d_SpectrumDeskModel_placeOf_26 rfl (fun hg => ?_) (fun hg => ?_)
          · have hm : ¬ (plF s9 sz i).2 + 1 = sz := fun h => hg ((nP_eq (by omega) (by omega)).mpr h)
            refine lv_iload_n hx hb d_SpectrumDeskModel_placeOf_34 rfl (lv_at hl 2 rfl) ?_
            refine lv_istore_n (lv' := [(2, .int (nI (plF s9 sz i).1)), (4, .int (nI i)), (3, .int (nI (plF s9 sz i).2)), (0, .int (nI s9)), (1, .int (nP sz))]) hx hb d_SpectrumDeskModel_placeOf_35 rfl hl (by decide) rfl (fun ls hl => ?_)
            refine lv_iinc (k := 2) (v := nI ((plF s9 sz i).2 + 1)) (lv' := [(3, .int (nI ((plF s9 sz i).2 + 1))), (2, .int (nI (plF s9 sz i).1)), (4, .int (nI i)), (0, .int (nI s9)), (1, .int (nP sz))]) hx hb d_SpectrumDeskModel_placeOf_36 hl rfl (nI_1 _) (by decide) rfl (fun ls hl => ?_)
            refine lv_iinc (k := 2) (v := nI (i + 1)) (lv' := [(4, .int (nI (i + 1))), (3, .int (nI ((plF s9 sz i).2 + 1))), (2, .int (nI (plF s9 sz i).1)), (0, .int (nI s9)), (1, .int (nP sz))]) hx hb d_SpectrumDeskModel_placeOf_39 hl rfl (nI_1 i) (by decide) rfl (fun ls hl => ?_)
            refine lv_goto hx hb d_SpectrumDeskModel_placeOf_42 rfl ?_
            have e9 : plF s9 sz (i + 1) = ((plF s9 sz i).1, (plF s9 sz i).2 + 1) := by rw [plF, if_pos hb1, if_neg hm]
            exact ih (i + 1) ls H locs (by omega) (by rw [e9]; exact hl) I
          · have hm : (plF s9 sz i).2 + 1 = sz := (nP_eq (by omega) (by omega)).mp hg
            refine lv_iload hx hb d_SpectrumDeskModel_placeOf_29 (lv_at hl 0 rfl) ?_
            refine lv_goto hx hb d_SpectrumDeskModel_placeOf_31 rfl ?_
            refine lv_istore_n (lv' := [(2, .int (nI i)), (4, .int (nI i)), (3, .int (nI (plF s9 sz i).2)), (0, .int (nI s9)), (1, .int (nP sz))]) hx hb d_SpectrumDeskModel_placeOf_35 rfl hl (by decide) rfl (fun ls hl => ?_)
            refine lv_iinc (k := 2) (v := nI ((plF s9 sz i).2 + 1)) (lv' := [(3, .int (nI ((plF s9 sz i).2 + 1))), (2, .int (nI i)), (4, .int (nI i)), (0, .int (nI s9)), (1, .int (nP sz))]) hx hb d_SpectrumDeskModel_placeOf_36 hl rfl (nI_1 _) (by decide) rfl (fun ls hl => ?_)
            refine lv_iinc (k := 2) (v := nI (i + 1)) (lv' := [(4, .int (nI (i + 1))), (3, .int (nI ((plF s9 sz i).2 + 1))), (2, .int (nI i)), (0, .int (nI s9)), (1, .int (nP sz))]) hx hb d_SpectrumDeskModel_placeOf_39 hl rfl (nI_1 i) (by decide) rfl (fun ls hl => ?_)
            refine lv_goto hx hb d_SpectrumDeskModel_placeOf_42 rfl ?_
            have e9 : plF s9 sz (i + 1) = (i, (plF s9 sz i).2 + 1) := by rw [plF, if_pos hb1, if_pos hm]
            exact ih (i + 1) ls H locs (by omega) (by rw [e9]; exact hl) I
  exact loop 6 0 ls _ _ (by omega) hl I
set_option maxHeartbeats 4000000 in
set_option maxRecDepth 100000 in
theorem c_SpectrumDeskModel_findMinor {l : Launch} {D : va_G} {cI cJ cZ cC cG cP : ClassId} {ad : Nat → Nat} {σ0 : Nat → va_E} {th nn rws ps le eq : Int32} {P L M G : Nat → Int32} {Z : Nat → Int} (hG : σ0 187 = .inl (cI, 5, .inl G)) (hB : RB P L M Z) {s9 : Nat} (hs9 : s9 < 64) {A9 : Nat → Int32} (hA9 : σ0 188 = .inl (cI, 36, .inl A9)) (hAb : ∀ i j, i < 6 → j < 6 → bd 1000000 ((A9 (6 * i + j)).toInt)) :
    Met l y_SpectrumDeskModel_findMinor v_SpectrumDeskModel_findMinor (xrm 3) (va_Pc [.ref (ad 183), .int (nI s9)] (xS D classes (xT cI cJ cZ cC cG cP) 193 ad (rw3 σ0 ciM cI cZ (mfs ad th nn rws ps le eq) P L M))) (va_Qv (fun σ2 => ∃ (P' L' M' : Nat → Int32) (Z' : Nat → Int), σ2 = rw3 σ0 ciM cI cZ (mfs ad th nn rws ps le eq) P' L' M' ∧ RB P' L' M' Z' ∧ (∀ q, q ≤ s9 → q &&& s9 = q → Z' (40 + q) = mn (fun i j => (A9 (6 * i + j)).toInt) s9 q) ∧ (∀ v, v < 40 ∨ 106 ≤ v → Z' v = Z v)) (xS D classes (xT cI cJ cZ cC cG cP) 193 ad) (xA 193 ad)) 0 0 (xA 193 ad) := by
  refine xr_met rfl (Nat.le_of_ble_eq_true rfl) ?_
  intro p e s m args below meth c ls hx hb X hr hlk hl I
  have hl : lv_has ls 7 [(0, .ref (ad 183)), (1, .int (nI s9))] := hl
  have outer : ∀ (j : Nat) (pt : Nat) (P2 L2 M2 : Nat → Int32) (Z2 : Nat → Int) (ls : Array Slot) (H : Heap) (locs : List Loc), pt + j = s9 + 1 → RB P2 L2 M2 Z2 → (∀ q, q < pt → q &&& s9 = q → Z2 (40 + q) = mn (fun i j => (A9 (6 * i + j)).toInt) s9 q) → (∀ v, v < 40 ∨ 106 ≤ v → Z2 v = Z v) → lv_has ls 7 [(2, .int (nI pt)), (0, .ref (ad 183)), (1, .int (nI s9))] → xI D classes 193 ad s.heap (rw3 σ0 ciM cI cZ (mfs ad th nn rws ps le eq) P2 L2 M2) H locs → W p l e (xrm 3) s m args below meth c H locs 0 0 (MQ below (va_Qv (fun σ2 => ∃ (P' L' M' : Nat → Int32) (Z' : Nat → Int), σ2 = rw3 σ0 ciM cI cZ (mfs ad th nn rws ps le eq) P' L' M' ∧ RB P' L' M' Z' ∧ (∀ q, q ≤ s9 → q &&& s9 = q → Z' (40 + q) = mn (fun i j => (A9 (6 * i + j)).toInt) s9 q) ∧ (∀ v, v < 40 ∨ 106 ≤ v → Z' v = Z v)) (xS D classes (xT cI cJ cZ cC cG cP) 193 ad) (xA 193 ad)) args s 0 0 (xA 193 ad)) (F0 m 2 ls []) := by
    intro j
    induction j with
    | zero =>
      intro pt P2 L2 M2 Z2 ls H locs hk h2 h3 h4 hl I
      obtain rfl : pt = s9 + 1 := by omega
      refine lv_iload_n hx hb d_SpectrumDeskModel_findMinor_2 rfl (lv_at hl 0 rfl) ?_
      refine lv_iload_n hx hb d_SpectrumDeskModel_findMinor_3 rfl (lv_at hl 2 rfl) ?_
      refine lv_icmp_gt hx hb d_SpectrumDeskModel_findMinor_4 rfl (fun hc => ?_) (fun hc => ?_)
      · exact xr_vret X I hr hlk ⟨P2, L2, M2, Z2, rfl, h2, fun q hq hi => h3 q (by omega) hi, h4⟩ d_SpectrumDeskModel_findMinor_149
      · exact absurd (nI_lt (Nat.lt_succ_self _) (by omega)) hc
    | succ j ih =>
      intro pt P2 L2 M2 Z2 ls H locs hk h2 h3 h4 hl I
      refine lv_iload_n hx hb d_SpectrumDeskModel_findMinor_2 rfl (lv_at hl 0 rfl) ?_
      refine lv_iload_n hx hb d_SpectrumDeskModel_findMinor_3 rfl (lv_at hl 2 rfl) ?_
      refine lv_icmp_gt hx hb d_SpectrumDeskModel_findMinor_4 rfl (fun hc => ?_) (fun hc => ?_)
      · exact absurd hc (nI_nlt (by omega) (by omega))
      · refine lv_iload_n hx hb d_SpectrumDeskModel_findMinor_7 rfl (lv_at hl 0 rfl) ?_
        refine lv_iload_n hx hb d_SpectrumDeskModel_findMinor_8 rfl (lv_at hl 2 rfl) ?_
        refine lv_iand hx hb d_SpectrumDeskModel_findMinor_9 ?_
        refine xr_topi (y := nI (pt &&& s9)) (mb_and pt (by omega) s9 hs9) ?_
        refine lv_iload_n hx hb d_SpectrumDeskModel_findMinor_10 rfl (lv_at hl 0 rfl) ?_
        refine lv_icmp_ne hx hb d_SpectrumDeskModel_findMinor_11 rfl (fun hd => ?_) (fun hd => ?_)
        · have hne : ¬ pt &&& s9 = pt := fun h => hd (by rw [h])
          refine lv_iinc (k := 0) (v := nI (pt + 1)) (lv' := [(2, .int (nI (pt + 1))), (0, .ref (ad 183)), (1, .int (nI s9))]) hx hb d_SpectrumDeskModel_findMinor_143 hl rfl (nI_1 pt) (by decide) rfl (fun ls hl => ?_)
          refine lv_goto hx hb d_SpectrumDeskModel_findMinor_146 rfl ?_
          exact ih (pt + 1) P2 L2 M2 Z2 ls H locs (by omega) h2 (fun q hq hi => h3 q (Nat.lt_of_le_of_ne (by omega) (fun e => hne (e ▸ hi))) hi) h4 hl I
        · have hin : pt &&& s9 = pt := (nI_eq (Nat.lt_of_le_of_lt Nat.and_le_left (by omega)) (by omega)).mp hd
          obtain ⟨sz, hsz⟩ : ∃ sz, pcn pt 6 = sz := ⟨_, rfl⟩
          have hsz6 : sz ≤ 6 := by rw [← hsz]; exact pcn_le 6
          refine lv_iload_n hx hb d_SpectrumDeskModel_findMinor_14 rfl (lv_at hl 0 rfl) ?_
          refine xr_calli (xr_runS (kc := 0) (kr := 3) (n := 1) (As := [.int (nI pt)]) (rest := []) X I (c_SpectrumDeskModel_sizeOf (show pt < 64 by omega)) (xg k_5bb586f254) (List.mem_cons_of_mem _ k_56215041f4) (List.mem_cons_of_mem _ k_5eb33858fb) (List.mem_cons_of_mem _ k_30fa15c9ac) (by decide +kernel) (by decide) rfl hl.1 rfl (Nat.le_of_ble_eq_true rfl) d_SpectrumDeskModel_findMinor_15) I (fun r1 σ9 H locs hp I => ?_)
          obtain ⟨rfl, h9⟩ := hp; rw [h9] at I; clear h9
          refine xr_topi (y := nI sz) (by rw [hsz]) ?_
          refine lv_istore_n (lv' := [(3, .int (nI sz)), (2, .int (nI pt)), (0, .ref (ad 183)), (1, .int (nI s9))]) hx hb d_SpectrumDeskModel_findMinor_18 rfl hl (by decide) rfl (fun ls hl => ?_)
          refine lv_aload_n hx hb d_SpectrumDeskModel_findMinor_19 rfl (lv_at hl 2 rfl) ?_
          refine lv_bipush (v := nI 40) hx hb d_SpectrumDeskModel_findMinor_20 (by decide) ?_
          refine lv_iload_n hx hb d_SpectrumDeskModel_findMinor_22 rfl (lv_at hl 1 rfl) ?_
          refine lv_iadd hx hb d_SpectrumDeskModel_findMinor_23 (xr_topi (y := nI (40 + pt)) (nI_add 40 pt) ?_)
          refine lv_iload_n hx hb d_SpectrumDeskModel_findMinor_24 rfl (lv_at hl 0 rfl) ?_
          have inner : ∀ (j2 : Nat) (i : Nat) (P3 L3 M3 : Nat → Int32) (Z3 : Nat → Int) (ls : Array Slot) (H : Heap) (locs : List Loc), i + j2 = 6 → RB P3 L3 M3 Z3 → Z3 (40 + pt) = (inF (fun i j => (A9 (6 * i + j)).toInt) pt sz (plF s9 sz 6).1 (prv (fun i j => (A9 (6 * i + j)).toInt) s9 sz) i).1 → (∀ q, q < pt → q &&& s9 = q → Z3 (40 + q) = mn (fun i j => (A9 (6 * i + j)).toInt) s9 q) → (∀ v, v < 40 ∨ 106 ≤ v → Z3 v = Z v) → lv_has ls 7 [(6, .int (nI i)), (5, .int (nI (inF (fun i j => (A9 (6 * i + j)).toInt) pt sz (plF s9 sz 6).1 (prv (fun i j => (A9 (6 * i + j)).toInt) s9 sz) i).2)), (4, .int (nI (plF s9 sz 6).1)), (3, .int (nI sz)), (2, .int (nI pt)), (0, .ref (ad 183)), (1, .int (nI s9))] → xI D classes 193 ad s.heap (rw3 σ0 ciM cI cZ (mfs ad th nn rws ps le eq) P3 L3 M3) H locs → W p l e (xrm 3) s m args below meth c H locs 0 0 (MQ below (va_Qv (fun σ2 => ∃ (P' L' M' : Nat → Int32) (Z' : Nat → Int), σ2 = rw3 σ0 ciM cI cZ (mfs ad th nn rws ps le eq) P' L' M' ∧ RB P' L' M' Z' ∧ (∀ q, q ≤ s9 → q &&& s9 = q → Z' (40 + q) = mn (fun i j => (A9 (6 * i + j)).toInt) s9 q) ∧ (∀ v, v < 40 ∨ 106 ≤ v → Z' v = Z v)) (xS D classes (xT cI cJ cZ cC cG cP) 193 ad) (xA 193 ad)) args s 0 0 (xA 193 ad)) (F0 m 51 ls []) := by
            intro j2
            induction j2 with
            | zero =>
              intro i P3 L3 M3 Z3 ls H locs hj g2 g3 g4 g5 hl I
              obtain rfl : i = 6 := by omega
              refine lv_iload hx hb d_SpectrumDeskModel_findMinor_51 (lv_at hl 0 rfl) ?_
              refine lv_bipush (v := nI 6) hx hb d_SpectrumDeskModel_findMinor_53 (by decide) ?_
              refine lv_icmp_ge hx hb d_SpectrumDeskModel_findMinor_55 rfl (fun hf => ?_) (fun hf => ?_)
              · refine lv_iinc (k := 4) (v := nI (pt + 1)) (lv' := [(2, .int (nI (pt + 1))), (6, .int (nI 6)), (5, .int (nI (inF (fun i j => (A9 (6 * i + j)).toInt) pt sz (plF s9 sz 6).1 (prv (fun i j => (A9 (6 * i + j)).toInt) s9 sz) 6).2)), (4, .int (nI (plF s9 sz 6).1)), (3, .int (nI sz)), (0, .ref (ad 183)), (1, .int (nI s9))]) hx hb d_SpectrumDeskModel_findMinor_143 hl rfl (nI_1 pt) (by decide) rfl (fun ls hl => ?_)
                refine lv_goto hx hb d_SpectrumDeskModel_findMinor_146 rfl ?_
                have hl := lv_sub hl [0, 5, 6] rfl
                have hl : lv_has ls 7 [(2, .int (nI (pt + 1))), (0, .ref (ad 183)), (1, .int (nI s9))] := hl
                refine ih (pt + 1) P3 L3 M3 Z3 ls H locs (by omega) g2 (fun q hq hi => ?_) g5 hl I
                by_cases e9 : q = pt
                · rw [e9, g3, mn_in hsz]
                · exact g4 q (by omega) hi
              · exact absurd (by decide) hf
            | succ j2 jh =>
              intro i P3 L3 M3 Z3 ls H locs hj g2 g3 g4 g5 hl I
              have hcol := (pl_lt (set := s9) (sz := sz) 6 (Nat.le_refl _)).1
              refine lv_iload hx hb d_SpectrumDeskModel_findMinor_51 (lv_at hl 0 rfl) ?_
              refine lv_bipush (v := nI 6) hx hb d_SpectrumDeskModel_findMinor_53 (by decide) ?_
              refine lv_icmp_ge hx hb d_SpectrumDeskModel_findMinor_55 rfl (fun hf => ?_) (fun hf => ?_)
              · exact absurd hf (nI_ge (by omega) (by omega))
              · refine lv_iload_n hx hb d_SpectrumDeskModel_findMinor_58 rfl (lv_at hl 4 rfl) ?_
                refine lv_iload hx hb d_SpectrumDeskModel_findMinor_59 (lv_at hl 0 rfl) ?_
                refine lv_ishr hx hb d_SpectrumDeskModel_findMinor_61 ?_
                refine lv_iconst (v := nI 1) hx hb d_SpectrumDeskModel_findMinor_62 (by decide) ?_
                refine lv_iand hx hb d_SpectrumDeskModel_findMinor_63 ?_
                refine xr_topi (y := nI (pt / 2 ^ i % 2)) (mb_bit pt (by omega) i (by omega)) ?_
                refine lv_iconst (v := nI 1) hx hb d_SpectrumDeskModel_findMinor_64 (by decide) ?_
                refine lv_icmp_ne hx hb d_SpectrumDeskModel_findMinor_65 rfl (fun hg => ?_) (fun hg => ?_)
                · have hb1 : ¬ pt / 2 ^ i % 2 = 1 := fun h => hg (by rw [h])
                  refine lv_iinc (k := 0) (v := nI (i + 1)) (lv' := [(6, .int (nI (i + 1))), (5, .int (nI (inF (fun i j => (A9 (6 * i + j)).toInt) pt sz (plF s9 sz 6).1 (prv (fun i j => (A9 (6 * i + j)).toInt) s9 sz) i).2)), (4, .int (nI (plF s9 sz 6).1)), (3, .int (nI sz)), (2, .int (nI pt)), (0, .ref (ad 183)), (1, .int (nI s9))]) hx hb d_SpectrumDeskModel_findMinor_137 hl rfl (nI_1 i) (by decide) rfl (fun ls hl => ?_)
                  refine lv_goto hx hb d_SpectrumDeskModel_findMinor_140 rfl ?_
                  have e9 : inF (fun i j => (A9 (6 * i + j)).toInt) pt sz (plF s9 sz 6).1 (prv (fun i j => (A9 (6 * i + j)).toInt) s9 sz) (i + 1) = inF (fun i j => (A9 (6 * i + j)).toInt) pt sz (plF s9 sz 6).1 (prv (fun i j => (A9 (6 * i + j)).toInt) s9 sz) i := by rw [inF, if_neg hb1]
                  exact jh (i + 1) P3 L3 M3 Z3 ls H locs (by omega) g2 (by rw [e9]; exact g3) g4 g5 (by rw [e9]; exact hl) I
                · have hb1 : pt / 2 ^ i % 2 = 1 := (nI_eq (by omega) (by decide)).mp hg
                  obtain ⟨m1, m2, m3⟩ := mb_sub pt (by omega) i (by omega) hb1
                  have m4 := mb_in s9 hs9 pt (by omega) i (by omega) hb1 hin
                  have hprev : Z3 (40 + (pt - 2 ^ i)) = prv (fun i j => (A9 (6 * i + j)).toInt) s9 sz (pt - 2 ^ i) := by rw [prv_mn (by omega) (by omega) hb1 hsz]; exact g4 _ m2 m4
                  refine lv_aload_n hx hb d_SpectrumDeskModel_findMinor_68 rfl (lv_at hl 5 rfl) ?_
                  refine lv_bipush (v := nI 104) hx hb d_SpectrumDeskModel_findMinor_69 (by decide) ?_
                  refine lv_aload_n hx hb d_SpectrumDeskModel_findMinor_71 rfl (lv_at hl 5 rfl) ?_
                  refine xr_get X I fin_M 183 (by decide) (r183 ..) rfl 6 (by decide) (List.mem_cons_of_mem _ k_78efd7a03a) rfl rfl d_SpectrumDeskModel_findMinor_72 ?_
                  refine lv_bipush (v := nI 6) hx hb d_SpectrumDeskModel_findMinor_75 (by decide) ?_
                  refine lv_iload hx hb d_SpectrumDeskModel_findMinor_77 (lv_at hl 0 rfl) ?_
                  refine lv_imul hx hb d_SpectrumDeskModel_findMinor_79 (xr_topi (y := nI (6 * i)) (pk_mul 6 i) ?_)
                  refine lv_iload hx hb d_SpectrumDeskModel_findMinor_80 (lv_at hl 2 rfl) ?_
                  refine lv_iadd hx hb d_SpectrumDeskModel_findMinor_82 (xr_topi (y := nI ((6 * i) + ((plF s9 sz 6).1))) (nI_add (6 * i) ((plF s9 sz 6).1)) ?_)
                  refine xr_iald X I 188 0 (by decide) ((r_o (by decide)).trans hA9) rfl (by omega) (by decide) d_SpectrumDeskModel_findMinor_83 ?_
                  refine lv_i2l hx hb d_SpectrumDeskModel_findMinor_84 rfl ?_
                  refine xr_callv (xr_runV (kc := 0) (kr := 3) (n := 2) (As := [.int (nI 104), .long ((A9 ((6 * i) + ((plF s9 sz 6).1))).toInt64)]) (rest := []) X I (by decide) (r183 ..) rfl (c_SpectrumDeskModel_bigSet (w := 104) (v := (A9 (6 * i + (plF s9 sz 6).1)).toInt64) mfs_ok (by decide)) (xg k_5f300b8d49) (List.mem_cons_of_mem _ k_7a89662665) (List.mem_cons_of_mem _ k_203da126f2) (List.mem_cons_of_mem _ k_e2b6114fa3) (List.mem_cons_of_mem _ k_30fa15c9ac) (by decide +kernel) (by decide) rfl hl.1 rfl (Nat.le_of_ble_eq_true rfl) d_SpectrumDeskModel_findMinor_85) I (fun σ9 H locs hp I => ?_)
                  obtain ⟨P4, L4, M4, rfl, hf4, hx4⟩ := hp
                  have k4 := RB_up g2 hf4 hx4
                  rw [q_i2l] at k4
                  generalize eZ4 : va_up Z3 104 (A9 (6 * i + (plF s9 sz 6).1)).toInt = Z4 at k4
                  have y104 : Z4 104 = (A9 (6 * i + (plF s9 sz 6).1)).toInt := by rw [← eZ4, va_up_self]
                  have yo : ∀ v, v ≠ 104 → Z4 v = Z3 v := fun v hv => by rw [← eZ4]; exact va_up_ne _ _ hv
                  have bA := hAb i (plF s9 sz 6).1 (by omega) hcol
                  have bP : bd (2 ^ 138) (prv (fun i j => (A9 (6 * i + j)).toInt) s9 sz (pt - 2 ^ i)) := by rw [prv_mn (by omega) (by omega) hb1 hsz]; exact mn_bd hAb
                  have sA : sm (Z4 104) := by rw [y104]; exact sm_of (n := 20) (by decide) (bd_le (by decide) bA)
                  have sP : sm (Z4 (40 + (pt - 2 ^ i))) := by rw [yo _ (by omega), hprev]; exact sm_of (by decide) bP
                  obtain ⟨la, la1, la2⟩ := rb_sm (k4 104 (by decide)) sA
                  obtain ⟨lb, lb1, lb2⟩ := rb_sm (k4 (40 + (pt - 2 ^ i)) (by omega)) sP
                  refine lv_aload_n hx hb d_SpectrumDeskModel_findMinor_88 rfl (lv_at hl 5 rfl) ?_
                  refine lv_bipush (v := nI 105) hx hb d_SpectrumDeskModel_findMinor_89 (by decide) ?_
                  refine lv_bipush (v := nI 104) hx hb d_SpectrumDeskModel_findMinor_91 (by decide) ?_
                  refine lv_bipush (v := nI 40) hx hb d_SpectrumDeskModel_findMinor_93 (by decide) ?_
                  refine lv_iload_n hx hb d_SpectrumDeskModel_findMinor_95 rfl (lv_at hl 4 rfl) ?_
                  refine lv_iconst (v := nI 1) hx hb d_SpectrumDeskModel_findMinor_96 (by decide) ?_
                  refine lv_iload hx hb d_SpectrumDeskModel_findMinor_97 (lv_at hl 0 rfl) ?_
                  refine lv_ishl hx hb d_SpectrumDeskModel_findMinor_99 ?_
                  refine lv_iconst (v := (-1)) hx hb d_SpectrumDeskModel_findMinor_100 (by decide) ?_
                  refine lv_ixor hx hb d_SpectrumDeskModel_findMinor_101 ?_
                  refine lv_iand hx hb d_SpectrumDeskModel_findMinor_102 ?_
                  refine xr_topi (y := nI (pt - 2 ^ i)) (mb_clear pt (by omega) i (by omega) hb1) ?_
                  refine lv_iadd hx hb d_SpectrumDeskModel_findMinor_103 (xr_topi (y := nI (40 + (pt - 2 ^ i))) (nI_add 40 (pt - 2 ^ i)) ?_)
                  refine xr_callv (xr_runV (kc := 1) (kr := 3) (n := 3) (As := [.int (nI 105), .int (nI 104), .int (nI (40 + (pt - 2 ^ i)))]) (rest := []) X I (by decide) (r183 ..) rfl (c_SpectrumDeskModel_bigProduct (w := 105) (u := 104) (v := 40 + (pt - 2 ^ i)) mfs_ok (by decide) (by decide) (by omega) (by decide) (by omega) la2 lb2 (by omega) (k4 104 (by decide)) (k4 (40 + (pt - 2 ^ i)) (by omega))) (xg k_d838ee6d72) (List.mem_cons_of_mem _ k_bbee4b637e) (List.mem_cons_of_mem _ k_55f9d50ad7) (List.mem_cons_of_mem _ k_ea9d46a281) (List.mem_cons_of_mem _ k_30fa15c9ac) (by decide +kernel) (by decide) rfl hl.1 rfl (Nat.le_of_ble_eq_true rfl) d_SpectrumDeskModel_findMinor_104) I (fun σ9 H locs hp I => ?_)
                  obtain ⟨P5, L5, M5, rfl, hf5, hx5⟩ := hp
                  have k5 := RB_up k4 hf5 hx5
                  rw [y104, yo (40 + (pt - 2 ^ i)) (by omega), hprev] at k5
                  generalize eZ5 : va_up Z4 105 ((A9 (6 * i + (plF s9 sz 6).1)).toInt * prv (fun i j => (A9 (6 * i + j)).toInt) s9 sz (pt - 2 ^ i)) = Z5 at k5
                  have y105 : Z5 105 = (A9 (6 * i + (plF s9 sz 6).1)).toInt * prv (fun i j => (A9 (6 * i + j)).toInt) s9 sz (pt - 2 ^ i) := by rw [← eZ5, va_up_self]
                  have yo5 : ∀ v, v ≠ 104 → v ≠ 105 → Z5 v = Z3 v := fun v h1 h2 => by rw [← eZ5]; exact (va_up_ne _ _ h2).trans (yo v h1)
                  have r1 : rbd (Z5 (40 + pt)) := by rw [yo5 _ (by omega) (by omega), g3]; exact sm_rbd (sm_of (by decide) (inF_sm hAb (by omega) hsz (by omega)))
                  have r2 : rbd (Z5 105) := by rw [y105]; exact sm_mul (sm_of (n := 20) (by decide) (bd_le (by decide) bA)) (sm_of (by decide) bP)
                  refine lv_aload_n hx hb d_SpectrumDeskModel_findMinor_107 rfl (lv_at hl 5 rfl) ?_
                  refine lv_bipush (v := nI 40) hx hb d_SpectrumDeskModel_findMinor_108 (by decide) ?_
                  refine lv_iload_n hx hb d_SpectrumDeskModel_findMinor_110 rfl (lv_at hl 4 rfl) ?_
                  refine lv_iadd hx hb d_SpectrumDeskModel_findMinor_111 (xr_topi (y := nI (40 + pt)) (nI_add 40 pt) ?_)
                  refine lv_bipush (v := nI 105) hx hb d_SpectrumDeskModel_findMinor_112 (by decide) ?_
                  refine lv_iload hx hb d_SpectrumDeskModel_findMinor_114 (lv_at hl 1 rfl) ?_
                  refine lv_iload_n hx hb d_SpectrumDeskModel_findMinor_116 rfl (lv_at hl 3 rfl) ?_
                  refine lv_iadd hx hb d_SpectrumDeskModel_findMinor_117 (xr_topi (y := nI (((inF (fun i j => (A9 (6 * i + j)).toInt) pt sz (plF s9 sz 6).1 (prv (fun i j => (A9 (6 * i + j)).toInt) s9 sz) i).2) + sz)) (nI_add ((inF (fun i j => (A9 (6 * i + j)).toInt) pt sz (plF s9 sz 6).1 (prv (fun i j => (A9 (6 * i + j)).toInt) s9 sz) i).2) sz) ?_)
                  refine lv_iconst (v := nI 1) hx hb d_SpectrumDeskModel_findMinor_118 (by decide) ?_
                  refine lv_isub hx hb d_SpectrumDeskModel_findMinor_119 (xr_topi (y := nI ((inF (fun i j => (A9 (6 * i + j)).toInt) pt sz (plF s9 sz 6).1 (prv (fun i j => (A9 (6 * i + j)).toInt) s9 sz) i).2 + sz - 1)) (pk_sub (by omega)) ?_)
                  refine lv_iconst (v := nI 2) hx hb d_SpectrumDeskModel_findMinor_120 (by decide) ?_
                  refine lv_irem hx hb d_SpectrumDeskModel_findMinor_121 (by decide) ?_
                  refine xr_topi (y := nI (((inF (fun i j => (A9 (6 * i + j)).toInt) pt sz (plF s9 sz 6).1 (prv (fun i j => (A9 (6 * i + j)).toInt) s9 sz) i).2 + sz - 1) % 2)) (pk_rem (by have h := inF_at (A := (fun i j => (A9 (6 * i + j)).toInt)) (part := pt) (sz := sz) (col := (plF s9 sz 6).1) (prev := prv (fun i j => (A9 (6 * i + j)).toInt) s9 sz) i; omega) (by decide) (by decide)) ?_
                  refine lv_iconst (v := nI 1) hx hb d_SpectrumDeskModel_findMinor_122 (by decide) ?_
                  refine lv_icmp_ne hx hb d_SpectrumDeskModel_findMinor_123 rfl (fun hh => ?_) (fun hh => ?_)
                  · have hodd : ¬ ((inF (fun i j => (A9 (6 * i + j)).toInt) pt sz (plF s9 sz 6).1 (prv (fun i j => (A9 (6 * i + j)).toInt) s9 sz) i).2 + sz - 1) % 2 = 1 := fun h => hh (by rw [h])
                    refine lv_iconst (v := nI 0) hx hb d_SpectrumDeskModel_findMinor_130 (by decide) ?_
                    refine xr_callv (xr_runV (kc := 2) (kr := 3) (n := 3) (As := [.int (nI (40 + pt)), .int (nI 105), .int (nI 0)]) (rest := []) X I (by decide) (r183 ..) rfl (c_SpectrumDeskModel_bigAdd0 (w := 40 + pt) (u := 105) mfs_ok (by omega) (by decide) (by omega) (k5 (40 + pt) (by omega)) (k5 105 (by decide)) r1 r2) (xg k_dd45f20b23) (List.mem_cons_of_mem _ k_1f49c5cd66) (List.mem_cons_of_mem _ k_a10028f3d7) (List.mem_cons_of_mem _ k_758e0597f6) (List.mem_cons_of_mem _ k_30fa15c9ac) (by decide +kernel) (by decide) rfl hl.1 rfl (Nat.le_of_ble_eq_true rfl) d_SpectrumDeskModel_findMinor_131) I (fun σ9 H locs hp I => ?_)
                    obtain ⟨P6, L6, M6, rfl, hf6, hx6⟩ := hp
                    have k6 := RB_up k5 hf6 hx6
                    refine lv_iinc (k := 1) (v := nI ((inF (fun i j => (A9 (6 * i + j)).toInt) pt sz (plF s9 sz 6).1 (prv (fun i j => (A9 (6 * i + j)).toInt) s9 sz) i).2 + 1)) (lv' := [(5, .int (nI ((inF (fun i j => (A9 (6 * i + j)).toInt) pt sz (plF s9 sz 6).1 (prv (fun i j => (A9 (6 * i + j)).toInt) s9 sz) i).2 + 1))), (6, .int (nI i)), (4, .int (nI (plF s9 sz 6).1)), (3, .int (nI sz)), (2, .int (nI pt)), (0, .ref (ad 183)), (1, .int (nI s9))]) hx hb d_SpectrumDeskModel_findMinor_134 hl rfl (nI_1 _) (by decide) rfl (fun ls hl => ?_)
                    refine lv_iinc (k := 1) (v := nI (i + 1)) (lv' := [(6, .int (nI (i + 1))), (5, .int (nI ((inF (fun i j => (A9 (6 * i + j)).toInt) pt sz (plF s9 sz 6).1 (prv (fun i j => (A9 (6 * i + j)).toInt) s9 sz) i).2 + 1))), (4, .int (nI (plF s9 sz 6).1)), (3, .int (nI sz)), (2, .int (nI pt)), (0, .ref (ad 183)), (1, .int (nI s9))]) hx hb d_SpectrumDeskModel_findMinor_137 hl rfl (nI_1 i) (by decide) rfl (fun ls hl => ?_)
                    refine lv_goto hx hb d_SpectrumDeskModel_findMinor_140 rfl ?_
                    have e9 : inF (fun i j => (A9 (6 * i + j)).toInt) pt sz (plF s9 sz 6).1 (prv (fun i j => (A9 (6 * i + j)).toInt) s9 sz) (i + 1) = ((inF (fun i j => (A9 (6 * i + j)).toInt) pt sz (plF s9 sz 6).1 (prv (fun i j => (A9 (6 * i + j)).toInt) s9 sz) i).1 + (A9 (6 * i + (plF s9 sz 6).1)).toInt * prv (fun i j => (A9 (6 * i + j)).toInt) s9 sz (pt - 2 ^ i), (inF (fun i j => (A9 (6 * i + j)).toInt) pt sz (plF s9 sz 6).1 (prv (fun i j => (A9 (6 * i + j)).toInt) s9 sz) i).2 + 1) := by rw [inF, if_pos hb1, if_neg hodd]
                    refine jh (i + 1) P6 L6 M6 _ ls H locs (by omega) k6 ?_ (fun q hq hi => (va_up_ne _ _ (by omega)).trans ((yo5 _ (by omega) (by omega)).trans (g4 q hq hi))) (fun v hv => (va_up_ne _ _ (by omega)).trans ((yo5 _ (by omega) (by omega)).trans (g5 v hv))) (by rw [e9]; exact hl) I
                    rw [e9, va_up_self, yo5 (40 + pt) (by omega) (by omega), g3, y105]
                  · have hodd : ((inF (fun i j => (A9 (6 * i + j)).toInt) pt sz (plF s9 sz 6).1 (prv (fun i j => (A9 (6 * i + j)).toInt) s9 sz) i).2 + sz - 1) % 2 = 1 := (nI_eq (by omega) (by decide)).mp hh
                    refine lv_iconst (v := nI 1) hx hb d_SpectrumDeskModel_findMinor_126 (by decide) ?_
                    refine lv_goto hx hb d_SpectrumDeskModel_findMinor_127 rfl ?_
                    refine xr_callv (xr_runV (kc := 2) (kr := 3) (n := 3) (As := [.int (nI (40 + pt)), .int (nI 105), .int (nI 1)]) (rest := []) X I (by decide) (r183 ..) rfl (c_SpectrumDeskModel_bigAdd1 (w := 40 + pt) (u := 105) mfs_ok (by omega) (by decide) (by omega) (k5 (40 + pt) (by omega)) (k5 105 (by decide)) r1 r2) (xg k_dd45f20b23) (List.mem_cons_of_mem _ k_1f49c5cd66) (List.mem_cons_of_mem _ k_a10028f3d7) (List.mem_cons_of_mem _ k_758e0597f6) (List.mem_cons_of_mem _ k_30fa15c9ac) (by decide +kernel) (by decide) rfl hl.1 rfl (Nat.le_of_ble_eq_true rfl) d_SpectrumDeskModel_findMinor_131) I (fun σ9 H locs hp I => ?_)
                    obtain ⟨P6, L6, M6, rfl, hf6, hx6⟩ := hp
                    have k6 := RB_up k5 hf6 hx6
                    refine lv_iinc (k := 1) (v := nI ((inF (fun i j => (A9 (6 * i + j)).toInt) pt sz (plF s9 sz 6).1 (prv (fun i j => (A9 (6 * i + j)).toInt) s9 sz) i).2 + 1)) (lv' := [(5, .int (nI ((inF (fun i j => (A9 (6 * i + j)).toInt) pt sz (plF s9 sz 6).1 (prv (fun i j => (A9 (6 * i + j)).toInt) s9 sz) i).2 + 1))), (6, .int (nI i)), (4, .int (nI (plF s9 sz 6).1)), (3, .int (nI sz)), (2, .int (nI pt)), (0, .ref (ad 183)), (1, .int (nI s9))]) hx hb d_SpectrumDeskModel_findMinor_134 hl rfl (nI_1 _) (by decide) rfl (fun ls hl => ?_)
                    refine lv_iinc (k := 1) (v := nI (i + 1)) (lv' := [(6, .int (nI (i + 1))), (5, .int (nI ((inF (fun i j => (A9 (6 * i + j)).toInt) pt sz (plF s9 sz 6).1 (prv (fun i j => (A9 (6 * i + j)).toInt) s9 sz) i).2 + 1))), (4, .int (nI (plF s9 sz 6).1)), (3, .int (nI sz)), (2, .int (nI pt)), (0, .ref (ad 183)), (1, .int (nI s9))]) hx hb d_SpectrumDeskModel_findMinor_137 hl rfl (nI_1 i) (by decide) rfl (fun ls hl => ?_)
                    refine lv_goto hx hb d_SpectrumDeskModel_findMinor_140 rfl ?_
                    have e9 : inF (fun i j => (A9 (6 * i + j)).toInt) pt sz (plF s9 sz 6).1 (prv (fun i j => (A9 (6 * i + j)).toInt) s9 sz) (i + 1) = ((inF (fun i j => (A9 (6 * i + j)).toInt) pt sz (plF s9 sz 6).1 (prv (fun i j => (A9 (6 * i + j)).toInt) s9 sz) i).1 - (A9 (6 * i + (plF s9 sz 6).1)).toInt * prv (fun i j => (A9 (6 * i + j)).toInt) s9 sz (pt - 2 ^ i), (inF (fun i j => (A9 (6 * i + j)).toInt) pt sz (plF s9 sz 6).1 (prv (fun i j => (A9 (6 * i + j)).toInt) s9 sz) i).2 + 1) := by rw [inF, if_pos hb1, if_pos hodd]
                    refine jh (i + 1) P6 L6 M6 _ ls H locs (by omega) k6 ?_ (fun q hq hi => (va_up_ne _ _ (by omega)).trans ((yo5 _ (by omega) (by omega)).trans (g4 q hq hi))) (fun v hv => (va_up_ne _ _ (by omega)).trans ((yo5 _ (by omega) (by omega)).trans (g5 v hv))) (by rw [e9]; exact hl) I
                    rw [e9, va_up_self, yo5 (40 + pt) (by omega) (by omega), g3, y105]
          refine lv_if_ne hx hb d_SpectrumDeskModel_findMinor_25 rfl (fun hg => ?_) (fun hg => ?_)
          · have hz0 : ¬ sz = 0 := fun h => hg (by rw [h]; rfl)
            refine lv_lconst (v := 0) hx hb d_SpectrumDeskModel_findMinor_32 (by decide) ?_
            refine xr_callv (xr_runV (kc := 0) (kr := 3) (n := 2) (As := [.int (nI (40 + pt)), .long 0]) (rest := []) X I (by decide) (r183 ..) rfl (c_SpectrumDeskModel_bigSet (w := 40 + pt) (v := 0) mfs_ok (by omega)) (xg k_5f300b8d49) (List.mem_cons_of_mem _ k_7a89662665) (List.mem_cons_of_mem _ k_203da126f2) (List.mem_cons_of_mem _ k_e2b6114fa3) (List.mem_cons_of_mem _ k_30fa15c9ac) (by decide +kernel) (by decide) rfl hl.1 rfl (Nat.le_of_ble_eq_true rfl) d_SpectrumDeskModel_findMinor_33) I (fun σ9 H locs hp I => ?_)
            obtain ⟨P3, L3, M3, rfl, hf3, hx3⟩ := hp
            have k3 := RB_up h2 hf3 hx3
            refine lv_iload_n hx hb d_SpectrumDeskModel_findMinor_36 rfl (lv_at hl 3 rfl) ?_
            refine lv_iload_n hx hb d_SpectrumDeskModel_findMinor_37 rfl (lv_at hl 0 rfl) ?_
            refine lv_iconst (v := nI 1) hx hb d_SpectrumDeskModel_findMinor_38 (by decide) ?_
            refine lv_isub hx hb d_SpectrumDeskModel_findMinor_39 ?_
            refine xr_topi (y := nP sz) rfl ?_
            refine xr_calli (xr_runS (kc := 0) (kr := 3) (n := 2) (As := [.int (nI s9), .int (nP sz)]) (rest := []) X I (c_SpectrumDeskModel_placeOf (s9 := s9) (sz := sz) hs9 hsz6) (xg k_039dba0db2) (List.mem_cons_of_mem _ k_4aacde9f3d) (List.mem_cons_of_mem _ k_c9cf2d4db0) (List.mem_cons_of_mem _ k_30fa15c9ac) (by decide +kernel) (by decide) rfl hl.1 rfl (Nat.le_of_ble_eq_true rfl) d_SpectrumDeskModel_findMinor_40) I (fun r1 σ9 H locs hp I => ?_)
            obtain ⟨rfl, h9⟩ := hp; rw [h9] at I; clear h9
            refine lv_istore (lv' := [(4, .int (nI (plF s9 sz 6).1)), (3, .int (nI sz)), (2, .int (nI pt)), (0, .ref (ad 183)), (1, .int (nI s9))]) hx hb d_SpectrumDeskModel_findMinor_43 hl (by decide) rfl (fun ls hl => ?_)
            refine lv_iconst (v := nI 0) hx hb d_SpectrumDeskModel_findMinor_45 (by decide) ?_
            refine lv_istore (lv' := [(5, .int (nI 0)), (4, .int (nI (plF s9 sz 6).1)), (3, .int (nI sz)), (2, .int (nI pt)), (0, .ref (ad 183)), (1, .int (nI s9))]) hx hb d_SpectrumDeskModel_findMinor_46 hl (by decide) rfl (fun ls hl => ?_)
            refine lv_iconst (v := nI 0) hx hb d_SpectrumDeskModel_findMinor_48 (by decide) ?_
            refine lv_istore (lv' := [(6, .int (nI 0)), (5, .int (nI 0)), (4, .int (nI (plF s9 sz 6).1)), (3, .int (nI sz)), (2, .int (nI pt)), (0, .ref (ad 183)), (1, .int (nI s9))]) hx hb d_SpectrumDeskModel_findMinor_49 hl (by decide) rfl (fun ls hl => ?_)
            exact inner 6 0 P3 L3 M3 _ ls _ _ (by omega) k3 (by rw [va_up_self]; simp only [inF]; rw [if_neg hz0]; decide) (fun q hq hi => (va_up_ne _ _ (by omega)).trans (h3 q hq hi)) (fun v hv => (va_up_ne _ _ (by omega)).trans (h4 v hv)) hl I
          · have hz0 : sz = 0 := (nI_eq (by omega) (by decide)).mp hg
            refine lv_lconst (v := 1) hx hb d_SpectrumDeskModel_findMinor_28 (by decide) ?_
            refine lv_goto hx hb d_SpectrumDeskModel_findMinor_29 rfl ?_
            refine xr_callv (xr_runV (kc := 0) (kr := 3) (n := 2) (As := [.int (nI (40 + pt)), .long 1]) (rest := []) X I (by decide) (r183 ..) rfl (c_SpectrumDeskModel_bigSet (w := 40 + pt) (v := 1) mfs_ok (by omega)) (xg k_5f300b8d49) (List.mem_cons_of_mem _ k_7a89662665) (List.mem_cons_of_mem _ k_203da126f2) (List.mem_cons_of_mem _ k_e2b6114fa3) (List.mem_cons_of_mem _ k_30fa15c9ac) (by decide +kernel) (by decide) rfl hl.1 rfl (Nat.le_of_ble_eq_true rfl) d_SpectrumDeskModel_findMinor_33) I (fun σ9 H locs hp I => ?_)
            obtain ⟨P3, L3, M3, rfl, hf3, hx3⟩ := hp
            have k3 := RB_up h2 hf3 hx3
            refine lv_iload_n hx hb d_SpectrumDeskModel_findMinor_36 rfl (lv_at hl 3 rfl) ?_
            refine lv_iload_n hx hb d_SpectrumDeskModel_findMinor_37 rfl (lv_at hl 0 rfl) ?_
            refine lv_iconst (v := nI 1) hx hb d_SpectrumDeskModel_findMinor_38 (by decide) ?_
            refine lv_isub hx hb d_SpectrumDeskModel_findMinor_39 ?_
            refine xr_topi (y := nP sz) rfl ?_
            refine xr_calli (xr_runS (kc := 0) (kr := 3) (n := 2) (As := [.int (nI s9), .int (nP sz)]) (rest := []) X I (c_SpectrumDeskModel_placeOf (s9 := s9) (sz := sz) hs9 hsz6) (xg k_039dba0db2) (List.mem_cons_of_mem _ k_4aacde9f3d) (List.mem_cons_of_mem _ k_c9cf2d4db0) (List.mem_cons_of_mem _ k_30fa15c9ac) (by decide +kernel) (by decide) rfl hl.1 rfl (Nat.le_of_ble_eq_true rfl) d_SpectrumDeskModel_findMinor_40) I (fun r1 σ9 H locs hp I => ?_)
            obtain ⟨rfl, h9⟩ := hp; rw [h9] at I; clear h9
            refine lv_istore (lv' := [(4, .int (nI (plF s9 sz 6).1)), (3, .int (nI sz)), (2, .int (nI pt)), (0, .ref (ad 183)), (1, .int (nI s9))]) hx hb d_SpectrumDeskModel_findMinor_43 hl (by decide) rfl (fun ls hl => ?_)
            refine lv_iconst (v := nI 0) hx hb d_SpectrumDeskModel_findMinor_45 (by decide) ?_
            refine lv_istore (lv' := [(5, .int (nI 0)), (4, .int (nI (plF s9 sz 6).1)), (3, .int (nI sz)), (2, .int (nI pt)), (0, .ref (ad 183)), (1, .int (nI s9))]) hx hb d_SpectrumDeskModel_findMinor_46 hl (by decide) rfl (fun ls hl => ?_)
            refine lv_iconst (v := nI 0) hx hb d_SpectrumDeskModel_findMinor_48 (by decide) ?_
            refine lv_istore (lv' := [(6, .int (nI 0)), (5, .int (nI 0)), (4, .int (nI (plF s9 sz 6).1)), (3, .int (nI sz)), (2, .int (nI pt)), (0, .ref (ad 183)), (1, .int (nI s9))]) hx hb d_SpectrumDeskModel_findMinor_49 hl (by decide) rfl (fun ls hl => ?_)
            exact inner 6 0 P3 L3 M3 _ ls _ _ (by omega) k3 (by rw [va_up_self]; simp only [inF]; rw [if_pos hz0]; decide) (fun q hq hi => (va_up_ne _ _ (by omega)).trans (h3 q hq hi)) (fun v hv => (va_up_ne _ _ (by omega)).trans (h4 v hv)) hl I
  refine lv_iconst (v := nI 0) hx hb d_SpectrumDeskModel_findMinor_0 (by decide) ?_
  refine lv_istore_n (lv' := [(2, .int (nI 0)), (0, .ref (ad 183)), (1, .int (nI s9))]) hx hb d_SpectrumDeskModel_findMinor_1 rfl hl (by decide) rfl (fun ls hl => ?_)
  exact outer (s9 + 1) 0 P L M Z ls _ _ (by omega) hB (fun q hq => absurd hq (Nat.not_lt_zero _)) (fun _ _ => rfl) hl I
end
section
/-! the reference: characterize, bigTenth (written by wip/gen) -/
abbrev b_SpectrumDeskModel_characterize : ByteArray := prog_10_method_34_code
abbrev y_SpectrumDeskModel_characterize : MethodName := ⟨"SpectrumDeskModel", "characterize", "(II)V"⟩
abbrev v_SpectrumDeskModel_characterize : List Cond := Cond.code y_SpectrumDeskModel_characterize b_SpectrumDeskModel_characterize 5 none :: AW
theorem d_SpectrumDeskModel_characterize_0 : decode b_SpectrumDeskModel_characterize 0 = .ok (.aload_n 0, 1) := by decide +kernel
theorem d_SpectrumDeskModel_characterize_1 : decode b_SpectrumDeskModel_characterize 1 = .ok (.getfield 46, 3) := by decide +kernel
theorem d_SpectrumDeskModel_characterize_4 : decode b_SpectrumDeskModel_characterize 4 = .ok (.iload_n 2, 1) := by decide +kernel
theorem d_SpectrumDeskModel_characterize_5 : decode b_SpectrumDeskModel_characterize 5 = .ok (.bipush (8), 2) := by decide +kernel
theorem d_SpectrumDeskModel_characterize_7 : decode b_SpectrumDeskModel_characterize 7 = .ok (.idiv, 1) := by decide +kernel
theorem d_SpectrumDeskModel_characterize_8 : decode b_SpectrumDeskModel_characterize 8 = .ok (.iload_n 1, 1) := by decide +kernel
theorem d_SpectrumDeskModel_characterize_9 : decode b_SpectrumDeskModel_characterize 9 = .ok (.iastore, 1) := by decide +kernel
theorem d_SpectrumDeskModel_characterize_10 : decode b_SpectrumDeskModel_characterize 10 = .ok (.iconst 0, 1) := by decide +kernel
theorem d_SpectrumDeskModel_characterize_11 : decode b_SpectrumDeskModel_characterize 11 = .ok (.istore_n 3, 1) := by decide +kernel
theorem d_SpectrumDeskModel_characterize_12 : decode b_SpectrumDeskModel_characterize 12 = .ok (.iload_n 3, 1) := by decide +kernel
theorem d_SpectrumDeskModel_characterize_13 : decode b_SpectrumDeskModel_characterize 13 = .ok (.iload_n 1, 1) := by decide +kernel
theorem d_SpectrumDeskModel_characterize_14 : decode b_SpectrumDeskModel_characterize 14 = .ok (.if_icmp .gt (17), 3) := by decide +kernel
theorem d_SpectrumDeskModel_characterize_17 : decode b_SpectrumDeskModel_characterize 17 = .ok (.aload_n 0, 1) := by decide +kernel
theorem d_SpectrumDeskModel_characterize_18 : decode b_SpectrumDeskModel_characterize 18 = .ok (.iload_n 2, 1) := by decide +kernel
theorem d_SpectrumDeskModel_characterize_19 : decode b_SpectrumDeskModel_characterize 19 = .ok (.iload_n 3, 1) := by decide +kernel
theorem d_SpectrumDeskModel_characterize_20 : decode b_SpectrumDeskModel_characterize 20 = .ok (.iadd, 1) := by decide +kernel
theorem d_SpectrumDeskModel_characterize_21 : decode b_SpectrumDeskModel_characterize 21 = .ok (.lconst 0, 1) := by decide +kernel
theorem d_SpectrumDeskModel_characterize_22 : decode b_SpectrumDeskModel_characterize 22 = .ok (.invokevirtual 104, 3) := by decide +kernel
theorem d_SpectrumDeskModel_characterize_25 : decode b_SpectrumDeskModel_characterize 25 = .ok (.iinc 3 (1), 3) := by decide +kernel
theorem d_SpectrumDeskModel_characterize_28 : decode b_SpectrumDeskModel_characterize 28 = .ok (.goto (-16), 3) := by decide +kernel
theorem d_SpectrumDeskModel_characterize_31 : decode b_SpectrumDeskModel_characterize 31 = .ok (.iconst 0, 1) := by decide +kernel
theorem d_SpectrumDeskModel_characterize_32 : decode b_SpectrumDeskModel_characterize 32 = .ok (.istore_n 3, 1) := by decide +kernel
theorem d_SpectrumDeskModel_characterize_33 : decode b_SpectrumDeskModel_characterize 33 = .ok (.iload_n 3, 1) := by decide +kernel
theorem d_SpectrumDeskModel_characterize_34 : decode b_SpectrumDeskModel_characterize 34 = .ok (.iconst 1, 1) := by decide +kernel
theorem d_SpectrumDeskModel_characterize_35 : decode b_SpectrumDeskModel_characterize 35 = .ok (.iload_n 1, 1) := by decide +kernel
theorem d_SpectrumDeskModel_characterize_36 : decode b_SpectrumDeskModel_characterize 36 = .ok (.ishl, 1) := by decide +kernel
theorem d_SpectrumDeskModel_characterize_37 : decode b_SpectrumDeskModel_characterize 37 = .ok (.if_icmp .ge (47), 3) := by decide +kernel
theorem d_SpectrumDeskModel_characterize_40 : decode b_SpectrumDeskModel_characterize 40 = .ok (.aload_n 0, 1) := by decide +kernel
theorem d_SpectrumDeskModel_characterize_41 : decode b_SpectrumDeskModel_characterize 41 = .ok (.iload_n 3, 1) := by decide +kernel
theorem d_SpectrumDeskModel_characterize_42 : decode b_SpectrumDeskModel_characterize 42 = .ok (.invokevirtual 118, 3) := by decide +kernel
theorem d_SpectrumDeskModel_characterize_45 : decode b_SpectrumDeskModel_characterize 45 = .ok (.iload_n 3, 1) := by decide +kernel
theorem d_SpectrumDeskModel_characterize_46 : decode b_SpectrumDeskModel_characterize 46 = .ok (.invokestatic 101, 3) := by decide +kernel
theorem d_SpectrumDeskModel_characterize_49 : decode b_SpectrumDeskModel_characterize 49 = .ok (.istore 4, 2) := by decide +kernel
theorem d_SpectrumDeskModel_characterize_51 : decode b_SpectrumDeskModel_characterize 51 = .ok (.aload_n 0, 1) := by decide +kernel
theorem d_SpectrumDeskModel_characterize_52 : decode b_SpectrumDeskModel_characterize 52 = .ok (.iload_n 2, 1) := by decide +kernel
theorem d_SpectrumDeskModel_characterize_53 : decode b_SpectrumDeskModel_characterize 53 = .ok (.iload_n 1, 1) := by decide +kernel
theorem d_SpectrumDeskModel_characterize_54 : decode b_SpectrumDeskModel_characterize 54 = .ok (.iadd, 1) := by decide +kernel
theorem d_SpectrumDeskModel_characterize_55 : decode b_SpectrumDeskModel_characterize 55 = .ok (.iload 4, 2) := by decide +kernel
theorem d_SpectrumDeskModel_characterize_57 : decode b_SpectrumDeskModel_characterize 57 = .ok (.isub, 1) := by decide +kernel
theorem d_SpectrumDeskModel_characterize_58 : decode b_SpectrumDeskModel_characterize 58 = .ok (.bipush (40), 2) := by decide +kernel
theorem d_SpectrumDeskModel_characterize_60 : decode b_SpectrumDeskModel_characterize 60 = .ok (.iload_n 3, 1) := by decide +kernel
theorem d_SpectrumDeskModel_characterize_61 : decode b_SpectrumDeskModel_characterize 61 = .ok (.iadd, 1) := by decide +kernel
theorem d_SpectrumDeskModel_characterize_62 : decode b_SpectrumDeskModel_characterize 62 = .ok (.iload 4, 2) := by decide +kernel
theorem d_SpectrumDeskModel_characterize_64 : decode b_SpectrumDeskModel_characterize 64 = .ok (.iconst 2, 1) := by decide +kernel
theorem d_SpectrumDeskModel_characterize_65 : decode b_SpectrumDeskModel_characterize 65 = .ok (.irem, 1) := by decide +kernel
theorem d_SpectrumDeskModel_characterize_66 : decode b_SpectrumDeskModel_characterize 66 = .ok (.iconst 1, 1) := by decide +kernel
theorem d_SpectrumDeskModel_characterize_67 : decode b_SpectrumDeskModel_characterize 67 = .ok (.if_icmp .ne (7), 3) := by decide +kernel
theorem d_SpectrumDeskModel_characterize_70 : decode b_SpectrumDeskModel_characterize 70 = .ok (.iconst 1, 1) := by decide +kernel
theorem d_SpectrumDeskModel_characterize_71 : decode b_SpectrumDeskModel_characterize 71 = .ok (.goto (4), 3) := by decide +kernel
theorem d_SpectrumDeskModel_characterize_74 : decode b_SpectrumDeskModel_characterize 74 = .ok (.iconst 0, 1) := by decide +kernel
theorem d_SpectrumDeskModel_characterize_75 : decode b_SpectrumDeskModel_characterize 75 = .ok (.invokevirtual 115, 3) := by decide +kernel
theorem d_SpectrumDeskModel_characterize_78 : decode b_SpectrumDeskModel_characterize 78 = .ok (.iinc 3 (1), 3) := by decide +kernel
theorem d_SpectrumDeskModel_characterize_81 : decode b_SpectrumDeskModel_characterize 81 = .ok (.goto (-48), 3) := by decide +kernel
theorem d_SpectrumDeskModel_characterize_84 : decode b_SpectrumDeskModel_characterize 84 = .ok (.return_, 1) := by decide +kernel
abbrev b_SpectrumDeskModel_bigTenth : ByteArray := prog_10_method_16_code
abbrev y_SpectrumDeskModel_bigTenth : MethodName := ⟨"SpectrumDeskModel", "bigTenth", "(I)I"⟩
abbrev v_SpectrumDeskModel_bigTenth : List Cond := Cond.code y_SpectrumDeskModel_bigTenth b_SpectrumDeskModel_bigTenth 5 (some .int) :: AW
theorem d_SpectrumDeskModel_bigTenth_0 : decode b_SpectrumDeskModel_bigTenth 0 = .ok (.iconst 0, 1) := by decide +kernel
theorem d_SpectrumDeskModel_bigTenth_1 : decode b_SpectrumDeskModel_bigTenth 1 = .ok (.istore_n 2, 1) := by decide +kernel
theorem d_SpectrumDeskModel_bigTenth_2 : decode b_SpectrumDeskModel_bigTenth 2 = .ok (.aload_n 0, 1) := by decide +kernel
theorem d_SpectrumDeskModel_bigTenth_3 : decode b_SpectrumDeskModel_bigTenth 3 = .ok (.getfield 13, 3) := by decide +kernel
theorem d_SpectrumDeskModel_bigTenth_6 : decode b_SpectrumDeskModel_bigTenth 6 = .ok (.iload_n 1, 1) := by decide +kernel
theorem d_SpectrumDeskModel_bigTenth_7 : decode b_SpectrumDeskModel_bigTenth 7 = .ok (.iaload, 1) := by decide +kernel
theorem d_SpectrumDeskModel_bigTenth_8 : decode b_SpectrumDeskModel_bigTenth 8 = .ok (.iconst 1, 1) := by decide +kernel
theorem d_SpectrumDeskModel_bigTenth_9 : decode b_SpectrumDeskModel_bigTenth 9 = .ok (.isub, 1) := by decide +kernel
theorem d_SpectrumDeskModel_bigTenth_10 : decode b_SpectrumDeskModel_bigTenth 10 = .ok (.istore_n 3, 1) := by decide +kernel
theorem d_SpectrumDeskModel_bigTenth_11 : decode b_SpectrumDeskModel_bigTenth 11 = .ok (.iload_n 3, 1) := by decide +kernel
theorem d_SpectrumDeskModel_bigTenth_12 : decode b_SpectrumDeskModel_bigTenth 12 = .ok (.ifCond .lt (51), 3) := by decide +kernel
theorem d_SpectrumDeskModel_bigTenth_15 : decode b_SpectrumDeskModel_bigTenth 15 = .ok (.iload_n 2, 1) := by decide +kernel
theorem d_SpectrumDeskModel_bigTenth_16 : decode b_SpectrumDeskModel_bigTenth 16 = .ok (.ldc 20, 2) := by decide +kernel
theorem d_SpectrumDeskModel_bigTenth_18 : decode b_SpectrumDeskModel_bigTenth 18 = .ok (.imul, 1) := by decide +kernel
theorem d_SpectrumDeskModel_bigTenth_19 : decode b_SpectrumDeskModel_bigTenth 19 = .ok (.aload_n 0, 1) := by decide +kernel
theorem d_SpectrumDeskModel_bigTenth_20 : decode b_SpectrumDeskModel_bigTenth 20 = .ok (.getfield 7, 3) := by decide +kernel
theorem d_SpectrumDeskModel_bigTenth_23 : decode b_SpectrumDeskModel_bigTenth 23 = .ok (.sipush (300), 3) := by decide +kernel
theorem d_SpectrumDeskModel_bigTenth_26 : decode b_SpectrumDeskModel_bigTenth 26 = .ok (.iload_n 1, 1) := by decide +kernel
theorem d_SpectrumDeskModel_bigTenth_27 : decode b_SpectrumDeskModel_bigTenth 27 = .ok (.imul, 1) := by decide +kernel
theorem d_SpectrumDeskModel_bigTenth_28 : decode b_SpectrumDeskModel_bigTenth 28 = .ok (.iload_n 3, 1) := by decide +kernel
theorem d_SpectrumDeskModel_bigTenth_29 : decode b_SpectrumDeskModel_bigTenth 29 = .ok (.iadd, 1) := by decide +kernel
theorem d_SpectrumDeskModel_bigTenth_30 : decode b_SpectrumDeskModel_bigTenth 30 = .ok (.iaload, 1) := by decide +kernel
theorem d_SpectrumDeskModel_bigTenth_31 : decode b_SpectrumDeskModel_bigTenth 31 = .ok (.iadd, 1) := by decide +kernel
theorem d_SpectrumDeskModel_bigTenth_32 : decode b_SpectrumDeskModel_bigTenth 32 = .ok (.istore 4, 2) := by decide +kernel
theorem d_SpectrumDeskModel_bigTenth_34 : decode b_SpectrumDeskModel_bigTenth 34 = .ok (.aload_n 0, 1) := by decide +kernel
theorem d_SpectrumDeskModel_bigTenth_35 : decode b_SpectrumDeskModel_bigTenth 35 = .ok (.getfield 7, 3) := by decide +kernel
theorem d_SpectrumDeskModel_bigTenth_38 : decode b_SpectrumDeskModel_bigTenth 38 = .ok (.sipush (300), 3) := by decide +kernel
theorem d_SpectrumDeskModel_bigTenth_41 : decode b_SpectrumDeskModel_bigTenth 41 = .ok (.iload_n 1, 1) := by decide +kernel
theorem d_SpectrumDeskModel_bigTenth_42 : decode b_SpectrumDeskModel_bigTenth 42 = .ok (.imul, 1) := by decide +kernel
theorem d_SpectrumDeskModel_bigTenth_43 : decode b_SpectrumDeskModel_bigTenth 43 = .ok (.iload_n 3, 1) := by decide +kernel
theorem d_SpectrumDeskModel_bigTenth_44 : decode b_SpectrumDeskModel_bigTenth 44 = .ok (.iadd, 1) := by decide +kernel
theorem d_SpectrumDeskModel_bigTenth_45 : decode b_SpectrumDeskModel_bigTenth 45 = .ok (.iload 4, 2) := by decide +kernel
theorem d_SpectrumDeskModel_bigTenth_47 : decode b_SpectrumDeskModel_bigTenth 47 = .ok (.bipush (10), 2) := by decide +kernel
theorem d_SpectrumDeskModel_bigTenth_49 : decode b_SpectrumDeskModel_bigTenth 49 = .ok (.idiv, 1) := by decide +kernel
theorem d_SpectrumDeskModel_bigTenth_50 : decode b_SpectrumDeskModel_bigTenth 50 = .ok (.iastore, 1) := by decide +kernel
theorem d_SpectrumDeskModel_bigTenth_51 : decode b_SpectrumDeskModel_bigTenth 51 = .ok (.iload 4, 2) := by decide +kernel
theorem d_SpectrumDeskModel_bigTenth_53 : decode b_SpectrumDeskModel_bigTenth 53 = .ok (.bipush (10), 2) := by decide +kernel
theorem d_SpectrumDeskModel_bigTenth_55 : decode b_SpectrumDeskModel_bigTenth 55 = .ok (.irem, 1) := by decide +kernel
theorem d_SpectrumDeskModel_bigTenth_56 : decode b_SpectrumDeskModel_bigTenth 56 = .ok (.istore_n 2, 1) := by decide +kernel
theorem d_SpectrumDeskModel_bigTenth_57 : decode b_SpectrumDeskModel_bigTenth 57 = .ok (.iinc 3 (-1), 3) := by decide +kernel
theorem d_SpectrumDeskModel_bigTenth_60 : decode b_SpectrumDeskModel_bigTenth 60 = .ok (.goto (-49), 3) := by decide +kernel
theorem d_SpectrumDeskModel_bigTenth_63 : decode b_SpectrumDeskModel_bigTenth 63 = .ok (.aload_n 0, 1) := by decide +kernel
theorem d_SpectrumDeskModel_bigTenth_64 : decode b_SpectrumDeskModel_bigTenth 64 = .ok (.iload_n 1, 1) := by decide +kernel
theorem d_SpectrumDeskModel_bigTenth_65 : decode b_SpectrumDeskModel_bigTenth 65 = .ok (.invokevirtual 21, 3) := by decide +kernel
theorem d_SpectrumDeskModel_bigTenth_68 : decode b_SpectrumDeskModel_bigTenth 68 = .ok (.iload_n 2, 1) := by decide +kernel
theorem d_SpectrumDeskModel_bigTenth_69 : decode b_SpectrumDeskModel_bigTenth 69 = .ok (.ireturn, 1) := by decide +kernel
theorem k_6a4351da1e : (Jvm.Cond.methodLink "SpectrumDeskModel" (118 : Nat) ({ cls := "SpectrumDeskModel", name := "findMinor", desc := "(I)V" } : Jvm.MethodName)) ∈ AW := aw_5 (List.mem_of_getElem? (i := 41) (by decide +kernel)) (by decide +kernel)
theorem k_6d74628b97 : (Jvm.Cond.instanceMethod ({ cls := "SpectrumDeskModel", name := "findMinor", desc := "(I)V" } : Jvm.MethodName)) ∈ AW := aw_5 (List.mem_of_getElem? (i := 43) (by decide +kernel)) (by decide +kernel)
theorem k_f3cc4f02c5 : (Jvm.Cond.selects "SpectrumDeskModel" ({ cls := "SpectrumDeskModel", name := "findMinor", desc := "(I)V" } : Jvm.MethodName) ({ cls := "SpectrumDeskModel", name := "findMinor", desc := "(I)V" } : Jvm.MethodName)) ∈ AW := aw_p (by decide +kernel) (by decide +kernel)
theorem k_65cc42cfc5 : (Jvm.Cond.code ({ cls := "SpectrumDeskModel", name := "characterize", desc := "(II)V" } : Jvm.MethodName) prog_10_method_34_code (5 : Nat) (Option.none : Option Jvm.ClassFile.FieldType)) ∈ AW := aw_5 (List.mem_of_getElem? (i := 35) (by decide +kernel)) (by decide +kernel)
theorem k_1735d08270 : (Jvm.Cond.code ({ cls := "SpectrumDeskModel", name := "bigTenth", desc := "(I)I" } : Jvm.MethodName) prog_10_method_16_code (5 : Nat) (Option.some Jvm.ClassFile.FieldType.int)) ∈ AW := aw_5 (List.mem_of_getElem? (i := 92) (by decide +kernel)) (by decide +kernel)
set_option maxHeartbeats 4000000 in
set_option maxRecDepth 100000 in
theorem c_SpectrumDeskModel_characterize {l : Launch} {D : va_G} {cI cJ cZ cC cG cP : ClassId} {ad : Nat → Nat} {σ0 : Nat → va_E} {th nn rws ps le eq : Int32} {P L M G : Nat → Int32} {Z : Nat → Int} (hG : σ0 187 = .inl (cI, 5, .inl G)) (hB : RB P L M Z) {k9 : Nat} (hk9 : k9 ≤ 6) {A9 : Nat → Int32} (hA9 : σ0 188 = .inl (cI, 36, .inl A9)) (hAb : ∀ i j, i < 6 → j < 6 → bd 1000000 ((A9 (6 * i + j)).toInt)) :
    Met l y_SpectrumDeskModel_characterize v_SpectrumDeskModel_characterize (xrm 4) (va_Pc [.ref (ad 183), .int (nI k9), .int (nI 0)] (xS D classes (xT cI cJ cZ cC cG cP) 193 ad (rw3 σ0 ciM cI cZ (mfs ad th nn rws ps le eq) P L M))) (va_Qv (fun σ2 => ∃ (P' L' M' : Nat → Int32) (Z' : Nat → Int), σ2 = rw3 (va_up σ0 187 (.inl (cI, 5, .inl (upd G 0 (nI k9))))) ciM cI cZ (mfs ad th nn rws ps le eq) P' L' M' ∧ RB P' L' M' Z' ∧ (∀ e, e ≤ k9 → Z' e = chF (fun i j => (A9 (6 * i + j)).toInt) k9 (2 ^ k9) e) ∧ (∀ v, k9 < v ∧ v < 40 ∨ 106 ≤ v → Z' v = Z v)) (xS D classes (xT cI cJ cZ cC cG cP) 193 ad) (xA 193 ad)) 0 0 (xA 193 ad) := by
  refine xr_met rfl (Nat.le_of_ble_eq_true rfl) ?_
  intro p e s m args below meth c ls hx hb X hr hlk hl I
  have hl : lv_has ls 5 [(0, .ref (ad 183)), (1, .int (nI k9)), (2, .int (nI 0))] := hl
  have hp6 : 2 ^ k9 ≤ 64 := Nat.pow_le_pow_right (by decide) hk9 (n := 2)
  refine lv_aload_n hx hb d_SpectrumDeskModel_characterize_0 rfl (lv_at hl 0 rfl) ?_
  refine xr_get X I fin_M 183 (by decide) (r183 ..) rfl 3 (by decide) (List.mem_cons_of_mem _ k_176eac5e1f) rfl rfl d_SpectrumDeskModel_characterize_1 ?_
  refine lv_iload_n hx hb d_SpectrumDeskModel_characterize_4 rfl (lv_at hl 2 rfl) ?_
  refine lv_bipush (v := nI 8) hx hb d_SpectrumDeskModel_characterize_5 (by decide) ?_
  refine lv_idiv hx hb d_SpectrumDeskModel_characterize_7 (by decide) ?_
  refine xr_topi (y := nI 0) (by decide) ?_
  refine lv_iload_n hx hb d_SpectrumDeskModel_characterize_8 rfl (lv_at hl 1 rfl) ?_
  refine xr_iast X I 187 0 (by decide) ((r_o (by decide)).trans hG) rfl (by omega) (by decide) d_SpectrumDeskModel_characterize_9 (fun H locs I => ?_)
  rw [rw3_o (by decide)] at I
  have hA8 : (va_up σ0 187 (.inl (cI, 5, .inl (upd G 0 (nI k9))))) 188 = .inl (cI, 36, .inl A9) := (va_up_ne _ _ (by decide)).trans hA9
  have sets : ∀ (j : Nat) (st : Nat) (P2 L2 M2 : Nat → Int32) (Z2 : Nat → Int) (ls : Array Slot) (H : Heap) (locs : List Loc), st + j = 2 ^ k9 → RB P2 L2 M2 Z2 → (∀ e, e ≤ k9 → Z2 e = chF (fun i j => (A9 (6 * i + j)).toInt) k9 st e) → (∀ v, k9 < v ∧ v < 40 ∨ 106 ≤ v → Z2 v = Z v) → lv_has ls 5 [(3, .int (nI st)), (0, .ref (ad 183)), (1, .int (nI k9)), (2, .int (nI 0))] → xI D classes 193 ad s.heap (rw3 (va_up σ0 187 (.inl (cI, 5, .inl (upd G 0 (nI k9))))) ciM cI cZ (mfs ad th nn rws ps le eq) P2 L2 M2) H locs → W p l e (xrm 4) s m args below meth c H locs 0 0 (MQ below (va_Qv (fun σ2 => ∃ (P' L' M' : Nat → Int32) (Z' : Nat → Int), σ2 = rw3 (va_up σ0 187 (.inl (cI, 5, .inl (upd G 0 (nI k9))))) ciM cI cZ (mfs ad th nn rws ps le eq) P' L' M' ∧ RB P' L' M' Z' ∧ (∀ e, e ≤ k9 → Z' e = chF (fun i j => (A9 (6 * i + j)).toInt) k9 (2 ^ k9) e) ∧ (∀ v, k9 < v ∧ v < 40 ∨ 106 ≤ v → Z' v = Z v)) (xS D classes (xT cI cJ cZ cC cG cP) 193 ad) (xA 193 ad)) args s 0 0 (xA 193 ad)) (F0 m 33 ls []) := by
    intro j
    induction j with
    | zero =>
      intro st P2 L2 M2 Z2 ls H locs hk h2 h3 h4 hl I
      obtain rfl : st = 2 ^ k9 := by omega
      refine lv_iload_n hx hb d_SpectrumDeskModel_characterize_33 rfl (lv_at hl 0 rfl) ?_
      refine lv_iconst (v := nI 1) hx hb d_SpectrumDeskModel_characterize_34 (by decide) ?_
      refine lv_iload_n hx hb d_SpectrumDeskModel_characterize_35 rfl (lv_at hl 2 rfl) ?_
      refine lv_ishl hx hb d_SpectrumDeskModel_characterize_36 ?_
      refine xr_topi (y := nI (2 ^ k9)) (mb_one k9 hk9) ?_
      refine lv_icmp_ge hx hb d_SpectrumDeskModel_characterize_37 rfl (fun hc => ?_) (fun hc => ?_)
      · exact xr_vret X I hr hlk ⟨P2, L2, M2, Z2, rfl, h2, h3, h4⟩ d_SpectrumDeskModel_characterize_84
      · exact absurd (nI_le (Nat.le_refl _) (by omega)) hc
    | succ j ih =>
      intro st P2 L2 M2 Z2 ls H locs hk h2 h3 h4 hl I
      refine lv_iload_n hx hb d_SpectrumDeskModel_characterize_33 rfl (lv_at hl 0 rfl) ?_
      refine lv_iconst (v := nI 1) hx hb d_SpectrumDeskModel_characterize_34 (by decide) ?_
      refine lv_iload_n hx hb d_SpectrumDeskModel_characterize_35 rfl (lv_at hl 2 rfl) ?_
      refine lv_ishl hx hb d_SpectrumDeskModel_characterize_36 ?_
      refine xr_topi (y := nI (2 ^ k9)) (mb_one k9 hk9) ?_
      refine lv_icmp_ge hx hb d_SpectrumDeskModel_characterize_37 rfl (fun hc => ?_) (fun hc => ?_)
      · exact absurd hc (nI_ge (by omega) (by omega))
      · obtain ⟨hs1, hs2⟩ := mb_sz k9 hk9 st (by omega)
        refine lv_aload_n hx hb d_SpectrumDeskModel_characterize_40 rfl (lv_at hl 1 rfl) ?_
        refine lv_iload_n hx hb d_SpectrumDeskModel_characterize_41 rfl (lv_at hl 0 rfl) ?_
        refine xr_callv (xr_runV (kc := 3) (kr := 4) (n := 1) (As := [.int (nI st)]) (rest := []) X I (by decide) (r183 ..) rfl (c_SpectrumDeskModel_findMinor (s9 := st) (va_up_self _ _ _) h2 hs2 hA8 hAb) (xg k_e6e20e2407) (List.mem_cons_of_mem _ k_6a4351da1e) (List.mem_cons_of_mem _ k_6d74628b97) (List.mem_cons_of_mem _ k_f3cc4f02c5) (List.mem_cons_of_mem _ k_30fa15c9ac) (by decide +kernel) (by decide) rfl hl.1 rfl (Nat.le_of_ble_eq_true rfl) d_SpectrumDeskModel_characterize_42) I (fun σ9 H locs hp I => ?_)
        obtain ⟨P3, L3, M3, Z3, rfl, g2, g3, g4⟩ := hp
        refine lv_iload_n hx hb d_SpectrumDeskModel_characterize_45 rfl (lv_at hl 0 rfl) ?_
        refine xr_calli (xr_runS (kc := 0) (kr := 4) (n := 1) (As := [.int (nI st)]) (rest := []) X I (c_SpectrumDeskModel_sizeOf hs2) (xg k_5bb586f254) (List.mem_cons_of_mem _ k_56215041f4) (List.mem_cons_of_mem _ k_5eb33858fb) (List.mem_cons_of_mem _ k_30fa15c9ac) (by decide +kernel) (by decide) rfl hl.1 rfl (Nat.le_of_ble_eq_true rfl) d_SpectrumDeskModel_characterize_46) I (fun r1 σ9 H locs hp I => ?_)
        obtain ⟨rfl, h9⟩ := hp; rw [h9] at I; clear h9
        have v1 : Z3 (k9 - pcn st 6) = chF (fun i j => (A9 (6 * i + j)).toInt) k9 st (k9 - pcn st 6) := (g4 _ (by omega)).trans (h3 _ (by omega))
        have v2 : Z3 (40 + st) = mn (fun i j => (A9 (6 * i + j)).toInt) st st := g3 st (Nat.le_refl _) (mb_self st hs2)
        have r1 : rbd (Z3 (k9 - pcn st 6)) := by rw [v1]; exact sm_rbd (sm_of (by decide) (chF_sm hAb (by omega)))
        have r2 : rbd (Z3 (40 + st)) := by rw [v2]; exact sm_rbd (sm_of (by decide) (mn_bd hAb))
        refine lv_istore (lv' := [(4, .int (nI (pcn st 6))), (3, .int (nI st)), (0, .ref (ad 183)), (1, .int (nI k9)), (2, .int (nI 0))]) hx hb d_SpectrumDeskModel_characterize_49 hl (by decide) rfl (fun ls hl => ?_)
        refine lv_aload_n hx hb d_SpectrumDeskModel_characterize_51 rfl (lv_at hl 2 rfl) ?_
        refine lv_iload_n hx hb d_SpectrumDeskModel_characterize_52 rfl (lv_at hl 4 rfl) ?_
        refine lv_iload_n hx hb d_SpectrumDeskModel_characterize_53 rfl (lv_at hl 3 rfl) ?_
        refine lv_iadd hx hb d_SpectrumDeskModel_characterize_54 (xr_topi (y := nI k9) (by rw [nI_add, Nat.zero_add]) ?_)
        refine lv_iload hx hb d_SpectrumDeskModel_characterize_55 (lv_at hl 0 rfl) ?_
        refine lv_isub hx hb d_SpectrumDeskModel_characterize_57 (xr_topi (y := nI (k9 - pcn st 6)) (pk_sub (by omega)) ?_)
        refine lv_bipush (v := nI 40) hx hb d_SpectrumDeskModel_characterize_58 (by decide) ?_
        refine lv_iload_n hx hb d_SpectrumDeskModel_characterize_60 rfl (lv_at hl 1 rfl) ?_
        refine lv_iadd hx hb d_SpectrumDeskModel_characterize_61 (xr_topi (y := nI (40 + st)) (nI_add 40 st) ?_)
        refine lv_iload hx hb d_SpectrumDeskModel_characterize_62 (lv_at hl 0 rfl) ?_
        refine lv_iconst (v := nI 2) hx hb d_SpectrumDeskModel_characterize_64 (by decide) ?_
        refine lv_irem hx hb d_SpectrumDeskModel_characterize_65 (by decide) ?_
        refine xr_topi (y := nI (pcn st 6 % 2)) (pk_rem (by omega) (by decide) (by decide)) ?_
        refine lv_iconst (v := nI 1) hx hb d_SpectrumDeskModel_characterize_66 (by decide) ?_
        refine lv_icmp_ne hx hb d_SpectrumDeskModel_characterize_67 rfl (fun hd => ?_) (fun hd => ?_)
        · have hodd : ¬ pcn st 6 % 2 = 1 := fun h => hd (by rw [h])
          refine lv_iconst (v := nI 0) hx hb d_SpectrumDeskModel_characterize_74 (by decide) ?_
          refine xr_callv (xr_runV (kc := 2) (kr := 4) (n := 3) (As := [.int (nI (k9 - pcn st 6)), .int (nI (40 + st)), .int (nI 0)]) (rest := []) X I (by decide) (r183 ..) rfl (c_SpectrumDeskModel_bigAdd0 (w := k9 - pcn st 6) (u := 40 + st) mfs_ok (by omega) (by omega) (by omega) (g2 (k9 - pcn st 6) (by omega)) (g2 (40 + st) (by omega)) r1 r2) (xg k_dd45f20b23) (List.mem_cons_of_mem _ k_1f49c5cd66) (List.mem_cons_of_mem _ k_a10028f3d7) (List.mem_cons_of_mem _ k_758e0597f6) (List.mem_cons_of_mem _ k_30fa15c9ac) (by decide +kernel) (by decide) rfl hl.1 rfl (Nat.le_of_ble_eq_true rfl) d_SpectrumDeskModel_characterize_75) I (fun σ9 H locs hp I => ?_)
          obtain ⟨P4, L4, M4, rfl, hf4, hx4⟩ := hp
          have k4 := RB_up g2 hf4 hx4
          rw [v1, v2] at k4
          refine lv_iinc (k := 1) (v := nI (st + 1)) (lv' := [(3, .int (nI (st + 1))), (4, .int (nI (pcn st 6))), (0, .ref (ad 183)), (1, .int (nI k9)), (2, .int (nI 0))]) hx hb d_SpectrumDeskModel_characterize_78 hl rfl (nI_1 st) (by decide) rfl (fun ls hl => ?_)
          refine lv_goto hx hb d_SpectrumDeskModel_characterize_81 rfl ?_
          have hl := lv_sub hl [0, 2, 3, 4] rfl
          have hl : lv_has ls 5 [(3, .int (nI (st + 1))), (0, .ref (ad 183)), (1, .int (nI k9)), (2, .int (nI 0))] := hl
          refine ih (st + 1) P4 L4 M4 _ ls H locs (by omega) k4 (fun e he => ?_) (fun v hv => (va_up_ne _ _ (by omega)).trans ((g4 v (by omega)).trans (h4 v hv))) hl I
          simp only [chF]; rw [if_neg hodd]
          by_cases e9 : e = k9 - pcn st 6
          · rw [e9, va_up_self, va_up_self]
          · rw [va_up_ne _ _ e9, va_up_ne _ _ e9]; exact (g4 e (by omega)).trans (h3 e he)
        · have hodd : pcn st 6 % 2 = 1 := (nI_eq (by omega) (by decide)).mp hd
          refine lv_iconst (v := nI 1) hx hb d_SpectrumDeskModel_characterize_70 (by decide) ?_
          refine lv_goto hx hb d_SpectrumDeskModel_characterize_71 rfl ?_
          refine xr_callv (xr_runV (kc := 2) (kr := 4) (n := 3) (As := [.int (nI (k9 - pcn st 6)), .int (nI (40 + st)), .int (nI 1)]) (rest := []) X I (by decide) (r183 ..) rfl (c_SpectrumDeskModel_bigAdd1 (w := k9 - pcn st 6) (u := 40 + st) mfs_ok (by omega) (by omega) (by omega) (g2 (k9 - pcn st 6) (by omega)) (g2 (40 + st) (by omega)) r1 r2) (xg k_dd45f20b23) (List.mem_cons_of_mem _ k_1f49c5cd66) (List.mem_cons_of_mem _ k_a10028f3d7) (List.mem_cons_of_mem _ k_758e0597f6) (List.mem_cons_of_mem _ k_30fa15c9ac) (by decide +kernel) (by decide) rfl hl.1 rfl (Nat.le_of_ble_eq_true rfl) d_SpectrumDeskModel_characterize_75) I (fun σ9 H locs hp I => ?_)
          obtain ⟨P4, L4, M4, rfl, hf4, hx4⟩ := hp
          have k4 := RB_up g2 hf4 hx4
          rw [v1, v2] at k4
          refine lv_iinc (k := 1) (v := nI (st + 1)) (lv' := [(3, .int (nI (st + 1))), (4, .int (nI (pcn st 6))), (0, .ref (ad 183)), (1, .int (nI k9)), (2, .int (nI 0))]) hx hb d_SpectrumDeskModel_characterize_78 hl rfl (nI_1 st) (by decide) rfl (fun ls hl => ?_)
          refine lv_goto hx hb d_SpectrumDeskModel_characterize_81 rfl ?_
          have hl := lv_sub hl [0, 2, 3, 4] rfl
          have hl : lv_has ls 5 [(3, .int (nI (st + 1))), (0, .ref (ad 183)), (1, .int (nI k9)), (2, .int (nI 0))] := hl
          refine ih (st + 1) P4 L4 M4 _ ls H locs (by omega) k4 (fun e he => ?_) (fun v hv => (va_up_ne _ _ (by omega)).trans ((g4 v (by omega)).trans (h4 v hv))) hl I
          simp only [chF]; rw [if_pos hodd]
          by_cases e9 : e = k9 - pcn st 6
          · rw [e9, va_up_self, va_up_self]
          · rw [va_up_ne _ _ e9, va_up_ne _ _ e9]; exact (g4 e (by omega)).trans (h3 e he)
  have zeros : ∀ (j : Nat) (e9 : Nat) (P2 L2 M2 : Nat → Int32) (Z2 : Nat → Int) (ls : Array Slot) (H : Heap) (locs : List Loc), e9 + j = k9 + 1 → RB P2 L2 M2 Z2 → (∀ e, e < e9 → Z2 e = 0) → (∀ v, e9 ≤ v → Z2 v = Z v) → lv_has ls 5 [(3, .int (nI e9)), (0, .ref (ad 183)), (1, .int (nI k9)), (2, .int (nI 0))] → xI D classes 193 ad s.heap (rw3 (va_up σ0 187 (.inl (cI, 5, .inl (upd G 0 (nI k9))))) ciM cI cZ (mfs ad th nn rws ps le eq) P2 L2 M2) H locs → W p l e (xrm 4) s m args below meth c H locs 0 0 (MQ below (va_Qv (fun σ2 => ∃ (P' L' M' : Nat → Int32) (Z' : Nat → Int), σ2 = rw3 (va_up σ0 187 (.inl (cI, 5, .inl (upd G 0 (nI k9))))) ciM cI cZ (mfs ad th nn rws ps le eq) P' L' M' ∧ RB P' L' M' Z' ∧ (∀ e, e ≤ k9 → Z' e = chF (fun i j => (A9 (6 * i + j)).toInt) k9 (2 ^ k9) e) ∧ (∀ v, k9 < v ∧ v < 40 ∨ 106 ≤ v → Z' v = Z v)) (xS D classes (xT cI cJ cZ cC cG cP) 193 ad) (xA 193 ad)) args s 0 0 (xA 193 ad)) (F0 m 12 ls []) := by
    intro j
    induction j with
    | zero =>
      intro e9 P2 L2 M2 Z2 ls H locs hk h2 h3 h4 hl I
      obtain rfl : e9 = k9 + 1 := by omega
      refine lv_iload_n hx hb d_SpectrumDeskModel_characterize_12 rfl (lv_at hl 0 rfl) ?_
      refine lv_iload_n hx hb d_SpectrumDeskModel_characterize_13 rfl (lv_at hl 2 rfl) ?_
      refine lv_icmp_gt hx hb d_SpectrumDeskModel_characterize_14 rfl (fun hc => ?_) (fun hc => ?_)
      · refine lv_iconst (v := nI 0) hx hb d_SpectrumDeskModel_characterize_31 (by decide) ?_
        refine lv_istore_n (lv' := [(3, .int (nI 0)), (0, .ref (ad 183)), (1, .int (nI k9)), (2, .int (nI 0))]) hx hb d_SpectrumDeskModel_characterize_32 rfl hl (by decide) rfl (fun ls hl => ?_)
        exact sets (2 ^ k9) 0 P2 L2 M2 Z2 ls H locs (by omega) h2 (fun e he => h3 e (by omega)) (fun v hv => h4 v (by omega)) hl I
      · exact absurd (nI_lt (Nat.lt_succ_self _) (by omega)) hc
    | succ j ih =>
      intro e9 P2 L2 M2 Z2 ls H locs hk h2 h3 h4 hl I
      refine lv_iload_n hx hb d_SpectrumDeskModel_characterize_12 rfl (lv_at hl 0 rfl) ?_
      refine lv_iload_n hx hb d_SpectrumDeskModel_characterize_13 rfl (lv_at hl 2 rfl) ?_
      refine lv_icmp_gt hx hb d_SpectrumDeskModel_characterize_14 rfl (fun hc => ?_) (fun hc => ?_)
      · exact absurd hc (nI_nlt (by omega) (by omega))
      · refine lv_aload_n hx hb d_SpectrumDeskModel_characterize_17 rfl (lv_at hl 1 rfl) ?_
        refine lv_iload_n hx hb d_SpectrumDeskModel_characterize_18 rfl (lv_at hl 3 rfl) ?_
        refine lv_iload_n hx hb d_SpectrumDeskModel_characterize_19 rfl (lv_at hl 0 rfl) ?_
        refine lv_iadd hx hb d_SpectrumDeskModel_characterize_20 (xr_topi (y := nI e9) (by rw [nI_add, Nat.zero_add]) ?_)
        refine lv_lconst (v := 0) hx hb d_SpectrumDeskModel_characterize_21 (by decide) ?_
        refine xr_callv (xr_runV (kc := 0) (kr := 4) (n := 2) (As := [.int (nI e9), .long 0]) (rest := []) X I (by decide) (r183 ..) rfl (c_SpectrumDeskModel_bigSet (w := e9) (v := 0) mfs_ok (by omega)) (xg k_5f300b8d49) (List.mem_cons_of_mem _ k_7a89662665) (List.mem_cons_of_mem _ k_203da126f2) (List.mem_cons_of_mem _ k_e2b6114fa3) (List.mem_cons_of_mem _ k_30fa15c9ac) (by decide +kernel) (by decide) rfl hl.1 rfl (Nat.le_of_ble_eq_true rfl) d_SpectrumDeskModel_characterize_22) I (fun σ9 H locs hp I => ?_)
        obtain ⟨P3, L3, M3, rfl, hf3, hx3⟩ := hp
        have k3 := RB_up h2 hf3 hx3
        refine lv_iinc (k := 0) (v := nI (e9 + 1)) (lv' := [(3, .int (nI (e9 + 1))), (0, .ref (ad 183)), (1, .int (nI k9)), (2, .int (nI 0))]) hx hb d_SpectrumDeskModel_characterize_25 hl rfl (nI_1 e9) (by decide) rfl (fun ls hl => ?_)
        refine lv_goto hx hb d_SpectrumDeskModel_characterize_28 rfl ?_
        refine ih (e9 + 1) P3 L3 M3 _ ls H locs (by omega) k3 (fun e he => ?_) (fun v hv => (va_up_ne _ _ (by omega)).trans (h4 v (by omega))) hl I
        by_cases q9 : e = e9
        · rw [q9, va_up_self]; decide
        · rw [va_up_ne _ _ q9]; exact h3 e (by omega)
  refine lv_iconst (v := nI 0) hx hb d_SpectrumDeskModel_characterize_10 (by decide) ?_
  refine lv_istore_n (lv' := [(3, .int (nI 0)), (0, .ref (ad 183)), (1, .int (nI k9)), (2, .int (nI 0))]) hx hb d_SpectrumDeskModel_characterize_11 rfl hl (by decide) rfl (fun ls hl => ?_)
  exact zeros (k9 + 1) 0 P L M Z ls _ _ (by omega) hB (fun e he => absurd he (Nat.not_lt_zero _)) (fun _ _ => rfl) hl I
set_option maxHeartbeats 4000000 in
set_option maxRecDepth 100000 in
theorem c_SpectrumDeskModel_bigTenth {l : Launch} {D : va_G} {cI cJ cZ cC cG cP : ClassId} {ad : Nat → Nat} {σ0 : Nat → va_E} {fs : List Value} {P L M : Nat → Int32} {w n : Nat} (hF : mF ad fs) (hw : w < 112) (hn : n ≤ 300) (hL : L w = nI n) (hok : rg_ok P (300 * w) n) :
    Met l y_SpectrumDeskModel_bigTenth v_SpectrumDeskModel_bigTenth (xrm 1) (va_Pc [.ref (ad 183), .int (nI w)] (xS D classes (xT cI cJ cZ cC cG cP) 193 ad (rw3 σ0 ciM cI cZ fs P L M))) (va_Qi (fun r σ2 => ∃ (P' : Nat → Int32) (n' : Nat), r = nI (rg P (300 * w) n % 10).toNat ∧ σ2 = rw3 σ0 ciM cI cZ fs P' (upd L w (nI n')) M ∧ n' ≤ n ∧ (∀ j, j < 300 * w ∨ 300 * w + 300 ≤ j → P' j = P j) ∧ rg_ok P' (300 * w) n' ∧ (0 < n' → P' (300 * w + (n' - 1)) ≠ 0) ∧ rg P' (300 * w) n' = rg P (300 * w) n / 10) (xS D classes (xT cI cJ cZ cC cG cP) 193 ad) (xA 193 ad)) 0 0 (xA 193 ad) := by
  refine xr_met rfl (Nat.le_of_ble_eq_true rfl) ?_
  intro p e s m args below meth c ls hx hb X hr hlk hl I
  have hl : lv_has ls 5 [(0, .ref (ad 183)), (1, .int (nI w))] := hl
  refine lv_iconst (v := nI 0) hx hb d_SpectrumDeskModel_bigTenth_0 (by decide) ?_
  refine lv_istore_n (lv' := [(2, .int (nI 0)), (0, .ref (ad 183)), (1, .int (nI w))]) hx hb d_SpectrumDeskModel_bigTenth_1 rfl hl (by decide) rfl (fun ls hl => ?_)
  refine lv_aload_n hx hb d_SpectrumDeskModel_bigTenth_2 rfl (lv_at hl 1 rfl) ?_
  refine xr_get X I fin_M 183 (by decide) (r183 ..) rfl 1 (by decide) (List.mem_cons_of_mem _ k_4ae214c350) rfl (mF_lengths hF) d_SpectrumDeskModel_bigTenth_3 ?_
  refine lv_iload_n hx hb d_SpectrumDeskModel_bigTenth_6 rfl (lv_at hl 2 rfl) ?_
  refine xr_iald X I 185 0 (by decide) (r185 ..) rfl (by omega) (by decide) d_SpectrumDeskModel_bigTenth_7 ?_
  refine xr_topi (y := nI n) hL ?_
  refine lv_iconst (v := nI 1) hx hb d_SpectrumDeskModel_bigTenth_8 (by decide) ?_
  refine lv_isub hx hb d_SpectrumDeskModel_bigTenth_9 ?_
  refine xr_topi (y := nP n) rfl ?_
  refine lv_istore_n (lv' := [(3, .int (nP n)), (2, .int (nI 0)), (0, .ref (ad 183)), (1, .int (nI w))]) hx hb d_SpectrumDeskModel_bigTenth_10 rfl hl (by decide) rfl (fun ls hl => ?_)
  have loop : ∀ (k : Nat) (lf : Nat) (P2 : Nat → Int32) (ls : Array Slot) (H : Heap) (locs : List Loc), k ≤ n → lf < 10 → (∀ j, j < 300 * w ∨ 300 * w + 300 ≤ j → P2 j = P j) → (∀ j, j < k → P2 (300 * w + j) = P (300 * w + j)) → rg_ok P2 (300 * w) n → rg P (300 * w) n = (rg P2 (300 * w) n - rg P (300 * w) k) * 10 + rg P (300 * w) k + (lf : Int) * 16777216 ^ k → lv_has ls 5 [(3, .int (nP k)), (2, .int (nI lf)), (0, .ref (ad 183)), (1, .int (nI w))] → xI D classes 193 ad s.heap (rw3 σ0 ciM cI cZ fs P2 L M) H locs → W p l e (xrm 1) s m args below meth c H locs 0 0 (MQ below (va_Qi (fun r σ2 => ∃ (P' : Nat → Int32) (n' : Nat), r = nI (rg P (300 * w) n % 10).toNat ∧ σ2 = rw3 σ0 ciM cI cZ fs P' (upd L w (nI n')) M ∧ n' ≤ n ∧ (∀ j, j < 300 * w ∨ 300 * w + 300 ≤ j → P' j = P j) ∧ rg_ok P' (300 * w) n' ∧ (0 < n' → P' (300 * w + (n' - 1)) ≠ 0) ∧ rg P' (300 * w) n' = rg P (300 * w) n / 10) (xS D classes (xT cI cJ cZ cC cG cP) 193 ad) (xA 193 ad)) args s 0 0 (xA 193 ad)) (F0 m 11 ls []) := by
    intro k
    induction k with
    | zero =>
      intro lf P2 ls H locs hk hlf hfr hlow hok2 inv hl I
      refine lv_iload_n hx hb d_SpectrumDeskModel_bigTenth_11 rfl (lv_at hl 0 rfl) ?_
      refine lv_if_lt hx hb d_SpectrumDeskModel_bigTenth_12 rfl (fun hc => ?_) (fun hc => ?_)
      · refine lv_aload_n hx hb d_SpectrumDeskModel_bigTenth_63 rfl (lv_at hl 2 rfl) ?_
        refine lv_iload_n hx hb d_SpectrumDeskModel_bigTenth_64 rfl (lv_at hl 3 rfl) ?_
        have hall : rg P (300 * w) n = rg P2 (300 * w) n * 10 + (lf : Int) := by simp [rg] at inv; omega
        refine xr_callv (xr_runV (kc := 0) (kr := 1) (n := 1) (As := [.int (nI w)]) (rest := []) X I (by decide) (r183 ..) rfl (c_SpectrumDeskModel_bigTrim (P := P2) (L := L) (M := M) (n := n) hF hw hn hL) (xg k_10a67c202b) (List.mem_cons_of_mem _ k_fdf1e9da4b) (List.mem_cons_of_mem _ k_72a5102e81) (List.mem_cons_of_mem _ k_90f9c60262) (List.mem_cons_of_mem _ k_30fa15c9ac) (by decide +kernel) (by decide) rfl hl.1 rfl (Nat.le_of_ble_eq_true rfl) d_SpectrumDeskModel_bigTenth_65) I (fun σ1 H locs hp I => ?_)
        obtain ⟨n2, t1, rfl, t2, t3⟩ := hp
        refine lv_iload_n hx hb d_SpectrumDeskModel_bigTenth_68 rfl (lv_at hl 1 rfl) ?_
        exact xr_iret X I hr hlk ⟨P2, n2, by rw [hall]; congr 1; omega, rfl, t1, hfr, rg_ok_le hok2 t1, t3, by rw [t2, hall]; omega⟩ d_SpectrumDeskModel_bigTenth_69
      · exact absurd nP_0 hc
    | succ k ih =>
      intro lf P2 ls H locs hk hlf hfr hlow hok2 inv hl I
      refine lv_iload_n hx hb d_SpectrumDeskModel_bigTenth_11 rfl (lv_at hl 0 rfl) ?_
      refine xr_topi (y := nI k) (nP_succ k) ?_
      refine lv_if_lt hx hb d_SpectrumDeskModel_bigTenth_12 rfl (fun hc => ?_) (fun hc => ?_)
      · exact absurd hc (nI_pos (by omega))
      · obtain ⟨x, x1, x2, x3⟩ := rg_nat hok (show k < n by omega)
        refine lv_iload_n hx hb d_SpectrumDeskModel_bigTenth_15 rfl (lv_at hl 1 rfl) ?_
        refine lv_ldc (v := nI 16777216) hx hb X.1.2.2.2.1 (X.1.2.2.2.2 _ (List.mem_cons_of_mem _ k_0f8e24087a)) d_SpectrumDeskModel_bigTenth_16 ?_
        refine lv_imul hx hb d_SpectrumDeskModel_bigTenth_18 (xr_topi (y := nI (lf * 16777216)) (pk_mul lf 16777216) ?_)
        refine lv_aload_n hx hb d_SpectrumDeskModel_bigTenth_19 rfl (lv_at hl 2 rfl) ?_
        refine xr_get X I fin_M 183 (by decide) (r183 ..) rfl 0 (by decide) (List.mem_cons_of_mem _ k_eae5455160) rfl (mF_parts hF) d_SpectrumDeskModel_bigTenth_20 ?_
        refine lv_sipush (v := nI 300) hx hb d_SpectrumDeskModel_bigTenth_23 (by decide) ?_
        refine lv_iload_n hx hb d_SpectrumDeskModel_bigTenth_26 rfl (lv_at hl 3 rfl) ?_
        refine lv_imul hx hb d_SpectrumDeskModel_bigTenth_27 (xr_topi (y := nI (300 * w)) (pk_mul 300 w) ?_)
        refine lv_iload_n hx hb d_SpectrumDeskModel_bigTenth_28 rfl (lv_at hl 0 rfl) ?_
        refine xr_topi (y := nI k) (nP_succ k) ?_
        refine lv_iadd hx hb d_SpectrumDeskModel_bigTenth_29 (xr_topi (y := nI ((300 * w) + k)) (nI_add (300 * w) k) ?_)
        refine xr_iald X I 184 0 (by decide) (r184 ..) rfl (by omega) (by decide) d_SpectrumDeskModel_bigTenth_30 ?_
        refine xr_topi (y := nI x) ((hlow k (by omega)).trans x2) ?_
        refine lv_iadd hx hb d_SpectrumDeskModel_bigTenth_31 (xr_topi (y := nI ((lf * 16777216) + x)) (nI_add (lf * 16777216) x) ?_)
        refine lv_istore (lv' := [(4, .int (nI ((lf * 16777216) + x))), (3, .int (nP (k + 1))), (2, .int (nI lf)), (0, .ref (ad 183)), (1, .int (nI w))]) hx hb d_SpectrumDeskModel_bigTenth_32 hl (by decide) rfl (fun ls hl => ?_)
        refine lv_aload_n hx hb d_SpectrumDeskModel_bigTenth_34 rfl (lv_at hl 3 rfl) ?_
        refine xr_get X I fin_M 183 (by decide) (r183 ..) rfl 0 (by decide) (List.mem_cons_of_mem _ k_eae5455160) rfl (mF_parts hF) d_SpectrumDeskModel_bigTenth_35 ?_
        refine lv_sipush (v := nI 300) hx hb d_SpectrumDeskModel_bigTenth_38 (by decide) ?_
        refine lv_iload_n hx hb d_SpectrumDeskModel_bigTenth_41 rfl (lv_at hl 4 rfl) ?_
        refine lv_imul hx hb d_SpectrumDeskModel_bigTenth_42 (xr_topi (y := nI (300 * w)) (pk_mul 300 w) ?_)
        refine lv_iload_n hx hb d_SpectrumDeskModel_bigTenth_43 rfl (lv_at hl 1 rfl) ?_
        refine xr_topi (y := nI k) (nP_succ k) ?_
        refine lv_iadd hx hb d_SpectrumDeskModel_bigTenth_44 (xr_topi (y := nI ((300 * w) + k)) (nI_add (300 * w) k) ?_)
        refine lv_iload hx hb d_SpectrumDeskModel_bigTenth_45 (lv_at hl 0 rfl) ?_
        refine lv_bipush (v := nI 10) hx hb d_SpectrumDeskModel_bigTenth_47 (by decide) ?_
        refine lv_idiv hx hb d_SpectrumDeskModel_bigTenth_49 (by decide) ?_
        refine xr_topi (y := nI ((lf * 16777216 + x) / 10)) (pk_div (by omega) (by decide) (by decide)) ?_
        refine xr_iast X I 184 0 (by decide) (r184 ..) rfl (by omega) (by decide) d_SpectrumDeskModel_bigTenth_50 (fun H locs I => ?_)
        rw [rw3_P] at I
        refine lv_iload hx hb d_SpectrumDeskModel_bigTenth_51 (lv_at hl 0 rfl) ?_
        refine lv_bipush (v := nI 10) hx hb d_SpectrumDeskModel_bigTenth_53 (by decide) ?_
        refine lv_irem hx hb d_SpectrumDeskModel_bigTenth_55 (by decide) ?_
        refine xr_topi (y := nI ((lf * 16777216 + x) % 10)) (pk_rem (by omega) (by decide) (by decide)) ?_
        refine lv_istore_n (lv' := [(2, .int (nI ((lf * 16777216 + x) % 10))), (4, .int (nI ((lf * 16777216) + x))), (3, .int (nP (k + 1))), (0, .ref (ad 183)), (1, .int (nI w))]) hx hb d_SpectrumDeskModel_bigTenth_56 rfl hl (by decide) rfl (fun ls hl => ?_)
        refine lv_iinc (k := 2) (v := nP k) (lv' := [(3, .int (nP k)), (2, .int (nI ((lf * 16777216 + x) % 10))), (4, .int (nI ((lf * 16777216) + x))), (0, .ref (ad 183)), (1, .int (nI w))]) hx hb d_SpectrumDeskModel_bigTenth_57 hl rfl (nP_dec k) (by decide) rfl (fun ls hl => ?_)
        refine lv_goto hx hb d_SpectrumDeskModel_bigTenth_60 rfl ?_
        have hl := lv_sub hl [0, 1, 3, 4] rfl
        have hl : lv_has ls 5 [(3, .int (nP k)), (2, .int (nI ((lf * 16777216 + x) % 10))), (0, .ref (ad 183)), (1, .int (nI w))] := hl
        refine ih ((lf * 16777216 + x) % 10) _ ls H locs (by omega) (by omega) (fun j hj => (upd_n (by omega)).trans (hfr j hj)) (fun j hj => (upd_n (by omega)).trans (hlow j (by omega))) (rg_ok_upd hok2 (by rw [nI_toInt (by omega)]; omega)) ?_ hl I
        rw [rg_set (show k < n by omega), nI_toInt (by omega), hlow k (by omega), x3]
        have e1 : rg P (300 * w) (k + 1) = rg P (300 * w) k + (x : Int) * 16777216 ^ k := by rw [rg, x3]
        rw [e1] at inv
        have e2 : (((lf * 16777216 + x) / 10 : Nat) : Int) * 10 + (((lf * 16777216 + x) % 10 : Nat) : Int) = (lf : Int) * 16777216 + x := by omega
        rw [Int.pow_succ] at inv
        generalize (((lf * 16777216 + x) / 10 : Nat) : Int) = q9 at *
        generalize (((lf * 16777216 + x) % 10 : Nat) : Int) = r9 at *
        grind
  exact loop n 0 P ls _ _ (Nat.le_refl _) (by decide) (fun _ _ => rfl) (fun _ _ => rfl) hok (by simp) hl I
end
section
/-! the reference between two calls -/
def mS (ad : Nat → Nat) (cI cZ : ClassId) (σb : Nat → va_E) (th : Int32) (n : Nat) (A9 : Nat → Int32) (rw : Nat) (Dt : Nat → Int32) (ps : Nat) (Pr : Nat → Int32) : (Nat → va_E) → Prop := fun σ =>
  ∃ (s0 : Nat → va_E) (G Dg P L M : Nat → Int32) (Z : Nat → Int) (le eq : Int32), σ = rw3 s0 ciM cI cZ (mfs ad th (nI n) (nI rw) (nI ps) le eq) P L M ∧ s0 187 = .inl (cI, 5, .inl G) ∧ s0 188 = .inl (cI, 36, .inl A9) ∧ s0 189 = .inl (cI, 600, .inl Dt) ∧ s0 190 = .inl (cI, 400, .inl Pr) ∧ s0 191 = .inl (cI, 400, .inl Dg) ∧ (∀ q, q < 183 ∨ 191 < q → s0 q = σb q) ∧ RB P L M Z
def isP (r c : Int32) (n : Nat) : Prop := ¬ r < 0 ∧ r < nI n ∧ ¬ c < 0 ∧ c < nI n
def isS (v : Int64) : Prop := -1000000 ≤ v ∧ v ≤ 1000000
theorem q_nge {a b : Int32} (h : ¬ b ≤ a) : a < b := Int32.not_le.mp h
theorem q_ngt {a b : Int32} (h : ¬ a < b) : b ≤ a := Int32.not_lt.mp h
theorem q_le_lt {a b : Int32} (h : b ≤ a) : ¬ a < b := Int32.not_lt.mpr h
theorem bd_64 (x : Int64) : bd (2 ^ 200) x.toInt := by
  have h1 := x.le_toInt
  have h2 := x.toInt_lt
  have : (9223372036854775808 : Int) ≤ 2 ^ 200 := by decide
  exact ⟨by omega, by omega⟩
end
section
/-! the reference: thrown, check, make, isPlace, isSmall, at, put, size, character (written by wip/gen) -/
abbrev b_SpectrumDeskModel_thrown : ByteArray := prog_10_method_20_code
abbrev y_SpectrumDeskModel_thrown : MethodName := ⟨"SpectrumDeskModel", "thrown", "()I"⟩
abbrev v_SpectrumDeskModel_thrown : List Cond := Cond.code y_SpectrumDeskModel_thrown b_SpectrumDeskModel_thrown 1 (some .int) :: AW
theorem d_SpectrumDeskModel_thrown_0 : decode b_SpectrumDeskModel_thrown 0 = .ok (.aload_n 0, 1) := by decide +kernel
theorem d_SpectrumDeskModel_thrown_1 : decode b_SpectrumDeskModel_thrown 1 = .ok (.getfield 79, 3) := by decide +kernel
theorem d_SpectrumDeskModel_thrown_4 : decode b_SpectrumDeskModel_thrown 4 = .ok (.ireturn, 1) := by decide +kernel
abbrev b_SpectrumDeskModel_check : ByteArray := prog_10_method_52_code
abbrev y_SpectrumDeskModel_check : MethodName := ⟨"SpectrumDeskModel", "check", "()I"⟩
abbrev v_SpectrumDeskModel_check : List Cond := Cond.code y_SpectrumDeskModel_check b_SpectrumDeskModel_check 1 (some .int) :: AW
theorem d_SpectrumDeskModel_check_0 : decode b_SpectrumDeskModel_check 0 = .ok (.aload_n 0, 1) := by decide +kernel
theorem d_SpectrumDeskModel_check_1 : decode b_SpectrumDeskModel_check 1 = .ok (.iconst 0, 1) := by decide +kernel
theorem d_SpectrumDeskModel_check_2 : decode b_SpectrumDeskModel_check 2 = .ok (.putfield 79, 3) := by decide +kernel
theorem d_SpectrumDeskModel_check_5 : decode b_SpectrumDeskModel_check 5 = .ok (.iconst 1, 1) := by decide +kernel
theorem d_SpectrumDeskModel_check_6 : decode b_SpectrumDeskModel_check 6 = .ok (.ireturn, 1) := by decide +kernel
abbrev b_SpectrumDeskModel_make : ByteArray := prog_10_method_21_code
abbrev y_SpectrumDeskModel_make : MethodName := ⟨"SpectrumDeskModel", "make", "(I)V"⟩
abbrev v_SpectrumDeskModel_make : List Cond := Cond.code y_SpectrumDeskModel_make b_SpectrumDeskModel_make 3 none :: AW
theorem d_SpectrumDeskModel_make_0 : decode b_SpectrumDeskModel_make 0 = .ok (.aload_n 0, 1) := by decide +kernel
theorem d_SpectrumDeskModel_make_1 : decode b_SpectrumDeskModel_make 1 = .ok (.iload_n 1, 1) := by decide +kernel
theorem d_SpectrumDeskModel_make_2 : decode b_SpectrumDeskModel_make 2 = .ok (.iconst 1, 1) := by decide +kernel
theorem d_SpectrumDeskModel_make_3 : decode b_SpectrumDeskModel_make 3 = .ok (.if_icmp .lt (13), 3) := by decide +kernel
theorem d_SpectrumDeskModel_make_6 : decode b_SpectrumDeskModel_make 6 = .ok (.iload_n 1, 1) := by decide +kernel
theorem d_SpectrumDeskModel_make_7 : decode b_SpectrumDeskModel_make 7 = .ok (.bipush (6), 2) := by decide +kernel
theorem d_SpectrumDeskModel_make_9 : decode b_SpectrumDeskModel_make 9 = .ok (.if_icmp .gt (7), 3) := by decide +kernel
theorem d_SpectrumDeskModel_make_12 : decode b_SpectrumDeskModel_make 12 = .ok (.iconst 0, 1) := by decide +kernel
theorem d_SpectrumDeskModel_make_13 : decode b_SpectrumDeskModel_make 13 = .ok (.goto (4), 3) := by decide +kernel
theorem d_SpectrumDeskModel_make_16 : decode b_SpectrumDeskModel_make 16 = .ok (.iconst 1, 1) := by decide +kernel
theorem d_SpectrumDeskModel_make_17 : decode b_SpectrumDeskModel_make 17 = .ok (.putfield 79, 3) := by decide +kernel
theorem d_SpectrumDeskModel_make_20 : decode b_SpectrumDeskModel_make 20 = .ok (.aload_n 0, 1) := by decide +kernel
theorem d_SpectrumDeskModel_make_21 : decode b_SpectrumDeskModel_make 21 = .ok (.getfield 79, 3) := by decide +kernel
theorem d_SpectrumDeskModel_make_24 : decode b_SpectrumDeskModel_make 24 = .ok (.ifCond .le (4), 3) := by decide +kernel
theorem d_SpectrumDeskModel_make_27 : decode b_SpectrumDeskModel_make 27 = .ok (.return_, 1) := by decide +kernel
theorem d_SpectrumDeskModel_make_28 : decode b_SpectrumDeskModel_make 28 = .ok (.aload_n 0, 1) := by decide +kernel
theorem d_SpectrumDeskModel_make_29 : decode b_SpectrumDeskModel_make 29 = .ok (.iload_n 1, 1) := by decide +kernel
theorem d_SpectrumDeskModel_make_30 : decode b_SpectrumDeskModel_make 30 = .ok (.putfield 63, 3) := by decide +kernel
theorem d_SpectrumDeskModel_make_33 : decode b_SpectrumDeskModel_make 33 = .ok (.aload_n 0, 1) := by decide +kernel
theorem d_SpectrumDeskModel_make_34 : decode b_SpectrumDeskModel_make 34 = .ok (.iconst 0, 1) := by decide +kernel
theorem d_SpectrumDeskModel_make_35 : decode b_SpectrumDeskModel_make 35 = .ok (.putfield 82, 3) := by decide +kernel
theorem d_SpectrumDeskModel_make_38 : decode b_SpectrumDeskModel_make 38 = .ok (.iconst 0, 1) := by decide +kernel
theorem d_SpectrumDeskModel_make_39 : decode b_SpectrumDeskModel_make 39 = .ok (.istore_n 2, 1) := by decide +kernel
theorem d_SpectrumDeskModel_make_40 : decode b_SpectrumDeskModel_make 40 = .ok (.iload_n 2, 1) := by decide +kernel
theorem d_SpectrumDeskModel_make_41 : decode b_SpectrumDeskModel_make 41 = .ok (.bipush (36), 2) := by decide +kernel
theorem d_SpectrumDeskModel_make_43 : decode b_SpectrumDeskModel_make 43 = .ok (.if_icmp .ge (16), 3) := by decide +kernel
theorem d_SpectrumDeskModel_make_46 : decode b_SpectrumDeskModel_make 46 = .ok (.aload_n 0, 1) := by decide +kernel
theorem d_SpectrumDeskModel_make_47 : decode b_SpectrumDeskModel_make 47 = .ok (.getfield 67, 3) := by decide +kernel
theorem d_SpectrumDeskModel_make_50 : decode b_SpectrumDeskModel_make 50 = .ok (.iload_n 2, 1) := by decide +kernel
theorem d_SpectrumDeskModel_make_51 : decode b_SpectrumDeskModel_make 51 = .ok (.iconst 0, 1) := by decide +kernel
theorem d_SpectrumDeskModel_make_52 : decode b_SpectrumDeskModel_make 52 = .ok (.iastore, 1) := by decide +kernel
theorem d_SpectrumDeskModel_make_53 : decode b_SpectrumDeskModel_make 53 = .ok (.iinc 2 (1), 3) := by decide +kernel
theorem d_SpectrumDeskModel_make_56 : decode b_SpectrumDeskModel_make 56 = .ok (.goto (-16), 3) := by decide +kernel
theorem d_SpectrumDeskModel_make_59 : decode b_SpectrumDeskModel_make 59 = .ok (.return_, 1) := by decide +kernel
abbrev b_SpectrumDeskModel_isPlace : ByteArray := prog_10_method_22_code
abbrev y_SpectrumDeskModel_isPlace : MethodName := ⟨"SpectrumDeskModel", "isPlace", "(II)Z"⟩
abbrev v_SpectrumDeskModel_isPlace : List Cond := Cond.code y_SpectrumDeskModel_isPlace b_SpectrumDeskModel_isPlace 3 (some .boolean) :: AW
theorem d_SpectrumDeskModel_isPlace_0 : decode b_SpectrumDeskModel_isPlace 0 = .ok (.iload_n 1, 1) := by decide +kernel
theorem d_SpectrumDeskModel_isPlace_1 : decode b_SpectrumDeskModel_isPlace 1 = .ok (.ifCond .lt (27), 3) := by decide +kernel
theorem d_SpectrumDeskModel_isPlace_4 : decode b_SpectrumDeskModel_isPlace 4 = .ok (.iload_n 1, 1) := by decide +kernel
theorem d_SpectrumDeskModel_isPlace_5 : decode b_SpectrumDeskModel_isPlace 5 = .ok (.aload_n 0, 1) := by decide +kernel
theorem d_SpectrumDeskModel_isPlace_6 : decode b_SpectrumDeskModel_isPlace 6 = .ok (.getfield 63, 3) := by decide +kernel
theorem d_SpectrumDeskModel_isPlace_9 : decode b_SpectrumDeskModel_isPlace 9 = .ok (.if_icmp .ge (19), 3) := by decide +kernel
theorem d_SpectrumDeskModel_isPlace_12 : decode b_SpectrumDeskModel_isPlace 12 = .ok (.iload_n 2, 1) := by decide +kernel
theorem d_SpectrumDeskModel_isPlace_13 : decode b_SpectrumDeskModel_isPlace 13 = .ok (.ifCond .lt (15), 3) := by decide +kernel
theorem d_SpectrumDeskModel_isPlace_16 : decode b_SpectrumDeskModel_isPlace 16 = .ok (.iload_n 2, 1) := by decide +kernel
theorem d_SpectrumDeskModel_isPlace_17 : decode b_SpectrumDeskModel_isPlace 17 = .ok (.aload_n 0, 1) := by decide +kernel
theorem d_SpectrumDeskModel_isPlace_18 : decode b_SpectrumDeskModel_isPlace 18 = .ok (.getfield 63, 3) := by decide +kernel
theorem d_SpectrumDeskModel_isPlace_21 : decode b_SpectrumDeskModel_isPlace 21 = .ok (.if_icmp .ge (7), 3) := by decide +kernel
theorem d_SpectrumDeskModel_isPlace_24 : decode b_SpectrumDeskModel_isPlace 24 = .ok (.iconst 1, 1) := by decide +kernel
theorem d_SpectrumDeskModel_isPlace_25 : decode b_SpectrumDeskModel_isPlace 25 = .ok (.goto (4), 3) := by decide +kernel
theorem d_SpectrumDeskModel_isPlace_28 : decode b_SpectrumDeskModel_isPlace 28 = .ok (.iconst 0, 1) := by decide +kernel
theorem d_SpectrumDeskModel_isPlace_29 : decode b_SpectrumDeskModel_isPlace 29 = .ok (.ireturn, 1) := by decide +kernel
abbrev b_SpectrumDeskModel_isSmall : ByteArray := prog_10_method_23_code
abbrev y_SpectrumDeskModel_isSmall : MethodName := ⟨"SpectrumDeskModel", "isSmall", "(J)Z"⟩
abbrev v_SpectrumDeskModel_isSmall : List Cond := Cond.code y_SpectrumDeskModel_isSmall b_SpectrumDeskModel_isSmall 2 (some .boolean) :: AW
theorem d_SpectrumDeskModel_isSmall_0 : decode b_SpectrumDeskModel_isSmall 0 = .ok (.lload_n 0, 1) := by decide +kernel
theorem d_SpectrumDeskModel_isSmall_1 : decode b_SpectrumDeskModel_isSmall 1 = .ok (.ldc2_w 85, 3) := by decide +kernel
theorem d_SpectrumDeskModel_isSmall_4 : decode b_SpectrumDeskModel_isSmall 4 = .ok (.lcmp, 1) := by decide +kernel
theorem d_SpectrumDeskModel_isSmall_5 : decode b_SpectrumDeskModel_isSmall 5 = .ok (.ifCond .lt (15), 3) := by decide +kernel
theorem d_SpectrumDeskModel_isSmall_8 : decode b_SpectrumDeskModel_isSmall 8 = .ok (.lload_n 0, 1) := by decide +kernel
theorem d_SpectrumDeskModel_isSmall_9 : decode b_SpectrumDeskModel_isSmall 9 = .ok (.ldc2_w 87, 3) := by decide +kernel
theorem d_SpectrumDeskModel_isSmall_12 : decode b_SpectrumDeskModel_isSmall 12 = .ok (.lcmp, 1) := by decide +kernel
theorem d_SpectrumDeskModel_isSmall_13 : decode b_SpectrumDeskModel_isSmall 13 = .ok (.ifCond .gt (7), 3) := by decide +kernel
theorem d_SpectrumDeskModel_isSmall_16 : decode b_SpectrumDeskModel_isSmall 16 = .ok (.iconst 1, 1) := by decide +kernel
theorem d_SpectrumDeskModel_isSmall_17 : decode b_SpectrumDeskModel_isSmall 17 = .ok (.goto (4), 3) := by decide +kernel
theorem d_SpectrumDeskModel_isSmall_20 : decode b_SpectrumDeskModel_isSmall 20 = .ok (.iconst 0, 1) := by decide +kernel
theorem d_SpectrumDeskModel_isSmall_21 : decode b_SpectrumDeskModel_isSmall 21 = .ok (.ireturn, 1) := by decide +kernel
abbrev b_SpectrumDeskModel_at : ByteArray := prog_10_method_25_code
abbrev y_SpectrumDeskModel_at : MethodName := ⟨"SpectrumDeskModel", "at", "(II)I"⟩
abbrev v_SpectrumDeskModel_at : List Cond := Cond.code y_SpectrumDeskModel_at b_SpectrumDeskModel_at 3 (some .int) :: AW
theorem d_SpectrumDeskModel_at_0 : decode b_SpectrumDeskModel_at 0 = .ok (.aload_n 0, 1) := by decide +kernel
theorem d_SpectrumDeskModel_at_1 : decode b_SpectrumDeskModel_at 1 = .ok (.aload_n 0, 1) := by decide +kernel
theorem d_SpectrumDeskModel_at_2 : decode b_SpectrumDeskModel_at 2 = .ok (.iload_n 1, 1) := by decide +kernel
theorem d_SpectrumDeskModel_at_3 : decode b_SpectrumDeskModel_at 3 = .ok (.iload_n 2, 1) := by decide +kernel
theorem d_SpectrumDeskModel_at_4 : decode b_SpectrumDeskModel_at 4 = .ok (.invokevirtual 89, 3) := by decide +kernel
theorem d_SpectrumDeskModel_at_7 : decode b_SpectrumDeskModel_at 7 = .ok (.ifCond .eq (7), 3) := by decide +kernel
theorem d_SpectrumDeskModel_at_10 : decode b_SpectrumDeskModel_at 10 = .ok (.iconst 0, 1) := by decide +kernel
theorem d_SpectrumDeskModel_at_11 : decode b_SpectrumDeskModel_at 11 = .ok (.goto (4), 3) := by decide +kernel
theorem d_SpectrumDeskModel_at_14 : decode b_SpectrumDeskModel_at 14 = .ok (.iconst 1, 1) := by decide +kernel
theorem d_SpectrumDeskModel_at_15 : decode b_SpectrumDeskModel_at 15 = .ok (.putfield 79, 3) := by decide +kernel
theorem d_SpectrumDeskModel_at_18 : decode b_SpectrumDeskModel_at 18 = .ok (.aload_n 0, 1) := by decide +kernel
theorem d_SpectrumDeskModel_at_19 : decode b_SpectrumDeskModel_at 19 = .ok (.getfield 79, 3) := by decide +kernel
theorem d_SpectrumDeskModel_at_22 : decode b_SpectrumDeskModel_at 22 = .ok (.ifCond .le (7), 3) := by decide +kernel
theorem d_SpectrumDeskModel_at_25 : decode b_SpectrumDeskModel_at 25 = .ok (.iconst 0, 1) := by decide +kernel
theorem d_SpectrumDeskModel_at_26 : decode b_SpectrumDeskModel_at 26 = .ok (.goto (14), 3) := by decide +kernel
theorem d_SpectrumDeskModel_at_29 : decode b_SpectrumDeskModel_at 29 = .ok (.aload_n 0, 1) := by decide +kernel
theorem d_SpectrumDeskModel_at_30 : decode b_SpectrumDeskModel_at 30 = .ok (.getfield 67, 3) := by decide +kernel
theorem d_SpectrumDeskModel_at_33 : decode b_SpectrumDeskModel_at 33 = .ok (.bipush (6), 2) := by decide +kernel
theorem d_SpectrumDeskModel_at_35 : decode b_SpectrumDeskModel_at 35 = .ok (.iload_n 1, 1) := by decide +kernel
theorem d_SpectrumDeskModel_at_36 : decode b_SpectrumDeskModel_at 36 = .ok (.imul, 1) := by decide +kernel
theorem d_SpectrumDeskModel_at_37 : decode b_SpectrumDeskModel_at 37 = .ok (.iload_n 2, 1) := by decide +kernel
theorem d_SpectrumDeskModel_at_38 : decode b_SpectrumDeskModel_at 38 = .ok (.iadd, 1) := by decide +kernel
theorem d_SpectrumDeskModel_at_39 : decode b_SpectrumDeskModel_at 39 = .ok (.iaload, 1) := by decide +kernel
theorem d_SpectrumDeskModel_at_40 : decode b_SpectrumDeskModel_at 40 = .ok (.ireturn, 1) := by decide +kernel
abbrev b_SpectrumDeskModel_put : ByteArray := prog_10_method_24_code
abbrev y_SpectrumDeskModel_put : MethodName := ⟨"SpectrumDeskModel", "put", "(III)V"⟩
abbrev v_SpectrumDeskModel_put : List Cond := Cond.code y_SpectrumDeskModel_put b_SpectrumDeskModel_put 4 none :: AW
theorem d_SpectrumDeskModel_put_0 : decode b_SpectrumDeskModel_put 0 = .ok (.aload_n 0, 1) := by decide +kernel
theorem d_SpectrumDeskModel_put_1 : decode b_SpectrumDeskModel_put 1 = .ok (.aload_n 0, 1) := by decide +kernel
theorem d_SpectrumDeskModel_put_2 : decode b_SpectrumDeskModel_put 2 = .ok (.iload_n 1, 1) := by decide +kernel
theorem d_SpectrumDeskModel_put_3 : decode b_SpectrumDeskModel_put 3 = .ok (.iload_n 2, 1) := by decide +kernel
theorem d_SpectrumDeskModel_put_4 : decode b_SpectrumDeskModel_put 4 = .ok (.invokevirtual 89, 3) := by decide +kernel
theorem d_SpectrumDeskModel_put_7 : decode b_SpectrumDeskModel_put 7 = .ok (.ifCond .ne (7), 3) := by decide +kernel
theorem d_SpectrumDeskModel_put_10 : decode b_SpectrumDeskModel_put 10 = .ok (.iconst 1, 1) := by decide +kernel
theorem d_SpectrumDeskModel_put_11 : decode b_SpectrumDeskModel_put 11 = .ok (.goto (16), 3) := by decide +kernel
theorem d_SpectrumDeskModel_put_14 : decode b_SpectrumDeskModel_put 14 = .ok (.iload_n 3, 1) := by decide +kernel
theorem d_SpectrumDeskModel_put_15 : decode b_SpectrumDeskModel_put 15 = .ok (.i2l, 1) := by decide +kernel
theorem d_SpectrumDeskModel_put_16 : decode b_SpectrumDeskModel_put 16 = .ok (.invokestatic 93, 3) := by decide +kernel
theorem d_SpectrumDeskModel_put_19 : decode b_SpectrumDeskModel_put 19 = .ok (.ifCond .ne (7), 3) := by decide +kernel
theorem d_SpectrumDeskModel_put_22 : decode b_SpectrumDeskModel_put 22 = .ok (.iconst 2, 1) := by decide +kernel
theorem d_SpectrumDeskModel_put_23 : decode b_SpectrumDeskModel_put 23 = .ok (.goto (4), 3) := by decide +kernel
theorem d_SpectrumDeskModel_put_26 : decode b_SpectrumDeskModel_put 26 = .ok (.iconst 0, 1) := by decide +kernel
theorem d_SpectrumDeskModel_put_27 : decode b_SpectrumDeskModel_put 27 = .ok (.putfield 79, 3) := by decide +kernel
theorem d_SpectrumDeskModel_put_30 : decode b_SpectrumDeskModel_put 30 = .ok (.aload_n 0, 1) := by decide +kernel
theorem d_SpectrumDeskModel_put_31 : decode b_SpectrumDeskModel_put 31 = .ok (.getfield 79, 3) := by decide +kernel
theorem d_SpectrumDeskModel_put_34 : decode b_SpectrumDeskModel_put 34 = .ok (.ifCond .ne (27), 3) := by decide +kernel
theorem d_SpectrumDeskModel_put_37 : decode b_SpectrumDeskModel_put 37 = .ok (.aload_n 0, 1) := by decide +kernel
theorem d_SpectrumDeskModel_put_38 : decode b_SpectrumDeskModel_put 38 = .ok (.getfield 67, 3) := by decide +kernel
theorem d_SpectrumDeskModel_put_41 : decode b_SpectrumDeskModel_put 41 = .ok (.bipush (6), 2) := by decide +kernel
theorem d_SpectrumDeskModel_put_43 : decode b_SpectrumDeskModel_put 43 = .ok (.iload_n 1, 1) := by decide +kernel
theorem d_SpectrumDeskModel_put_44 : decode b_SpectrumDeskModel_put 44 = .ok (.imul, 1) := by decide +kernel
theorem d_SpectrumDeskModel_put_45 : decode b_SpectrumDeskModel_put 45 = .ok (.iload_n 2, 1) := by decide +kernel
theorem d_SpectrumDeskModel_put_46 : decode b_SpectrumDeskModel_put 46 = .ok (.iadd, 1) := by decide +kernel
theorem d_SpectrumDeskModel_put_47 : decode b_SpectrumDeskModel_put 47 = .ok (.iload_n 3, 1) := by decide +kernel
theorem d_SpectrumDeskModel_put_48 : decode b_SpectrumDeskModel_put 48 = .ok (.iastore, 1) := by decide +kernel
theorem d_SpectrumDeskModel_put_49 : decode b_SpectrumDeskModel_put 49 = .ok (.aload_n 0, 1) := by decide +kernel
theorem d_SpectrumDeskModel_put_50 : decode b_SpectrumDeskModel_put 50 = .ok (.getfield 67, 3) := by decide +kernel
theorem d_SpectrumDeskModel_put_53 : decode b_SpectrumDeskModel_put 53 = .ok (.bipush (6), 2) := by decide +kernel
theorem d_SpectrumDeskModel_put_55 : decode b_SpectrumDeskModel_put 55 = .ok (.iload_n 2, 1) := by decide +kernel
theorem d_SpectrumDeskModel_put_56 : decode b_SpectrumDeskModel_put 56 = .ok (.imul, 1) := by decide +kernel
theorem d_SpectrumDeskModel_put_57 : decode b_SpectrumDeskModel_put 57 = .ok (.iload_n 1, 1) := by decide +kernel
theorem d_SpectrumDeskModel_put_58 : decode b_SpectrumDeskModel_put 58 = .ok (.iadd, 1) := by decide +kernel
theorem d_SpectrumDeskModel_put_59 : decode b_SpectrumDeskModel_put 59 = .ok (.iload_n 3, 1) := by decide +kernel
theorem d_SpectrumDeskModel_put_60 : decode b_SpectrumDeskModel_put 60 = .ok (.iastore, 1) := by decide +kernel
theorem d_SpectrumDeskModel_put_61 : decode b_SpectrumDeskModel_put 61 = .ok (.return_, 1) := by decide +kernel
abbrev b_SpectrumDeskModel_size : ByteArray := prog_10_method_26_code
abbrev y_SpectrumDeskModel_size : MethodName := ⟨"SpectrumDeskModel", "size", "(I)I"⟩
abbrev v_SpectrumDeskModel_size : List Cond := Cond.code y_SpectrumDeskModel_size b_SpectrumDeskModel_size 2 (some .int) :: AW
theorem d_SpectrumDeskModel_size_0 : decode b_SpectrumDeskModel_size 0 = .ok (.aload_n 0, 1) := by decide +kernel
theorem d_SpectrumDeskModel_size_1 : decode b_SpectrumDeskModel_size 1 = .ok (.iconst 0, 1) := by decide +kernel
theorem d_SpectrumDeskModel_size_2 : decode b_SpectrumDeskModel_size 2 = .ok (.putfield 79, 3) := by decide +kernel
theorem d_SpectrumDeskModel_size_5 : decode b_SpectrumDeskModel_size 5 = .ok (.iload_n 1, 1) := by decide +kernel
theorem d_SpectrumDeskModel_size_6 : decode b_SpectrumDeskModel_size 6 = .ok (.ifCond .ne (10), 3) := by decide +kernel
theorem d_SpectrumDeskModel_size_9 : decode b_SpectrumDeskModel_size 9 = .ok (.aload_n 0, 1) := by decide +kernel
theorem d_SpectrumDeskModel_size_10 : decode b_SpectrumDeskModel_size 10 = .ok (.getfield 63, 3) := by decide +kernel
theorem d_SpectrumDeskModel_size_13 : decode b_SpectrumDeskModel_size 13 = .ok (.goto (16), 3) := by decide +kernel
theorem d_SpectrumDeskModel_size_16 : decode b_SpectrumDeskModel_size 16 = .ok (.iload_n 1, 1) := by decide +kernel
theorem d_SpectrumDeskModel_size_17 : decode b_SpectrumDeskModel_size 17 = .ok (.iconst 1, 1) := by decide +kernel
theorem d_SpectrumDeskModel_size_18 : decode b_SpectrumDeskModel_size 18 = .ok (.if_icmp .ne (10), 3) := by decide +kernel
theorem d_SpectrumDeskModel_size_21 : decode b_SpectrumDeskModel_size 21 = .ok (.aload_n 0, 1) := by decide +kernel
theorem d_SpectrumDeskModel_size_22 : decode b_SpectrumDeskModel_size 22 = .ok (.getfield 82, 3) := by decide +kernel
theorem d_SpectrumDeskModel_size_25 : decode b_SpectrumDeskModel_size 25 = .ok (.goto (4), 3) := by decide +kernel
theorem d_SpectrumDeskModel_size_28 : decode b_SpectrumDeskModel_size 28 = .ok (.iconst (-1), 1) := by decide +kernel
theorem d_SpectrumDeskModel_size_29 : decode b_SpectrumDeskModel_size 29 = .ok (.ireturn, 1) := by decide +kernel
abbrev b_SpectrumDeskModel_character : ByteArray := prog_10_method_36_code
abbrev y_SpectrumDeskModel_character : MethodName := ⟨"SpectrumDeskModel", "character", "(I)I"⟩
abbrev v_SpectrumDeskModel_character : List Cond := Cond.code y_SpectrumDeskModel_character b_SpectrumDeskModel_character 2 (some .int) :: AW
theorem d_SpectrumDeskModel_character_0 : decode b_SpectrumDeskModel_character 0 = .ok (.aload_n 0, 1) := by decide +kernel
theorem d_SpectrumDeskModel_character_1 : decode b_SpectrumDeskModel_character 1 = .ok (.iconst 0, 1) := by decide +kernel
theorem d_SpectrumDeskModel_character_2 : decode b_SpectrumDeskModel_character 2 = .ok (.putfield 79, 3) := by decide +kernel
theorem d_SpectrumDeskModel_character_5 : decode b_SpectrumDeskModel_character 5 = .ok (.iload_n 1, 1) := by decide +kernel
theorem d_SpectrumDeskModel_character_6 : decode b_SpectrumDeskModel_character 6 = .ok (.ifCond .lt (20), 3) := by decide +kernel
theorem d_SpectrumDeskModel_character_9 : decode b_SpectrumDeskModel_character 9 = .ok (.iload_n 1, 1) := by decide +kernel
theorem d_SpectrumDeskModel_character_10 : decode b_SpectrumDeskModel_character 10 = .ok (.aload_n 0, 1) := by decide +kernel
theorem d_SpectrumDeskModel_character_11 : decode b_SpectrumDeskModel_character 11 = .ok (.getfield 124, 3) := by decide +kernel
theorem d_SpectrumDeskModel_character_14 : decode b_SpectrumDeskModel_character 14 = .ok (.if_icmp .ge (12), 3) := by decide +kernel
theorem d_SpectrumDeskModel_character_17 : decode b_SpectrumDeskModel_character 17 = .ok (.aload_n 0, 1) := by decide +kernel
theorem d_SpectrumDeskModel_character_18 : decode b_SpectrumDeskModel_character 18 = .ok (.getfield 73, 3) := by decide +kernel
theorem d_SpectrumDeskModel_character_21 : decode b_SpectrumDeskModel_character 21 = .ok (.iload_n 1, 1) := by decide +kernel
theorem d_SpectrumDeskModel_character_22 : decode b_SpectrumDeskModel_character 22 = .ok (.iaload, 1) := by decide +kernel
theorem d_SpectrumDeskModel_character_23 : decode b_SpectrumDeskModel_character 23 = .ok (.goto (4), 3) := by decide +kernel
theorem d_SpectrumDeskModel_character_26 : decode b_SpectrumDeskModel_character 26 = .ok (.iconst (-1), 1) := by decide +kernel
theorem d_SpectrumDeskModel_character_27 : decode b_SpectrumDeskModel_character 27 = .ok (.ireturn, 1) := by decide +kernel
theorem k_90bbbe5d04 : (Jvm.Cond.fieldLink "SpectrumDeskModel" (79 : Nat) "SpectrumDeskModel" "thrown" "I") ∈ AW := aw_4 (List.mem_of_getElem? (i := 184) (by decide +kernel)) (by decide +kernel)
theorem k_b1a46e2c09 : (Jvm.Cond.fieldLink "SpectrumDeskModel" (63 : Nat) "SpectrumDeskModel" "n" "I") ∈ AW := aw_4 (List.mem_of_getElem? (i := 185) (by decide +kernel)) (by decide +kernel)
theorem k_cd82b0b714 : (Jvm.Cond.fieldLink "SpectrumDeskModel" (82 : Nat) "SpectrumDeskModel" "rows" "I") ∈ AW := aw_4 (List.mem_of_getElem? (i := 188) (by decide +kernel)) (by decide +kernel)
theorem k_30a9181b7c : (Jvm.Cond.constantLong "SpectrumDeskModel" (85 : Nat) (-1000000 : Int64)) ∈ AW := aw_5 (List.mem_of_getElem? (i := 2) (by decide +kernel)) (by decide +kernel)
theorem k_81f2a0474c : (Jvm.Cond.constantLong "SpectrumDeskModel" (87 : Nat) (1000000 : Int64)) ∈ AW := aw_5 (List.mem_of_getElem? (i := 3) (by decide +kernel)) (by decide +kernel)
theorem k_f5a43ce5ce : (Jvm.Cond.methodLink "SpectrumDeskModel" (89 : Nat) ({ cls := "SpectrumDeskModel", name := "isPlace", desc := "(II)Z" } : Jvm.MethodName)) ∈ AW := aw_4 (List.mem_of_getElem? (i := 235) (by decide +kernel)) (by decide +kernel)
theorem k_c44ea60b14 : (Jvm.Cond.instanceMethod ({ cls := "SpectrumDeskModel", name := "isPlace", desc := "(II)Z" } : Jvm.MethodName)) ∈ AW := aw_4 (List.mem_of_getElem? (i := 237) (by decide +kernel)) (by decide +kernel)
theorem k_f00e619f1a : (Jvm.Cond.selects "SpectrumDeskModel" ({ cls := "SpectrumDeskModel", name := "isPlace", desc := "(II)Z" } : Jvm.MethodName) ({ cls := "SpectrumDeskModel", name := "isPlace", desc := "(II)Z" } : Jvm.MethodName)) ∈ AW := aw_p (by decide +kernel) (by decide +kernel)
theorem k_2bf2c6597f : (Jvm.Cond.methodLink "SpectrumDeskModel" (93 : Nat) ({ cls := "SpectrumDeskModel", name := "isSmall", desc := "(J)Z" } : Jvm.MethodName)) ∈ AW := aw_4 (List.mem_of_getElem? (i := 239) (by decide +kernel)) (by decide +kernel)
theorem k_95dfa36566 : (Jvm.Cond.static ({ cls := "SpectrumDeskModel", name := "isSmall", desc := "(J)Z" } : Jvm.MethodName)) ∈ AW := aw_5 (List.mem_of_getElem? (i := 0) (by decide +kernel)) (by decide +kernel)
theorem k_8988dcbdf9 : (Jvm.Cond.fieldLink "SpectrumDeskModel" (124 : Nat) "SpectrumDeskModel" "printedSize" "I") ∈ AW := aw_4 (List.mem_of_getElem? (i := 190) (by decide +kernel)) (by decide +kernel)
theorem k_dd379f4769 : (Jvm.Cond.fieldLink "SpectrumDeskModel" (73 : Nat) "SpectrumDeskModel" "printed" "[I") ∈ AW := aw_4 (List.mem_of_getElem? (i := 189) (by decide +kernel)) (by decide +kernel)
theorem k_0428eee463 : (Jvm.Cond.code ({ cls := "SpectrumDeskModel", name := "thrown", desc := "()I" } : Jvm.MethodName) prog_10_method_20_code (1 : Nat) (Option.some Jvm.ClassFile.FieldType.int)) ∈ AW := aw_4 (List.mem_of_getElem? (i := 226) (by decide +kernel)) (by decide +kernel)
theorem k_f4eb527a84 : (Jvm.Cond.code ({ cls := "SpectrumDeskModel", name := "check", desc := "()I" } : Jvm.MethodName) prog_10_method_52_code (1 : Nat) (Option.some Jvm.ClassFile.FieldType.int)) ∈ AW := aw_5 (List.mem_of_getElem? (i := 182) (by decide +kernel)) (by decide +kernel)
theorem k_241edbec56 : (Jvm.Cond.code ({ cls := "SpectrumDeskModel", name := "make", desc := "(I)V" } : Jvm.MethodName) prog_10_method_21_code (3 : Nat) (Option.none : Option Jvm.ClassFile.FieldType)) ∈ AW := aw_4 (List.mem_of_getElem? (i := 230) (by decide +kernel)) (by decide +kernel)
theorem k_84e5fd28e4 : (Jvm.Cond.code ({ cls := "SpectrumDeskModel", name := "isPlace", desc := "(II)Z" } : Jvm.MethodName) prog_10_method_22_code (3 : Nat) (Option.some Jvm.ClassFile.FieldType.boolean)) ∈ AW := aw_4 (List.mem_of_getElem? (i := 238) (by decide +kernel)) (by decide +kernel)
theorem k_3f4b5a72d5 : (Jvm.Cond.code ({ cls := "SpectrumDeskModel", name := "isSmall", desc := "(J)Z" } : Jvm.MethodName) prog_10_method_23_code (2 : Nat) (Option.some Jvm.ClassFile.FieldType.boolean)) ∈ AW := aw_5 (List.mem_of_getElem? (i := 1) (by decide +kernel)) (by decide +kernel)
theorem k_9a1762490f : (Jvm.Cond.code ({ cls := "SpectrumDeskModel", name := "at", desc := "(II)I" } : Jvm.MethodName) prog_10_method_25_code (3 : Nat) (Option.some Jvm.ClassFile.FieldType.int)) ∈ AW := aw_5 (List.mem_of_getElem? (i := 7) (by decide +kernel)) (by decide +kernel)
theorem k_f86049a736 : (Jvm.Cond.code ({ cls := "SpectrumDeskModel", name := "put", desc := "(III)V" } : Jvm.MethodName) prog_10_method_24_code (4 : Nat) (Option.none : Option Jvm.ClassFile.FieldType)) ∈ AW := aw_4 (List.mem_of_getElem? (i := 234) (by decide +kernel)) (by decide +kernel)
theorem k_d767834716 : (Jvm.Cond.code ({ cls := "SpectrumDeskModel", name := "size", desc := "(I)I" } : Jvm.MethodName) prog_10_method_26_code (2 : Nat) (Option.some Jvm.ClassFile.FieldType.int)) ∈ AW := aw_5 (List.mem_of_getElem? (i := 11) (by decide +kernel)) (by decide +kernel)
theorem k_932aa0cc1c : (Jvm.Cond.code ({ cls := "SpectrumDeskModel", name := "character", desc := "(I)I" } : Jvm.MethodName) prog_10_method_36_code (2 : Nat) (Option.some Jvm.ClassFile.FieldType.int)) ∈ AW := aw_5 (List.mem_of_getElem? (i := 96) (by decide +kernel)) (by decide +kernel)
set_option maxHeartbeats 4000000 in
set_option maxRecDepth 100000 in
theorem c_SpectrumDeskModel_thrown {l : Launch} {D : va_G} {cI cJ cZ cC cG cP : ClassId} {ad : Nat → Nat} {σ σb : Nat → va_E} {th : Int32} {n : Nat} {A9 : Nat → Int32} {rw : Nat} {Dt : Nat → Int32} {ps : Nat} {Pr : Nat → Int32} (hS : mS ad cI cZ σb th n A9 rw Dt ps Pr σ)  :
    Met l y_SpectrumDeskModel_thrown v_SpectrumDeskModel_thrown (xrm 0) (va_Pc [.ref (ad 183)] (xS D classes (xT cI cJ cZ cC cG cP) 193 ad σ)) (va_Qi (fun r σ2 => r = th ∧ mS ad cI cZ σb th n A9 rw Dt ps Pr σ2) (xS D classes (xT cI cJ cZ cC cG cP) 193 ad) (xA 193 ad)) 0 0 (xA 193 ad) := by
  obtain ⟨s0, G, Dg, P, L, M, Z, le, eq, rfl, h187, h188, h189, h190, h191, hfb, hB⟩ := hS
  refine xr_met rfl (Nat.le_of_ble_eq_true rfl) ?_
  intro p e s m args below meth c ls hx hb X hr hlk hl I
  have hl : lv_has ls 1 [(0, .ref (ad 183))] := hl
  refine lv_aload_n hx hb d_SpectrumDeskModel_thrown_0 rfl (lv_at hl 0 rfl) ?_
  refine xr_get X I fin_M 183 (by decide) (r183 ..) rfl 4 (by decide) (List.mem_cons_of_mem _ k_90bbbe5d04) rfl rfl d_SpectrumDeskModel_thrown_1 ?_
  exact xr_iret X I hr hlk ⟨rfl, ⟨s0, G, Dg, P, L, M, Z, le, eq, rfl, h187, h188, h189, h190, h191, hfb, hB⟩⟩ d_SpectrumDeskModel_thrown_4
set_option maxHeartbeats 4000000 in
set_option maxRecDepth 100000 in
theorem c_SpectrumDeskModel_check {l : Launch} {D : va_G} {cI cJ cZ cC cG cP : ClassId} {ad : Nat → Nat} {σ σb : Nat → va_E} {th : Int32} {n : Nat} {A9 : Nat → Int32} {rw : Nat} {Dt : Nat → Int32} {ps : Nat} {Pr : Nat → Int32} (hS : mS ad cI cZ σb th n A9 rw Dt ps Pr σ)  :
    Met l y_SpectrumDeskModel_check v_SpectrumDeskModel_check (xrm 0) (va_Pc [.ref (ad 183)] (xS D classes (xT cI cJ cZ cC cG cP) 193 ad σ)) (va_Qi (fun r σ2 => r = nI 1 ∧ mS ad cI cZ σb (nI 0) n A9 rw Dt ps Pr σ2) (xS D classes (xT cI cJ cZ cC cG cP) 193 ad) (xA 193 ad)) 0 0 (xA 193 ad) := by
  obtain ⟨s0, G, Dg, P, L, M, Z, le, eq, rfl, h187, h188, h189, h190, h191, hfb, hB⟩ := hS
  refine xr_met rfl (Nat.le_of_ble_eq_true rfl) ?_
  intro p e s m args below meth c ls hx hb X hr hlk hl I
  have hl : lv_has ls 1 [(0, .ref (ad 183))] := hl
  refine lv_aload_n hx hb d_SpectrumDeskModel_check_0 rfl (lv_at hl 0 rfl) ?_
  refine lv_iconst (v := nI 0) hx hb d_SpectrumDeskModel_check_1 (by decide) ?_
  refine xr_put (ty := .int) X I fin_M t_M t_M_ok n_M 183 (by decide) (r183 ..) rfl 4 (by decide) (List.mem_cons_of_mem _ k_90bbbe5d04) rfl rfl (by decide +kernel) rfl rfl (Nat.le_of_ble_eq_true rfl) d_SpectrumDeskModel_check_2 (fun H locs I => ?_)
  rw [rw3_F] at I
  have I : xI D classes 193 ad s.heap (rw3 s0 ciM cI cZ (mfs ad (nI 0) (nI n) (nI rw) (nI ps) le eq) P L M) H locs := I
  refine lv_iconst (v := nI 1) hx hb d_SpectrumDeskModel_check_5 (by decide) ?_
  exact xr_iret X I hr hlk ⟨rfl, ⟨s0, G, Dg, P, L, M, Z, le, eq, rfl, h187, h188, h189, h190, h191, hfb, hB⟩⟩ d_SpectrumDeskModel_check_6
set_option maxHeartbeats 4000000 in
set_option maxRecDepth 100000 in
theorem c_SpectrumDeskModel_make_bad {l : Launch} {D : va_G} {cI cJ cZ cC cG cP : ClassId} {ad : Nat → Nat} {σ σb : Nat → va_E} {th : Int32} {n : Nat} {A9 : Nat → Int32} {rw : Nat} {Dt : Nat → Int32} {ps : Nat} {Pr : Nat → Int32} (hS : mS ad cI cZ σb th n A9 rw Dt ps Pr σ) {v : Int32} (hv : v < nI 1 ∨ nI 6 < v) :
    Met l y_SpectrumDeskModel_make v_SpectrumDeskModel_make (xrm 0) (va_Pc [.ref (ad 183), .int v] (xS D classes (xT cI cJ cZ cC cG cP) 193 ad σ)) (va_Qv (mS ad cI cZ σb (nI 1) n A9 rw Dt ps Pr) (xS D classes (xT cI cJ cZ cC cG cP) 193 ad) (xA 193 ad)) 0 0 (xA 193 ad) := by
  obtain ⟨s0, G, Dg, P, L, M, Z, le, eq, rfl, h187, h188, h189, h190, h191, hfb, hB⟩ := hS
  refine xr_met rfl (Nat.le_of_ble_eq_true rfl) ?_
  intro p e s m args below meth c ls hx hb X hr hlk hl I
  have hl : lv_has ls 3 [(0, .ref (ad 183)), (1, .int v)] := hl
  refine lv_aload_n hx hb d_SpectrumDeskModel_make_0 rfl (lv_at hl 0 rfl) ?_
  refine lv_iload_n hx hb d_SpectrumDeskModel_make_1 rfl (lv_at hl 1 rfl) ?_
  refine lv_iconst (v := nI 1) hx hb d_SpectrumDeskModel_make_2 (by decide) ?_
  refine lv_icmp_lt hx hb d_SpectrumDeskModel_make_3 rfl (fun hc => ?_) (fun hc => ?_)
  · refine lv_iconst (v := nI 1) hx hb d_SpectrumDeskModel_make_16 (by decide) ?_
    refine xr_put (ty := .int) X I fin_M t_M t_M_ok n_M 183 (by decide) (r183 ..) rfl 4 (by decide) (List.mem_cons_of_mem _ k_90bbbe5d04) rfl rfl (by decide +kernel) rfl rfl (Nat.le_of_ble_eq_true rfl) d_SpectrumDeskModel_make_17 (fun H locs I => ?_)
    rw [rw3_F] at I
    have I : xI D classes 193 ad s.heap (rw3 s0 ciM cI cZ (mfs ad (nI 1) (nI n) (nI rw) (nI ps) le eq) P L M) H locs := I
    refine lv_aload_n hx hb d_SpectrumDeskModel_make_20 rfl (lv_at hl 0 rfl) ?_
    refine xr_get X I fin_M 183 (by decide) (r183 ..) rfl 4 (by decide) (List.mem_cons_of_mem _ k_90bbbe5d04) rfl rfl d_SpectrumDeskModel_make_21 ?_
    refine lv_if_le hx hb d_SpectrumDeskModel_make_24 rfl (fun hz => ?_) (fun hz => ?_)
    · exact absurd hz (by decide)
    · exact xr_vret X I hr hlk ⟨s0, G, Dg, P, L, M, Z, le, eq, rfl, h187, h188, h189, h190, h191, hfb, hB⟩ d_SpectrumDeskModel_make_27
  · refine lv_iload_n hx hb d_SpectrumDeskModel_make_6 rfl (lv_at hl 1 rfl) ?_
    refine lv_bipush (v := nI 6) hx hb d_SpectrumDeskModel_make_7 (by decide) ?_
    refine lv_icmp_gt hx hb d_SpectrumDeskModel_make_9 rfl (fun hd => ?_) (fun hd => ?_)
    · refine lv_iconst (v := nI 1) hx hb d_SpectrumDeskModel_make_16 (by decide) ?_
      refine xr_put (ty := .int) X I fin_M t_M t_M_ok n_M 183 (by decide) (r183 ..) rfl 4 (by decide) (List.mem_cons_of_mem _ k_90bbbe5d04) rfl rfl (by decide +kernel) rfl rfl (Nat.le_of_ble_eq_true rfl) d_SpectrumDeskModel_make_17 (fun H locs I => ?_)
      rw [rw3_F] at I
      have I : xI D classes 193 ad s.heap (rw3 s0 ciM cI cZ (mfs ad (nI 1) (nI n) (nI rw) (nI ps) le eq) P L M) H locs := I
      refine lv_aload_n hx hb d_SpectrumDeskModel_make_20 rfl (lv_at hl 0 rfl) ?_
      refine xr_get X I fin_M 183 (by decide) (r183 ..) rfl 4 (by decide) (List.mem_cons_of_mem _ k_90bbbe5d04) rfl rfl d_SpectrumDeskModel_make_21 ?_
      refine lv_if_le hx hb d_SpectrumDeskModel_make_24 rfl (fun hz => ?_) (fun hz => ?_)
      · exact absurd hz (by decide)
      · exact xr_vret X I hr hlk ⟨s0, G, Dg, P, L, M, Z, le, eq, rfl, h187, h188, h189, h190, h191, hfb, hB⟩ d_SpectrumDeskModel_make_27
    · exact absurd hv (fun h => h.elim hc hd)
set_option maxHeartbeats 4000000 in
set_option maxRecDepth 100000 in
theorem c_SpectrumDeskModel_make_ok {l : Launch} {D : va_G} {cI cJ cZ cC cG cP : ClassId} {ad : Nat → Nat} {σ σb : Nat → va_E} {th : Int32} {n : Nat} {A9 : Nat → Int32} {rw : Nat} {Dt : Nat → Int32} {ps : Nat} {Pr : Nat → Int32} (hS : mS ad cI cZ σb th n A9 rw Dt ps Pr σ) {k9 : Nat} (h1 : 1 ≤ k9) (h6 : k9 ≤ 6) :
    Met l y_SpectrumDeskModel_make v_SpectrumDeskModel_make (xrm 0) (va_Pc [.ref (ad 183), .int (nI k9)] (xS D classes (xT cI cJ cZ cC cG cP) 193 ad σ)) (va_Qv (fun σ2 => ∃ A' : Nat → Int32, (∀ j, j < 36 → A' j = 0) ∧ mS ad cI cZ σb (nI 0) k9 A' 0 Dt ps Pr σ2) (xS D classes (xT cI cJ cZ cC cG cP) 193 ad) (xA 193 ad)) 0 0 (xA 193 ad) := by
  obtain ⟨s0, G, Dg, P, L, M, Z, le, eq, rfl, h187, h188, h189, h190, h191, hfb, hB⟩ := hS
  refine xr_met rfl (Nat.le_of_ble_eq_true rfl) ?_
  intro p e s m args below meth c ls hx hb X hr hlk hl I
  have hl : lv_has ls 3 [(0, .ref (ad 183)), (1, .int (nI k9))] := hl
  refine lv_aload_n hx hb d_SpectrumDeskModel_make_0 rfl (lv_at hl 0 rfl) ?_
  refine lv_iload_n hx hb d_SpectrumDeskModel_make_1 rfl (lv_at hl 1 rfl) ?_
  refine lv_iconst (v := nI 1) hx hb d_SpectrumDeskModel_make_2 (by decide) ?_
  refine lv_icmp_lt hx hb d_SpectrumDeskModel_make_3 rfl (fun hc => ?_) (fun hc => ?_)
  · exact absurd hc (nI_nlt h1 (by omega))
  · refine lv_iload_n hx hb d_SpectrumDeskModel_make_6 rfl (lv_at hl 1 rfl) ?_
    refine lv_bipush (v := nI 6) hx hb d_SpectrumDeskModel_make_7 (by decide) ?_
    refine lv_icmp_gt hx hb d_SpectrumDeskModel_make_9 rfl (fun hd => ?_) (fun hd => ?_)
    · exact absurd hd (nI_nlt h6 (by decide))
    · refine lv_iconst (v := nI 0) hx hb d_SpectrumDeskModel_make_12 (by decide) ?_
      refine lv_goto hx hb d_SpectrumDeskModel_make_13 rfl ?_
      refine xr_put (ty := .int) X I fin_M t_M t_M_ok n_M 183 (by decide) (r183 ..) rfl 4 (by decide) (List.mem_cons_of_mem _ k_90bbbe5d04) rfl rfl (by decide +kernel) rfl rfl (Nat.le_of_ble_eq_true rfl) d_SpectrumDeskModel_make_17 (fun H locs I => ?_)
      rw [rw3_F] at I
      have I : xI D classes 193 ad s.heap (rw3 s0 ciM cI cZ (mfs ad (nI 0) (nI n) (nI rw) (nI ps) le eq) P L M) H locs := I
      refine lv_aload_n hx hb d_SpectrumDeskModel_make_20 rfl (lv_at hl 0 rfl) ?_
      refine xr_get X I fin_M 183 (by decide) (r183 ..) rfl 4 (by decide) (List.mem_cons_of_mem _ k_90bbbe5d04) rfl rfl d_SpectrumDeskModel_make_21 ?_
      refine lv_if_le hx hb d_SpectrumDeskModel_make_24 rfl (fun hz => ?_) (fun hz => ?_)
      · refine lv_aload_n hx hb d_SpectrumDeskModel_make_28 rfl (lv_at hl 0 rfl) ?_
        refine lv_iload_n hx hb d_SpectrumDeskModel_make_29 rfl (lv_at hl 1 rfl) ?_
        refine xr_put (ty := .int) X I fin_M t_M t_M_ok n_M 183 (by decide) (r183 ..) rfl 5 (by decide) (List.mem_cons_of_mem _ k_b1a46e2c09) rfl rfl (by decide +kernel) rfl rfl (Nat.le_of_ble_eq_true rfl) d_SpectrumDeskModel_make_30 (fun H locs I => ?_)
        rw [rw3_F] at I
        have I : xI D classes 193 ad s.heap (rw3 s0 ciM cI cZ (mfs ad (nI 0) (nI k9) (nI rw) (nI ps) le eq) P L M) H locs := I
        refine lv_aload_n hx hb d_SpectrumDeskModel_make_33 rfl (lv_at hl 0 rfl) ?_
        refine lv_iconst (v := nI 0) hx hb d_SpectrumDeskModel_make_34 (by decide) ?_
        refine xr_put (ty := .int) X I fin_M t_M t_M_ok n_M 183 (by decide) (r183 ..) rfl 8 (by decide) (List.mem_cons_of_mem _ k_cd82b0b714) rfl rfl (by decide +kernel) rfl rfl (Nat.le_of_ble_eq_true rfl) d_SpectrumDeskModel_make_35 (fun H locs I => ?_)
        rw [rw3_F] at I
        have I : xI D classes 193 ad s.heap (rw3 s0 ciM cI cZ (mfs ad (nI 0) (nI k9) (nI 0) (nI ps) le eq) P L M) H locs := I
        refine lv_iconst (v := nI 0) hx hb d_SpectrumDeskModel_make_38 (by decide) ?_
        refine lv_istore_n (lv' := [(2, .int (nI 0)), (0, .ref (ad 183)), (1, .int (nI k9))]) hx hb d_SpectrumDeskModel_make_39 rfl hl (by decide) rfl (fun ls hl => ?_)
        have loop : ∀ (j : Nat) (k : Nat) (A' : Nat → Int32) (ls : Array Slot) (H : Heap) (locs : List Loc), k + j = 36 → (∀ j, j < k → A' j = 0) → lv_has ls 3 [(2, .int (nI k)), (0, .ref (ad 183)), (1, .int (nI k9))] → xI D classes 193 ad s.heap (rw3 (va_up s0 188 (.inl (cI, 36, .inl A'))) ciM cI cZ (mfs ad (nI 0) (nI k9) (nI 0) (nI ps) le eq) P L M) H locs → W p l e (xrm 0) s m args below meth c H locs 0 0 (MQ below (va_Qv (fun σ2 => ∃ A' : Nat → Int32, (∀ j, j < 36 → A' j = 0) ∧ mS ad cI cZ σb (nI 0) k9 A' 0 Dt ps Pr σ2) (xS D classes (xT cI cJ cZ cC cG cP) 193 ad) (xA 193 ad)) args s 0 0 (xA 193 ad)) (F0 m 40 ls []) := by
          intro j
          induction j with
          | zero =>
            intro k A' ls H locs hk hz9 hl I
            obtain rfl : k = 36 := by omega
            refine lv_iload_n hx hb d_SpectrumDeskModel_make_40 rfl (lv_at hl 0 rfl) ?_
            refine lv_bipush (v := nI 36) hx hb d_SpectrumDeskModel_make_41 (by decide) ?_
            refine lv_icmp_ge hx hb d_SpectrumDeskModel_make_43 rfl (fun hg => ?_) (fun hg => ?_)
            · exact xr_vret X I hr hlk ⟨A', hz9, ⟨va_up s0 188 (.inl (cI, 36, .inl A')), G, Dg, P, L, M, Z, le, eq, rfl, ((va_up_ne _ _ (by decide)).trans h187), (va_up_self _ _ _), ((va_up_ne _ _ (by decide)).trans h189), ((va_up_ne _ _ (by decide)).trans h190), ((va_up_ne _ _ (by decide)).trans h191), (fun q hq => (va_up_ne _ _ (by omega)).trans (hfb q hq)), hB⟩⟩ d_SpectrumDeskModel_make_59
            · exact absurd (by decide) hg
          | succ j ih =>
            intro k A' ls H locs hk hz9 hl I
            refine lv_iload_n hx hb d_SpectrumDeskModel_make_40 rfl (lv_at hl 0 rfl) ?_
            refine lv_bipush (v := nI 36) hx hb d_SpectrumDeskModel_make_41 (by decide) ?_
            refine lv_icmp_ge hx hb d_SpectrumDeskModel_make_43 rfl (fun hg => ?_) (fun hg => ?_)
            · exact absurd hg (nI_ge (by omega) (by omega))
            · refine lv_aload_n hx hb d_SpectrumDeskModel_make_46 rfl (lv_at hl 1 rfl) ?_
              refine xr_get X I fin_M 183 (by decide) (r183 ..) rfl 6 (by decide) (List.mem_cons_of_mem _ k_78efd7a03a) rfl rfl d_SpectrumDeskModel_make_47 ?_
              refine lv_iload_n hx hb d_SpectrumDeskModel_make_50 rfl (lv_at hl 0 rfl) ?_
              refine lv_iconst (v := 0) hx hb d_SpectrumDeskModel_make_51 (by decide) ?_
              refine xr_iast X I 188 0 (by decide) ((r_o (by decide)).trans (va_up_self _ _ _)) rfl (by omega) (by decide) d_SpectrumDeskModel_make_52 (fun H locs I => ?_)
              rw [rw3_o (by decide)] at I
              rw [va_up_up] at I
              refine lv_iinc (k := 0) (v := nI (k + 1)) (lv' := [(2, .int (nI (k + 1))), (0, .ref (ad 183)), (1, .int (nI k9))]) hx hb d_SpectrumDeskModel_make_53 hl rfl (nI_1 k) (by decide) rfl (fun ls hl => ?_)
              refine lv_goto hx hb d_SpectrumDeskModel_make_56 rfl ?_
              refine ih (k + 1) _ ls H locs (by omega) (fun j hj => ?_) hl I
              by_cases ej : j = k
              · rw [ej, upd_s]
              · rw [upd_n ej]; exact hz9 j (by omega)
        exact loop 36 0 A9 ls _ _ (by omega) (fun j hj => absurd hj (Nat.not_lt_zero _)) hl (by rw [va_up_same h188]; exact I)
      · exact absurd (by decide) hz
set_option maxHeartbeats 4000000 in
set_option maxRecDepth 100000 in
theorem c_SpectrumDeskModel_isPlace_t {l : Launch} {D : va_G} {cI cJ cZ cC cG cP : ClassId} {ad : Nat → Nat} {σ σb : Nat → va_E} {th : Int32} {n : Nat} {A9 : Nat → Int32} {rw : Nat} {Dt : Nat → Int32} {ps : Nat} {Pr : Nat → Int32} (hS : mS ad cI cZ σb th n A9 rw Dt ps Pr σ) {r9 c9 : Nat} (h1 : r9 < n) (h2 : c9 < n) (h3 : n ≤ 6) :
    Met l y_SpectrumDeskModel_isPlace v_SpectrumDeskModel_isPlace (xrm 0) (va_Pc [.ref (ad 183), .int (nI r9), .int (nI c9)] (xS D classes (xT cI cJ cZ cC cG cP) 193 ad σ)) (va_Qi (fun r σ2 => r = nI 1 ∧ σ2 = σ) (xS D classes (xT cI cJ cZ cC cG cP) 193 ad) (xA 193 ad)) 0 0 (xA 193 ad) := by
  obtain ⟨s0, G, Dg, P, L, M, Z, le, eq, rfl, h187, h188, h189, h190, h191, hfb, hB⟩ := hS
  refine xr_met rfl (Nat.le_of_ble_eq_true rfl) ?_
  intro p e s m args below meth c ls hx hb X hr hlk hl I
  have hl : lv_has ls 3 [(0, .ref (ad 183)), (1, .int (nI r9)), (2, .int (nI c9))] := hl
  refine lv_iload_n hx hb d_SpectrumDeskModel_isPlace_0 rfl (lv_at hl 1 rfl) ?_
  refine lv_if_lt hx hb d_SpectrumDeskModel_isPlace_1 rfl (fun hc => ?_) (fun hc => ?_)
  · exact absurd hc (nI_pos (by omega))
  · have ha := hc
    refine lv_iload_n hx hb d_SpectrumDeskModel_isPlace_4 rfl (lv_at hl 1 rfl) ?_
    refine lv_aload_n hx hb d_SpectrumDeskModel_isPlace_5 rfl (lv_at hl 0 rfl) ?_
    refine xr_get X I fin_M 183 (by decide) (r183 ..) rfl 5 (by decide) (List.mem_cons_of_mem _ k_b1a46e2c09) rfl rfl d_SpectrumDeskModel_isPlace_6 ?_
    refine lv_icmp_ge hx hb d_SpectrumDeskModel_isPlace_9 rfl (fun hc => ?_) (fun hc => ?_)
    · exact absurd hc (nI_ge (by omega) (by omega))
    · have hb1 := hc
      refine lv_iload_n hx hb d_SpectrumDeskModel_isPlace_12 rfl (lv_at hl 2 rfl) ?_
      refine lv_if_lt hx hb d_SpectrumDeskModel_isPlace_13 rfl (fun hc => ?_) (fun hc => ?_)
      · exact absurd hc (nI_pos (by omega))
      · have hc1 := hc
        refine lv_iload_n hx hb d_SpectrumDeskModel_isPlace_16 rfl (lv_at hl 2 rfl) ?_
        refine lv_aload_n hx hb d_SpectrumDeskModel_isPlace_17 rfl (lv_at hl 0 rfl) ?_
        refine xr_get X I fin_M 183 (by decide) (r183 ..) rfl 5 (by decide) (List.mem_cons_of_mem _ k_b1a46e2c09) rfl rfl d_SpectrumDeskModel_isPlace_18 ?_
        refine lv_icmp_ge hx hb d_SpectrumDeskModel_isPlace_21 rfl (fun hc => ?_) (fun hc => ?_)
        · exact absurd hc (nI_ge (by omega) (by omega))
        · refine lv_iconst (v := nI 1) hx hb d_SpectrumDeskModel_isPlace_24 (by decide) ?_
          refine lv_goto hx hb d_SpectrumDeskModel_isPlace_25 rfl ?_
          exact xr_zret X I hr hlk (by decide +kernel) ⟨rfl, rfl⟩ d_SpectrumDeskModel_isPlace_29
set_option maxHeartbeats 4000000 in
set_option maxRecDepth 100000 in
theorem c_SpectrumDeskModel_isPlace_f {l : Launch} {D : va_G} {cI cJ cZ cC cG cP : ClassId} {ad : Nat → Nat} {σ σb : Nat → va_E} {th : Int32} {n : Nat} {A9 : Nat → Int32} {rw : Nat} {Dt : Nat → Int32} {ps : Nat} {Pr : Nat → Int32} (hS : mS ad cI cZ σb th n A9 rw Dt ps Pr σ) {r9 c9 : Int32} (h1 : ¬ isP r9 c9 n) :
    Met l y_SpectrumDeskModel_isPlace v_SpectrumDeskModel_isPlace (xrm 0) (va_Pc [.ref (ad 183), .int r9, .int c9] (xS D classes (xT cI cJ cZ cC cG cP) 193 ad σ)) (va_Qi (fun r σ2 => r = nI 0 ∧ σ2 = σ) (xS D classes (xT cI cJ cZ cC cG cP) 193 ad) (xA 193 ad)) 0 0 (xA 193 ad) := by
  obtain ⟨s0, G, Dg, P, L, M, Z, le, eq, rfl, h187, h188, h189, h190, h191, hfb, hB⟩ := hS
  refine xr_met rfl (Nat.le_of_ble_eq_true rfl) ?_
  intro p e s m args below meth c ls hx hb X hr hlk hl I
  have hl : lv_has ls 3 [(0, .ref (ad 183)), (1, .int r9), (2, .int c9)] := hl
  refine lv_iload_n hx hb d_SpectrumDeskModel_isPlace_0 rfl (lv_at hl 1 rfl) ?_
  refine lv_if_lt hx hb d_SpectrumDeskModel_isPlace_1 rfl (fun hc => ?_) (fun hc => ?_)
  · refine lv_iconst (v := nI 0) hx hb d_SpectrumDeskModel_isPlace_28 (by decide) ?_
    exact xr_zret X I hr hlk (by decide +kernel) ⟨rfl, rfl⟩ d_SpectrumDeskModel_isPlace_29
  · have ha := hc
    refine lv_iload_n hx hb d_SpectrumDeskModel_isPlace_4 rfl (lv_at hl 1 rfl) ?_
    refine lv_aload_n hx hb d_SpectrumDeskModel_isPlace_5 rfl (lv_at hl 0 rfl) ?_
    refine xr_get X I fin_M 183 (by decide) (r183 ..) rfl 5 (by decide) (List.mem_cons_of_mem _ k_b1a46e2c09) rfl rfl d_SpectrumDeskModel_isPlace_6 ?_
    refine lv_icmp_ge hx hb d_SpectrumDeskModel_isPlace_9 rfl (fun hc => ?_) (fun hc => ?_)
    · refine lv_iconst (v := nI 0) hx hb d_SpectrumDeskModel_isPlace_28 (by decide) ?_
      exact xr_zret X I hr hlk (by decide +kernel) ⟨rfl, rfl⟩ d_SpectrumDeskModel_isPlace_29
    · have hb1 := hc
      refine lv_iload_n hx hb d_SpectrumDeskModel_isPlace_12 rfl (lv_at hl 2 rfl) ?_
      refine lv_if_lt hx hb d_SpectrumDeskModel_isPlace_13 rfl (fun hc => ?_) (fun hc => ?_)
      · refine lv_iconst (v := nI 0) hx hb d_SpectrumDeskModel_isPlace_28 (by decide) ?_
        exact xr_zret X I hr hlk (by decide +kernel) ⟨rfl, rfl⟩ d_SpectrumDeskModel_isPlace_29
      · have hc1 := hc
        refine lv_iload_n hx hb d_SpectrumDeskModel_isPlace_16 rfl (lv_at hl 2 rfl) ?_
        refine lv_aload_n hx hb d_SpectrumDeskModel_isPlace_17 rfl (lv_at hl 0 rfl) ?_
        refine xr_get X I fin_M 183 (by decide) (r183 ..) rfl 5 (by decide) (List.mem_cons_of_mem _ k_b1a46e2c09) rfl rfl d_SpectrumDeskModel_isPlace_18 ?_
        refine lv_icmp_ge hx hb d_SpectrumDeskModel_isPlace_21 rfl (fun hc => ?_) (fun hc => ?_)
        · refine lv_iconst (v := nI 0) hx hb d_SpectrumDeskModel_isPlace_28 (by decide) ?_
          exact xr_zret X I hr hlk (by decide +kernel) ⟨rfl, rfl⟩ d_SpectrumDeskModel_isPlace_29
        · exact absurd ⟨ha, q_nge hb1, hc1, q_nge hc⟩ h1
set_option maxHeartbeats 4000000 in
set_option maxRecDepth 100000 in
theorem c_SpectrumDeskModel_isSmall_t {l : Launch} {D : va_G} {cI cJ cZ cC cG cP : ClassId} {N : Nat} {ad : Nat → Nat} {σ : Nat → va_E} {v : Int64} (h1 : isS v) :
    Met l y_SpectrumDeskModel_isSmall v_SpectrumDeskModel_isSmall (xrm 0) (va_Pc [.long v] (xS D classes (xT cI cJ cZ cC cG cP) N ad σ)) (va_Qi (fun r σ2 => r = nI 1 ∧ σ2 = σ) (xS D classes (xT cI cJ cZ cC cG cP) N ad) (xA N ad)) 0 0 (xA N ad) := by
  refine xr_met rfl (Nat.le_of_ble_eq_true rfl) ?_
  intro p e s m args below meth c ls hx hb X hr hlk hl I
  have hl : lv_has ls 2 [(0, .long v)] := hl
  refine lv_lload_n hx hb d_SpectrumDeskModel_isSmall_0 rfl (lv_at hl 0 rfl) ?_
  refine lv_ldc2 (v := (-1000000)) hx hb X.1.2.2.2.1 (X.1.2.2.2.2 _ (List.mem_cons_of_mem _ k_30a9181b7c)) d_SpectrumDeskModel_isSmall_1 ?_
  refine W.lcmp hx hb d_SpectrumDeskModel_isSmall_4 ?_
  refine lv_if_lt hx hb d_SpectrumDeskModel_isSmall_5 rfl (fun hc => ?_) (fun hc => ?_)
  · exact absurd ((lg_cmp_lt _ _).mp hc) (Int64.not_lt.mpr h1.1)
  · have ha : -1000000 ≤ v := Int64.not_lt.mp (fun h => hc ((lg_cmp_lt _ _).mpr h))
    refine lv_lload_n hx hb d_SpectrumDeskModel_isSmall_8 rfl (lv_at hl 0 rfl) ?_
    refine lv_ldc2 (v := 1000000) hx hb X.1.2.2.2.1 (X.1.2.2.2.2 _ (List.mem_cons_of_mem _ k_81f2a0474c)) d_SpectrumDeskModel_isSmall_9 ?_
    refine W.lcmp hx hb d_SpectrumDeskModel_isSmall_12 ?_
    refine lv_if_gt hx hb d_SpectrumDeskModel_isSmall_13 rfl (fun hd => ?_) (fun hd => ?_)
    · exact absurd ((lg_cmp_gt _ _).mp hd) (Int64.not_lt.mpr h1.2)
    · refine lv_iconst (v := nI 1) hx hb d_SpectrumDeskModel_isSmall_16 (by decide) ?_
      refine lv_goto hx hb d_SpectrumDeskModel_isSmall_17 rfl ?_
      exact xr_zret X I hr hlk (by decide +kernel) ⟨rfl, rfl⟩ d_SpectrumDeskModel_isSmall_21
set_option maxHeartbeats 4000000 in
set_option maxRecDepth 100000 in
theorem c_SpectrumDeskModel_isSmall_f {l : Launch} {D : va_G} {cI cJ cZ cC cG cP : ClassId} {N : Nat} {ad : Nat → Nat} {σ : Nat → va_E} {v : Int64} (h1 : ¬ isS v) :
    Met l y_SpectrumDeskModel_isSmall v_SpectrumDeskModel_isSmall (xrm 0) (va_Pc [.long v] (xS D classes (xT cI cJ cZ cC cG cP) N ad σ)) (va_Qi (fun r σ2 => r = nI 0 ∧ σ2 = σ) (xS D classes (xT cI cJ cZ cC cG cP) N ad) (xA N ad)) 0 0 (xA N ad) := by
  refine xr_met rfl (Nat.le_of_ble_eq_true rfl) ?_
  intro p e s m args below meth c ls hx hb X hr hlk hl I
  have hl : lv_has ls 2 [(0, .long v)] := hl
  refine lv_lload_n hx hb d_SpectrumDeskModel_isSmall_0 rfl (lv_at hl 0 rfl) ?_
  refine lv_ldc2 (v := (-1000000)) hx hb X.1.2.2.2.1 (X.1.2.2.2.2 _ (List.mem_cons_of_mem _ k_30a9181b7c)) d_SpectrumDeskModel_isSmall_1 ?_
  refine W.lcmp hx hb d_SpectrumDeskModel_isSmall_4 ?_
  refine lv_if_lt hx hb d_SpectrumDeskModel_isSmall_5 rfl (fun hc => ?_) (fun hc => ?_)
  · refine lv_iconst (v := nI 0) hx hb d_SpectrumDeskModel_isSmall_20 (by decide) ?_
    exact xr_zret X I hr hlk (by decide +kernel) ⟨rfl, rfl⟩ d_SpectrumDeskModel_isSmall_21
  · have ha : -1000000 ≤ v := Int64.not_lt.mp (fun h => hc ((lg_cmp_lt _ _).mpr h))
    refine lv_lload_n hx hb d_SpectrumDeskModel_isSmall_8 rfl (lv_at hl 0 rfl) ?_
    refine lv_ldc2 (v := 1000000) hx hb X.1.2.2.2.1 (X.1.2.2.2.2 _ (List.mem_cons_of_mem _ k_81f2a0474c)) d_SpectrumDeskModel_isSmall_9 ?_
    refine W.lcmp hx hb d_SpectrumDeskModel_isSmall_12 ?_
    refine lv_if_gt hx hb d_SpectrumDeskModel_isSmall_13 rfl (fun hd => ?_) (fun hd => ?_)
    · refine lv_iconst (v := nI 0) hx hb d_SpectrumDeskModel_isSmall_20 (by decide) ?_
      exact xr_zret X I hr hlk (by decide +kernel) ⟨rfl, rfl⟩ d_SpectrumDeskModel_isSmall_21
    · exact absurd ⟨ha, Int64.not_lt.mp (fun h => hd ((lg_cmp_gt _ _).mpr h))⟩ h1
set_option maxHeartbeats 4000000 in
set_option maxRecDepth 100000 in
theorem c_SpectrumDeskModel_at_ok {l : Launch} {D : va_G} {cI cJ cZ cC cG cP : ClassId} {ad : Nat → Nat} {σ σb : Nat → va_E} {th : Int32} {n : Nat} {A9 : Nat → Int32} {rw : Nat} {Dt : Nat → Int32} {ps : Nat} {Pr : Nat → Int32} (hS : mS ad cI cZ σb th n A9 rw Dt ps Pr σ) {r9 c9 : Nat} (h1 : r9 < n) (h2 : c9 < n) (h3 : n ≤ 6) :
    Met l y_SpectrumDeskModel_at v_SpectrumDeskModel_at (xrm 1) (va_Pc [.ref (ad 183), .int (nI r9), .int (nI c9)] (xS D classes (xT cI cJ cZ cC cG cP) 193 ad σ)) (va_Qi (fun r σ2 => r = A9 (6 * r9 + c9) ∧ mS ad cI cZ σb (nI 0) n A9 rw Dt ps Pr σ2) (xS D classes (xT cI cJ cZ cC cG cP) 193 ad) (xA 193 ad)) 0 0 (xA 193 ad) := by
  obtain ⟨s0, G, Dg, P, L, M, Z, le, eq, rfl, h187, h188, h189, h190, h191, hfb, hB⟩ := hS
  refine xr_met rfl (Nat.le_of_ble_eq_true rfl) ?_
  intro p e s m args below meth c ls hx hb X hr hlk hl I
  have hl : lv_has ls 3 [(0, .ref (ad 183)), (1, .int (nI r9)), (2, .int (nI c9))] := hl
  refine lv_aload_n hx hb d_SpectrumDeskModel_at_0 rfl (lv_at hl 0 rfl) ?_
  refine lv_aload_n hx hb d_SpectrumDeskModel_at_1 rfl (lv_at hl 0 rfl) ?_
  refine lv_iload_n hx hb d_SpectrumDeskModel_at_2 rfl (lv_at hl 1 rfl) ?_
  refine lv_iload_n hx hb d_SpectrumDeskModel_at_3 rfl (lv_at hl 2 rfl) ?_
  refine xr_calli (xr_runV (kc := 0) (kr := 1) (n := 2) (As := [.int (nI r9), .int (nI c9)]) (rest := [.ref (ad 183)]) X I (by decide) (r183 ..) rfl (c_SpectrumDeskModel_isPlace_t (σb := σb) ⟨s0, _, _, _, _, _, _, _, _, rfl, h187, h188, h189, h190, h191, hfb, hB⟩ h1 h2 h3) (xg k_84e5fd28e4) (List.mem_cons_of_mem _ k_f5a43ce5ce) (List.mem_cons_of_mem _ k_c44ea60b14) (List.mem_cons_of_mem _ k_f00e619f1a) (List.mem_cons_of_mem _ k_30fa15c9ac) (by decide +kernel) (by decide) rfl hl.1 rfl (Nat.le_of_ble_eq_true rfl) d_SpectrumDeskModel_at_4) I (fun r1 σ9 H locs hp I => ?_)
  obtain ⟨rfl, rfl⟩ := hp
  refine lv_if_eq hx hb d_SpectrumDeskModel_at_7 rfl (fun hc => ?_) (fun hc => ?_)
  · exact absurd hc (by decide)
  · refine lv_iconst (v := nI 0) hx hb d_SpectrumDeskModel_at_10 (by decide) ?_
    refine lv_goto hx hb d_SpectrumDeskModel_at_11 rfl ?_
    refine xr_put (ty := .int) X I fin_M t_M t_M_ok n_M 183 (by decide) (r183 ..) rfl 4 (by decide) (List.mem_cons_of_mem _ k_90bbbe5d04) rfl rfl (by decide +kernel) rfl rfl (Nat.le_of_ble_eq_true rfl) d_SpectrumDeskModel_at_15 (fun H locs I => ?_)
    rw [rw3_F] at I
    have I : xI D classes 193 ad s.heap (rw3 s0 ciM cI cZ (mfs ad (nI 0) (nI n) (nI rw) (nI ps) le eq) P L M) H locs := I
    refine lv_aload_n hx hb d_SpectrumDeskModel_at_18 rfl (lv_at hl 0 rfl) ?_
    refine xr_get X I fin_M 183 (by decide) (r183 ..) rfl 4 (by decide) (List.mem_cons_of_mem _ k_90bbbe5d04) rfl rfl d_SpectrumDeskModel_at_19 ?_
    refine lv_if_le hx hb d_SpectrumDeskModel_at_22 rfl (fun hd => ?_) (fun hd => ?_)
    · refine lv_aload_n hx hb d_SpectrumDeskModel_at_29 rfl (lv_at hl 0 rfl) ?_
      refine xr_get X I fin_M 183 (by decide) (r183 ..) rfl 6 (by decide) (List.mem_cons_of_mem _ k_78efd7a03a) rfl rfl d_SpectrumDeskModel_at_30 ?_
      refine lv_bipush (v := nI 6) hx hb d_SpectrumDeskModel_at_33 (by decide) ?_
      refine lv_iload_n hx hb d_SpectrumDeskModel_at_35 rfl (lv_at hl 1 rfl) ?_
      refine lv_imul hx hb d_SpectrumDeskModel_at_36 (xr_topi (y := nI (6 * r9)) (pk_mul 6 r9) ?_)
      refine lv_iload_n hx hb d_SpectrumDeskModel_at_37 rfl (lv_at hl 2 rfl) ?_
      refine lv_iadd hx hb d_SpectrumDeskModel_at_38 (xr_topi (y := nI ((6 * r9) + c9)) (nI_add (6 * r9) c9) ?_)
      refine xr_iald X I 188 0 (by decide) ((r_o (by decide)).trans h188) rfl (by omega) (by decide) d_SpectrumDeskModel_at_39 ?_
      exact xr_iret X I hr hlk ⟨rfl, ⟨s0, G, Dg, P, L, M, Z, le, eq, rfl, h187, h188, h189, h190, h191, hfb, hB⟩⟩ d_SpectrumDeskModel_at_40
    · exact absurd (by decide) hd
set_option maxHeartbeats 4000000 in
set_option maxRecDepth 100000 in
theorem c_SpectrumDeskModel_at_bad {l : Launch} {D : va_G} {cI cJ cZ cC cG cP : ClassId} {ad : Nat → Nat} {σ σb : Nat → va_E} {th : Int32} {n : Nat} {A9 : Nat → Int32} {rw : Nat} {Dt : Nat → Int32} {ps : Nat} {Pr : Nat → Int32} (hS : mS ad cI cZ σb th n A9 rw Dt ps Pr σ) {r9 c9 : Int32} (h1 : ¬ isP r9 c9 n) :
    Met l y_SpectrumDeskModel_at v_SpectrumDeskModel_at (xrm 1) (va_Pc [.ref (ad 183), .int r9, .int c9] (xS D classes (xT cI cJ cZ cC cG cP) 193 ad σ)) (va_Qi (fun r σ2 => r = nI 0 ∧ mS ad cI cZ σb (nI 1) n A9 rw Dt ps Pr σ2) (xS D classes (xT cI cJ cZ cC cG cP) 193 ad) (xA 193 ad)) 0 0 (xA 193 ad) := by
  obtain ⟨s0, G, Dg, P, L, M, Z, le, eq, rfl, h187, h188, h189, h190, h191, hfb, hB⟩ := hS
  refine xr_met rfl (Nat.le_of_ble_eq_true rfl) ?_
  intro p e s m args below meth c ls hx hb X hr hlk hl I
  have hl : lv_has ls 3 [(0, .ref (ad 183)), (1, .int r9), (2, .int c9)] := hl
  refine lv_aload_n hx hb d_SpectrumDeskModel_at_0 rfl (lv_at hl 0 rfl) ?_
  refine lv_aload_n hx hb d_SpectrumDeskModel_at_1 rfl (lv_at hl 0 rfl) ?_
  refine lv_iload_n hx hb d_SpectrumDeskModel_at_2 rfl (lv_at hl 1 rfl) ?_
  refine lv_iload_n hx hb d_SpectrumDeskModel_at_3 rfl (lv_at hl 2 rfl) ?_
  refine xr_calli (xr_runV (kc := 0) (kr := 1) (n := 2) (As := [.int r9, .int c9]) (rest := [.ref (ad 183)]) X I (by decide) (r183 ..) rfl (c_SpectrumDeskModel_isPlace_f (σb := σb) ⟨s0, _, _, _, _, _, _, _, _, rfl, h187, h188, h189, h190, h191, hfb, hB⟩ h1) (xg k_84e5fd28e4) (List.mem_cons_of_mem _ k_f5a43ce5ce) (List.mem_cons_of_mem _ k_c44ea60b14) (List.mem_cons_of_mem _ k_f00e619f1a) (List.mem_cons_of_mem _ k_30fa15c9ac) (by decide +kernel) (by decide) rfl hl.1 rfl (Nat.le_of_ble_eq_true rfl) d_SpectrumDeskModel_at_4) I (fun r1 σ9 H locs hp I => ?_)
  obtain ⟨rfl, rfl⟩ := hp
  refine lv_if_eq hx hb d_SpectrumDeskModel_at_7 rfl (fun hc => ?_) (fun hc => ?_)
  · refine lv_iconst (v := nI 1) hx hb d_SpectrumDeskModel_at_14 (by decide) ?_
    refine xr_put (ty := .int) X I fin_M t_M t_M_ok n_M 183 (by decide) (r183 ..) rfl 4 (by decide) (List.mem_cons_of_mem _ k_90bbbe5d04) rfl rfl (by decide +kernel) rfl rfl (Nat.le_of_ble_eq_true rfl) d_SpectrumDeskModel_at_15 (fun H locs I => ?_)
    rw [rw3_F] at I
    have I : xI D classes 193 ad s.heap (rw3 s0 ciM cI cZ (mfs ad (nI 1) (nI n) (nI rw) (nI ps) le eq) P L M) H locs := I
    refine lv_aload_n hx hb d_SpectrumDeskModel_at_18 rfl (lv_at hl 0 rfl) ?_
    refine xr_get X I fin_M 183 (by decide) (r183 ..) rfl 4 (by decide) (List.mem_cons_of_mem _ k_90bbbe5d04) rfl rfl d_SpectrumDeskModel_at_19 ?_
    refine lv_if_le hx hb d_SpectrumDeskModel_at_22 rfl (fun hd => ?_) (fun hd => ?_)
    · exact absurd hd (by decide)
    · refine lv_iconst (v := nI 0) hx hb d_SpectrumDeskModel_at_25 (by decide) ?_
      refine lv_goto hx hb d_SpectrumDeskModel_at_26 rfl ?_
      exact xr_iret X I hr hlk ⟨rfl, ⟨s0, G, Dg, P, L, M, Z, le, eq, rfl, h187, h188, h189, h190, h191, hfb, hB⟩⟩ d_SpectrumDeskModel_at_40
  · exact absurd rfl hc
set_option maxHeartbeats 4000000 in
set_option maxRecDepth 100000 in
theorem c_SpectrumDeskModel_put_ok {l : Launch} {D : va_G} {cI cJ cZ cC cG cP : ClassId} {ad : Nat → Nat} {σ σb : Nat → va_E} {th : Int32} {n : Nat} {A9 : Nat → Int32} {rw : Nat} {Dt : Nat → Int32} {ps : Nat} {Pr : Nat → Int32} (hS : mS ad cI cZ σb th n A9 rw Dt ps Pr σ) {r9 c9 : Nat} {v : Int32} (h1 : r9 < n) (h2 : c9 < n) (h3 : n ≤ 6) (h4 : isS v.toInt64) :
    Met l y_SpectrumDeskModel_put v_SpectrumDeskModel_put (xrm 1) (va_Pc [.ref (ad 183), .int (nI r9), .int (nI c9), .int v] (xS D classes (xT cI cJ cZ cC cG cP) 193 ad σ)) (va_Qv (mS ad cI cZ σb (nI 0) n (upd (upd A9 (6 * r9 + c9) v) (6 * c9 + r9) v) rw Dt ps Pr) (xS D classes (xT cI cJ cZ cC cG cP) 193 ad) (xA 193 ad)) 0 0 (xA 193 ad) := by
  obtain ⟨s0, G, Dg, P, L, M, Z, le, eq, rfl, h187, h188, h189, h190, h191, hfb, hB⟩ := hS
  refine xr_met rfl (Nat.le_of_ble_eq_true rfl) ?_
  intro p e s m args below meth c ls hx hb X hr hlk hl I
  have hl : lv_has ls 4 [(0, .ref (ad 183)), (1, .int (nI r9)), (2, .int (nI c9)), (3, .int v)] := hl
  refine lv_aload_n hx hb d_SpectrumDeskModel_put_0 rfl (lv_at hl 0 rfl) ?_
  refine lv_aload_n hx hb d_SpectrumDeskModel_put_1 rfl (lv_at hl 0 rfl) ?_
  refine lv_iload_n hx hb d_SpectrumDeskModel_put_2 rfl (lv_at hl 1 rfl) ?_
  refine lv_iload_n hx hb d_SpectrumDeskModel_put_3 rfl (lv_at hl 2 rfl) ?_
  refine xr_calli (xr_runV (kc := 0) (kr := 1) (n := 2) (As := [.int (nI r9), .int (nI c9)]) (rest := [.ref (ad 183)]) X I (by decide) (r183 ..) rfl (c_SpectrumDeskModel_isPlace_t (σb := σb) ⟨s0, _, _, _, _, _, _, _, _, rfl, h187, h188, h189, h190, h191, hfb, hB⟩ h1 h2 h3) (xg k_84e5fd28e4) (List.mem_cons_of_mem _ k_f5a43ce5ce) (List.mem_cons_of_mem _ k_c44ea60b14) (List.mem_cons_of_mem _ k_f00e619f1a) (List.mem_cons_of_mem _ k_30fa15c9ac) (by decide +kernel) (by decide) rfl hl.1 rfl (Nat.le_of_ble_eq_true rfl) d_SpectrumDeskModel_put_4) I (fun r1 σ9 H locs hp I => ?_)
  obtain ⟨rfl, rfl⟩ := hp
  refine lv_if_ne hx hb d_SpectrumDeskModel_put_7 rfl (fun hc => ?_) (fun hc => ?_)
  · refine lv_iload_n hx hb d_SpectrumDeskModel_put_14 rfl (lv_at hl 3 rfl) ?_
    refine lv_i2l hx hb d_SpectrumDeskModel_put_15 rfl ?_
    refine xr_calli (xr_runS (kc := 0) (kr := 1) (n := 1) (As := [.long ((v).toInt64)]) (rest := [.ref (ad 183)]) X I (c_SpectrumDeskModel_isSmall_t h4) (xg k_3f4b5a72d5) (List.mem_cons_of_mem _ k_2bf2c6597f) (List.mem_cons_of_mem _ k_95dfa36566) (List.mem_cons_of_mem _ k_30fa15c9ac) (by decide +kernel) (by decide) rfl hl.1 rfl (Nat.le_of_ble_eq_true rfl) d_SpectrumDeskModel_put_16) I (fun r1 σ9 H locs hp I => ?_)
    obtain ⟨rfl, h9⟩ := hp; rw [h9] at I; clear h9
    refine lv_if_ne hx hb d_SpectrumDeskModel_put_19 rfl (fun hd => ?_) (fun hd => ?_)
    · refine lv_iconst (v := nI 0) hx hb d_SpectrumDeskModel_put_26 (by decide) ?_
      refine xr_put (ty := .int) X I fin_M t_M t_M_ok n_M 183 (by decide) (r183 ..) rfl 4 (by decide) (List.mem_cons_of_mem _ k_90bbbe5d04) rfl rfl (by decide +kernel) rfl rfl (Nat.le_of_ble_eq_true rfl) d_SpectrumDeskModel_put_27 (fun H locs I => ?_)
      rw [rw3_F] at I
      have I : xI D classes 193 ad s.heap (rw3 s0 ciM cI cZ (mfs ad (nI 0) (nI n) (nI rw) (nI ps) le eq) P L M) H locs := I
      refine lv_aload_n hx hb d_SpectrumDeskModel_put_30 rfl (lv_at hl 0 rfl) ?_
      refine xr_get X I fin_M 183 (by decide) (r183 ..) rfl 4 (by decide) (List.mem_cons_of_mem _ k_90bbbe5d04) rfl rfl d_SpectrumDeskModel_put_31 ?_
      refine lv_if_ne hx hb d_SpectrumDeskModel_put_34 rfl (fun hd => ?_) (fun hd => ?_)
      · exact absurd rfl hd
      · refine lv_aload_n hx hb d_SpectrumDeskModel_put_37 rfl (lv_at hl 0 rfl) ?_
        refine xr_get X I fin_M 183 (by decide) (r183 ..) rfl 6 (by decide) (List.mem_cons_of_mem _ k_78efd7a03a) rfl rfl d_SpectrumDeskModel_put_38 ?_
        refine lv_bipush (v := nI 6) hx hb d_SpectrumDeskModel_put_41 (by decide) ?_
        refine lv_iload_n hx hb d_SpectrumDeskModel_put_43 rfl (lv_at hl 1 rfl) ?_
        refine lv_imul hx hb d_SpectrumDeskModel_put_44 (xr_topi (y := nI (6 * r9)) (pk_mul 6 r9) ?_)
        refine lv_iload_n hx hb d_SpectrumDeskModel_put_45 rfl (lv_at hl 2 rfl) ?_
        refine lv_iadd hx hb d_SpectrumDeskModel_put_46 (xr_topi (y := nI ((6 * r9) + c9)) (nI_add (6 * r9) c9) ?_)
        refine lv_iload_n hx hb d_SpectrumDeskModel_put_47 rfl (lv_at hl 3 rfl) ?_
        refine xr_iast X I 188 0 (by decide) ((r_o (by decide)).trans h188) rfl (by omega) (by decide) d_SpectrumDeskModel_put_48 (fun H locs I => ?_)
        rw [rw3_o (by decide)] at I
        refine lv_aload_n hx hb d_SpectrumDeskModel_put_49 rfl (lv_at hl 0 rfl) ?_
        refine xr_get X I fin_M 183 (by decide) (r183 ..) rfl 6 (by decide) (List.mem_cons_of_mem _ k_78efd7a03a) rfl rfl d_SpectrumDeskModel_put_50 ?_
        refine lv_bipush (v := nI 6) hx hb d_SpectrumDeskModel_put_53 (by decide) ?_
        refine lv_iload_n hx hb d_SpectrumDeskModel_put_55 rfl (lv_at hl 2 rfl) ?_
        refine lv_imul hx hb d_SpectrumDeskModel_put_56 (xr_topi (y := nI (6 * c9)) (pk_mul 6 c9) ?_)
        refine lv_iload_n hx hb d_SpectrumDeskModel_put_57 rfl (lv_at hl 1 rfl) ?_
        refine lv_iadd hx hb d_SpectrumDeskModel_put_58 (xr_topi (y := nI ((6 * c9) + r9)) (nI_add (6 * c9) r9) ?_)
        refine lv_iload_n hx hb d_SpectrumDeskModel_put_59 rfl (lv_at hl 3 rfl) ?_
        refine xr_iast X I 188 0 (by decide) ((r_o (by decide)).trans (va_up_self _ _ _)) rfl (by omega) (by decide) d_SpectrumDeskModel_put_60 (fun H locs I => ?_)
        rw [rw3_o (by decide)] at I
        rw [va_up_up] at I
        exact xr_vret X I hr hlk ⟨va_up s0 188 (.inl (cI, 36, .inl (upd (upd A9 (6 * r9 + c9) v) (6 * c9 + r9) v))), G, Dg, P, L, M, Z, le, eq, rfl, ((va_up_ne _ _ (by decide)).trans h187), (va_up_self _ _ _), ((va_up_ne _ _ (by decide)).trans h189), ((va_up_ne _ _ (by decide)).trans h190), ((va_up_ne _ _ (by decide)).trans h191), (fun q hq => (va_up_ne _ _ (by omega)).trans (hfb q hq)), hB⟩ d_SpectrumDeskModel_put_61
    · exact absurd hd (by decide)
  · exact absurd hc (by decide)
set_option maxHeartbeats 4000000 in
set_option maxRecDepth 100000 in
theorem c_SpectrumDeskModel_put_bad1 {l : Launch} {D : va_G} {cI cJ cZ cC cG cP : ClassId} {ad : Nat → Nat} {σ σb : Nat → va_E} {th : Int32} {n : Nat} {A9 : Nat → Int32} {rw : Nat} {Dt : Nat → Int32} {ps : Nat} {Pr : Nat → Int32} (hS : mS ad cI cZ σb th n A9 rw Dt ps Pr σ) {r9 c9 v : Int32} (h1 : ¬ isP r9 c9 n) :
    Met l y_SpectrumDeskModel_put v_SpectrumDeskModel_put (xrm 1) (va_Pc [.ref (ad 183), .int r9, .int c9, .int v] (xS D classes (xT cI cJ cZ cC cG cP) 193 ad σ)) (va_Qv (mS ad cI cZ σb (nI 1) n A9 rw Dt ps Pr) (xS D classes (xT cI cJ cZ cC cG cP) 193 ad) (xA 193 ad)) 0 0 (xA 193 ad) := by
  obtain ⟨s0, G, Dg, P, L, M, Z, le, eq, rfl, h187, h188, h189, h190, h191, hfb, hB⟩ := hS
  refine xr_met rfl (Nat.le_of_ble_eq_true rfl) ?_
  intro p e s m args below meth c ls hx hb X hr hlk hl I
  have hl : lv_has ls 4 [(0, .ref (ad 183)), (1, .int r9), (2, .int c9), (3, .int v)] := hl
  refine lv_aload_n hx hb d_SpectrumDeskModel_put_0 rfl (lv_at hl 0 rfl) ?_
  refine lv_aload_n hx hb d_SpectrumDeskModel_put_1 rfl (lv_at hl 0 rfl) ?_
  refine lv_iload_n hx hb d_SpectrumDeskModel_put_2 rfl (lv_at hl 1 rfl) ?_
  refine lv_iload_n hx hb d_SpectrumDeskModel_put_3 rfl (lv_at hl 2 rfl) ?_
  refine xr_calli (xr_runV (kc := 0) (kr := 1) (n := 2) (As := [.int r9, .int c9]) (rest := [.ref (ad 183)]) X I (by decide) (r183 ..) rfl (c_SpectrumDeskModel_isPlace_f (σb := σb) ⟨s0, _, _, _, _, _, _, _, _, rfl, h187, h188, h189, h190, h191, hfb, hB⟩ h1) (xg k_84e5fd28e4) (List.mem_cons_of_mem _ k_f5a43ce5ce) (List.mem_cons_of_mem _ k_c44ea60b14) (List.mem_cons_of_mem _ k_f00e619f1a) (List.mem_cons_of_mem _ k_30fa15c9ac) (by decide +kernel) (by decide) rfl hl.1 rfl (Nat.le_of_ble_eq_true rfl) d_SpectrumDeskModel_put_4) I (fun r1 σ9 H locs hp I => ?_)
  obtain ⟨rfl, rfl⟩ := hp
  refine lv_if_ne hx hb d_SpectrumDeskModel_put_7 rfl (fun hc => ?_) (fun hc => ?_)
  · exact absurd rfl hc
  · refine lv_iconst (v := nI 1) hx hb d_SpectrumDeskModel_put_10 (by decide) ?_
    refine lv_goto hx hb d_SpectrumDeskModel_put_11 rfl ?_
    refine xr_put (ty := .int) X I fin_M t_M t_M_ok n_M 183 (by decide) (r183 ..) rfl 4 (by decide) (List.mem_cons_of_mem _ k_90bbbe5d04) rfl rfl (by decide +kernel) rfl rfl (Nat.le_of_ble_eq_true rfl) d_SpectrumDeskModel_put_27 (fun H locs I => ?_)
    rw [rw3_F] at I
    have I : xI D classes 193 ad s.heap (rw3 s0 ciM cI cZ (mfs ad (nI 1) (nI n) (nI rw) (nI ps) le eq) P L M) H locs := I
    refine lv_aload_n hx hb d_SpectrumDeskModel_put_30 rfl (lv_at hl 0 rfl) ?_
    refine xr_get X I fin_M 183 (by decide) (r183 ..) rfl 4 (by decide) (List.mem_cons_of_mem _ k_90bbbe5d04) rfl rfl d_SpectrumDeskModel_put_31 ?_
    refine lv_if_ne hx hb d_SpectrumDeskModel_put_34 rfl (fun hd => ?_) (fun hd => ?_)
    · exact xr_vret X I hr hlk ⟨s0, G, Dg, P, L, M, Z, le, eq, rfl, h187, h188, h189, h190, h191, hfb, hB⟩ d_SpectrumDeskModel_put_61
    · exact absurd hd (by decide)
set_option maxHeartbeats 4000000 in
set_option maxRecDepth 100000 in
theorem c_SpectrumDeskModel_put_bad2 {l : Launch} {D : va_G} {cI cJ cZ cC cG cP : ClassId} {ad : Nat → Nat} {σ σb : Nat → va_E} {th : Int32} {n : Nat} {A9 : Nat → Int32} {rw : Nat} {Dt : Nat → Int32} {ps : Nat} {Pr : Nat → Int32} (hS : mS ad cI cZ σb th n A9 rw Dt ps Pr σ) {r9 c9 : Nat} {v : Int32} (h1 : r9 < n) (h2 : c9 < n) (h3 : n ≤ 6) (h4 : ¬ isS v.toInt64) :
    Met l y_SpectrumDeskModel_put v_SpectrumDeskModel_put (xrm 1) (va_Pc [.ref (ad 183), .int (nI r9), .int (nI c9), .int v] (xS D classes (xT cI cJ cZ cC cG cP) 193 ad σ)) (va_Qv (mS ad cI cZ σb (nI 2) n A9 rw Dt ps Pr) (xS D classes (xT cI cJ cZ cC cG cP) 193 ad) (xA 193 ad)) 0 0 (xA 193 ad) := by
  obtain ⟨s0, G, Dg, P, L, M, Z, le, eq, rfl, h187, h188, h189, h190, h191, hfb, hB⟩ := hS
  refine xr_met rfl (Nat.le_of_ble_eq_true rfl) ?_
  intro p e s m args below meth c ls hx hb X hr hlk hl I
  have hl : lv_has ls 4 [(0, .ref (ad 183)), (1, .int (nI r9)), (2, .int (nI c9)), (3, .int v)] := hl
  refine lv_aload_n hx hb d_SpectrumDeskModel_put_0 rfl (lv_at hl 0 rfl) ?_
  refine lv_aload_n hx hb d_SpectrumDeskModel_put_1 rfl (lv_at hl 0 rfl) ?_
  refine lv_iload_n hx hb d_SpectrumDeskModel_put_2 rfl (lv_at hl 1 rfl) ?_
  refine lv_iload_n hx hb d_SpectrumDeskModel_put_3 rfl (lv_at hl 2 rfl) ?_
  refine xr_calli (xr_runV (kc := 0) (kr := 1) (n := 2) (As := [.int (nI r9), .int (nI c9)]) (rest := [.ref (ad 183)]) X I (by decide) (r183 ..) rfl (c_SpectrumDeskModel_isPlace_t (σb := σb) ⟨s0, _, _, _, _, _, _, _, _, rfl, h187, h188, h189, h190, h191, hfb, hB⟩ h1 h2 h3) (xg k_84e5fd28e4) (List.mem_cons_of_mem _ k_f5a43ce5ce) (List.mem_cons_of_mem _ k_c44ea60b14) (List.mem_cons_of_mem _ k_f00e619f1a) (List.mem_cons_of_mem _ k_30fa15c9ac) (by decide +kernel) (by decide) rfl hl.1 rfl (Nat.le_of_ble_eq_true rfl) d_SpectrumDeskModel_put_4) I (fun r1 σ9 H locs hp I => ?_)
  obtain ⟨rfl, rfl⟩ := hp
  refine lv_if_ne hx hb d_SpectrumDeskModel_put_7 rfl (fun hc => ?_) (fun hc => ?_)
  · refine lv_iload_n hx hb d_SpectrumDeskModel_put_14 rfl (lv_at hl 3 rfl) ?_
    refine lv_i2l hx hb d_SpectrumDeskModel_put_15 rfl ?_
    refine xr_calli (xr_runS (kc := 0) (kr := 1) (n := 1) (As := [.long ((v).toInt64)]) (rest := [.ref (ad 183)]) X I (c_SpectrumDeskModel_isSmall_f h4) (xg k_3f4b5a72d5) (List.mem_cons_of_mem _ k_2bf2c6597f) (List.mem_cons_of_mem _ k_95dfa36566) (List.mem_cons_of_mem _ k_30fa15c9ac) (by decide +kernel) (by decide) rfl hl.1 rfl (Nat.le_of_ble_eq_true rfl) d_SpectrumDeskModel_put_16) I (fun r1 σ9 H locs hp I => ?_)
    obtain ⟨rfl, h9⟩ := hp; rw [h9] at I; clear h9
    refine lv_if_ne hx hb d_SpectrumDeskModel_put_19 rfl (fun hd => ?_) (fun hd => ?_)
    · exact absurd rfl hd
    · refine lv_iconst (v := nI 2) hx hb d_SpectrumDeskModel_put_22 (by decide) ?_
      refine lv_goto hx hb d_SpectrumDeskModel_put_23 rfl ?_
      refine xr_put (ty := .int) X I fin_M t_M t_M_ok n_M 183 (by decide) (r183 ..) rfl 4 (by decide) (List.mem_cons_of_mem _ k_90bbbe5d04) rfl rfl (by decide +kernel) rfl rfl (Nat.le_of_ble_eq_true rfl) d_SpectrumDeskModel_put_27 (fun H locs I => ?_)
      rw [rw3_F] at I
      have I : xI D classes 193 ad s.heap (rw3 s0 ciM cI cZ (mfs ad (nI 2) (nI n) (nI rw) (nI ps) le eq) P L M) H locs := I
      refine lv_aload_n hx hb d_SpectrumDeskModel_put_30 rfl (lv_at hl 0 rfl) ?_
      refine xr_get X I fin_M 183 (by decide) (r183 ..) rfl 4 (by decide) (List.mem_cons_of_mem _ k_90bbbe5d04) rfl rfl d_SpectrumDeskModel_put_31 ?_
      refine lv_if_ne hx hb d_SpectrumDeskModel_put_34 rfl (fun hd => ?_) (fun hd => ?_)
      · exact xr_vret X I hr hlk ⟨s0, G, Dg, P, L, M, Z, le, eq, rfl, h187, h188, h189, h190, h191, hfb, hB⟩ d_SpectrumDeskModel_put_61
      · exact absurd hd (by decide)
  · exact absurd hc (by decide)
set_option maxHeartbeats 4000000 in
set_option maxRecDepth 100000 in
theorem c_SpectrumDeskModel_size {l : Launch} {D : va_G} {cI cJ cZ cC cG cP : ClassId} {ad : Nat → Nat} {σ σb : Nat → va_E} {th : Int32} {n : Nat} {A9 : Nat → Int32} {rw : Nat} {Dt : Nat → Int32} {ps : Nat} {Pr : Nat → Int32} (hS : mS ad cI cZ σb th n A9 rw Dt ps Pr σ) {v : Int32} :
    Met l y_SpectrumDeskModel_size v_SpectrumDeskModel_size (xrm 0) (va_Pc [.ref (ad 183), .int v] (xS D classes (xT cI cJ cZ cC cG cP) 193 ad σ)) (va_Qi (fun r σ2 => r = (if v = 0 then nI n else if v = 1 then nI rw else -1) ∧ mS ad cI cZ σb (nI 0) n A9 rw Dt ps Pr σ2) (xS D classes (xT cI cJ cZ cC cG cP) 193 ad) (xA 193 ad)) 0 0 (xA 193 ad) := by
  obtain ⟨s0, G, Dg, P, L, M, Z, le, eq, rfl, h187, h188, h189, h190, h191, hfb, hB⟩ := hS
  refine xr_met rfl (Nat.le_of_ble_eq_true rfl) ?_
  intro p e s m args below meth c ls hx hb X hr hlk hl I
  have hl : lv_has ls 2 [(0, .ref (ad 183)), (1, .int v)] := hl
  refine lv_aload_n hx hb d_SpectrumDeskModel_size_0 rfl (lv_at hl 0 rfl) ?_
  refine lv_iconst (v := nI 0) hx hb d_SpectrumDeskModel_size_1 (by decide) ?_
  refine xr_put (ty := .int) X I fin_M t_M t_M_ok n_M 183 (by decide) (r183 ..) rfl 4 (by decide) (List.mem_cons_of_mem _ k_90bbbe5d04) rfl rfl (by decide +kernel) rfl rfl (Nat.le_of_ble_eq_true rfl) d_SpectrumDeskModel_size_2 (fun H locs I => ?_)
  rw [rw3_F] at I
  have I : xI D classes 193 ad s.heap (rw3 s0 ciM cI cZ (mfs ad (nI 0) (nI n) (nI rw) (nI ps) le eq) P L M) H locs := I
  refine lv_iload_n hx hb d_SpectrumDeskModel_size_5 rfl (lv_at hl 1 rfl) ?_
  refine lv_if_ne hx hb d_SpectrumDeskModel_size_6 rfl (fun hc => ?_) (fun hc => ?_)
  · refine lv_iload_n hx hb d_SpectrumDeskModel_size_16 rfl (lv_at hl 1 rfl) ?_
    refine lv_iconst (v := 1) hx hb d_SpectrumDeskModel_size_17 (by decide) ?_
    refine lv_icmp_ne hx hb d_SpectrumDeskModel_size_18 rfl (fun hd => ?_) (fun hd => ?_)
    · refine lv_iconst (v := (-1)) hx hb d_SpectrumDeskModel_size_28 (by decide) ?_
      exact xr_iret X I hr hlk ⟨by rw [if_neg hc, if_neg hd], ⟨s0, G, Dg, P, L, M, Z, le, eq, rfl, h187, h188, h189, h190, h191, hfb, hB⟩⟩ d_SpectrumDeskModel_size_29
    · refine lv_aload_n hx hb d_SpectrumDeskModel_size_21 rfl (lv_at hl 0 rfl) ?_
      refine xr_get X I fin_M 183 (by decide) (r183 ..) rfl 8 (by decide) (List.mem_cons_of_mem _ k_cd82b0b714) rfl rfl d_SpectrumDeskModel_size_22 ?_
      refine lv_goto hx hb d_SpectrumDeskModel_size_25 rfl ?_
      exact xr_iret X I hr hlk ⟨by rw [if_neg hc, if_pos hd], ⟨s0, G, Dg, P, L, M, Z, le, eq, rfl, h187, h188, h189, h190, h191, hfb, hB⟩⟩ d_SpectrumDeskModel_size_29
  · refine lv_aload_n hx hb d_SpectrumDeskModel_size_9 rfl (lv_at hl 0 rfl) ?_
    refine xr_get X I fin_M 183 (by decide) (r183 ..) rfl 5 (by decide) (List.mem_cons_of_mem _ k_b1a46e2c09) rfl rfl d_SpectrumDeskModel_size_10 ?_
    refine lv_goto hx hb d_SpectrumDeskModel_size_13 rfl ?_
    exact xr_iret X I hr hlk ⟨by rw [if_pos hc], ⟨s0, G, Dg, P, L, M, Z, le, eq, rfl, h187, h188, h189, h190, h191, hfb, hB⟩⟩ d_SpectrumDeskModel_size_29
set_option maxHeartbeats 4000000 in
set_option maxRecDepth 100000 in
theorem c_SpectrumDeskModel_character {l : Launch} {D : va_G} {cI cJ cZ cC cG cP : ClassId} {ad : Nat → Nat} {σ σb : Nat → va_E} {th : Int32} {n : Nat} {A9 : Nat → Int32} {rw : Nat} {Dt : Nat → Int32} {ps : Nat} {Pr : Nat → Int32} (hS : mS ad cI cZ σb th n A9 rw Dt ps Pr σ) {v : Int32} (hps : ps ≤ 400) :
    Met l y_SpectrumDeskModel_character v_SpectrumDeskModel_character (xrm 0) (va_Pc [.ref (ad 183), .int v] (xS D classes (xT cI cJ cZ cC cG cP) 193 ad σ)) (va_Qi (fun r σ2 => r = (if ¬ v < 0 ∧ v < nI ps then Pr v.toNatClampNeg else -1) ∧ mS ad cI cZ σb (nI 0) n A9 rw Dt ps Pr σ2) (xS D classes (xT cI cJ cZ cC cG cP) 193 ad) (xA 193 ad)) 0 0 (xA 193 ad) := by
  obtain ⟨s0, G, Dg, P, L, M, Z, le, eq, rfl, h187, h188, h189, h190, h191, hfb, hB⟩ := hS
  refine xr_met rfl (Nat.le_of_ble_eq_true rfl) ?_
  intro p e s m args below meth c ls hx hb X hr hlk hl I
  have hl : lv_has ls 2 [(0, .ref (ad 183)), (1, .int v)] := hl
  refine lv_aload_n hx hb d_SpectrumDeskModel_character_0 rfl (lv_at hl 0 rfl) ?_
  refine lv_iconst (v := nI 0) hx hb d_SpectrumDeskModel_character_1 (by decide) ?_
  refine xr_put (ty := .int) X I fin_M t_M t_M_ok n_M 183 (by decide) (r183 ..) rfl 4 (by decide) (List.mem_cons_of_mem _ k_90bbbe5d04) rfl rfl (by decide +kernel) rfl rfl (Nat.le_of_ble_eq_true rfl) d_SpectrumDeskModel_character_2 (fun H locs I => ?_)
  rw [rw3_F] at I
  have I : xI D classes 193 ad s.heap (rw3 s0 ciM cI cZ (mfs ad (nI 0) (nI n) (nI rw) (nI ps) le eq) P L M) H locs := I
  refine lv_iload_n hx hb d_SpectrumDeskModel_character_5 rfl (lv_at hl 1 rfl) ?_
  refine lv_if_lt hx hb d_SpectrumDeskModel_character_6 rfl (fun hc => ?_) (fun hc => ?_)
  · refine lv_iconst (v := (-1)) hx hb d_SpectrumDeskModel_character_26 (by decide) ?_
    exact xr_iret X I hr hlk ⟨by rw [if_neg (fun h => h.1 hc)], ⟨s0, G, Dg, P, L, M, Z, le, eq, rfl, h187, h188, h189, h190, h191, hfb, hB⟩⟩ d_SpectrumDeskModel_character_27
  · refine lv_iload_n hx hb d_SpectrumDeskModel_character_9 rfl (lv_at hl 1 rfl) ?_
    refine lv_aload_n hx hb d_SpectrumDeskModel_character_10 rfl (lv_at hl 0 rfl) ?_
    refine xr_get X I fin_M 183 (by decide) (r183 ..) rfl 10 (by decide) (List.mem_cons_of_mem _ k_8988dcbdf9) rfl rfl d_SpectrumDeskModel_character_11 ?_
    refine lv_icmp_ge hx hb d_SpectrumDeskModel_character_14 rfl (fun hd => ?_) (fun hd => ?_)
    · refine lv_iconst (v := (-1)) hx hb d_SpectrumDeskModel_character_26 (by decide) ?_
      exact xr_iret X I hr hlk ⟨by rw [if_neg (fun h => q_le_lt hd h.2)], ⟨s0, G, Dg, P, L, M, Z, le, eq, rfl, h187, h188, h189, h190, h191, hfb, hB⟩⟩ d_SpectrumDeskModel_character_27
    · obtain ⟨j, j1, rfl⟩ := nI_of hc
      have hj : j < ps := (nI_ltI j1 (by omega)).mp (q_nge hd)
      refine lv_aload_n hx hb d_SpectrumDeskModel_character_17 rfl (lv_at hl 0 rfl) ?_
      refine xr_get X I fin_M 183 (by decide) (r183 ..) rfl 9 (by decide) (List.mem_cons_of_mem _ k_dd379f4769) rfl rfl d_SpectrumDeskModel_character_18 ?_
      refine lv_iload_n hx hb d_SpectrumDeskModel_character_21 rfl (lv_at hl 1 rfl) ?_
      refine xr_iald X I 190 0 (by decide) ((r_o (by decide)).trans h190) rfl (by omega) (by decide) d_SpectrumDeskModel_character_22 ?_
      refine lv_goto hx hb d_SpectrumDeskModel_character_23 rfl ?_
      exact xr_iret X I hr hlk ⟨by rw [if_pos ⟨hc, q_nge hd⟩, nI_clamp (by omega)], ⟨s0, G, Dg, P, L, M, Z, le, eq, rfl, h187, h188, h189, h190, h191, hfb, hB⟩⟩ d_SpectrumDeskModel_character_27
end
section
/-! the reference: count, cell, whole (written by wip/gen) -/
abbrev b_SpectrumDeskModel_count : ByteArray := prog_10_method_39_code
abbrev y_SpectrumDeskModel_count : MethodName := ⟨"SpectrumDeskModel", "count", "(IJJI)I"⟩
abbrev v_SpectrumDeskModel_count : List Cond := Cond.code y_SpectrumDeskModel_count b_SpectrumDeskModel_count 7 (some .int) :: AW
theorem d_SpectrumDeskModel_count_0 : decode b_SpectrumDeskModel_count 0 = .ok (.aload_n 0, 1) := by decide +kernel
theorem d_SpectrumDeskModel_count_1 : decode b_SpectrumDeskModel_count 1 = .ok (.iload_n 1, 1) := by decide +kernel
theorem d_SpectrumDeskModel_count_2 : decode b_SpectrumDeskModel_count 2 = .ok (.iconst 1, 1) := by decide +kernel
theorem d_SpectrumDeskModel_count_3 : decode b_SpectrumDeskModel_count 3 = .ok (.if_icmp .lt (33), 3) := by decide +kernel
theorem d_SpectrumDeskModel_count_6 : decode b_SpectrumDeskModel_count 6 = .ok (.iload_n 1, 1) := by decide +kernel
theorem d_SpectrumDeskModel_count_7 : decode b_SpectrumDeskModel_count 7 = .ok (.aload_n 0, 1) := by decide +kernel
theorem d_SpectrumDeskModel_count_8 : decode b_SpectrumDeskModel_count 8 = .ok (.getfield 63, 3) := by decide +kernel
theorem d_SpectrumDeskModel_count_11 : decode b_SpectrumDeskModel_count 11 = .ok (.if_icmp .gt (25), 3) := by decide +kernel
theorem d_SpectrumDeskModel_count_14 : decode b_SpectrumDeskModel_count 14 = .ok (.iload 6, 2) := by decide +kernel
theorem d_SpectrumDeskModel_count_16 : decode b_SpectrumDeskModel_count 16 = .ok (.ifCond .lt (20), 3) := by decide +kernel
theorem d_SpectrumDeskModel_count_19 : decode b_SpectrumDeskModel_count 19 = .ok (.iload 6, 2) := by decide +kernel
theorem d_SpectrumDeskModel_count_21 : decode b_SpectrumDeskModel_count 21 = .ok (.iconst 2, 1) := by decide +kernel
theorem d_SpectrumDeskModel_count_22 : decode b_SpectrumDeskModel_count 22 = .ok (.if_icmp .gt (14), 3) := by decide +kernel
theorem d_SpectrumDeskModel_count_25 : decode b_SpectrumDeskModel_count 25 = .ok (.lload 4, 2) := by decide +kernel
theorem d_SpectrumDeskModel_count_27 : decode b_SpectrumDeskModel_count 27 = .ok (.lconst 0, 1) := by decide +kernel
theorem d_SpectrumDeskModel_count_28 : decode b_SpectrumDeskModel_count 28 = .ok (.lcmp, 1) := by decide +kernel
theorem d_SpectrumDeskModel_count_29 : decode b_SpectrumDeskModel_count 29 = .ok (.ifCond .le (7), 3) := by decide +kernel
theorem d_SpectrumDeskModel_count_32 : decode b_SpectrumDeskModel_count 32 = .ok (.iconst 0, 1) := by decide +kernel
theorem d_SpectrumDeskModel_count_33 : decode b_SpectrumDeskModel_count 33 = .ok (.goto (4), 3) := by decide +kernel
theorem d_SpectrumDeskModel_count_36 : decode b_SpectrumDeskModel_count 36 = .ok (.iconst 1, 1) := by decide +kernel
theorem d_SpectrumDeskModel_count_37 : decode b_SpectrumDeskModel_count 37 = .ok (.putfield 79, 3) := by decide +kernel
theorem d_SpectrumDeskModel_count_40 : decode b_SpectrumDeskModel_count 40 = .ok (.aload_n 0, 1) := by decide +kernel
theorem d_SpectrumDeskModel_count_41 : decode b_SpectrumDeskModel_count 41 = .ok (.getfield 79, 3) := by decide +kernel
theorem d_SpectrumDeskModel_count_44 : decode b_SpectrumDeskModel_count 44 = .ok (.ifCond .le (5), 3) := by decide +kernel
theorem d_SpectrumDeskModel_count_47 : decode b_SpectrumDeskModel_count 47 = .ok (.iconst 0, 1) := by decide +kernel
theorem d_SpectrumDeskModel_count_48 : decode b_SpectrumDeskModel_count 48 = .ok (.ireturn, 1) := by decide +kernel
theorem d_SpectrumDeskModel_count_49 : decode b_SpectrumDeskModel_count 49 = .ok (.aload_n 0, 1) := by decide +kernel
theorem d_SpectrumDeskModel_count_50 : decode b_SpectrumDeskModel_count 50 = .ok (.iload_n 1, 1) := by decide +kernel
theorem d_SpectrumDeskModel_count_51 : decode b_SpectrumDeskModel_count 51 = .ok (.iconst 0, 1) := by decide +kernel
theorem d_SpectrumDeskModel_count_52 : decode b_SpectrumDeskModel_count 52 = .ok (.invokevirtual 121, 3) := by decide +kernel
theorem d_SpectrumDeskModel_count_55 : decode b_SpectrumDeskModel_count 55 = .ok (.aload_n 0, 1) := by decide +kernel
theorem d_SpectrumDeskModel_count_56 : decode b_SpectrumDeskModel_count 56 = .ok (.bipush (108), 2) := by decide +kernel
theorem d_SpectrumDeskModel_count_58 : decode b_SpectrumDeskModel_count 58 = .ok (.lload_n 2, 1) := by decide +kernel
theorem d_SpectrumDeskModel_count_59 : decode b_SpectrumDeskModel_count 59 = .ok (.invokevirtual 104, 3) := by decide +kernel
theorem d_SpectrumDeskModel_count_62 : decode b_SpectrumDeskModel_count 62 = .ok (.aload_n 0, 1) := by decide +kernel
theorem d_SpectrumDeskModel_count_63 : decode b_SpectrumDeskModel_count 63 = .ok (.bipush (109), 2) := by decide +kernel
theorem d_SpectrumDeskModel_count_65 : decode b_SpectrumDeskModel_count 65 = .ok (.lload 4, 2) := by decide +kernel
theorem d_SpectrumDeskModel_count_67 : decode b_SpectrumDeskModel_count 67 = .ok (.invokevirtual 104, 3) := by decide +kernel
theorem d_SpectrumDeskModel_count_70 : decode b_SpectrumDeskModel_count 70 = .ok (.aload_n 0, 1) := by decide +kernel
theorem d_SpectrumDeskModel_count_71 : decode b_SpectrumDeskModel_count 71 = .ok (.iconst 0, 1) := by decide +kernel
theorem d_SpectrumDeskModel_count_72 : decode b_SpectrumDeskModel_count 72 = .ok (.invokevirtual 139, 3) := by decide +kernel
theorem d_SpectrumDeskModel_count_75 : decode b_SpectrumDeskModel_count 75 = .ok (.iload 6, 2) := by decide +kernel
theorem d_SpectrumDeskModel_count_77 : decode b_SpectrumDeskModel_count 77 = .ok (.ifCond .ne (10), 3) := by decide +kernel
theorem d_SpectrumDeskModel_count_80 : decode b_SpectrumDeskModel_count 80 = .ok (.aload_n 0, 1) := by decide +kernel
theorem d_SpectrumDeskModel_count_81 : decode b_SpectrumDeskModel_count 81 = .ok (.getfield 136, 3) := by decide +kernel
theorem d_SpectrumDeskModel_count_84 : decode b_SpectrumDeskModel_count 84 = .ok (.goto (27), 3) := by decide +kernel
theorem d_SpectrumDeskModel_count_87 : decode b_SpectrumDeskModel_count 87 = .ok (.iload 6, 2) := by decide +kernel
theorem d_SpectrumDeskModel_count_89 : decode b_SpectrumDeskModel_count 89 = .ok (.iconst 1, 1) := by decide +kernel
theorem d_SpectrumDeskModel_count_90 : decode b_SpectrumDeskModel_count 90 = .ok (.if_icmp .ne (10), 3) := by decide +kernel
theorem d_SpectrumDeskModel_count_93 : decode b_SpectrumDeskModel_count 93 = .ok (.aload_n 0, 1) := by decide +kernel
theorem d_SpectrumDeskModel_count_94 : decode b_SpectrumDeskModel_count 94 = .ok (.getfield 133, 3) := by decide +kernel
theorem d_SpectrumDeskModel_count_97 : decode b_SpectrumDeskModel_count 97 = .ok (.goto (14), 3) := by decide +kernel
theorem d_SpectrumDeskModel_count_100 : decode b_SpectrumDeskModel_count 100 = .ok (.iload_n 1, 1) := by decide +kernel
theorem d_SpectrumDeskModel_count_101 : decode b_SpectrumDeskModel_count 101 = .ok (.aload_n 0, 1) := by decide +kernel
theorem d_SpectrumDeskModel_count_102 : decode b_SpectrumDeskModel_count 102 = .ok (.getfield 136, 3) := by decide +kernel
theorem d_SpectrumDeskModel_count_105 : decode b_SpectrumDeskModel_count 105 = .ok (.isub, 1) := by decide +kernel
theorem d_SpectrumDeskModel_count_106 : decode b_SpectrumDeskModel_count 106 = .ok (.aload_n 0, 1) := by decide +kernel
theorem d_SpectrumDeskModel_count_107 : decode b_SpectrumDeskModel_count 107 = .ok (.getfield 133, 3) := by decide +kernel
theorem d_SpectrumDeskModel_count_110 : decode b_SpectrumDeskModel_count 110 = .ok (.isub, 1) := by decide +kernel
theorem d_SpectrumDeskModel_count_111 : decode b_SpectrumDeskModel_count 111 = .ok (.ireturn, 1) := by decide +kernel
abbrev b_SpectrumDeskModel_cell : ByteArray := prog_10_method_45_code
abbrev y_SpectrumDeskModel_cell : MethodName := ⟨"SpectrumDeskModel", "cell", "(II)J"⟩
abbrev v_SpectrumDeskModel_cell : List Cond := Cond.code y_SpectrumDeskModel_cell b_SpectrumDeskModel_cell 3 (some .long) :: AW
theorem d_SpectrumDeskModel_cell_0 : decode b_SpectrumDeskModel_cell 0 = .ok (.aload_n 0, 1) := by decide +kernel
theorem d_SpectrumDeskModel_cell_1 : decode b_SpectrumDeskModel_cell 1 = .ok (.iload_n 1, 1) := by decide +kernel
theorem d_SpectrumDeskModel_cell_2 : decode b_SpectrumDeskModel_cell 2 = .ok (.ifCond .lt (11), 3) := by decide +kernel
theorem d_SpectrumDeskModel_cell_5 : decode b_SpectrumDeskModel_cell 5 = .ok (.iload_n 1, 1) := by decide +kernel
theorem d_SpectrumDeskModel_cell_6 : decode b_SpectrumDeskModel_cell 6 = .ok (.aload_n 0, 1) := by decide +kernel
theorem d_SpectrumDeskModel_cell_7 : decode b_SpectrumDeskModel_cell 7 = .ok (.getfield 63, 3) := by decide +kernel
theorem d_SpectrumDeskModel_cell_10 : decode b_SpectrumDeskModel_cell 10 = .ok (.if_icmp .lt (7), 3) := by decide +kernel
theorem d_SpectrumDeskModel_cell_13 : decode b_SpectrumDeskModel_cell 13 = .ok (.iconst 1, 1) := by decide +kernel
theorem d_SpectrumDeskModel_cell_14 : decode b_SpectrumDeskModel_cell 14 = .ok (.goto (18), 3) := by decide +kernel
theorem d_SpectrumDeskModel_cell_17 : decode b_SpectrumDeskModel_cell 17 = .ok (.iload_n 2, 1) := by decide +kernel
theorem d_SpectrumDeskModel_cell_18 : decode b_SpectrumDeskModel_cell 18 = .ok (.ifCond .lt (9), 3) := by decide +kernel
theorem d_SpectrumDeskModel_cell_21 : decode b_SpectrumDeskModel_cell 21 = .ok (.iload_n 2, 1) := by decide +kernel
theorem d_SpectrumDeskModel_cell_22 : decode b_SpectrumDeskModel_cell 22 = .ok (.bipush (30), 2) := by decide +kernel
theorem d_SpectrumDeskModel_cell_24 : decode b_SpectrumDeskModel_cell 24 = .ok (.if_icmp .le (7), 3) := by decide +kernel
theorem d_SpectrumDeskModel_cell_27 : decode b_SpectrumDeskModel_cell 27 = .ok (.iconst 2, 1) := by decide +kernel
theorem d_SpectrumDeskModel_cell_28 : decode b_SpectrumDeskModel_cell 28 = .ok (.goto (4), 3) := by decide +kernel
theorem d_SpectrumDeskModel_cell_31 : decode b_SpectrumDeskModel_cell 31 = .ok (.iconst 0, 1) := by decide +kernel
theorem d_SpectrumDeskModel_cell_32 : decode b_SpectrumDeskModel_cell 32 = .ok (.putfield 79, 3) := by decide +kernel
theorem d_SpectrumDeskModel_cell_35 : decode b_SpectrumDeskModel_cell 35 = .ok (.aload_n 0, 1) := by decide +kernel
theorem d_SpectrumDeskModel_cell_36 : decode b_SpectrumDeskModel_cell 36 = .ok (.getfield 79, 3) := by decide +kernel
theorem d_SpectrumDeskModel_cell_39 : decode b_SpectrumDeskModel_cell 39 = .ok (.ifCond .le (5), 3) := by decide +kernel
theorem d_SpectrumDeskModel_cell_42 : decode b_SpectrumDeskModel_cell 42 = .ok (.lconst 0, 1) := by decide +kernel
theorem d_SpectrumDeskModel_cell_43 : decode b_SpectrumDeskModel_cell 43 = .ok (.lreturn, 1) := by decide +kernel
theorem d_SpectrumDeskModel_cell_44 : decode b_SpectrumDeskModel_cell 44 = .ok (.aload_n 0, 1) := by decide +kernel
theorem d_SpectrumDeskModel_cell_45 : decode b_SpectrumDeskModel_cell 45 = .ok (.aload_n 0, 1) := by decide +kernel
theorem d_SpectrumDeskModel_cell_46 : decode b_SpectrumDeskModel_cell 46 = .ok (.getfield 63, 3) := by decide +kernel
theorem d_SpectrumDeskModel_cell_49 : decode b_SpectrumDeskModel_cell 49 = .ok (.iconst 0, 1) := by decide +kernel
theorem d_SpectrumDeskModel_cell_50 : decode b_SpectrumDeskModel_cell 50 = .ok (.invokevirtual 121, 3) := by decide +kernel
theorem d_SpectrumDeskModel_cell_53 : decode b_SpectrumDeskModel_cell 53 = .ok (.aload_n 0, 1) := by decide +kernel
theorem d_SpectrumDeskModel_cell_54 : decode b_SpectrumDeskModel_cell 54 = .ok (.iload_n 1, 1) := by decide +kernel
theorem d_SpectrumDeskModel_cell_55 : decode b_SpectrumDeskModel_cell 55 = .ok (.iload_n 2, 1) := by decide +kernel
theorem d_SpectrumDeskModel_cell_56 : decode b_SpectrumDeskModel_cell 56 = .ok (.invokevirtual 165, 3) := by decide +kernel
theorem d_SpectrumDeskModel_cell_59 : decode b_SpectrumDeskModel_cell 59 = .ok (.lreturn, 1) := by decide +kernel
abbrev b_SpectrumDeskModel_whole : ByteArray := prog_10_method_50_code
abbrev y_SpectrumDeskModel_whole : MethodName := ⟨"SpectrumDeskModel", "whole", "(I)Z"⟩
abbrev v_SpectrumDeskModel_whole : List Cond := Cond.code y_SpectrumDeskModel_whole b_SpectrumDeskModel_whole 2 (some .boolean) :: AW
theorem d_SpectrumDeskModel_whole_0 : decode b_SpectrumDeskModel_whole 0 = .ok (.aload_n 0, 1) := by decide +kernel
theorem d_SpectrumDeskModel_whole_1 : decode b_SpectrumDeskModel_whole 1 = .ok (.iload_n 1, 1) := by decide +kernel
theorem d_SpectrumDeskModel_whole_2 : decode b_SpectrumDeskModel_whole 2 = .ok (.ifCond .lt (11), 3) := by decide +kernel
theorem d_SpectrumDeskModel_whole_5 : decode b_SpectrumDeskModel_whole 5 = .ok (.iload_n 1, 1) := by decide +kernel
theorem d_SpectrumDeskModel_whole_6 : decode b_SpectrumDeskModel_whole 6 = .ok (.aload_n 0, 1) := by decide +kernel
theorem d_SpectrumDeskModel_whole_7 : decode b_SpectrumDeskModel_whole 7 = .ok (.getfield 63, 3) := by decide +kernel
theorem d_SpectrumDeskModel_whole_10 : decode b_SpectrumDeskModel_whole 10 = .ok (.if_icmp .lt (7), 3) := by decide +kernel
theorem d_SpectrumDeskModel_whole_13 : decode b_SpectrumDeskModel_whole 13 = .ok (.iconst 1, 1) := by decide +kernel
theorem d_SpectrumDeskModel_whole_14 : decode b_SpectrumDeskModel_whole 14 = .ok (.goto (4), 3) := by decide +kernel
theorem d_SpectrumDeskModel_whole_17 : decode b_SpectrumDeskModel_whole 17 = .ok (.iconst 0, 1) := by decide +kernel
theorem d_SpectrumDeskModel_whole_18 : decode b_SpectrumDeskModel_whole 18 = .ok (.putfield 79, 3) := by decide +kernel
theorem d_SpectrumDeskModel_whole_21 : decode b_SpectrumDeskModel_whole 21 = .ok (.aload_n 0, 1) := by decide +kernel
theorem d_SpectrumDeskModel_whole_22 : decode b_SpectrumDeskModel_whole 22 = .ok (.getfield 79, 3) := by decide +kernel
theorem d_SpectrumDeskModel_whole_25 : decode b_SpectrumDeskModel_whole 25 = .ok (.ifCond .le (5), 3) := by decide +kernel
theorem d_SpectrumDeskModel_whole_28 : decode b_SpectrumDeskModel_whole 28 = .ok (.iconst 0, 1) := by decide +kernel
theorem d_SpectrumDeskModel_whole_29 : decode b_SpectrumDeskModel_whole 29 = .ok (.ireturn, 1) := by decide +kernel
theorem d_SpectrumDeskModel_whole_30 : decode b_SpectrumDeskModel_whole 30 = .ok (.aload_n 0, 1) := by decide +kernel
theorem d_SpectrumDeskModel_whole_31 : decode b_SpectrumDeskModel_whole 31 = .ok (.aload_n 0, 1) := by decide +kernel
theorem d_SpectrumDeskModel_whole_32 : decode b_SpectrumDeskModel_whole 32 = .ok (.getfield 63, 3) := by decide +kernel
theorem d_SpectrumDeskModel_whole_35 : decode b_SpectrumDeskModel_whole 35 = .ok (.iconst 0, 1) := by decide +kernel
theorem d_SpectrumDeskModel_whole_36 : decode b_SpectrumDeskModel_whole 36 = .ok (.invokevirtual 121, 3) := by decide +kernel
theorem d_SpectrumDeskModel_whole_39 : decode b_SpectrumDeskModel_whole 39 = .ok (.aload_n 0, 1) := by decide +kernel
theorem d_SpectrumDeskModel_whole_40 : decode b_SpectrumDeskModel_whole 40 = .ok (.bipush (108), 2) := by decide +kernel
theorem d_SpectrumDeskModel_whole_42 : decode b_SpectrumDeskModel_whole 42 = .ok (.aload_n 0, 1) := by decide +kernel
theorem d_SpectrumDeskModel_whole_43 : decode b_SpectrumDeskModel_whole 43 = .ok (.iload_n 1, 1) := by decide +kernel
theorem d_SpectrumDeskModel_whole_44 : decode b_SpectrumDeskModel_whole 44 = .ok (.iconst 0, 1) := by decide +kernel
theorem d_SpectrumDeskModel_whole_45 : decode b_SpectrumDeskModel_whole 45 = .ok (.invokevirtual 165, 3) := by decide +kernel
theorem d_SpectrumDeskModel_whole_48 : decode b_SpectrumDeskModel_whole 48 = .ok (.invokevirtual 104, 3) := by decide +kernel
theorem d_SpectrumDeskModel_whole_51 : decode b_SpectrumDeskModel_whole 51 = .ok (.aload_n 0, 1) := by decide +kernel
theorem d_SpectrumDeskModel_whole_52 : decode b_SpectrumDeskModel_whole 52 = .ok (.bipush (109), 2) := by decide +kernel
theorem d_SpectrumDeskModel_whole_54 : decode b_SpectrumDeskModel_whole 54 = .ok (.lconst 1, 1) := by decide +kernel
theorem d_SpectrumDeskModel_whole_55 : decode b_SpectrumDeskModel_whole 55 = .ok (.invokevirtual 104, 3) := by decide +kernel
theorem d_SpectrumDeskModel_whole_58 : decode b_SpectrumDeskModel_whole 58 = .ok (.aload_n 0, 1) := by decide +kernel
theorem d_SpectrumDeskModel_whole_59 : decode b_SpectrumDeskModel_whole 59 = .ok (.iconst 0, 1) := by decide +kernel
theorem d_SpectrumDeskModel_whole_60 : decode b_SpectrumDeskModel_whole 60 = .ok (.invokevirtual 139, 3) := by decide +kernel
theorem d_SpectrumDeskModel_whole_63 : decode b_SpectrumDeskModel_whole 63 = .ok (.iload_n 1, 1) := by decide +kernel
theorem d_SpectrumDeskModel_whole_64 : decode b_SpectrumDeskModel_whole 64 = .ok (.aload_n 0, 1) := by decide +kernel
theorem d_SpectrumDeskModel_whole_65 : decode b_SpectrumDeskModel_whole 65 = .ok (.getfield 136, 3) := by decide +kernel
theorem d_SpectrumDeskModel_whole_68 : decode b_SpectrumDeskModel_whole 68 = .ok (.if_icmp .lt (20), 3) := by decide +kernel
theorem d_SpectrumDeskModel_whole_71 : decode b_SpectrumDeskModel_whole 71 = .ok (.iload_n 1, 1) := by decide +kernel
theorem d_SpectrumDeskModel_whole_72 : decode b_SpectrumDeskModel_whole 72 = .ok (.aload_n 0, 1) := by decide +kernel
theorem d_SpectrumDeskModel_whole_73 : decode b_SpectrumDeskModel_whole 73 = .ok (.getfield 136, 3) := by decide +kernel
theorem d_SpectrumDeskModel_whole_76 : decode b_SpectrumDeskModel_whole 76 = .ok (.aload_n 0, 1) := by decide +kernel
theorem d_SpectrumDeskModel_whole_77 : decode b_SpectrumDeskModel_whole 77 = .ok (.getfield 133, 3) := by decide +kernel
theorem d_SpectrumDeskModel_whole_80 : decode b_SpectrumDeskModel_whole 80 = .ok (.iadd, 1) := by decide +kernel
theorem d_SpectrumDeskModel_whole_81 : decode b_SpectrumDeskModel_whole 81 = .ok (.if_icmp .ge (7), 3) := by decide +kernel
theorem d_SpectrumDeskModel_whole_84 : decode b_SpectrumDeskModel_whole 84 = .ok (.iconst 1, 1) := by decide +kernel
theorem d_SpectrumDeskModel_whole_85 : decode b_SpectrumDeskModel_whole 85 = .ok (.goto (4), 3) := by decide +kernel
theorem d_SpectrumDeskModel_whole_88 : decode b_SpectrumDeskModel_whole 88 = .ok (.iconst 0, 1) := by decide +kernel
theorem d_SpectrumDeskModel_whole_89 : decode b_SpectrumDeskModel_whole 89 = .ok (.ireturn, 1) := by decide +kernel
theorem k_b1bcd2b30f : (Jvm.Cond.methodLink "SpectrumDeskModel" (121 : Nat) ({ cls := "SpectrumDeskModel", name := "characterize", desc := "(II)V" } : Jvm.MethodName)) ∈ AW := aw_5 (List.mem_of_getElem? (i := 32) (by decide +kernel)) (by decide +kernel)
theorem k_fa61ed523e : (Jvm.Cond.instanceMethod ({ cls := "SpectrumDeskModel", name := "characterize", desc := "(II)V" } : Jvm.MethodName)) ∈ AW := aw_5 (List.mem_of_getElem? (i := 34) (by decide +kernel)) (by decide +kernel)
theorem k_f9f61292df : (Jvm.Cond.selects "SpectrumDeskModel" ({ cls := "SpectrumDeskModel", name := "characterize", desc := "(II)V" } : Jvm.MethodName) ({ cls := "SpectrumDeskModel", name := "characterize", desc := "(II)V" } : Jvm.MethodName)) ∈ AW := aw_p (by decide +kernel) (by decide +kernel)
theorem k_8d731b7043 : (Jvm.Cond.methodLink "SpectrumDeskModel" (165 : Nat) ({ cls := "SpectrumDeskModel", name := "cellOf", desc := "(II)J" } : Jvm.MethodName)) ∈ AW := aw_5 (List.mem_of_getElem? (i := 113) (by decide +kernel)) (by decide +kernel)
theorem k_2cbf681f5a : (Jvm.Cond.instanceMethod ({ cls := "SpectrumDeskModel", name := "cellOf", desc := "(II)J" } : Jvm.MethodName)) ∈ AW := aw_5 (List.mem_of_getElem? (i := 115) (by decide +kernel)) (by decide +kernel)
theorem k_9c8bf9c5aa : (Jvm.Cond.selects "SpectrumDeskModel" ({ cls := "SpectrumDeskModel", name := "cellOf", desc := "(II)J" } : Jvm.MethodName) ({ cls := "SpectrumDeskModel", name := "cellOf", desc := "(II)J" } : Jvm.MethodName)) ∈ AW := aw_p (by decide +kernel) (by decide +kernel)
theorem k_bc348f59a0 : (Jvm.Cond.code ({ cls := "SpectrumDeskModel", name := "count", desc := "(IJJI)I" } : Jvm.MethodName) prog_10_method_39_code (7 : Nat) (Option.some Jvm.ClassFile.FieldType.int)) ∈ AW := aw_5 (List.mem_of_getElem? (i := 100) (by decide +kernel)) (by decide +kernel)
theorem k_e1277267b6 : (Jvm.Cond.code ({ cls := "SpectrumDeskModel", name := "cell", desc := "(II)J" } : Jvm.MethodName) prog_10_method_45_code (3 : Nat) (Option.some Jvm.ClassFile.FieldType.long)) ∈ AW := aw_5 (List.mem_of_getElem? (i := 112) (by decide +kernel)) (by decide +kernel)
theorem k_6758589847 : (Jvm.Cond.code ({ cls := "SpectrumDeskModel", name := "whole", desc := "(I)Z" } : Jvm.MethodName) prog_10_method_50_code (2 : Nat) (Option.some Jvm.ClassFile.FieldType.boolean)) ∈ AW := aw_5 (List.mem_of_getElem? (i := 174) (by decide +kernel)) (by decide +kernel)
set_option maxHeartbeats 4000000 in
set_option maxRecDepth 100000 in
theorem c_SpectrumDeskModel_count_ok {l : Launch} {D : va_G} {cI cJ cZ cC cG cP : ClassId} {ad : Nat → Nat} {σ σb : Nat → va_E} {th : Int32} {n : Nat} {A9 : Nat → Int32} {rw : Nat} {Dt : Nat → Int32} {ps : Nat} {Pr : Nat → Int32} (hS : mS ad cI cZ σb th n A9 rw Dt ps Pr σ) {k9 wy : Nat} {tp bt : Int64} (h1 : 1 ≤ k9) (h2 : k9 ≤ n) (h3 : n ≤ 6) (h4 : wy ≤ 2) (h5 : 0 < bt) (hAb : ∀ i j, i < 6 → j < 6 → bd 1000000 ((A9 (6 * i + j)).toInt)) :
    Met l y_SpectrumDeskModel_count v_SpectrumDeskModel_count (xrm 5) (va_Pc [.ref (ad 183), .int (nI k9), .long tp, .long bt, .int (nI wy)] (xS D classes (xT cI cJ cZ cC cG cP) 193 ad σ)) (va_Qi (fun r σ2 => r = (if wy = 0 then wL tp.toInt bt.toInt k9 (chF (fun i j => (A9 (6 * i + j)).toInt) k9 (2 ^ k9)) else if wy = 1 then nI (wE tp.toInt bt.toInt k9 (chF (fun i j => (A9 (6 * i + j)).toInt) k9 (2 ^ k9))) else nI k9 - wL tp.toInt bt.toInt k9 (chF (fun i j => (A9 (6 * i + j)).toInt) k9 (2 ^ k9)) - nI (wE tp.toInt bt.toInt k9 (chF (fun i j => (A9 (6 * i + j)).toInt) k9 (2 ^ k9)))) ∧ mS ad cI cZ σb (nI 0) n A9 rw Dt ps Pr σ2) (xS D classes (xT cI cJ cZ cC cG cP) 193 ad) (xA 193 ad)) 0 0 (xA 193 ad) := by
  obtain ⟨s0, G, Dg, P, L, M, Z, le, eq, rfl, h187, h188, h189, h190, h191, hfb, hB⟩ := hS
  refine xr_met rfl (Nat.le_of_ble_eq_true rfl) ?_
  intro p e s m args below meth c ls hx hb X hr hlk hl I
  have hl : lv_has ls 7 [(0, .ref (ad 183)), (1, .int (nI k9)), (2, .long tp), (4, .long bt), (6, .int (nI wy))] := hl
  refine lv_aload_n hx hb d_SpectrumDeskModel_count_0 rfl (lv_at hl 0 rfl) ?_
  refine lv_iload_n hx hb d_SpectrumDeskModel_count_1 rfl (lv_at hl 1 rfl) ?_
  refine lv_iconst (v := nI 1) hx hb d_SpectrumDeskModel_count_2 (by decide) ?_
  refine lv_icmp_lt hx hb d_SpectrumDeskModel_count_3 rfl (fun hc => ?_) (fun hc => ?_)
  · exact absurd hc (nI_nlt (by omega) (by omega))
  · refine lv_iload_n hx hb d_SpectrumDeskModel_count_6 rfl (lv_at hl 1 rfl) ?_
    refine lv_aload_n hx hb d_SpectrumDeskModel_count_7 rfl (lv_at hl 0 rfl) ?_
    refine xr_get X I fin_M 183 (by decide) (r183 ..) rfl 5 (by decide) (List.mem_cons_of_mem _ k_b1a46e2c09) rfl rfl d_SpectrumDeskModel_count_8 ?_
    refine lv_icmp_gt hx hb d_SpectrumDeskModel_count_11 rfl (fun hc => ?_) (fun hc => ?_)
    · exact absurd hc (nI_nlt (by omega) (by omega))
    · refine lv_iload hx hb d_SpectrumDeskModel_count_14 (lv_at hl 4 rfl) ?_
      refine lv_if_lt hx hb d_SpectrumDeskModel_count_16 rfl (fun hc => ?_) (fun hc => ?_)
      · exact absurd hc (nI_pos (by omega))
      · refine lv_iload hx hb d_SpectrumDeskModel_count_19 (lv_at hl 4 rfl) ?_
        refine lv_iconst (v := nI 2) hx hb d_SpectrumDeskModel_count_21 (by decide) ?_
        refine lv_icmp_gt hx hb d_SpectrumDeskModel_count_22 rfl (fun hc => ?_) (fun hc => ?_)
        · exact absurd hc (nI_nlt (by omega) (by omega))
        · refine lv_lload hx hb d_SpectrumDeskModel_count_25 (lv_at hl 3 rfl) ?_
          refine lv_lconst (v := 0) hx hb d_SpectrumDeskModel_count_27 (by decide) ?_
          refine W.lcmp hx hb d_SpectrumDeskModel_count_28 ?_
          refine lv_if_le hx hb d_SpectrumDeskModel_count_29 rfl (fun hc => ?_) (fun hc => ?_)
          · exact absurd ((lg_cmp_le _ _).mp hc) (Int64.not_le.mpr h5)
          · refine lv_iconst (v := nI 0) hx hb d_SpectrumDeskModel_count_32 (by decide) ?_
            refine lv_goto hx hb d_SpectrumDeskModel_count_33 rfl ?_
            refine xr_put (ty := .int) X I fin_M t_M t_M_ok n_M 183 (by decide) (r183 ..) rfl 4 (by decide) (List.mem_cons_of_mem _ k_90bbbe5d04) rfl rfl (by decide +kernel) rfl rfl (Nat.le_of_ble_eq_true rfl) d_SpectrumDeskModel_count_37 (fun H locs I => ?_)
            rw [rw3_F] at I
            have I : xI D classes 193 ad s.heap (rw3 s0 ciM cI cZ (mfs ad (nI 0) (nI n) (nI rw) (nI ps) le eq) P L M) H locs := I
            refine lv_aload_n hx hb d_SpectrumDeskModel_count_40 rfl (lv_at hl 0 rfl) ?_
            refine xr_get X I fin_M 183 (by decide) (r183 ..) rfl 4 (by decide) (List.mem_cons_of_mem _ k_90bbbe5d04) rfl rfl d_SpectrumDeskModel_count_41 ?_
            refine lv_if_le hx hb d_SpectrumDeskModel_count_44 rfl (fun hc => ?_) (fun hc => ?_)
            · refine lv_aload_n hx hb d_SpectrumDeskModel_count_49 rfl (lv_at hl 0 rfl) ?_
              refine lv_iload_n hx hb d_SpectrumDeskModel_count_50 rfl (lv_at hl 1 rfl) ?_
              refine lv_iconst (v := nI 0) hx hb d_SpectrumDeskModel_count_51 (by decide) ?_
              refine xr_callv (xr_runV (kc := 4) (kr := 5) (n := 2) (As := [.int (nI k9), .int (nI 0)]) (rest := []) X I (by decide) (r183 ..) rfl (c_SpectrumDeskModel_characterize (k9 := k9) h187 hB (by omega) h188 hAb) (xg k_65cc42cfc5) (List.mem_cons_of_mem _ k_b1bcd2b30f) (List.mem_cons_of_mem _ k_fa61ed523e) (List.mem_cons_of_mem _ k_f9f61292df) (List.mem_cons_of_mem _ k_30fa15c9ac) (by decide +kernel) (by decide) rfl hl.1 rfl (Nat.le_of_ble_eq_true rfl) d_SpectrumDeskModel_count_52) I (fun σ9 H locs hp I => ?_)
              obtain ⟨Pc, Lc, Mc, Zc, rfl, hBc, hZc, hZo⟩ := hp
              refine lv_aload_n hx hb d_SpectrumDeskModel_count_55 rfl (lv_at hl 0 rfl) ?_
              refine lv_bipush (v := nI 108) hx hb d_SpectrumDeskModel_count_56 (by decide) ?_
              refine lv_lload_n hx hb d_SpectrumDeskModel_count_58 rfl (lv_at hl 2 rfl) ?_
              refine xr_callv (xr_runV (kc := 0) (kr := 5) (n := 2) (As := [.int (nI 108), .long tp]) (rest := []) X I (by decide) (r183 ..) rfl (c_SpectrumDeskModel_bigSet (w := 108) (v := tp) mfs_ok (by decide)) (xg k_5f300b8d49) (List.mem_cons_of_mem _ k_7a89662665) (List.mem_cons_of_mem _ k_203da126f2) (List.mem_cons_of_mem _ k_e2b6114fa3) (List.mem_cons_of_mem _ k_30fa15c9ac) (by decide +kernel) (by decide) rfl hl.1 rfl (Nat.le_of_ble_eq_true rfl) d_SpectrumDeskModel_count_59) I (fun σ9 H locs hp I => ?_)
              obtain ⟨P5, L5, M5, rfl, hf5, hx5⟩ := hp
              have hB5 := RB_up hBc hf5 hx5
              generalize eZ5 : va_up Zc 108 tp.toInt = Z5 at hB5
              refine lv_aload_n hx hb d_SpectrumDeskModel_count_62 rfl (lv_at hl 0 rfl) ?_
              refine lv_bipush (v := nI 109) hx hb d_SpectrumDeskModel_count_63 (by decide) ?_
              refine lv_lload hx hb d_SpectrumDeskModel_count_65 (lv_at hl 3 rfl) ?_
              refine xr_callv (xr_runV (kc := 0) (kr := 5) (n := 2) (As := [.int (nI 109), .long bt]) (rest := []) X I (by decide) (r183 ..) rfl (c_SpectrumDeskModel_bigSet (w := 109) (v := bt) mfs_ok (by decide)) (xg k_5f300b8d49) (List.mem_cons_of_mem _ k_7a89662665) (List.mem_cons_of_mem _ k_203da126f2) (List.mem_cons_of_mem _ k_e2b6114fa3) (List.mem_cons_of_mem _ k_30fa15c9ac) (by decide +kernel) (by decide) rfl hl.1 rfl (Nat.le_of_ble_eq_true rfl) d_SpectrumDeskModel_count_67) I (fun σ9 H locs hp I => ?_)
              obtain ⟨P6, L6, M6, rfl, hf6, hx6⟩ := hp
              have hB6 := RB_up hB5 hf6 hx6
              generalize eZ6 : va_up Z5 109 bt.toInt = Z6 at hB6
              have z108 : Z6 108 = tp.toInt := by rw [← eZ6, va_up_ne _ _ (by decide), ← eZ5, va_up_self]
              have z109 : Z6 109 = bt.toInt := by rw [← eZ6, va_up_self]
              have hpp : ∀ k, k ≤ k9 → Z6 (8 * 0 + k) = (chF (fun i j => (A9 (6 * i + j)).toInt) k9 (2 ^ k9)) k := fun k hk => by rw [Nat.mul_zero, Nat.zero_add, ← eZ6, va_up_ne _ _ (by omega), ← eZ5, va_up_ne _ _ (by omega)]; exact hZc k hk
              have hH : wH (Z6 108) (Z6 109) k9 (chF (fun i j => (A9 (6 * i + j)).toInt) k9 (2 ^ k9)) := by rw [z108, z109]; exact wH_of (by omega) (bd_64 tp) (bd_64 bt) (fun k _ => bd_up (by decide) (chF_sm hAb (Nat.pow_le_pow_right (by decide) (show k9 ≤ 6 by omega) (n := 2))))
              refine lv_aload_n hx hb d_SpectrumDeskModel_count_70 rfl (lv_at hl 0 rfl) ?_
              refine lv_iconst (v := nI 0) hx hb d_SpectrumDeskModel_count_71 (by decide) ?_
              refine xr_callv (xr_runV (kc := 3) (kr := 5) (n := 1) (As := [.int (nI 0)]) (rest := []) X I (by decide) (r183 ..) rfl (c_SpectrumDeskModel_weigh (b := 0) (dd := k9) (p0 := (chF (fun i j => (A9 (6 * i + j)).toInt) k9 (2 ^ k9))) (va_up_self _ _ _) hB6 (by decide) (by omega) upd_s hpp hH.1 hH.2.1 hH.2.2.1 hH.2.2.2) (xg k_0500b0c175) (List.mem_cons_of_mem _ k_608a9280a6) (List.mem_cons_of_mem _ k_9be29ce48e) (List.mem_cons_of_mem _ k_f13629996f) (List.mem_cons_of_mem _ k_30fa15c9ac) (by decide +kernel) (by decide) rfl hl.1 rfl (Nat.le_of_ble_eq_true rfl) d_SpectrumDeskModel_count_72) I (fun σ9 H locs hp I => ?_)
              obtain ⟨Pw, Lw, Mw, Zw, rfl, hBw, hEw⟩ := hp
              rw [z108, z109] at I
              have I : xI D classes 193 ad s.heap (rw3 (va_up (va_up s0 187 (.inl (cI, 5, .inl (upd G 0 (nI k9))))) 187 (.inl (cI, 5, .inl (upd (upd G 0 (nI k9)) 4 (nI k9))))) ciM cI cZ (mfs ad (nI 0) (nI n) (nI rw) (nI ps) (wL (tp.toInt) (bt.toInt) k9 (chF (fun i j => (A9 (6 * i + j)).toInt) k9 (2 ^ k9))) (nI (wE (tp.toInt) (bt.toInt) k9 (chF (fun i j => (A9 (6 * i + j)).toInt) k9 (2 ^ k9))))) Pw Lw Mw) H locs := I
              refine lv_iload hx hb d_SpectrumDeskModel_count_75 (lv_at hl 4 rfl) ?_
              refine lv_if_ne hx hb d_SpectrumDeskModel_count_77 rfl (fun hg => ?_) (fun hg => ?_)
              · have n0 : ¬ wy = 0 := fun h => hg (by rw [h]; rfl)
                refine lv_iload hx hb d_SpectrumDeskModel_count_87 (lv_at hl 4 rfl) ?_
                refine lv_iconst (v := nI 1) hx hb d_SpectrumDeskModel_count_89 (by decide) ?_
                refine lv_icmp_ne hx hb d_SpectrumDeskModel_count_90 rfl (fun hh => ?_) (fun hh => ?_)
                · have n1 : ¬ wy = 1 := fun h => hh (by rw [h])
                  refine lv_iload_n hx hb d_SpectrumDeskModel_count_100 rfl (lv_at hl 1 rfl) ?_
                  refine lv_aload_n hx hb d_SpectrumDeskModel_count_101 rfl (lv_at hl 0 rfl) ?_
                  refine xr_get X I fin_M 183 (by decide) (r183 ..) rfl 12 (by decide) (List.mem_cons_of_mem _ k_15947873ae) rfl rfl d_SpectrumDeskModel_count_102 ?_
                  refine lv_isub hx hb d_SpectrumDeskModel_count_105 ?_
                  refine lv_aload_n hx hb d_SpectrumDeskModel_count_106 rfl (lv_at hl 0 rfl) ?_
                  refine xr_get X I fin_M 183 (by decide) (r183 ..) rfl 13 (by decide) (List.mem_cons_of_mem _ k_e06fbbb633) rfl rfl d_SpectrumDeskModel_count_107 ?_
                  refine lv_isub hx hb d_SpectrumDeskModel_count_110 ?_
                  exact xr_iret X I hr hlk ⟨by rw [if_neg n0, if_neg n1], ⟨va_up (va_up s0 187 (.inl (cI, 5, .inl (upd G 0 (nI k9))))) 187 (.inl (cI, 5, .inl (upd (upd G 0 (nI k9)) 4 (nI k9)))), (upd (upd G 0 (nI k9)) 4 (nI k9)), Dg, Pw, Lw, Mw, Zw, wL (tp.toInt) (bt.toInt) k9 (chF (fun i j => (A9 (6 * i + j)).toInt) k9 (2 ^ k9)), nI (wE (tp.toInt) (bt.toInt) k9 (chF (fun i j => (A9 (6 * i + j)).toInt) k9 (2 ^ k9))), rfl, (va_up_self _ _ _), ((va_up_ne _ _ (by decide)).trans ((va_up_ne _ _ (by decide)).trans h188)), ((va_up_ne _ _ (by decide)).trans ((va_up_ne _ _ (by decide)).trans h189)), ((va_up_ne _ _ (by decide)).trans ((va_up_ne _ _ (by decide)).trans h190)), ((va_up_ne _ _ (by decide)).trans ((va_up_ne _ _ (by decide)).trans h191)), (fun q hq => (va_up_ne _ _ (by omega)).trans ((fun q hq => (va_up_ne _ _ (by omega)).trans (hfb q hq)) q hq)), hBw⟩⟩ d_SpectrumDeskModel_count_111
                · have n1 : wy = 1 := (nI_eq (by omega) (by decide)).mp hh
                  refine lv_aload_n hx hb d_SpectrumDeskModel_count_93 rfl (lv_at hl 0 rfl) ?_
                  refine xr_get X I fin_M 183 (by decide) (r183 ..) rfl 13 (by decide) (List.mem_cons_of_mem _ k_e06fbbb633) rfl rfl d_SpectrumDeskModel_count_94 ?_
                  refine lv_goto hx hb d_SpectrumDeskModel_count_97 rfl ?_
                  exact xr_iret X I hr hlk ⟨by rw [if_neg n0, if_pos n1], ⟨va_up (va_up s0 187 (.inl (cI, 5, .inl (upd G 0 (nI k9))))) 187 (.inl (cI, 5, .inl (upd (upd G 0 (nI k9)) 4 (nI k9)))), (upd (upd G 0 (nI k9)) 4 (nI k9)), Dg, Pw, Lw, Mw, Zw, wL (tp.toInt) (bt.toInt) k9 (chF (fun i j => (A9 (6 * i + j)).toInt) k9 (2 ^ k9)), nI (wE (tp.toInt) (bt.toInt) k9 (chF (fun i j => (A9 (6 * i + j)).toInt) k9 (2 ^ k9))), rfl, (va_up_self _ _ _), ((va_up_ne _ _ (by decide)).trans ((va_up_ne _ _ (by decide)).trans h188)), ((va_up_ne _ _ (by decide)).trans ((va_up_ne _ _ (by decide)).trans h189)), ((va_up_ne _ _ (by decide)).trans ((va_up_ne _ _ (by decide)).trans h190)), ((va_up_ne _ _ (by decide)).trans ((va_up_ne _ _ (by decide)).trans h191)), (fun q hq => (va_up_ne _ _ (by omega)).trans ((fun q hq => (va_up_ne _ _ (by omega)).trans (hfb q hq)) q hq)), hBw⟩⟩ d_SpectrumDeskModel_count_111
              · have n0 : wy = 0 := (nI_eq (by omega) (by decide)).mp hg
                refine lv_aload_n hx hb d_SpectrumDeskModel_count_80 rfl (lv_at hl 0 rfl) ?_
                refine xr_get X I fin_M 183 (by decide) (r183 ..) rfl 12 (by decide) (List.mem_cons_of_mem _ k_15947873ae) rfl rfl d_SpectrumDeskModel_count_81 ?_
                refine lv_goto hx hb d_SpectrumDeskModel_count_84 rfl ?_
                exact xr_iret X I hr hlk ⟨by rw [if_pos n0], ⟨va_up (va_up s0 187 (.inl (cI, 5, .inl (upd G 0 (nI k9))))) 187 (.inl (cI, 5, .inl (upd (upd G 0 (nI k9)) 4 (nI k9)))), (upd (upd G 0 (nI k9)) 4 (nI k9)), Dg, Pw, Lw, Mw, Zw, wL (tp.toInt) (bt.toInt) k9 (chF (fun i j => (A9 (6 * i + j)).toInt) k9 (2 ^ k9)), nI (wE (tp.toInt) (bt.toInt) k9 (chF (fun i j => (A9 (6 * i + j)).toInt) k9 (2 ^ k9))), rfl, (va_up_self _ _ _), ((va_up_ne _ _ (by decide)).trans ((va_up_ne _ _ (by decide)).trans h188)), ((va_up_ne _ _ (by decide)).trans ((va_up_ne _ _ (by decide)).trans h189)), ((va_up_ne _ _ (by decide)).trans ((va_up_ne _ _ (by decide)).trans h190)), ((va_up_ne _ _ (by decide)).trans ((va_up_ne _ _ (by decide)).trans h191)), (fun q hq => (va_up_ne _ _ (by omega)).trans ((fun q hq => (va_up_ne _ _ (by omega)).trans (hfb q hq)) q hq)), hBw⟩⟩ d_SpectrumDeskModel_count_111
            · exact absurd (by decide) hc
set_option maxHeartbeats 4000000 in
set_option maxRecDepth 100000 in
theorem c_SpectrumDeskModel_count_bad {l : Launch} {D : va_G} {cI cJ cZ cC cG cP : ClassId} {ad : Nat → Nat} {σ σb : Nat → va_E} {th : Int32} {n : Nat} {A9 : Nat → Int32} {rw : Nat} {Dt : Nat → Int32} {ps : Nat} {Pr : Nat → Int32} (hS : mS ad cI cZ σb th n A9 rw Dt ps Pr σ) {k9 wy : Int32} {tp bt : Int64} (h1 : k9 < nI 1 ∨ nI n < k9 ∨ wy < 0 ∨ nI 2 < wy ∨ bt ≤ 0) :
    Met l y_SpectrumDeskModel_count v_SpectrumDeskModel_count (xrm 0) (va_Pc [.ref (ad 183), .int k9, .long tp, .long bt, .int wy] (xS D classes (xT cI cJ cZ cC cG cP) 193 ad σ)) (va_Qi (fun r σ2 => r = nI 0 ∧ mS ad cI cZ σb (nI 1) n A9 rw Dt ps Pr σ2) (xS D classes (xT cI cJ cZ cC cG cP) 193 ad) (xA 193 ad)) 0 0 (xA 193 ad) := by
  obtain ⟨s0, G, Dg, P, L, M, Z, le, eq, rfl, h187, h188, h189, h190, h191, hfb, hB⟩ := hS
  refine xr_met rfl (Nat.le_of_ble_eq_true rfl) ?_
  intro p e s m args below meth c ls hx hb X hr hlk hl I
  have hl : lv_has ls 7 [(0, .ref (ad 183)), (1, .int k9), (2, .long tp), (4, .long bt), (6, .int wy)] := hl
  refine lv_aload_n hx hb d_SpectrumDeskModel_count_0 rfl (lv_at hl 0 rfl) ?_
  refine lv_iload_n hx hb d_SpectrumDeskModel_count_1 rfl (lv_at hl 1 rfl) ?_
  refine lv_iconst (v := nI 1) hx hb d_SpectrumDeskModel_count_2 (by decide) ?_
  refine lv_icmp_lt hx hb d_SpectrumDeskModel_count_3 rfl (fun q1 => ?_) (fun q1 => ?_)
  · refine lv_iconst (v := nI 1) hx hb d_SpectrumDeskModel_count_36 (by decide) ?_
    refine xr_put (ty := .int) X I fin_M t_M t_M_ok n_M 183 (by decide) (r183 ..) rfl 4 (by decide) (List.mem_cons_of_mem _ k_90bbbe5d04) rfl rfl (by decide +kernel) rfl rfl (Nat.le_of_ble_eq_true rfl) d_SpectrumDeskModel_count_37 (fun H locs I => ?_)
    rw [rw3_F] at I
    have I : xI D classes 193 ad s.heap (rw3 s0 ciM cI cZ (mfs ad (nI 1) (nI n) (nI rw) (nI ps) le eq) P L M) H locs := I
    refine lv_aload_n hx hb d_SpectrumDeskModel_count_40 rfl (lv_at hl 0 rfl) ?_
    refine xr_get X I fin_M 183 (by decide) (r183 ..) rfl 4 (by decide) (List.mem_cons_of_mem _ k_90bbbe5d04) rfl rfl d_SpectrumDeskModel_count_41 ?_
    refine lv_if_le hx hb d_SpectrumDeskModel_count_44 rfl (fun hz => ?_) (fun hz => ?_)
    · exact absurd hz (by decide)
    · refine lv_iconst (v := nI 0) hx hb d_SpectrumDeskModel_count_47 (by decide) ?_
      exact xr_iret X I hr hlk ⟨rfl, ⟨s0, G, Dg, P, L, M, Z, le, eq, rfl, h187, h188, h189, h190, h191, hfb, hB⟩⟩ d_SpectrumDeskModel_count_48
  · refine lv_iload_n hx hb d_SpectrumDeskModel_count_6 rfl (lv_at hl 1 rfl) ?_
    refine lv_aload_n hx hb d_SpectrumDeskModel_count_7 rfl (lv_at hl 0 rfl) ?_
    refine xr_get X I fin_M 183 (by decide) (r183 ..) rfl 5 (by decide) (List.mem_cons_of_mem _ k_b1a46e2c09) rfl rfl d_SpectrumDeskModel_count_8 ?_
    refine lv_icmp_gt hx hb d_SpectrumDeskModel_count_11 rfl (fun q2 => ?_) (fun q2 => ?_)
    · refine lv_iconst (v := nI 1) hx hb d_SpectrumDeskModel_count_36 (by decide) ?_
      refine xr_put (ty := .int) X I fin_M t_M t_M_ok n_M 183 (by decide) (r183 ..) rfl 4 (by decide) (List.mem_cons_of_mem _ k_90bbbe5d04) rfl rfl (by decide +kernel) rfl rfl (Nat.le_of_ble_eq_true rfl) d_SpectrumDeskModel_count_37 (fun H locs I => ?_)
      rw [rw3_F] at I
      have I : xI D classes 193 ad s.heap (rw3 s0 ciM cI cZ (mfs ad (nI 1) (nI n) (nI rw) (nI ps) le eq) P L M) H locs := I
      refine lv_aload_n hx hb d_SpectrumDeskModel_count_40 rfl (lv_at hl 0 rfl) ?_
      refine xr_get X I fin_M 183 (by decide) (r183 ..) rfl 4 (by decide) (List.mem_cons_of_mem _ k_90bbbe5d04) rfl rfl d_SpectrumDeskModel_count_41 ?_
      refine lv_if_le hx hb d_SpectrumDeskModel_count_44 rfl (fun hz => ?_) (fun hz => ?_)
      · exact absurd hz (by decide)
      · refine lv_iconst (v := nI 0) hx hb d_SpectrumDeskModel_count_47 (by decide) ?_
        exact xr_iret X I hr hlk ⟨rfl, ⟨s0, G, Dg, P, L, M, Z, le, eq, rfl, h187, h188, h189, h190, h191, hfb, hB⟩⟩ d_SpectrumDeskModel_count_48
    · refine lv_iload hx hb d_SpectrumDeskModel_count_14 (lv_at hl 4 rfl) ?_
      refine lv_if_lt hx hb d_SpectrumDeskModel_count_16 rfl (fun q3 => ?_) (fun q3 => ?_)
      · refine lv_iconst (v := nI 1) hx hb d_SpectrumDeskModel_count_36 (by decide) ?_
        refine xr_put (ty := .int) X I fin_M t_M t_M_ok n_M 183 (by decide) (r183 ..) rfl 4 (by decide) (List.mem_cons_of_mem _ k_90bbbe5d04) rfl rfl (by decide +kernel) rfl rfl (Nat.le_of_ble_eq_true rfl) d_SpectrumDeskModel_count_37 (fun H locs I => ?_)
        rw [rw3_F] at I
        have I : xI D classes 193 ad s.heap (rw3 s0 ciM cI cZ (mfs ad (nI 1) (nI n) (nI rw) (nI ps) le eq) P L M) H locs := I
        refine lv_aload_n hx hb d_SpectrumDeskModel_count_40 rfl (lv_at hl 0 rfl) ?_
        refine xr_get X I fin_M 183 (by decide) (r183 ..) rfl 4 (by decide) (List.mem_cons_of_mem _ k_90bbbe5d04) rfl rfl d_SpectrumDeskModel_count_41 ?_
        refine lv_if_le hx hb d_SpectrumDeskModel_count_44 rfl (fun hz => ?_) (fun hz => ?_)
        · exact absurd hz (by decide)
        · refine lv_iconst (v := nI 0) hx hb d_SpectrumDeskModel_count_47 (by decide) ?_
          exact xr_iret X I hr hlk ⟨rfl, ⟨s0, G, Dg, P, L, M, Z, le, eq, rfl, h187, h188, h189, h190, h191, hfb, hB⟩⟩ d_SpectrumDeskModel_count_48
      · refine lv_iload hx hb d_SpectrumDeskModel_count_19 (lv_at hl 4 rfl) ?_
        refine lv_iconst (v := nI 2) hx hb d_SpectrumDeskModel_count_21 (by decide) ?_
        refine lv_icmp_gt hx hb d_SpectrumDeskModel_count_22 rfl (fun q4 => ?_) (fun q4 => ?_)
        · refine lv_iconst (v := nI 1) hx hb d_SpectrumDeskModel_count_36 (by decide) ?_
          refine xr_put (ty := .int) X I fin_M t_M t_M_ok n_M 183 (by decide) (r183 ..) rfl 4 (by decide) (List.mem_cons_of_mem _ k_90bbbe5d04) rfl rfl (by decide +kernel) rfl rfl (Nat.le_of_ble_eq_true rfl) d_SpectrumDeskModel_count_37 (fun H locs I => ?_)
          rw [rw3_F] at I
          have I : xI D classes 193 ad s.heap (rw3 s0 ciM cI cZ (mfs ad (nI 1) (nI n) (nI rw) (nI ps) le eq) P L M) H locs := I
          refine lv_aload_n hx hb d_SpectrumDeskModel_count_40 rfl (lv_at hl 0 rfl) ?_
          refine xr_get X I fin_M 183 (by decide) (r183 ..) rfl 4 (by decide) (List.mem_cons_of_mem _ k_90bbbe5d04) rfl rfl d_SpectrumDeskModel_count_41 ?_
          refine lv_if_le hx hb d_SpectrumDeskModel_count_44 rfl (fun hz => ?_) (fun hz => ?_)
          · exact absurd hz (by decide)
          · refine lv_iconst (v := nI 0) hx hb d_SpectrumDeskModel_count_47 (by decide) ?_
            exact xr_iret X I hr hlk ⟨rfl, ⟨s0, G, Dg, P, L, M, Z, le, eq, rfl, h187, h188, h189, h190, h191, hfb, hB⟩⟩ d_SpectrumDeskModel_count_48
        · refine lv_lload hx hb d_SpectrumDeskModel_count_25 (lv_at hl 3 rfl) ?_
          refine lv_lconst (v := 0) hx hb d_SpectrumDeskModel_count_27 (by decide) ?_
          refine W.lcmp hx hb d_SpectrumDeskModel_count_28 ?_
          refine lv_if_le hx hb d_SpectrumDeskModel_count_29 rfl (fun q5 => ?_) (fun q5 => ?_)
          · refine lv_iconst (v := nI 1) hx hb d_SpectrumDeskModel_count_36 (by decide) ?_
            refine xr_put (ty := .int) X I fin_M t_M t_M_ok n_M 183 (by decide) (r183 ..) rfl 4 (by decide) (List.mem_cons_of_mem _ k_90bbbe5d04) rfl rfl (by decide +kernel) rfl rfl (Nat.le_of_ble_eq_true rfl) d_SpectrumDeskModel_count_37 (fun H locs I => ?_)
            rw [rw3_F] at I
            have I : xI D classes 193 ad s.heap (rw3 s0 ciM cI cZ (mfs ad (nI 1) (nI n) (nI rw) (nI ps) le eq) P L M) H locs := I
            refine lv_aload_n hx hb d_SpectrumDeskModel_count_40 rfl (lv_at hl 0 rfl) ?_
            refine xr_get X I fin_M 183 (by decide) (r183 ..) rfl 4 (by decide) (List.mem_cons_of_mem _ k_90bbbe5d04) rfl rfl d_SpectrumDeskModel_count_41 ?_
            refine lv_if_le hx hb d_SpectrumDeskModel_count_44 rfl (fun hz => ?_) (fun hz => ?_)
            · exact absurd hz (by decide)
            · refine lv_iconst (v := nI 0) hx hb d_SpectrumDeskModel_count_47 (by decide) ?_
              exact xr_iret X I hr hlk ⟨rfl, ⟨s0, G, Dg, P, L, M, Z, le, eq, rfl, h187, h188, h189, h190, h191, hfb, hB⟩⟩ d_SpectrumDeskModel_count_48
          · rcases h1 with h | h | h | h | h; exact absurd h q1; exact absurd h q2; exact absurd h q3; exact absurd h q4; exact absurd ((lg_cmp_le _ _).mpr h) q5
set_option maxHeartbeats 4000000 in
set_option maxRecDepth 100000 in
theorem c_SpectrumDeskModel_cell_ok {l : Launch} {D : va_G} {cI cJ cZ cC cG cP : ClassId} {ad : Nat → Nat} {σ σb : Nat → va_E} {th : Int32} {n : Nat} {A9 : Nat → Int32} {rw : Nat} {Dt : Nat → Int32} {ps : Nat} {Pr : Nat → Int32} (hS : mS ad cI cZ σb th n A9 rw Dt ps Pr σ) {i9 w9 : Nat} (h1 : i9 < n) (h2 : w9 ≤ 30) (h3 : n ≤ 6) (hAb : ∀ i j, i < 6 → j < 6 → bd 1000000 ((A9 (6 * i + j)).toInt)) :
    Met l y_SpectrumDeskModel_cell v_SpectrumDeskModel_cell (xrm 7) (va_Pc [.ref (ad 183), .int (nI i9), .int (nI w9)] (xS D classes (xT cI cJ cZ cC cG cP) 193 ad σ)) (va_Ql (fun r σ2 => cellP (chF (fun i j => (A9 (6 * i + j)).toInt) n (2 ^ n)) n w9 (nI i9) r ∧ mS ad cI cZ σb (nI 0) n A9 rw Dt ps Pr σ2) (xS D classes (xT cI cJ cZ cC cG cP) 193 ad) (xA 193 ad)) 0 0 (xA 193 ad) := by
  obtain ⟨s0, G, Dg, P, L, M, Z, le, eq, rfl, h187, h188, h189, h190, h191, hfb, hB⟩ := hS
  refine xr_met rfl (Nat.le_of_ble_eq_true rfl) ?_
  intro p e s m args below meth c ls hx hb X hr hlk hl I
  have hl : lv_has ls 3 [(0, .ref (ad 183)), (1, .int (nI i9)), (2, .int (nI w9))] := hl
  refine lv_aload_n hx hb d_SpectrumDeskModel_cell_0 rfl (lv_at hl 0 rfl) ?_
  refine lv_iload_n hx hb d_SpectrumDeskModel_cell_1 rfl (lv_at hl 1 rfl) ?_
  refine lv_if_lt hx hb d_SpectrumDeskModel_cell_2 rfl (fun hc => ?_) (fun hc => ?_)
  · exact absurd hc (nI_pos (by omega))
  · refine lv_iload_n hx hb d_SpectrumDeskModel_cell_5 rfl (lv_at hl 1 rfl) ?_
    refine lv_aload_n hx hb d_SpectrumDeskModel_cell_6 rfl (lv_at hl 0 rfl) ?_
    refine xr_get X I fin_M 183 (by decide) (r183 ..) rfl 5 (by decide) (List.mem_cons_of_mem _ k_b1a46e2c09) rfl rfl d_SpectrumDeskModel_cell_7 ?_
    refine lv_icmp_lt hx hb d_SpectrumDeskModel_cell_10 rfl (fun hc => ?_) (fun hc => ?_)
    · refine lv_iload_n hx hb d_SpectrumDeskModel_cell_17 rfl (lv_at hl 2 rfl) ?_
      refine lv_if_lt hx hb d_SpectrumDeskModel_cell_18 rfl (fun hc => ?_) (fun hc => ?_)
      · exact absurd hc (nI_pos (by omega))
      · refine lv_iload_n hx hb d_SpectrumDeskModel_cell_21 rfl (lv_at hl 2 rfl) ?_
        refine lv_bipush (v := nI 30) hx hb d_SpectrumDeskModel_cell_22 (by decide) ?_
        refine lv_icmp_le hx hb d_SpectrumDeskModel_cell_24 rfl (fun hc => ?_) (fun hc => ?_)
        · refine lv_iconst (v := nI 0) hx hb d_SpectrumDeskModel_cell_31 (by decide) ?_
          refine xr_put (ty := .int) X I fin_M t_M t_M_ok n_M 183 (by decide) (r183 ..) rfl 4 (by decide) (List.mem_cons_of_mem _ k_90bbbe5d04) rfl rfl (by decide +kernel) rfl rfl (Nat.le_of_ble_eq_true rfl) d_SpectrumDeskModel_cell_32 (fun H locs I => ?_)
          rw [rw3_F] at I
          have I : xI D classes 193 ad s.heap (rw3 s0 ciM cI cZ (mfs ad (nI 0) (nI n) (nI rw) (nI ps) le eq) P L M) H locs := I
          refine lv_aload_n hx hb d_SpectrumDeskModel_cell_35 rfl (lv_at hl 0 rfl) ?_
          refine xr_get X I fin_M 183 (by decide) (r183 ..) rfl 4 (by decide) (List.mem_cons_of_mem _ k_90bbbe5d04) rfl rfl d_SpectrumDeskModel_cell_36 ?_
          refine lv_if_le hx hb d_SpectrumDeskModel_cell_39 rfl (fun hc => ?_) (fun hc => ?_)
          · refine lv_aload_n hx hb d_SpectrumDeskModel_cell_44 rfl (lv_at hl 0 rfl) ?_
            refine lv_aload_n hx hb d_SpectrumDeskModel_cell_45 rfl (lv_at hl 0 rfl) ?_
            refine xr_get X I fin_M 183 (by decide) (r183 ..) rfl 5 (by decide) (List.mem_cons_of_mem _ k_b1a46e2c09) rfl rfl d_SpectrumDeskModel_cell_46 ?_
            refine lv_iconst (v := nI 0) hx hb d_SpectrumDeskModel_cell_49 (by decide) ?_
            refine xr_callv (xr_runV (kc := 4) (kr := 7) (n := 2) (As := [.int (nI n), .int (nI 0)]) (rest := []) X I (by decide) (r183 ..) rfl (c_SpectrumDeskModel_characterize (k9 := n) h187 hB h3 h188 hAb) (xg k_65cc42cfc5) (List.mem_cons_of_mem _ k_b1bcd2b30f) (List.mem_cons_of_mem _ k_fa61ed523e) (List.mem_cons_of_mem _ k_f9f61292df) (List.mem_cons_of_mem _ k_30fa15c9ac) (by decide +kernel) (by decide) rfl hl.1 rfl (Nat.le_of_ble_eq_true rfl) d_SpectrumDeskModel_cell_50) I (fun σ9 H locs hp I => ?_)
            obtain ⟨Pc, Lc, Mc, Zc, rfl, hBc, hZc, hZo⟩ := hp
            refine lv_aload_n hx hb d_SpectrumDeskModel_cell_53 rfl (lv_at hl 0 rfl) ?_
            refine lv_iload_n hx hb d_SpectrumDeskModel_cell_54 rfl (lv_at hl 1 rfl) ?_
            refine lv_iload_n hx hb d_SpectrumDeskModel_cell_55 rfl (lv_at hl 2 rfl) ?_
            refine xr_calll (xr_runV (kc := 6) (kr := 7) (n := 2) (As := [.int (nI i9), .int (nI w9)]) (rest := []) X I (by decide) (r183 ..) rfl (c_SpectrumDeskModel_cellOf (dd := n) (w9 := w9) (p0 := (chF (fun i j => (A9 (6 * i + j)).toInt) n (2 ^ n))) (i := nI i9) (va_up_self _ _ _) hBc h2 h3 upd_s hZc (fun k _ => bd_up (by decide) (chF_sm hAb (Nat.pow_le_pow_right (by decide) h3 (n := 2))))) (xg k_f126756040) (List.mem_cons_of_mem _ k_8d731b7043) (List.mem_cons_of_mem _ k_2cbf681f5a) (List.mem_cons_of_mem _ k_9c8bf9c5aa) (List.mem_cons_of_mem _ k_30fa15c9ac) (by decide +kernel) (by decide) rfl hl.1 rfl (Nat.le_of_ble_eq_true rfl) d_SpectrumDeskModel_cell_56) I (fun x σ9 H locs hp I => ?_)
            obtain ⟨hcl9, se, Ge, Pe, Le, Me, Ze, lee, eqe, rfl, hGe, hse, hge, hBe, hze⟩ := hp
            exact xr_lret X I hr hlk ⟨hcl9, ⟨se, Ge, Dg, Pe, Le, Me, Ze, lee, eqe, rfl, hGe, ((hse _ (by decide)).trans ((va_up_ne _ _ (by decide)).trans h188)), ((hse _ (by decide)).trans ((va_up_ne _ _ (by decide)).trans h189)), ((hse _ (by decide)).trans ((va_up_ne _ _ (by decide)).trans h190)), ((hse _ (by decide)).trans ((va_up_ne _ _ (by decide)).trans h191)), (fun q hq => (hse q (by omega)).trans ((fun q hq => (va_up_ne _ _ (by omega)).trans (hfb q hq)) q hq)), hBe⟩⟩ d_SpectrumDeskModel_cell_59
          · exact absurd (by decide) hc
        · exact absurd (nI_le h2 (by decide)) hc
    · exact absurd (nI_lt h1 (by omega)) hc
set_option maxHeartbeats 4000000 in
set_option maxRecDepth 100000 in
theorem c_SpectrumDeskModel_cell_bad1 {l : Launch} {D : va_G} {cI cJ cZ cC cG cP : ClassId} {ad : Nat → Nat} {σ σb : Nat → va_E} {th : Int32} {n : Nat} {A9 : Nat → Int32} {rw : Nat} {Dt : Nat → Int32} {ps : Nat} {Pr : Nat → Int32} (hS : mS ad cI cZ σb th n A9 rw Dt ps Pr σ) {i9 w9 : Int32} (h1 : i9 < 0 ∨ nI n ≤ i9) :
    Met l y_SpectrumDeskModel_cell v_SpectrumDeskModel_cell (xrm 0) (va_Pc [.ref (ad 183), .int i9, .int w9] (xS D classes (xT cI cJ cZ cC cG cP) 193 ad σ)) (va_Ql (fun r σ2 => r = 0 ∧ mS ad cI cZ σb (nI 1) n A9 rw Dt ps Pr σ2) (xS D classes (xT cI cJ cZ cC cG cP) 193 ad) (xA 193 ad)) 0 0 (xA 193 ad) := by
  obtain ⟨s0, G, Dg, P, L, M, Z, le, eq, rfl, h187, h188, h189, h190, h191, hfb, hB⟩ := hS
  refine xr_met rfl (Nat.le_of_ble_eq_true rfl) ?_
  intro p e s m args below meth c ls hx hb X hr hlk hl I
  have hl : lv_has ls 3 [(0, .ref (ad 183)), (1, .int i9), (2, .int w9)] := hl
  refine lv_aload_n hx hb d_SpectrumDeskModel_cell_0 rfl (lv_at hl 0 rfl) ?_
  refine lv_iload_n hx hb d_SpectrumDeskModel_cell_1 rfl (lv_at hl 1 rfl) ?_
  refine lv_if_lt hx hb d_SpectrumDeskModel_cell_2 rfl (fun hc => ?_) (fun hc => ?_)
  · refine lv_iconst (v := nI 1) hx hb d_SpectrumDeskModel_cell_13 (by decide) ?_
    refine lv_goto hx hb d_SpectrumDeskModel_cell_14 rfl ?_
    refine xr_put (ty := .int) X I fin_M t_M t_M_ok n_M 183 (by decide) (r183 ..) rfl 4 (by decide) (List.mem_cons_of_mem _ k_90bbbe5d04) rfl rfl (by decide +kernel) rfl rfl (Nat.le_of_ble_eq_true rfl) d_SpectrumDeskModel_cell_32 (fun H locs I => ?_)
    rw [rw3_F] at I
    have I : xI D classes 193 ad s.heap (rw3 s0 ciM cI cZ (mfs ad (nI 1) (nI n) (nI rw) (nI ps) le eq) P L M) H locs := I
    refine lv_aload_n hx hb d_SpectrumDeskModel_cell_35 rfl (lv_at hl 0 rfl) ?_
    refine xr_get X I fin_M 183 (by decide) (r183 ..) rfl 4 (by decide) (List.mem_cons_of_mem _ k_90bbbe5d04) rfl rfl d_SpectrumDeskModel_cell_36 ?_
    refine lv_if_le hx hb d_SpectrumDeskModel_cell_39 rfl (fun hz => ?_) (fun hz => ?_)
    · exact absurd hz (by decide)
    · refine lv_lconst (v := 0) hx hb d_SpectrumDeskModel_cell_42 (by decide) ?_
      exact xr_lret X I hr hlk ⟨rfl, ⟨s0, G, Dg, P, L, M, Z, le, eq, rfl, h187, h188, h189, h190, h191, hfb, hB⟩⟩ d_SpectrumDeskModel_cell_43
  · refine lv_iload_n hx hb d_SpectrumDeskModel_cell_5 rfl (lv_at hl 1 rfl) ?_
    refine lv_aload_n hx hb d_SpectrumDeskModel_cell_6 rfl (lv_at hl 0 rfl) ?_
    refine xr_get X I fin_M 183 (by decide) (r183 ..) rfl 5 (by decide) (List.mem_cons_of_mem _ k_b1a46e2c09) rfl rfl d_SpectrumDeskModel_cell_7 ?_
    refine lv_icmp_lt hx hb d_SpectrumDeskModel_cell_10 rfl (fun hd => ?_) (fun hd => ?_)
    · exact absurd h1 (fun h => h.elim hc (fun h => q_le_lt h hd))
    · refine lv_iconst (v := nI 1) hx hb d_SpectrumDeskModel_cell_13 (by decide) ?_
      refine lv_goto hx hb d_SpectrumDeskModel_cell_14 rfl ?_
      refine xr_put (ty := .int) X I fin_M t_M t_M_ok n_M 183 (by decide) (r183 ..) rfl 4 (by decide) (List.mem_cons_of_mem _ k_90bbbe5d04) rfl rfl (by decide +kernel) rfl rfl (Nat.le_of_ble_eq_true rfl) d_SpectrumDeskModel_cell_32 (fun H locs I => ?_)
      rw [rw3_F] at I
      have I : xI D classes 193 ad s.heap (rw3 s0 ciM cI cZ (mfs ad (nI 1) (nI n) (nI rw) (nI ps) le eq) P L M) H locs := I
      refine lv_aload_n hx hb d_SpectrumDeskModel_cell_35 rfl (lv_at hl 0 rfl) ?_
      refine xr_get X I fin_M 183 (by decide) (r183 ..) rfl 4 (by decide) (List.mem_cons_of_mem _ k_90bbbe5d04) rfl rfl d_SpectrumDeskModel_cell_36 ?_
      refine lv_if_le hx hb d_SpectrumDeskModel_cell_39 rfl (fun hz => ?_) (fun hz => ?_)
      · exact absurd hz (by decide)
      · refine lv_lconst (v := 0) hx hb d_SpectrumDeskModel_cell_42 (by decide) ?_
        exact xr_lret X I hr hlk ⟨rfl, ⟨s0, G, Dg, P, L, M, Z, le, eq, rfl, h187, h188, h189, h190, h191, hfb, hB⟩⟩ d_SpectrumDeskModel_cell_43
set_option maxHeartbeats 4000000 in
set_option maxRecDepth 100000 in
theorem c_SpectrumDeskModel_cell_bad2 {l : Launch} {D : va_G} {cI cJ cZ cC cG cP : ClassId} {ad : Nat → Nat} {σ σb : Nat → va_E} {th : Int32} {n : Nat} {A9 : Nat → Int32} {rw : Nat} {Dt : Nat → Int32} {ps : Nat} {Pr : Nat → Int32} (hS : mS ad cI cZ σb th n A9 rw Dt ps Pr σ) {i9 w9 : Int32} (h0 : ¬ i9 < 0 ∧ i9 < nI n) (h1 : w9 < 0 ∨ nI 30 < w9) :
    Met l y_SpectrumDeskModel_cell v_SpectrumDeskModel_cell (xrm 0) (va_Pc [.ref (ad 183), .int i9, .int w9] (xS D classes (xT cI cJ cZ cC cG cP) 193 ad σ)) (va_Ql (fun r σ2 => r = 0 ∧ mS ad cI cZ σb (nI 2) n A9 rw Dt ps Pr σ2) (xS D classes (xT cI cJ cZ cC cG cP) 193 ad) (xA 193 ad)) 0 0 (xA 193 ad) := by
  obtain ⟨s0, G, Dg, P, L, M, Z, le, eq, rfl, h187, h188, h189, h190, h191, hfb, hB⟩ := hS
  refine xr_met rfl (Nat.le_of_ble_eq_true rfl) ?_
  intro p e s m args below meth c ls hx hb X hr hlk hl I
  have hl : lv_has ls 3 [(0, .ref (ad 183)), (1, .int i9), (2, .int w9)] := hl
  refine lv_aload_n hx hb d_SpectrumDeskModel_cell_0 rfl (lv_at hl 0 rfl) ?_
  refine lv_iload_n hx hb d_SpectrumDeskModel_cell_1 rfl (lv_at hl 1 rfl) ?_
  refine lv_if_lt hx hb d_SpectrumDeskModel_cell_2 rfl (fun hc => ?_) (fun hc => ?_)
  · exact absurd hc h0.1
  · refine lv_iload_n hx hb d_SpectrumDeskModel_cell_5 rfl (lv_at hl 1 rfl) ?_
    refine lv_aload_n hx hb d_SpectrumDeskModel_cell_6 rfl (lv_at hl 0 rfl) ?_
    refine xr_get X I fin_M 183 (by decide) (r183 ..) rfl 5 (by decide) (List.mem_cons_of_mem _ k_b1a46e2c09) rfl rfl d_SpectrumDeskModel_cell_7 ?_
    refine lv_icmp_lt hx hb d_SpectrumDeskModel_cell_10 rfl (fun hd => ?_) (fun hd => ?_)
    · refine lv_iload_n hx hb d_SpectrumDeskModel_cell_17 rfl (lv_at hl 2 rfl) ?_
      refine lv_if_lt hx hb d_SpectrumDeskModel_cell_18 rfl (fun he => ?_) (fun he => ?_)
      · refine lv_iconst (v := nI 2) hx hb d_SpectrumDeskModel_cell_27 (by decide) ?_
        refine lv_goto hx hb d_SpectrumDeskModel_cell_28 rfl ?_
        refine xr_put (ty := .int) X I fin_M t_M t_M_ok n_M 183 (by decide) (r183 ..) rfl 4 (by decide) (List.mem_cons_of_mem _ k_90bbbe5d04) rfl rfl (by decide +kernel) rfl rfl (Nat.le_of_ble_eq_true rfl) d_SpectrumDeskModel_cell_32 (fun H locs I => ?_)
        rw [rw3_F] at I
        have I : xI D classes 193 ad s.heap (rw3 s0 ciM cI cZ (mfs ad (nI 2) (nI n) (nI rw) (nI ps) le eq) P L M) H locs := I
        refine lv_aload_n hx hb d_SpectrumDeskModel_cell_35 rfl (lv_at hl 0 rfl) ?_
        refine xr_get X I fin_M 183 (by decide) (r183 ..) rfl 4 (by decide) (List.mem_cons_of_mem _ k_90bbbe5d04) rfl rfl d_SpectrumDeskModel_cell_36 ?_
        refine lv_if_le hx hb d_SpectrumDeskModel_cell_39 rfl (fun hz => ?_) (fun hz => ?_)
        · exact absurd hz (by decide)
        · refine lv_lconst (v := 0) hx hb d_SpectrumDeskModel_cell_42 (by decide) ?_
          exact xr_lret X I hr hlk ⟨rfl, ⟨s0, G, Dg, P, L, M, Z, le, eq, rfl, h187, h188, h189, h190, h191, hfb, hB⟩⟩ d_SpectrumDeskModel_cell_43
      · refine lv_iload_n hx hb d_SpectrumDeskModel_cell_21 rfl (lv_at hl 2 rfl) ?_
        refine lv_bipush (v := nI 30) hx hb d_SpectrumDeskModel_cell_22 (by decide) ?_
        refine lv_icmp_le hx hb d_SpectrumDeskModel_cell_24 rfl (fun hf => ?_) (fun hf => ?_)
        · exact absurd h1 (fun h => h.elim he (fun h => q_le_lt hf h))
        · refine lv_iconst (v := nI 2) hx hb d_SpectrumDeskModel_cell_27 (by decide) ?_
          refine lv_goto hx hb d_SpectrumDeskModel_cell_28 rfl ?_
          refine xr_put (ty := .int) X I fin_M t_M t_M_ok n_M 183 (by decide) (r183 ..) rfl 4 (by decide) (List.mem_cons_of_mem _ k_90bbbe5d04) rfl rfl (by decide +kernel) rfl rfl (Nat.le_of_ble_eq_true rfl) d_SpectrumDeskModel_cell_32 (fun H locs I => ?_)
          rw [rw3_F] at I
          have I : xI D classes 193 ad s.heap (rw3 s0 ciM cI cZ (mfs ad (nI 2) (nI n) (nI rw) (nI ps) le eq) P L M) H locs := I
          refine lv_aload_n hx hb d_SpectrumDeskModel_cell_35 rfl (lv_at hl 0 rfl) ?_
          refine xr_get X I fin_M 183 (by decide) (r183 ..) rfl 4 (by decide) (List.mem_cons_of_mem _ k_90bbbe5d04) rfl rfl d_SpectrumDeskModel_cell_36 ?_
          refine lv_if_le hx hb d_SpectrumDeskModel_cell_39 rfl (fun hz => ?_) (fun hz => ?_)
          · exact absurd hz (by decide)
          · refine lv_lconst (v := 0) hx hb d_SpectrumDeskModel_cell_42 (by decide) ?_
            exact xr_lret X I hr hlk ⟨rfl, ⟨s0, G, Dg, P, L, M, Z, le, eq, rfl, h187, h188, h189, h190, h191, hfb, hB⟩⟩ d_SpectrumDeskModel_cell_43
    · exact absurd h0.2 hd
set_option maxHeartbeats 4000000 in
set_option maxRecDepth 100000 in
theorem c_SpectrumDeskModel_whole_bad {l : Launch} {D : va_G} {cI cJ cZ cC cG cP : ClassId} {ad : Nat → Nat} {σ σb : Nat → va_E} {th : Int32} {n : Nat} {A9 : Nat → Int32} {rw : Nat} {Dt : Nat → Int32} {ps : Nat} {Pr : Nat → Int32} (hS : mS ad cI cZ σb th n A9 rw Dt ps Pr σ) {i9 : Int32} (h1 : i9 < 0 ∨ nI n ≤ i9) :
    Met l y_SpectrumDeskModel_whole v_SpectrumDeskModel_whole (xrm 0) (va_Pc [.ref (ad 183), .int i9] (xS D classes (xT cI cJ cZ cC cG cP) 193 ad σ)) (va_Qi (fun r σ2 => r = nI 0 ∧ mS ad cI cZ σb (nI 1) n A9 rw Dt ps Pr σ2) (xS D classes (xT cI cJ cZ cC cG cP) 193 ad) (xA 193 ad)) 0 0 (xA 193 ad) := by
  obtain ⟨s0, G, Dg, P, L, M, Z, le, eq, rfl, h187, h188, h189, h190, h191, hfb, hB⟩ := hS
  refine xr_met rfl (Nat.le_of_ble_eq_true rfl) ?_
  intro p e s m args below meth c ls hx hb X hr hlk hl I
  have hl : lv_has ls 2 [(0, .ref (ad 183)), (1, .int i9)] := hl
  refine lv_aload_n hx hb d_SpectrumDeskModel_whole_0 rfl (lv_at hl 0 rfl) ?_
  refine lv_iload_n hx hb d_SpectrumDeskModel_whole_1 rfl (lv_at hl 1 rfl) ?_
  refine lv_if_lt hx hb d_SpectrumDeskModel_whole_2 rfl (fun hc => ?_) (fun hc => ?_)
  · refine lv_iconst (v := nI 1) hx hb d_SpectrumDeskModel_whole_13 (by decide) ?_
    refine lv_goto hx hb d_SpectrumDeskModel_whole_14 rfl ?_
    refine xr_put (ty := .int) X I fin_M t_M t_M_ok n_M 183 (by decide) (r183 ..) rfl 4 (by decide) (List.mem_cons_of_mem _ k_90bbbe5d04) rfl rfl (by decide +kernel) rfl rfl (Nat.le_of_ble_eq_true rfl) d_SpectrumDeskModel_whole_18 (fun H locs I => ?_)
    rw [rw3_F] at I
    have I : xI D classes 193 ad s.heap (rw3 s0 ciM cI cZ (mfs ad (nI 1) (nI n) (nI rw) (nI ps) le eq) P L M) H locs := I
    refine lv_aload_n hx hb d_SpectrumDeskModel_whole_21 rfl (lv_at hl 0 rfl) ?_
    refine xr_get X I fin_M 183 (by decide) (r183 ..) rfl 4 (by decide) (List.mem_cons_of_mem _ k_90bbbe5d04) rfl rfl d_SpectrumDeskModel_whole_22 ?_
    refine lv_if_le hx hb d_SpectrumDeskModel_whole_25 rfl (fun hz => ?_) (fun hz => ?_)
    · exact absurd hz (by decide)
    · refine lv_iconst (v := nI 0) hx hb d_SpectrumDeskModel_whole_28 (by decide) ?_
      exact xr_zret X I hr hlk (by decide +kernel) ⟨rfl, ⟨s0, G, Dg, P, L, M, Z, le, eq, rfl, h187, h188, h189, h190, h191, hfb, hB⟩⟩ d_SpectrumDeskModel_whole_29
  · refine lv_iload_n hx hb d_SpectrumDeskModel_whole_5 rfl (lv_at hl 1 rfl) ?_
    refine lv_aload_n hx hb d_SpectrumDeskModel_whole_6 rfl (lv_at hl 0 rfl) ?_
    refine xr_get X I fin_M 183 (by decide) (r183 ..) rfl 5 (by decide) (List.mem_cons_of_mem _ k_b1a46e2c09) rfl rfl d_SpectrumDeskModel_whole_7 ?_
    refine lv_icmp_lt hx hb d_SpectrumDeskModel_whole_10 rfl (fun hd => ?_) (fun hd => ?_)
    · exact absurd h1 (fun h => h.elim hc (fun h => q_le_lt h hd))
    · refine lv_iconst (v := nI 1) hx hb d_SpectrumDeskModel_whole_13 (by decide) ?_
      refine lv_goto hx hb d_SpectrumDeskModel_whole_14 rfl ?_
      refine xr_put (ty := .int) X I fin_M t_M t_M_ok n_M 183 (by decide) (r183 ..) rfl 4 (by decide) (List.mem_cons_of_mem _ k_90bbbe5d04) rfl rfl (by decide +kernel) rfl rfl (Nat.le_of_ble_eq_true rfl) d_SpectrumDeskModel_whole_18 (fun H locs I => ?_)
      rw [rw3_F] at I
      have I : xI D classes 193 ad s.heap (rw3 s0 ciM cI cZ (mfs ad (nI 1) (nI n) (nI rw) (nI ps) le eq) P L M) H locs := I
      refine lv_aload_n hx hb d_SpectrumDeskModel_whole_21 rfl (lv_at hl 0 rfl) ?_
      refine xr_get X I fin_M 183 (by decide) (r183 ..) rfl 4 (by decide) (List.mem_cons_of_mem _ k_90bbbe5d04) rfl rfl d_SpectrumDeskModel_whole_22 ?_
      refine lv_if_le hx hb d_SpectrumDeskModel_whole_25 rfl (fun hz => ?_) (fun hz => ?_)
      · exact absurd hz (by decide)
      · refine lv_iconst (v := nI 0) hx hb d_SpectrumDeskModel_whole_28 (by decide) ?_
        exact xr_zret X I hr hlk (by decide +kernel) ⟨rfl, ⟨s0, G, Dg, P, L, M, Z, le, eq, rfl, h187, h188, h189, h190, h191, hfb, hB⟩⟩ d_SpectrumDeskModel_whole_29
set_option maxHeartbeats 4000000 in
set_option maxRecDepth 100000 in
theorem c_SpectrumDeskModel_whole_ok {l : Launch} {D : va_G} {cI cJ cZ cC cG cP : ClassId} {ad : Nat → Nat} {σ σb : Nat → va_E} {th : Int32} {n : Nat} {A9 : Nat → Int32} {rw : Nat} {Dt : Nat → Int32} {ps : Nat} {Pr : Nat → Int32} (hS : mS ad cI cZ σb th n A9 rw Dt ps Pr σ) {i9 : Nat} (h1 : i9 < n) (h3 : n ≤ 6) (hAb : ∀ i j, i < 6 → j < 6 → bd 1000000 ((A9 (6 * i + j)).toInt)) :
    Met l y_SpectrumDeskModel_whole v_SpectrumDeskModel_whole (xrm 7) (va_Pc [.ref (ad 183), .int (nI i9)] (xS D classes (xT cI cJ cZ cC cG cP) 193 ad σ)) (va_Qi (fun r σ2 => ∃ x : Int64, cellP (chF (fun i j => (A9 (6 * i + j)).toInt) n (2 ^ n)) n 0 (nI i9) x ∧ r = (if ¬ nI i9 < wL x.toInt 1 n (chF (fun i j => (A9 (6 * i + j)).toInt) n (2 ^ n)) ∧ nI i9 < wL x.toInt 1 n (chF (fun i j => (A9 (6 * i + j)).toInt) n (2 ^ n)) + nI (wE x.toInt 1 n (chF (fun i j => (A9 (6 * i + j)).toInt) n (2 ^ n))) then nI 1 else nI 0) ∧ mS ad cI cZ σb (nI 0) n A9 rw Dt ps Pr σ2) (xS D classes (xT cI cJ cZ cC cG cP) 193 ad) (xA 193 ad)) 0 0 (xA 193 ad) := by
  obtain ⟨s0, G, Dg, P, L, M, Z, le, eq, rfl, h187, h188, h189, h190, h191, hfb, hB⟩ := hS
  refine xr_met rfl (Nat.le_of_ble_eq_true rfl) ?_
  intro p e s m args below meth c ls hx hb X hr hlk hl I
  have hl : lv_has ls 2 [(0, .ref (ad 183)), (1, .int (nI i9))] := hl
  refine lv_aload_n hx hb d_SpectrumDeskModel_whole_0 rfl (lv_at hl 0 rfl) ?_
  refine lv_iload_n hx hb d_SpectrumDeskModel_whole_1 rfl (lv_at hl 1 rfl) ?_
  refine lv_if_lt hx hb d_SpectrumDeskModel_whole_2 rfl (fun hc => ?_) (fun hc => ?_)
  · exact absurd hc (nI_pos (by omega))
  · refine lv_iload_n hx hb d_SpectrumDeskModel_whole_5 rfl (lv_at hl 1 rfl) ?_
    refine lv_aload_n hx hb d_SpectrumDeskModel_whole_6 rfl (lv_at hl 0 rfl) ?_
    refine xr_get X I fin_M 183 (by decide) (r183 ..) rfl 5 (by decide) (List.mem_cons_of_mem _ k_b1a46e2c09) rfl rfl d_SpectrumDeskModel_whole_7 ?_
    refine lv_icmp_lt hx hb d_SpectrumDeskModel_whole_10 rfl (fun hc => ?_) (fun hc => ?_)
    · refine lv_iconst (v := nI 0) hx hb d_SpectrumDeskModel_whole_17 (by decide) ?_
      refine xr_put (ty := .int) X I fin_M t_M t_M_ok n_M 183 (by decide) (r183 ..) rfl 4 (by decide) (List.mem_cons_of_mem _ k_90bbbe5d04) rfl rfl (by decide +kernel) rfl rfl (Nat.le_of_ble_eq_true rfl) d_SpectrumDeskModel_whole_18 (fun H locs I => ?_)
      rw [rw3_F] at I
      have I : xI D classes 193 ad s.heap (rw3 s0 ciM cI cZ (mfs ad (nI 0) (nI n) (nI rw) (nI ps) le eq) P L M) H locs := I
      refine lv_aload_n hx hb d_SpectrumDeskModel_whole_21 rfl (lv_at hl 0 rfl) ?_
      refine xr_get X I fin_M 183 (by decide) (r183 ..) rfl 4 (by decide) (List.mem_cons_of_mem _ k_90bbbe5d04) rfl rfl d_SpectrumDeskModel_whole_22 ?_
      refine lv_if_le hx hb d_SpectrumDeskModel_whole_25 rfl (fun hc => ?_) (fun hc => ?_)
      · refine lv_aload_n hx hb d_SpectrumDeskModel_whole_30 rfl (lv_at hl 0 rfl) ?_
        refine lv_aload_n hx hb d_SpectrumDeskModel_whole_31 rfl (lv_at hl 0 rfl) ?_
        refine xr_get X I fin_M 183 (by decide) (r183 ..) rfl 5 (by decide) (List.mem_cons_of_mem _ k_b1a46e2c09) rfl rfl d_SpectrumDeskModel_whole_32 ?_
        refine lv_iconst (v := nI 0) hx hb d_SpectrumDeskModel_whole_35 (by decide) ?_
        refine xr_callv (xr_runV (kc := 4) (kr := 7) (n := 2) (As := [.int (nI n), .int (nI 0)]) (rest := []) X I (by decide) (r183 ..) rfl (c_SpectrumDeskModel_characterize (k9 := n) h187 hB h3 h188 hAb) (xg k_65cc42cfc5) (List.mem_cons_of_mem _ k_b1bcd2b30f) (List.mem_cons_of_mem _ k_fa61ed523e) (List.mem_cons_of_mem _ k_f9f61292df) (List.mem_cons_of_mem _ k_30fa15c9ac) (by decide +kernel) (by decide) rfl hl.1 rfl (Nat.le_of_ble_eq_true rfl) d_SpectrumDeskModel_whole_36) I (fun σ9 H locs hp I => ?_)
        obtain ⟨Pc, Lc, Mc, Zc, rfl, hBc, hZc, hZo⟩ := hp
        refine lv_aload_n hx hb d_SpectrumDeskModel_whole_39 rfl (lv_at hl 0 rfl) ?_
        refine lv_bipush (v := nI 108) hx hb d_SpectrumDeskModel_whole_40 (by decide) ?_
        refine lv_aload_n hx hb d_SpectrumDeskModel_whole_42 rfl (lv_at hl 0 rfl) ?_
        refine lv_iload_n hx hb d_SpectrumDeskModel_whole_43 rfl (lv_at hl 1 rfl) ?_
        refine lv_iconst (v := nI 0) hx hb d_SpectrumDeskModel_whole_44 (by decide) ?_
        refine xr_calll (xr_runV (kc := 6) (kr := 7) (n := 2) (As := [.int (nI i9), .int (nI 0)]) (rest := [.int (nI 108), .ref (ad 183)]) X I (by decide) (r183 ..) rfl (c_SpectrumDeskModel_cellOf (dd := n) (w9 := 0) (p0 := (chF (fun i j => (A9 (6 * i + j)).toInt) n (2 ^ n))) (i := nI i9) (va_up_self _ _ _) hBc (by decide) h3 upd_s hZc (fun k _ => bd_up (by decide) (chF_sm hAb (Nat.pow_le_pow_right (by decide) h3 (n := 2))))) (xg k_f126756040) (List.mem_cons_of_mem _ k_8d731b7043) (List.mem_cons_of_mem _ k_2cbf681f5a) (List.mem_cons_of_mem _ k_9c8bf9c5aa) (List.mem_cons_of_mem _ k_30fa15c9ac) (by decide +kernel) (by decide) rfl hl.1 rfl (Nat.le_of_ble_eq_true rfl) d_SpectrumDeskModel_whole_45) I (fun x σ9 H locs hp I => ?_)
        obtain ⟨hcl9, se, Ge, Pe, Le, Me, Ze, lee, eqe, rfl, hGe, hse, hge, hBe, hze⟩ := hp
        refine xr_callv (xr_runV (kc := 0) (kr := 7) (n := 2) (As := [.int (nI 108), .long x]) (rest := []) X I (by decide) (r183 ..) rfl (c_SpectrumDeskModel_bigSet (w := 108) (v := x) mfs_ok (by decide)) (xg k_5f300b8d49) (List.mem_cons_of_mem _ k_7a89662665) (List.mem_cons_of_mem _ k_203da126f2) (List.mem_cons_of_mem _ k_e2b6114fa3) (List.mem_cons_of_mem _ k_30fa15c9ac) (by decide +kernel) (by decide) rfl hl.1 rfl (Nat.le_of_ble_eq_true rfl) d_SpectrumDeskModel_whole_48) I (fun σ9 H locs hp I => ?_)
        obtain ⟨P5, L5, M5, rfl, hf5, hx5⟩ := hp
        have hB5 := RB_up hBe hf5 hx5
        generalize eZ5 : va_up Ze 108 x.toInt = Z5 at hB5
        refine lv_aload_n hx hb d_SpectrumDeskModel_whole_51 rfl (lv_at hl 0 rfl) ?_
        refine lv_bipush (v := nI 109) hx hb d_SpectrumDeskModel_whole_52 (by decide) ?_
        refine lv_lconst (v := 1) hx hb d_SpectrumDeskModel_whole_54 (by decide) ?_
        refine xr_callv (xr_runV (kc := 0) (kr := 7) (n := 2) (As := [.int (nI 109), .long 1]) (rest := []) X I (by decide) (r183 ..) rfl (c_SpectrumDeskModel_bigSet (w := 109) (v := (1 : Int64)) mfs_ok (by decide)) (xg k_5f300b8d49) (List.mem_cons_of_mem _ k_7a89662665) (List.mem_cons_of_mem _ k_203da126f2) (List.mem_cons_of_mem _ k_e2b6114fa3) (List.mem_cons_of_mem _ k_30fa15c9ac) (by decide +kernel) (by decide) rfl hl.1 rfl (Nat.le_of_ble_eq_true rfl) d_SpectrumDeskModel_whole_55) I (fun σ9 H locs hp I => ?_)
        obtain ⟨P6, L6, M6, rfl, hf6, hx6⟩ := hp
        have hB6 := RB_up hB5 hf6 hx6
        generalize eZ6 : va_up Z5 109 ((1 : Int64)).toInt = Z6 at hB6
        have z108 : Z6 108 = x.toInt := by rw [← eZ6, va_up_ne _ _ (by decide), ← eZ5, va_up_self]
        have z109 : Z6 109 = 1 := by rw [← eZ6, va_up_self]; decide
        have hpp : ∀ k, k ≤ n → Z6 (8 * 0 + k) = (chF (fun i j => (A9 (6 * i + j)).toInt) n (2 ^ n)) k := fun k hk => by rw [Nat.mul_zero, Nat.zero_add, ← eZ6, va_up_ne _ _ (by omega), ← eZ5, va_up_ne _ _ (by omega)]; exact (hze k (by omega)).trans (hZc k hk)
        have hH : wH (Z6 108) (Z6 109) n (chF (fun i j => (A9 (6 * i + j)).toInt) n (2 ^ n)) := by rw [z108, z109]; exact wH_of (by omega) (bd_64 x) (bd_53 (by decide) (by decide)) (fun k _ => bd_up (by decide) (chF_sm hAb (Nat.pow_le_pow_right (by decide) h3 (n := 2))))
        refine lv_aload_n hx hb d_SpectrumDeskModel_whole_58 rfl (lv_at hl 0 rfl) ?_
        refine lv_iconst (v := nI 0) hx hb d_SpectrumDeskModel_whole_59 (by decide) ?_
        refine xr_callv (xr_runV (kc := 3) (kr := 7) (n := 1) (As := [.int (nI 0)]) (rest := []) X I (by decide) (r183 ..) rfl (c_SpectrumDeskModel_weigh (b := 0) (dd := n) (p0 := (chF (fun i j => (A9 (6 * i + j)).toInt) n (2 ^ n))) hGe hB6 (by decide) h3 ((hge 0 (by decide)).trans upd_s) hpp hH.1 hH.2.1 hH.2.2.1 hH.2.2.2) (xg k_0500b0c175) (List.mem_cons_of_mem _ k_608a9280a6) (List.mem_cons_of_mem _ k_9be29ce48e) (List.mem_cons_of_mem _ k_f13629996f) (List.mem_cons_of_mem _ k_30fa15c9ac) (by decide +kernel) (by decide) rfl hl.1 rfl (Nat.le_of_ble_eq_true rfl) d_SpectrumDeskModel_whole_60) I (fun σ9 H locs hp I => ?_)
        obtain ⟨Pw, Lw, Mw, Zw, rfl, hBw, hEw⟩ := hp
        rw [z108, z109] at I
        have I : xI D classes 193 ad s.heap (rw3 (va_up se 187 (.inl (cI, 5, .inl (upd Ge 4 (nI n))))) ciM cI cZ (mfs ad (nI 0) (nI n) (nI rw) (nI ps) (wL (x.toInt) 1 n (chF (fun i j => (A9 (6 * i + j)).toInt) n (2 ^ n))) (nI (wE (x.toInt) 1 n (chF (fun i j => (A9 (6 * i + j)).toInt) n (2 ^ n))))) Pw Lw Mw) H locs := I
        refine lv_iload_n hx hb d_SpectrumDeskModel_whole_63 rfl (lv_at hl 1 rfl) ?_
        refine lv_aload_n hx hb d_SpectrumDeskModel_whole_64 rfl (lv_at hl 0 rfl) ?_
        refine xr_get X I fin_M 183 (by decide) (r183 ..) rfl 12 (by decide) (List.mem_cons_of_mem _ k_15947873ae) rfl rfl d_SpectrumDeskModel_whole_65 ?_
        refine lv_icmp_lt hx hb d_SpectrumDeskModel_whole_68 rfl (fun hg => ?_) (fun hg => ?_)
        · refine lv_iconst (v := nI 0) hx hb d_SpectrumDeskModel_whole_88 (by decide) ?_
          exact xr_zret X I hr hlk (by decide +kernel) ⟨x, hcl9, by rw [if_neg (fun h => h.1 hg)], ⟨va_up se 187 (.inl (cI, 5, .inl (upd Ge 4 (nI n)))), (upd Ge 4 (nI n)), Dg, Pw, Lw, Mw, Zw, wL (x.toInt) 1 n (chF (fun i j => (A9 (6 * i + j)).toInt) n (2 ^ n)), nI (wE (x.toInt) 1 n (chF (fun i j => (A9 (6 * i + j)).toInt) n (2 ^ n))), rfl, (va_up_self _ _ _), ((va_up_ne _ _ (by decide)).trans ((hse _ (by decide)).trans ((va_up_ne _ _ (by decide)).trans h188))), ((va_up_ne _ _ (by decide)).trans ((hse _ (by decide)).trans ((va_up_ne _ _ (by decide)).trans h189))), ((va_up_ne _ _ (by decide)).trans ((hse _ (by decide)).trans ((va_up_ne _ _ (by decide)).trans h190))), ((va_up_ne _ _ (by decide)).trans ((hse _ (by decide)).trans ((va_up_ne _ _ (by decide)).trans h191))), (fun q hq => (va_up_ne _ _ (by omega)).trans ((fun q hq => (hse q (by omega)).trans ((fun q hq => (va_up_ne _ _ (by omega)).trans (hfb q hq)) q hq)) q hq)), hBw⟩⟩ d_SpectrumDeskModel_whole_89
        · refine lv_iload_n hx hb d_SpectrumDeskModel_whole_71 rfl (lv_at hl 1 rfl) ?_
          refine lv_aload_n hx hb d_SpectrumDeskModel_whole_72 rfl (lv_at hl 0 rfl) ?_
          refine xr_get X I fin_M 183 (by decide) (r183 ..) rfl 12 (by decide) (List.mem_cons_of_mem _ k_15947873ae) rfl rfl d_SpectrumDeskModel_whole_73 ?_
          refine lv_aload_n hx hb d_SpectrumDeskModel_whole_76 rfl (lv_at hl 0 rfl) ?_
          refine xr_get X I fin_M 183 (by decide) (r183 ..) rfl 13 (by decide) (List.mem_cons_of_mem _ k_e06fbbb633) rfl rfl d_SpectrumDeskModel_whole_77 ?_
          refine lv_iadd hx hb d_SpectrumDeskModel_whole_80 ?_
          refine lv_icmp_ge hx hb d_SpectrumDeskModel_whole_81 rfl (fun hh => ?_) (fun hh => ?_)
          · refine lv_iconst (v := nI 0) hx hb d_SpectrumDeskModel_whole_88 (by decide) ?_
            exact xr_zret X I hr hlk (by decide +kernel) ⟨x, hcl9, by rw [if_neg (fun h => q_le_lt hh h.2)], ⟨va_up se 187 (.inl (cI, 5, .inl (upd Ge 4 (nI n)))), (upd Ge 4 (nI n)), Dg, Pw, Lw, Mw, Zw, wL (x.toInt) 1 n (chF (fun i j => (A9 (6 * i + j)).toInt) n (2 ^ n)), nI (wE (x.toInt) 1 n (chF (fun i j => (A9 (6 * i + j)).toInt) n (2 ^ n))), rfl, (va_up_self _ _ _), ((va_up_ne _ _ (by decide)).trans ((hse _ (by decide)).trans ((va_up_ne _ _ (by decide)).trans h188))), ((va_up_ne _ _ (by decide)).trans ((hse _ (by decide)).trans ((va_up_ne _ _ (by decide)).trans h189))), ((va_up_ne _ _ (by decide)).trans ((hse _ (by decide)).trans ((va_up_ne _ _ (by decide)).trans h190))), ((va_up_ne _ _ (by decide)).trans ((hse _ (by decide)).trans ((va_up_ne _ _ (by decide)).trans h191))), (fun q hq => (va_up_ne _ _ (by omega)).trans ((fun q hq => (hse q (by omega)).trans ((fun q hq => (va_up_ne _ _ (by omega)).trans (hfb q hq)) q hq)) q hq)), hBw⟩⟩ d_SpectrumDeskModel_whole_89
          · refine lv_iconst (v := nI 1) hx hb d_SpectrumDeskModel_whole_84 (by decide) ?_
            refine lv_goto hx hb d_SpectrumDeskModel_whole_85 rfl ?_
            exact xr_zret X I hr hlk (by decide +kernel) ⟨x, hcl9, by rw [if_pos ⟨hg, q_nge hh⟩], ⟨va_up se 187 (.inl (cI, 5, .inl (upd Ge 4 (nI n)))), (upd Ge 4 (nI n)), Dg, Pw, Lw, Mw, Zw, wL (x.toInt) 1 n (chF (fun i j => (A9 (6 * i + j)).toInt) n (2 ^ n)), nI (wE (x.toInt) 1 n (chF (fun i j => (A9 (6 * i + j)).toInt) n (2 ^ n))), rfl, (va_up_self _ _ _), ((va_up_ne _ _ (by decide)).trans ((hse _ (by decide)).trans ((va_up_ne _ _ (by decide)).trans h188))), ((va_up_ne _ _ (by decide)).trans ((hse _ (by decide)).trans ((va_up_ne _ _ (by decide)).trans h189))), ((va_up_ne _ _ (by decide)).trans ((hse _ (by decide)).trans ((va_up_ne _ _ (by decide)).trans h190))), ((va_up_ne _ _ (by decide)).trans ((hse _ (by decide)).trans ((va_up_ne _ _ (by decide)).trans h191))), (fun q hq => (va_up_ne _ _ (by omega)).trans ((fun q hq => (hse q (by omega)).trans ((fun q hq => (va_up_ne _ _ (by omega)).trans (hfb q hq)) q hq)) q hq)), hBw⟩⟩ d_SpectrumDeskModel_whole_89
      · exact absurd (by decide) hc
    · exact absurd (nI_lt h1 (by omega)) hc
end
