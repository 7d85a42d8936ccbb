/-! the reference: sizeOf, placeOf, findMinor (written by wip/gen) -/
abbrev b_SpectrumDeskModel_sizeOf : ByteArray := prog_10_method_31_code
abbrev y_SpectrumDeskModel_sizeOf : MethodName := ⟨"SpectrumDeskModel", "sizeOf", "(I)I"⟩
abbrev v_SpectrumDeskModel_sizeOf : List Cond := Cond.code y_SpectrumDeskModel_sizeOf b_SpectrumDeskModel_sizeOf 3 (some .int) :: AW
theorem d_SpectrumDeskModel_sizeOf_0 : decode b_SpectrumDeskModel_sizeOf 0 = .ok (.iconst 0, 1) := by decide +kernel
theorem d_SpectrumDeskModel_sizeOf_1 : decode b_SpectrumDeskModel_sizeOf 1 = .ok (.istore_n 1, 1) := by decide +kernel
theorem d_SpectrumDeskModel_sizeOf_2 : decode b_SpectrumDeskModel_sizeOf 2 = .ok (.iconst 0, 1) := by decide +kernel
theorem d_SpectrumDeskModel_sizeOf_3 : decode b_SpectrumDeskModel_sizeOf 3 = .ok (.istore_n 2, 1) := by decide +kernel
theorem d_SpectrumDeskModel_sizeOf_4 : decode b_SpectrumDeskModel_sizeOf 4 = .ok (.iload_n 2, 1) := by decide +kernel
theorem d_SpectrumDeskModel_sizeOf_5 : decode b_SpectrumDeskModel_sizeOf 5 = .ok (.bipush (6), 2) := by decide +kernel
theorem d_SpectrumDeskModel_sizeOf_7 : decode b_SpectrumDeskModel_sizeOf 7 = .ok (.if_icmp .ge (17), 3) := by decide +kernel
theorem d_SpectrumDeskModel_sizeOf_10 : decode b_SpectrumDeskModel_sizeOf 10 = .ok (.iload_n 1, 1) := by decide +kernel
theorem d_SpectrumDeskModel_sizeOf_11 : decode b_SpectrumDeskModel_sizeOf 11 = .ok (.iload_n 0, 1) := by decide +kernel
theorem d_SpectrumDeskModel_sizeOf_12 : decode b_SpectrumDeskModel_sizeOf 12 = .ok (.iload_n 2, 1) := by decide +kernel
theorem d_SpectrumDeskModel_sizeOf_13 : decode b_SpectrumDeskModel_sizeOf 13 = .ok (.ishr, 1) := by decide +kernel
theorem d_SpectrumDeskModel_sizeOf_14 : decode b_SpectrumDeskModel_sizeOf 14 = .ok (.iconst 1, 1) := by decide +kernel
theorem d_SpectrumDeskModel_sizeOf_15 : decode b_SpectrumDeskModel_sizeOf 15 = .ok (.iand, 1) := by decide +kernel
theorem d_SpectrumDeskModel_sizeOf_16 : decode b_SpectrumDeskModel_sizeOf 16 = .ok (.iadd, 1) := by decide +kernel
theorem d_SpectrumDeskModel_sizeOf_17 : decode b_SpectrumDeskModel_sizeOf 17 = .ok (.istore_n 1, 1) := by decide +kernel
theorem d_SpectrumDeskModel_sizeOf_18 : decode b_SpectrumDeskModel_sizeOf 18 = .ok (.iinc 2 (1), 3) := by decide +kernel
theorem d_SpectrumDeskModel_sizeOf_21 : decode b_SpectrumDeskModel_sizeOf 21 = .ok (.goto (-17), 3) := by decide +kernel
theorem d_SpectrumDeskModel_sizeOf_24 : decode b_SpectrumDeskModel_sizeOf 24 = .ok (.iload_n 1, 1) := by decide +kernel
theorem d_SpectrumDeskModel_sizeOf_25 : decode b_SpectrumDeskModel_sizeOf 25 = .ok (.ireturn, 1) := by decide +kernel
abbrev b_SpectrumDeskModel_placeOf : ByteArray := prog_10_method_33_code
abbrev y_SpectrumDeskModel_placeOf : MethodName := ⟨"SpectrumDeskModel", "placeOf", "(II)I"⟩
abbrev v_SpectrumDeskModel_placeOf : List Cond := Cond.code y_SpectrumDeskModel_placeOf b_SpectrumDeskModel_placeOf 5 (some .int) :: AW
theorem d_SpectrumDeskModel_placeOf_0 : decode b_SpectrumDeskModel_placeOf 0 = .ok (.iconst 0, 1) := by decide +kernel
theorem d_SpectrumDeskModel_placeOf_1 : decode b_SpectrumDeskModel_placeOf 1 = .ok (.istore_n 2, 1) := by decide +kernel
theorem d_SpectrumDeskModel_placeOf_2 : decode b_SpectrumDeskModel_placeOf 2 = .ok (.iconst 0, 1) := by decide +kernel
theorem d_SpectrumDeskModel_placeOf_3 : decode b_SpectrumDeskModel_placeOf 3 = .ok (.istore_n 3, 1) := by decide +kernel
theorem d_SpectrumDeskModel_placeOf_4 : decode b_SpectrumDeskModel_placeOf 4 = .ok (.iconst 0, 1) := by decide +kernel
theorem d_SpectrumDeskModel_placeOf_5 : decode b_SpectrumDeskModel_placeOf 5 = .ok (.istore 4, 2) := by decide +kernel
theorem d_SpectrumDeskModel_placeOf_7 : decode b_SpectrumDeskModel_placeOf 7 = .ok (.iload 4, 2) := by decide +kernel
theorem d_SpectrumDeskModel_placeOf_9 : decode b_SpectrumDeskModel_placeOf 9 = .ok (.bipush (6), 2) := by decide +kernel
theorem d_SpectrumDeskModel_placeOf_11 : decode b_SpectrumDeskModel_placeOf 11 = .ok (.if_icmp .ge (34), 3) := by decide +kernel
theorem d_SpectrumDeskModel_placeOf_14 : decode b_SpectrumDeskModel_placeOf 14 = .ok (.iload_n 0, 1) := by decide +kernel
theorem d_SpectrumDeskModel_placeOf_15 : decode b_SpectrumDeskModel_placeOf 15 = .ok (.iload 4, 2) := by decide +kernel
theorem d_SpectrumDeskModel_placeOf_17 : decode b_SpectrumDeskModel_placeOf 17 = .ok (.ishr, 1) := by decide +kernel
theorem d_SpectrumDeskModel_placeOf_18 : decode b_SpectrumDeskModel_placeOf 18 = .ok (.iconst 1, 1) := by decide +kernel
theorem d_SpectrumDeskModel_placeOf_19 : decode b_SpectrumDeskModel_placeOf 19 = .ok (.iand, 1) := by decide +kernel
theorem d_SpectrumDeskModel_placeOf_20 : decode b_SpectrumDeskModel_placeOf 20 = .ok (.iconst 1, 1) := by decide +kernel
theorem d_SpectrumDeskModel_placeOf_21 : decode b_SpectrumDeskModel_placeOf 21 = .ok (.if_icmp .ne (18), 3) := by decide +kernel
theorem d_SpectrumDeskModel_placeOf_24 : decode b_SpectrumDeskModel_placeOf 24 = .ok (.iload_n 3, 1) := by decide +kernel
theorem d_SpectrumDeskModel_placeOf_25 : decode b_SpectrumDeskModel_placeOf 25 = .ok (.iload_n 1, 1) := by decide +kernel
theorem d_SpectrumDeskModel_placeOf_26 : decode b_SpectrumDeskModel_placeOf 26 = .ok (.if_icmp .ne (8), 3) := by decide +kernel
theorem d_SpectrumDeskModel_placeOf_29 : decode b_SpectrumDeskModel_placeOf 29 = .ok (.iload 4, 2) := by decide +kernel
theorem d_SpectrumDeskModel_placeOf_31 : decode b_SpectrumDeskModel_placeOf 31 = .ok (.goto (4), 3) := by decide +kernel
theorem d_SpectrumDeskModel_placeOf_34 : decode b_SpectrumDeskModel_placeOf 34 = .ok (.iload_n 2, 1) := by decide +kernel
theorem d_SpectrumDeskModel_placeOf_35 : decode b_SpectrumDeskModel_placeOf 35 = .ok (.istore_n 2, 1) := by decide +kernel
theorem d_SpectrumDeskModel_placeOf_36 : decode b_SpectrumDeskModel_placeOf 36 = .ok (.iinc 3 (1), 3) := by decide +kernel
theorem d_SpectrumDeskModel_placeOf_39 : decode b_SpectrumDeskModel_placeOf 39 = .ok (.iinc 4 (1), 3) := by decide +kernel
theorem d_SpectrumDeskModel_placeOf_42 : decode b_SpectrumDeskModel_placeOf 42 = .ok (.goto (-35), 3) := by decide +kernel
theorem d_SpectrumDeskModel_placeOf_45 : decode b_SpectrumDeskModel_placeOf 45 = .ok (.iload_n 2, 1) := by decide +kernel
theorem d_SpectrumDeskModel_placeOf_46 : decode b_SpectrumDeskModel_placeOf 46 = .ok (.ireturn, 1) := by decide +kernel
abbrev b_SpectrumDeskModel_findMinor : ByteArray := prog_10_method_32_code
abbrev y_SpectrumDeskModel_findMinor : MethodName := ⟨"SpectrumDeskModel", "findMinor", "(I)V"⟩
abbrev v_SpectrumDeskModel_findMinor : List Cond := Cond.code y_SpectrumDeskModel_findMinor b_SpectrumDeskModel_findMinor 7 none :: AW
theorem d_SpectrumDeskModel_findMinor_0 : decode b_SpectrumDeskModel_findMinor 0 = .ok (.iconst 0, 1) := by decide +kernel
theorem d_SpectrumDeskModel_findMinor_1 : decode b_SpectrumDeskModel_findMinor 1 = .ok (.istore_n 2, 1) := by decide +kernel
theorem d_SpectrumDeskModel_findMinor_2 : decode b_SpectrumDeskModel_findMinor 2 = .ok (.iload_n 2, 1) := by decide +kernel
theorem d_SpectrumDeskModel_findMinor_3 : decode b_SpectrumDeskModel_findMinor 3 = .ok (.iload_n 1, 1) := by decide +kernel
theorem d_SpectrumDeskModel_findMinor_4 : decode b_SpectrumDeskModel_findMinor 4 = .ok (.if_icmp .gt (145), 3) := by decide +kernel
theorem d_SpectrumDeskModel_findMinor_7 : decode b_SpectrumDeskModel_findMinor 7 = .ok (.iload_n 2, 1) := by decide +kernel
theorem d_SpectrumDeskModel_findMinor_8 : decode b_SpectrumDeskModel_findMinor 8 = .ok (.iload_n 1, 1) := by decide +kernel
theorem d_SpectrumDeskModel_findMinor_9 : decode b_SpectrumDeskModel_findMinor 9 = .ok (.iand, 1) := by decide +kernel
theorem d_SpectrumDeskModel_findMinor_10 : decode b_SpectrumDeskModel_findMinor 10 = .ok (.iload_n 2, 1) := by decide +kernel
theorem d_SpectrumDeskModel_findMinor_11 : decode b_SpectrumDeskModel_findMinor 11 = .ok (.if_icmp .ne (132), 3) := by decide +kernel
theorem d_SpectrumDeskModel_findMinor_14 : decode b_SpectrumDeskModel_findMinor 14 = .ok (.iload_n 2, 1) := by decide +kernel
theorem d_SpectrumDeskModel_findMinor_15 : decode b_SpectrumDeskModel_findMinor 15 = .ok (.invokestatic 101, 3) := by decide +kernel
theorem d_SpectrumDeskModel_findMinor_18 : decode b_SpectrumDeskModel_findMinor 18 = .ok (.istore_n 3, 1) := by decide +kernel
theorem d_SpectrumDeskModel_findMinor_19 : decode b_SpectrumDeskModel_findMinor 19 = .ok (.aload_n 0, 1) := by decide +kernel
theorem d_SpectrumDeskModel_findMinor_20 : decode b_SpectrumDeskModel_findMinor 20 = .ok (.bipush (40), 2) := by decide +kernel
theorem d_SpectrumDeskModel_findMinor_22 : decode b_SpectrumDeskModel_findMinor 22 = .ok (.iload_n 2, 1) := by decide +kernel
theorem d_SpectrumDeskModel_findMinor_23 : decode b_SpectrumDeskModel_findMinor 23 = .ok (.iadd, 1) := by decide +kernel
theorem d_SpectrumDeskModel_findMinor_24 : decode b_SpectrumDeskModel_findMinor 24 = .ok (.iload_n 3, 1) := by decide +kernel
theorem d_SpectrumDeskModel_findMinor_25 : decode b_SpectrumDeskModel_findMinor 25 = .ok (.ifCond .ne (7), 3) := by decide +kernel
theorem d_SpectrumDeskModel_findMinor_28 : decode b_SpectrumDeskModel_findMinor 28 = .ok (.lconst 1, 1) := by decide +kernel
theorem d_SpectrumDeskModel_findMinor_29 : decode b_SpectrumDeskModel_findMinor 29 = .ok (.goto (4), 3) := by decide +kernel
theorem d_SpectrumDeskModel_findMinor_32 : decode b_SpectrumDeskModel_findMinor 32 = .ok (.lconst 0, 1) := by decide +kernel
theorem d_SpectrumDeskModel_findMinor_33 : decode b_SpectrumDeskModel_findMinor 33 = .ok (.invokevirtual 104, 3) := by decide +kernel
theorem d_SpectrumDeskModel_findMinor_36 : decode b_SpectrumDeskModel_findMinor 36 = .ok (.iload_n 1, 1) := by decide +kernel
theorem d_SpectrumDeskModel_findMinor_37 : decode b_SpectrumDeskModel_findMinor 37 = .ok (.iload_n 3, 1) := by decide +kernel
theorem d_SpectrumDeskModel_findMinor_38 : decode b_SpectrumDeskModel_findMinor 38 = .ok (.iconst 1, 1) := by decide +kernel
theorem d_SpectrumDeskModel_findMinor_39 : decode b_SpectrumDeskModel_findMinor 39 = .ok (.isub, 1) := by decide +kernel
theorem d_SpectrumDeskModel_findMinor_40 : decode b_SpectrumDeskModel_findMinor 40 = .ok (.invokestatic 108, 3) := by decide +kernel
theorem d_SpectrumDeskModel_findMinor_43 : decode b_SpectrumDeskModel_findMinor 43 = .ok (.istore 4, 2) := by decide +kernel
theorem d_SpectrumDeskModel_findMinor_45 : decode b_SpectrumDeskModel_findMinor 45 = .ok (.iconst 0, 1) := by decide +kernel
theorem d_SpectrumDeskModel_findMinor_46 : decode b_SpectrumDeskModel_findMinor 46 = .ok (.istore 5, 2) := by decide +kernel
theorem d_SpectrumDeskModel_findMinor_48 : decode b_SpectrumDeskModel_findMinor 48 = .ok (.iconst 0, 1) := by decide +kernel
theorem d_SpectrumDeskModel_findMinor_49 : decode b_SpectrumDeskModel_findMinor 49 = .ok (.istore 6, 2) := by decide +kernel
theorem d_SpectrumDeskModel_findMinor_51 : decode b_SpectrumDeskModel_findMinor 51 = .ok (.iload 6, 2) := by decide +kernel
theorem d_SpectrumDeskModel_findMinor_53 : decode b_SpectrumDeskModel_findMinor 53 = .ok (.bipush (6), 2) := by decide +kernel
theorem d_SpectrumDeskModel_findMinor_55 : decode b_SpectrumDeskModel_findMinor 55 = .ok (.if_icmp .ge (88), 3) := by decide +kernel
theorem d_SpectrumDeskModel_findMinor_58 : decode b_SpectrumDeskModel_findMinor 58 = .ok (.iload_n 2, 1) := by decide +kernel
theorem d_SpectrumDeskModel_findMinor_59 : decode b_SpectrumDeskModel_findMinor 59 = .ok (.iload 6, 2) := by decide +kernel
theorem d_SpectrumDeskModel_findMinor_61 : decode b_SpectrumDeskModel_findMinor 61 = .ok (.ishr, 1) := by decide +kernel
theorem d_SpectrumDeskModel_findMinor_62 : decode b_SpectrumDeskModel_findMinor 62 = .ok (.iconst 1, 1) := by decide +kernel
theorem d_SpectrumDeskModel_findMinor_63 : decode b_SpectrumDeskModel_findMinor 63 = .ok (.iand, 1) := by decide +kernel
theorem d_SpectrumDeskModel_findMinor_64 : decode b_SpectrumDeskModel_findMinor 64 = .ok (.iconst 1, 1) := by decide +kernel
theorem d_SpectrumDeskModel_findMinor_65 : decode b_SpectrumDeskModel_findMinor 65 = .ok (.if_icmp .ne (72), 3) := by decide +kernel
theorem d_SpectrumDeskModel_findMinor_68 : decode b_SpectrumDeskModel_findMinor 68 = .ok (.aload_n 0, 1) := by decide +kernel
theorem d_SpectrumDeskModel_findMinor_69 : decode b_SpectrumDeskModel_findMinor 69 = .ok (.bipush (104), 2) := by decide +kernel
theorem d_SpectrumDeskModel_findMinor_71 : decode b_SpectrumDeskModel_findMinor 71 = .ok (.aload_n 0, 1) := by decide +kernel
theorem d_SpectrumDeskModel_findMinor_72 : decode b_SpectrumDeskModel_findMinor 72 = .ok (.getfield 67, 3) := by decide +kernel
theorem d_SpectrumDeskModel_findMinor_75 : decode b_SpectrumDeskModel_findMinor 75 = .ok (.bipush (6), 2) := by decide +kernel
theorem d_SpectrumDeskModel_findMinor_77 : decode b_SpectrumDeskModel_findMinor 77 = .ok (.iload 6, 2) := by decide +kernel
theorem d_SpectrumDeskModel_findMinor_79 : decode b_SpectrumDeskModel_findMinor 79 = .ok (.imul, 1) := by decide +kernel
theorem d_SpectrumDeskModel_findMinor_80 : decode b_SpectrumDeskModel_findMinor 80 = .ok (.iload 4, 2) := by decide +kernel
theorem d_SpectrumDeskModel_findMinor_82 : decode b_SpectrumDeskModel_findMinor 82 = .ok (.iadd, 1) := by decide +kernel
theorem d_SpectrumDeskModel_findMinor_83 : decode b_SpectrumDeskModel_findMinor 83 = .ok (.iaload, 1) := by decide +kernel
theorem d_SpectrumDeskModel_findMinor_84 : decode b_SpectrumDeskModel_findMinor 84 = .ok (.i2l, 1) := by decide +kernel
theorem d_SpectrumDeskModel_findMinor_85 : decode b_SpectrumDeskModel_findMinor 85 = .ok (.invokevirtual 104, 3) := by decide +kernel
theorem d_SpectrumDeskModel_findMinor_88 : decode b_SpectrumDeskModel_findMinor 88 = .ok (.aload_n 0, 1) := by decide +kernel
theorem d_SpectrumDeskModel_findMinor_89 : decode b_SpectrumDeskModel_findMinor 89 = .ok (.bipush (105), 2) := by decide +kernel
theorem d_SpectrumDeskModel_findMinor_91 : decode b_SpectrumDeskModel_findMinor 91 = .ok (.bipush (104), 2) := by decide +kernel
theorem d_SpectrumDeskModel_findMinor_93 : decode b_SpectrumDeskModel_findMinor 93 = .ok (.bipush (40), 2) := by decide +kernel
theorem d_SpectrumDeskModel_findMinor_95 : decode b_SpectrumDeskModel_findMinor 95 = .ok (.iload_n 2, 1) := by decide +kernel
theorem d_SpectrumDeskModel_findMinor_96 : decode b_SpectrumDeskModel_findMinor 96 = .ok (.iconst 1, 1) := by decide +kernel
theorem d_SpectrumDeskModel_findMinor_97 : decode b_SpectrumDeskModel_findMinor 97 = .ok (.iload 6, 2) := by decide +kernel
theorem d_SpectrumDeskModel_findMinor_99 : decode b_SpectrumDeskModel_findMinor 99 = .ok (.ishl, 1) := by decide +kernel
theorem d_SpectrumDeskModel_findMinor_100 : decode b_SpectrumDeskModel_findMinor 100 = .ok (.iconst (-1), 1) := by decide +kernel
theorem d_SpectrumDeskModel_findMinor_101 : decode b_SpectrumDeskModel_findMinor 101 = .ok (.ixor, 1) := by decide +kernel
theorem d_SpectrumDeskModel_findMinor_102 : decode b_SpectrumDeskModel_findMinor 102 = .ok (.iand, 1) := by decide +kernel
theorem d_SpectrumDeskModel_findMinor_103 : decode b_SpectrumDeskModel_findMinor 103 = .ok (.iadd, 1) := by decide +kernel
theorem d_SpectrumDeskModel_findMinor_104 : decode b_SpectrumDeskModel_findMinor 104 = .ok (.invokevirtual 111, 3) := by decide +kernel
theorem d_SpectrumDeskModel_findMinor_107 : decode b_SpectrumDeskModel_findMinor 107 = .ok (.aload_n 0, 1) := by decide +kernel
theorem d_SpectrumDeskModel_findMinor_108 : decode b_SpectrumDeskModel_findMinor 108 = .ok (.bipush (40), 2) := by decide +kernel
theorem d_SpectrumDeskModel_findMinor_110 : decode b_SpectrumDeskModel_findMinor 110 = .ok (.iload_n 2, 1) := by decide +kernel
theorem d_SpectrumDeskModel_findMinor_111 : decode b_SpectrumDeskModel_findMinor 111 = .ok (.iadd, 1) := by decide +kernel
theorem d_SpectrumDeskModel_findMinor_112 : decode b_SpectrumDeskModel_findMinor 112 = .ok (.bipush (105), 2) := by decide +kernel
theorem d_SpectrumDeskModel_findMinor_114 : decode b_SpectrumDeskModel_findMinor 114 = .ok (.iload 5, 2) := by decide +kernel
theorem d_SpectrumDeskModel_findMinor_116 : decode b_SpectrumDeskModel_findMinor 116 = .ok (.iload_n 3, 1) := by decide +kernel
theorem d_SpectrumDeskModel_findMinor_117 : decode b_SpectrumDeskModel_findMinor 117 = .ok (.iadd, 1) := by decide +kernel
theorem d_SpectrumDeskModel_findMinor_118 : decode b_SpectrumDeskModel_findMinor 118 = .ok (.iconst 1, 1) := by decide +kernel
theorem d_SpectrumDeskModel_findMinor_119 : decode b_SpectrumDeskModel_findMinor 119 = .ok (.isub, 1) := by decide +kernel
theorem d_SpectrumDeskModel_findMinor_120 : decode b_SpectrumDeskModel_findMinor 120 = .ok (.iconst 2, 1) := by decide +kernel
theorem d_SpectrumDeskModel_findMinor_121 : decode b_SpectrumDeskModel_findMinor 121 = .ok (.irem, 1) := by decide +kernel
theorem d_SpectrumDeskModel_findMinor_122 : decode b_SpectrumDeskModel_findMinor 122 = .ok (.iconst 1, 1) := by decide +kernel
theorem d_SpectrumDeskModel_findMinor_123 : decode b_SpectrumDeskModel_findMinor 123 = .ok (.if_icmp .ne (7), 3) := by decide +kernel
theorem d_SpectrumDeskModel_findMinor_126 : decode b_SpectrumDeskModel_findMinor 126 = .ok (.iconst 1, 1) := by decide +kernel
theorem d_SpectrumDeskModel_findMinor_127 : decode b_SpectrumDeskModel_findMinor 127 = .ok (.goto (4), 3) := by decide +kernel
theorem d_SpectrumDeskModel_findMinor_130 : decode b_SpectrumDeskModel_findMinor 130 = .ok (.iconst 0, 1) := by decide +kernel
theorem d_SpectrumDeskModel_findMinor_131 : decode b_SpectrumDeskModel_findMinor 131 = .ok (.invokevirtual 115, 3) := by decide +kernel
theorem d_SpectrumDeskModel_findMinor_134 : decode b_SpectrumDeskModel_findMinor 134 = .ok (.iinc 5 (1), 3) := by decide +kernel
theorem d_SpectrumDeskModel_findMinor_137 : decode b_SpectrumDeskModel_findMinor 137 = .ok (.iinc 6 (1), 3) := by decide +kernel
theorem d_SpectrumDeskModel_findMinor_140 : decode b_SpectrumDeskModel_findMinor 140 = .ok (.goto (-89), 3) := by decide +kernel
theorem d_SpectrumDeskModel_findMinor_143 : decode b_SpectrumDeskModel_findMinor 143 = .ok (.iinc 2 (1), 3) := by decide +kernel
theorem d_SpectrumDeskModel_findMinor_146 : decode b_SpectrumDeskModel_findMinor 146 = .ok (.goto (-144), 3) := by decide +kernel
theorem d_SpectrumDeskModel_findMinor_149 : decode b_SpectrumDeskModel_findMinor 149 = .ok (.return_, 1) := by decide +kernel
theorem k_56215041f4 : (Jvm.Cond.methodLink "SpectrumDeskModel" (101 : Nat) ({ cls := "SpectrumDeskModel", name := "sizeOf", desc := "(I)I" } : Jvm.MethodName)) ∈ AW := aw_5 (List.mem_of_getElem? (i := 45) (by decide +kernel)) (by decide +kernel)
theorem k_5eb33858fb : (Jvm.Cond.static ({ cls := "SpectrumDeskModel", name := "sizeOf", desc := "(I)I" } : Jvm.MethodName)) ∈ AW := aw_5 (List.mem_of_getElem? (i := 46) (by decide +kernel)) (by decide +kernel)
theorem k_78efd7a03a : (Jvm.Cond.fieldLink "SpectrumDeskModel" (67 : Nat) "SpectrumDeskModel" "matrix" "[I") ∈ AW := aw_4 (List.mem_of_getElem? (i := 186) (by decide +kernel)) (by decide +kernel)
theorem k_4aacde9f3d : (Jvm.Cond.methodLink "SpectrumDeskModel" (108 : Nat) ({ cls := "SpectrumDeskModel", name := "placeOf", desc := "(II)I" } : Jvm.MethodName)) ∈ AW := aw_5 (List.mem_of_getElem? (i := 48) (by decide +kernel)) (by decide +kernel)
theorem k_c9cf2d4db0 : (Jvm.Cond.static ({ cls := "SpectrumDeskModel", name := "placeOf", desc := "(II)I" } : Jvm.MethodName)) ∈ AW := aw_5 (List.mem_of_getElem? (i := 49) (by decide +kernel)) (by decide +kernel)
theorem k_5bb586f254 : (Jvm.Cond.code ({ cls := "SpectrumDeskModel", name := "sizeOf", desc := "(I)I" } : Jvm.MethodName) prog_10_method_31_code (3 : Nat) (Option.some Jvm.ClassFile.FieldType.int)) ∈ AW := aw_5 (List.mem_of_getElem? (i := 47) (by decide +kernel)) (by decide +kernel)
theorem k_039dba0db2 : (Jvm.Cond.code ({ cls := "SpectrumDeskModel", name := "placeOf", desc := "(II)I" } : Jvm.MethodName) prog_10_method_33_code (5 : Nat) (Option.some Jvm.ClassFile.FieldType.int)) ∈ AW := aw_5 (List.mem_of_getElem? (i := 50) (by decide +kernel)) (by decide +kernel)
theorem k_e6e20e2407 : (Jvm.Cond.code ({ cls := "SpectrumDeskModel", name := "findMinor", desc := "(I)V" } : Jvm.MethodName) prog_10_method_32_code (7 : Nat) (Option.none : Option Jvm.ClassFile.FieldType)) ∈ AW := aw_5 (List.mem_of_getElem? (i := 44) (by decide +kernel)) (by decide +kernel)
set_option maxHeartbeats 4000000 in
set_option maxRecDepth 100000 in
theorem c_SpectrumDeskModel_sizeOf {l : Launch} {D : va_G} {cI cJ cZ cC cG cP : ClassId} {N : Nat} {ad : Nat → Nat} {σ : Nat → va_E} {s9 : Nat} (hs9 : s9 < 64) :
    Met l y_SpectrumDeskModel_sizeOf v_SpectrumDeskModel_sizeOf (xrm 0) (va_Pc [.int (nI s9)] (xS D classes (xT cI cJ cZ cC cG cP) N ad σ)) (va_Qi (fun r σ2 => r = nI (pcn s9 6) ∧ σ2 = σ) (xS D classes (xT cI cJ cZ cC cG cP) N ad) (xA N ad)) 0 0 (xA N ad) := by
  refine xr_met rfl (Nat.le_of_ble_eq_true rfl) ?_
  intro p e s m args below meth c ls hx hb X hr hlk hl I
  have hl : lv_has ls 3 [(0, .int (nI s9))] := hl
  refine lv_iconst (v := nI 0) hx hb d_SpectrumDeskModel_sizeOf_0 (by decide) ?_
  refine lv_istore_n (lv' := [(1, .int (nI 0)), (0, .int (nI s9))]) hx hb d_SpectrumDeskModel_sizeOf_1 rfl hl (by decide) rfl (fun ls hl => ?_)
  refine lv_iconst (v := nI 0) hx hb d_SpectrumDeskModel_sizeOf_2 (by decide) ?_
  refine lv_istore_n (lv' := [(2, .int (nI 0)), (1, .int (nI 0)), (0, .int (nI s9))]) hx hb d_SpectrumDeskModel_sizeOf_3 rfl hl (by decide) rfl (fun ls hl => ?_)
  have loop : ∀ (j : Nat) (k : Nat) (ls : Array Slot) (H : Heap) (locs : List Loc), k + j = 6 → lv_has ls 3 [(2, .int (nI k)), (1, .int (nI (pcn s9 k))), (0, .int (nI s9))] → xI D classes N ad s.heap (σ) H locs → W p l e (xrm 0) s m args below meth c H locs 0 0 (MQ below (va_Qi (fun r σ2 => r = nI (pcn s9 6) ∧ σ2 = σ) (xS D classes (xT cI cJ cZ cC cG cP) N ad) (xA N ad)) args s 0 0 (xA N ad)) (F0 m 4 ls []) := by
    intro j
    induction j with
    | zero =>
      intro k ls H locs hk hl I
      obtain rfl : k = 6 := by omega
      refine lv_iload_n hx hb d_SpectrumDeskModel_sizeOf_4 rfl (lv_at hl 0 rfl) ?_
      refine lv_bipush (v := nI 6) hx hb d_SpectrumDeskModel_sizeOf_5 (by decide) ?_
      refine lv_icmp_ge hx hb d_SpectrumDeskModel_sizeOf_7 rfl (fun hc => ?_) (fun hc => ?_)
      · refine lv_iload_n hx hb d_SpectrumDeskModel_sizeOf_24 rfl (lv_at hl 1 rfl) ?_
        exact xr_iret X I hr hlk ⟨rfl, rfl⟩ d_SpectrumDeskModel_sizeOf_25
      · exact absurd (by decide) hc
    | succ j ih =>
      intro k ls H locs hk hl I
      refine lv_iload_n hx hb d_SpectrumDeskModel_sizeOf_4 rfl (lv_at hl 0 rfl) ?_
      refine lv_bipush (v := nI 6) hx hb d_SpectrumDeskModel_sizeOf_5 (by decide) ?_
      refine lv_icmp_ge hx hb d_SpectrumDeskModel_sizeOf_7 rfl (fun hc => ?_) (fun hc => ?_)
      · exact absurd hc (nI_ge (by omega) (by omega))
      · refine lv_iload_n hx hb d_SpectrumDeskModel_sizeOf_10 rfl (lv_at hl 1 rfl) ?_
        refine lv_iload_n hx hb d_SpectrumDeskModel_sizeOf_11 rfl (lv_at hl 2 rfl) ?_
        refine lv_iload_n hx hb d_SpectrumDeskModel_sizeOf_12 rfl (lv_at hl 0 rfl) ?_
        refine lv_ishr hx hb d_SpectrumDeskModel_sizeOf_13 ?_
        refine lv_iconst (v := nI 1) hx hb d_SpectrumDeskModel_sizeOf_14 (by decide) ?_
        refine lv_iand hx hb d_SpectrumDeskModel_sizeOf_15 ?_
        refine xr_topi (y := nI (s9 / 2 ^ k % 2)) (mb_bit s9 hs9 k (by omega)) ?_
        refine lv_iadd hx hb d_SpectrumDeskModel_sizeOf_16 (xr_topi (y := nI ((pcn s9 k) + (s9 / 2 ^ k % 2))) (nI_add (pcn s9 k) (s9 / 2 ^ k % 2)) ?_)
        refine lv_istore_n (lv' := [(1, .int (nI ((pcn s9 k) + (s9 / 2 ^ k % 2)))), (2, .int (nI k)), (0, .int (nI s9))]) hx hb d_SpectrumDeskModel_sizeOf_17 rfl hl (by decide) rfl (fun ls hl => ?_)
        refine lv_iinc (k := 1) (v := nI (k + 1)) (lv' := [(2, .int (nI (k + 1))), (1, .int (nI ((pcn s9 k) + (s9 / 2 ^ k % 2)))), (0, .int (nI s9))]) hx hb d_SpectrumDeskModel_sizeOf_18 hl rfl (nI_1 k) (by decide) rfl (fun ls hl => ?_)
        refine lv_goto hx hb d_SpectrumDeskModel_sizeOf_21 rfl ?_
        exact ih (k + 1) ls H locs (by omega) hl I
  exact loop 6 0 ls _ _ (by omega) hl I
set_option maxHeartbeats 4000000 in
set_option maxRecDepth 100000 in
theorem c_SpectrumDeskModel_placeOf {l : Launch} {D : va_G} {cI cJ cZ cC cG cP : ClassId} {N : Nat} {ad : Nat → Nat} {σ : Nat → va_E} {s9 sz : Nat} (hs9 : s9 < 64) (hsz : sz ≤ 6) :
    Met l y_SpectrumDeskModel_placeOf v_SpectrumDeskModel_placeOf (xrm 0) (va_Pc [.int (nI s9), .int (nP sz)] (xS D classes (xT cI cJ cZ cC cG cP) N ad σ)) (va_Qi (fun r σ2 => r = nI (plF s9 sz 6).1 ∧ σ2 = σ) (xS D classes (xT cI cJ cZ cC cG cP) N ad) (xA N ad)) 0 0 (xA N ad) := by
  refine xr_met rfl (Nat.le_of_ble_eq_true rfl) ?_
  intro p e s m args below meth c ls hx hb X hr hlk hl I
  have hl : lv_has ls 5 [(0, .int (nI s9)), (1, .int (nP sz))] := hl
  refine lv_iconst (v := nI 0) hx hb d_SpectrumDeskModel_placeOf_0 (by decide) ?_
  refine lv_istore_n (lv' := [(2, .int (nI 0)), (0, .int (nI s9)), (1, .int (nP sz))]) hx hb d_SpectrumDeskModel_placeOf_1 rfl hl (by decide) rfl (fun ls hl => ?_)
  refine lv_iconst (v := nI 0) hx hb d_SpectrumDeskModel_placeOf_2 (by decide) ?_
  refine lv_istore_n (lv' := [(3, .int (nI 0)), (2, .int (nI 0)), (0, .int (nI s9)), (1, .int (nP sz))]) hx hb d_SpectrumDeskModel_placeOf_3 rfl hl (by decide) rfl (fun ls hl => ?_)
  refine lv_iconst (v := nI 0) hx hb d_SpectrumDeskModel_placeOf_4 (by decide) ?_
  refine lv_istore (lv' := [(4, .int (nI 0)), (3, .int (nI 0)), (2, .int (nI 0)), (0, .int (nI s9)), (1, .int (nP sz))]) hx hb d_SpectrumDeskModel_placeOf_5 hl (by decide) rfl (fun ls hl => ?_)
  have loop : ∀ (j : Nat) (i : Nat) (ls : Array Slot) (H : Heap) (locs : List Loc), i + j = 6 → lv_has ls 5 [(4, .int (nI i)), (3, .int (nI (plF s9 sz i).2)), (2, .int (nI (plF s9 sz i).1)), (0, .int (nI s9)), (1, .int (nP sz))] → xI D classes N ad s.heap (σ) H locs → W p l e (xrm 0) s m args below meth c H locs 0 0 (MQ below (va_Qi (fun r σ2 => r = nI (plF s9 sz 6).1 ∧ σ2 = σ) (xS D classes (xT cI cJ cZ cC cG cP) N ad) (xA N ad)) args s 0 0 (xA N ad)) (F0 m 7 ls []) := by
    intro j
    induction j with
    | zero =>
      intro i ls H locs hk hl I
      obtain rfl : i = 6 := by omega
      refine lv_iload hx hb d_SpectrumDeskModel_placeOf_7 (lv_at hl 0 rfl) ?_
      refine lv_bipush (v := nI 6) hx hb d_SpectrumDeskModel_placeOf_9 (by decide) ?_
      refine lv_icmp_ge hx hb d_SpectrumDeskModel_placeOf_11 rfl (fun hc => ?_) (fun hc => ?_)
      · refine lv_iload_n hx hb d_SpectrumDeskModel_placeOf_45 rfl (lv_at hl 2 rfl) ?_
        exact xr_iret X I hr hlk ⟨rfl, rfl⟩ d_SpectrumDeskModel_placeOf_46
      · exact absurd (by decide) hc
    | succ j ih =>
      intro i ls H locs hk hl I
      have hpl := pl_lt (set := s9) (sz := sz) i (by omega)
      refine lv_iload hx hb d_SpectrumDeskModel_placeOf_7 (lv_at hl 0 rfl) ?_
      refine lv_bipush (v := nI 6) hx hb d_SpectrumDeskModel_placeOf_9 (by decide) ?_
      refine lv_icmp_ge hx hb d_SpectrumDeskModel_placeOf_11 rfl (fun hc => ?_) (fun hc => ?_)
      · exact absurd hc (nI_ge (by omega) (by omega))
      · refine lv_iload_n hx hb d_SpectrumDeskModel_placeOf_14 rfl (lv_at hl 3 rfl) ?_
        refine lv_iload hx hb d_SpectrumDeskModel_placeOf_15 (lv_at hl 0 rfl) ?_
        refine lv_ishr hx hb d_SpectrumDeskModel_placeOf_17 ?_
        refine lv_iconst (v := nI 1) hx hb d_SpectrumDeskModel_placeOf_18 (by decide) ?_
        refine lv_iand hx hb d_SpectrumDeskModel_placeOf_19 ?_
        refine xr_topi (y := nI (s9 / 2 ^ i % 2)) (mb_bit s9 hs9 i (by omega)) ?_
        refine lv_iconst (v := nI 1) hx hb d_SpectrumDeskModel_placeOf_20 (by decide) ?_
        refine lv_icmp_ne hx hb d_SpectrumDeskModel_placeOf_21 rfl (fun hd => ?_) (fun hd => ?_)
        · have hb1 : ¬ s9 / 2 ^ i % 2 = 1 := fun h => hd (by rw [h])
          refine lv_iinc (k := 0) (v := nI (i + 1)) (lv' := [(4, .int (nI (i + 1))), (3, .int (nI (plF s9 sz i).2)), (2, .int (nI (plF s9 sz i).1)), (0, .int (nI s9)), (1, .int (nP sz))]) hx hb d_SpectrumDeskModel_placeOf_39 hl rfl (nI_1 i) (by decide) rfl (fun ls hl => ?_)
          refine lv_goto hx hb d_SpectrumDeskModel_placeOf_42 rfl ?_
          have e9 : plF s9 sz (i + 1) = plF s9 sz i := by rw [plF, if_neg hb1]
          exact ih (i + 1) ls H locs (by omega) (by rw [e9]; exact hl) I
        · have hb1 : s9 / 2 ^ i % 2 = 1 := (nI_eq (by omega) (by decide)).mp hd
          refine lv_iload_n hx hb d_SpectrumDeskModel_placeOf_24 rfl (lv_at hl 1 rfl) ?_
          refine lv_iload_n hx hb d_SpectrumDeskModel_placeOf_25 rfl (lv_at hl 4 rfl) ?_
          refine lv_icmp_ne hx hb d_SpectrumDeskModel_placeOf_26 rfl (fun hg => ?_) (fun hg => ?_)
          · have hm : ¬ (plF s9 sz i).2 + 1 = sz := fun h => hg ((nP_eq (by omega) (by omega)).mpr h)
            refine lv_iload_n hx hb d_SpectrumDeskModel_placeOf_34 rfl (lv_at hl 2 rfl) ?_
            refine lv_istore_n (lv' := [(2, .int (nI (plF s9 sz i).1)), (4, .int (nI i)), (3, .int (nI (plF s9 sz i).2)), (0, .int (nI s9)), (1, .int (nP sz))]) hx hb d_SpectrumDeskModel_placeOf_35 rfl hl (by decide) rfl (fun ls hl => ?_)
            refine lv_iinc (k := 2) (v := nI ((plF s9 sz i).2 + 1)) (lv' := [(3, .int (nI ((plF s9 sz i).2 + 1))), (2, .int (nI (plF s9 sz i).1)), (4, .int (nI i)), (0, .int (nI s9)), (1, .int (nP sz))]) hx hb d_SpectrumDeskModel_placeOf_36 hl rfl (nI_1 _) (by decide) rfl (fun ls hl => ?_)
            refine lv_iinc (k := 2) (v := nI (i + 1)) (lv' := [(4, .int (nI (i + 1))), (3, .int (nI ((plF s9 sz i).2 + 1))), (2, .int (nI (plF s9 sz i).1)), (0, .int (nI s9)), (1, .int (nP sz))]) hx hb d_SpectrumDeskModel_placeOf_39 hl rfl (nI_1 i) (by decide) rfl (fun ls hl => ?_)
            refine lv_goto hx hb d_SpectrumDeskModel_placeOf_42 rfl ?_
            have e9 : plF s9 sz (i + 1) = ((plF s9 sz i).1, (plF s9 sz i).2 + 1) := by rw [plF, if_pos hb1, if_neg hm]
            exact ih (i + 1) ls H locs (by omega) (by rw [e9]; exact hl) I
          · have hm : (plF s9 sz i).2 + 1 = sz := (nP_eq (by omega) (by omega)).mp hg
            refine lv_iload hx hb d_SpectrumDeskModel_placeOf_29 (lv_at hl 0 rfl) ?_
            refine lv_goto hx hb d_SpectrumDeskModel_placeOf_31 rfl ?_
            refine lv_istore_n (lv' := [(2, .int (nI i)), (4, .int (nI i)), (3, .int (nI (plF s9 sz i).2)), (0, .int (nI s9)), (1, .int (nP sz))]) hx hb d_SpectrumDeskModel_placeOf_35 rfl hl (by decide) rfl (fun ls hl => ?_)
            refine lv_iinc (k := 2) (v := nI ((plF s9 sz i).2 + 1)) (lv' := [(3, .int (nI ((plF s9 sz i).2 + 1))), (2, .int (nI i)), (4, .int (nI i)), (0, .int (nI s9)), (1, .int (nP sz))]) hx hb d_SpectrumDeskModel_placeOf_36 hl rfl (nI_1 _) (by decide) rfl (fun ls hl => ?_)
            refine lv_iinc (k := 2) (v := nI (i + 1)) (lv' := [(4, .int (nI (i + 1))), (3, .int (nI ((plF s9 sz i).2 + 1))), (2, .int (nI i)), (0, .int (nI s9)), (1, .int (nP sz))]) hx hb d_SpectrumDeskModel_placeOf_39 hl rfl (nI_1 i) (by decide) rfl (fun ls hl => ?_)
            refine lv_goto hx hb d_SpectrumDeskModel_placeOf_42 rfl ?_
            have e9 : plF s9 sz (i + 1) = (i, (plF s9 sz i).2 + 1) := by rw [plF, if_pos hb1, if_pos hm]
            exact ih (i + 1) ls H locs (by omega) (by rw [e9]; exact hl) I
  exact loop 6 0 ls _ _ (by omega) hl I
set_option maxHeartbeats 4000000 in
set_option maxRecDepth 100000 in
theorem c_SpectrumDeskModel_findMinor {l : Launch} {D : va_G} {cI cJ cZ cC cG cP : ClassId} {ad : Nat → Nat} {σ0 : Nat → va_E} {th nn rws ps le eq : Int32} {P L M G : Nat → Int32} {Z : Nat → Int} (hG : σ0 187 = .inl (cI, 5, .inl G)) (hB : RB P L M Z) {s9 : Nat} (hs9 : s9 < 64) {A9 : Nat → Int32} (hA9 : σ0 188 = .inl (cI, 36, .inl A9)) (hAb : ∀ i j, i < 6 → j < 6 → bd 1000000 ((A9 (6 * i + j)).toInt)) :
    Met l y_SpectrumDeskModel_findMinor v_SpectrumDeskModel_findMinor (xrm 3) (va_Pc [.ref (ad 183), .int (nI s9)] (xS D classes (xT cI cJ cZ cC cG cP) 193 ad (rw3 σ0 ciM cI cZ (mfs ad th nn rws ps le eq) P L M))) (va_Qv (fun σ2 => ∃ (P' L' M' : Nat → Int32) (Z' : Nat → Int), σ2 = rw3 σ0 ciM cI cZ (mfs ad th nn rws ps le eq) P' L' M' ∧ RB P' L' M' Z' ∧ (∀ q, q ≤ s9 → q &&& s9 = q → Z' (40 + q) = mn (fun i j => (A9 (6 * i + j)).toInt) s9 q) ∧ (∀ v, v < 40 ∨ 106 ≤ v → Z' v = Z v)) (xS D classes (xT cI cJ cZ cC cG cP) 193 ad) (xA 193 ad)) 0 0 (xA 193 ad) := by
  refine xr_met rfl (Nat.le_of_ble_eq_true rfl) ?_
  intro p e s m args below meth c ls hx hb X hr hlk hl I
  have hl : lv_has ls 7 [(0, .ref (ad 183)), (1, .int (nI s9))] := hl
  have outer : ∀ (j : Nat) (pt : Nat) (P2 L2 M2 : Nat → Int32) (Z2 : Nat → Int) (ls : Array Slot) (H : Heap) (locs : List Loc), pt + j = s9 + 1 → RB P2 L2 M2 Z2 → (∀ q, q < pt → q &&& s9 = q → Z2 (40 + q) = mn (fun i j => (A9 (6 * i + j)).toInt) s9 q) → (∀ v, v < 40 ∨ 106 ≤ v → Z2 v = Z v) → lv_has ls 7 [(2, .int (nI pt)), (0, .ref (ad 183)), (1, .int (nI s9))] → xI D classes 193 ad s.heap (rw3 σ0 ciM cI cZ (mfs ad th nn rws ps le eq) P2 L2 M2) H locs → W p l e (xrm 3) s m args below meth c H locs 0 0 (MQ below (va_Qv (fun σ2 => ∃ (P' L' M' : Nat → Int32) (Z' : Nat → Int), σ2 = rw3 σ0 ciM cI cZ (mfs ad th nn rws ps le eq) P' L' M' ∧ RB P' L' M' Z' ∧ (∀ q, q ≤ s9 → q &&& s9 = q → Z' (40 + q) = mn (fun i j => (A9 (6 * i + j)).toInt) s9 q) ∧ (∀ v, v < 40 ∨ 106 ≤ v → Z' v = Z v)) (xS D classes (xT cI cJ cZ cC cG cP) 193 ad) (xA 193 ad)) args s 0 0 (xA 193 ad)) (F0 m 2 ls []) := by
    intro j
    induction j with
    | zero =>
      intro pt P2 L2 M2 Z2 ls H locs hk h2 h3 h4 hl I
      obtain rfl : pt = s9 + 1 := by omega
      refine lv_iload_n hx hb d_SpectrumDeskModel_findMinor_2 rfl (lv_at hl 0 rfl) ?_
      refine lv_iload_n hx hb d_SpectrumDeskModel_findMinor_3 rfl (lv_at hl 2 rfl) ?_
      refine lv_icmp_gt hx hb d_SpectrumDeskModel_findMinor_4 rfl (fun hc => ?_) (fun hc => ?_)
      · exact xr_vret X I hr hlk ⟨P2, L2, M2, Z2, rfl, h2, fun q hq hi => h3 q (by omega) hi, h4⟩ d_SpectrumDeskModel_findMinor_149
      · exact absurd (nI_lt (Nat.lt_succ_self _) (by omega)) hc
    | succ j ih =>
      intro pt P2 L2 M2 Z2 ls H locs hk h2 h3 h4 hl I
      refine lv_iload_n hx hb d_SpectrumDeskModel_findMinor_2 rfl (lv_at hl 0 rfl) ?_
      refine lv_iload_n hx hb d_SpectrumDeskModel_findMinor_3 rfl (lv_at hl 2 rfl) ?_
      refine lv_icmp_gt hx hb d_SpectrumDeskModel_findMinor_4 rfl (fun hc => ?_) (fun hc => ?_)
      · exact absurd hc (nI_nlt (by omega) (by omega))
      · refine lv_iload_n hx hb d_SpectrumDeskModel_findMinor_7 rfl (lv_at hl 0 rfl) ?_
        refine lv_iload_n hx hb d_SpectrumDeskModel_findMinor_8 rfl (lv_at hl 2 rfl) ?_
        refine lv_iand hx hb d_SpectrumDeskModel_findMinor_9 ?_
        refine xr_topi (y := nI (pt &&& s9)) (mb_and pt (by omega) s9 hs9) ?_
        refine lv_iload_n hx hb d_SpectrumDeskModel_findMinor_10 rfl (lv_at hl 0 rfl) ?_
        refine lv_icmp_ne hx hb d_SpectrumDeskModel_findMinor_11 rfl (fun hd => ?_) (fun hd => ?_)
        · have hne : ¬ pt &&& s9 = pt := fun h => hd (by rw [h])
          refine lv_iinc (k := 0) (v := nI (pt + 1)) (lv' := [(2, .int (nI (pt + 1))), (0, .ref (ad 183)), (1, .int (nI s9))]) hx hb d_SpectrumDeskModel_findMinor_143 hl rfl (nI_1 pt) (by decide) rfl (fun ls hl => ?_)
          refine lv_goto hx hb d_SpectrumDeskModel_findMinor_146 rfl ?_
          exact ih (pt + 1) P2 L2 M2 Z2 ls H locs (by omega) h2 (fun q hq hi => h3 q (Nat.lt_of_le_of_ne (by omega) (fun e => hne (e ▸ hi))) hi) h4 hl I
        · have hin : pt &&& s9 = pt := (nI_eq (Nat.lt_of_le_of_lt Nat.and_le_left (by omega)) (by omega)).mp hd
          obtain ⟨sz, hsz⟩ : ∃ sz, pcn pt 6 = sz := ⟨_, rfl⟩
          have hsz6 : sz ≤ 6 := by rw [← hsz]; exact pcn_le 6
          refine lv_iload_n hx hb d_SpectrumDeskModel_findMinor_14 rfl (lv_at hl 0 rfl) ?_
          refine xr_calli (xr_runS (kc := 0) (kr := 3) (n := 1) (As := [.int (nI pt)]) (rest := []) X I (c_SpectrumDeskModel_sizeOf (show pt < 64 by omega)) (xg k_5bb586f254) (List.mem_cons_of_mem _ k_56215041f4) (List.mem_cons_of_mem _ k_5eb33858fb) (List.mem_cons_of_mem _ k_30fa15c9ac) (by decide +kernel) (by decide) rfl hl.1 rfl (Nat.le_of_ble_eq_true rfl) d_SpectrumDeskModel_findMinor_15) I (fun r1 σ9 H locs hp I => ?_)
          obtain ⟨rfl, h9⟩ := hp; rw [h9] at I; clear h9
          refine xr_topi (y := nI sz) (by rw [hsz]) ?_
          refine lv_istore_n (lv' := [(3, .int (nI sz)), (2, .int (nI pt)), (0, .ref (ad 183)), (1, .int (nI s9))]) hx hb d_SpectrumDeskModel_findMinor_18 rfl hl (by decide) rfl (fun ls hl => ?_)
          refine lv_aload_n hx hb d_SpectrumDeskModel_findMinor_19 rfl (lv_at hl 2 rfl) ?_
          refine lv_bipush (v := nI 40) hx hb d_SpectrumDeskModel_findMinor_20 (by decide) ?_
          refine lv_iload_n hx hb d_SpectrumDeskModel_findMinor_22 rfl (lv_at hl 1 rfl) ?_
          refine lv_iadd hx hb d_SpectrumDeskModel_findMinor_23 (xr_topi (y := nI (40 + pt)) (nI_add 40 pt) ?_)
          refine lv_iload_n hx hb d_SpectrumDeskModel_findMinor_24 rfl (lv_at hl 0 rfl) ?_
          have inner : ∀ (j2 : Nat) (i : Nat) (P3 L3 M3 : Nat → Int32) (Z3 : Nat → Int) (ls : Array Slot) (H : Heap) (locs : List Loc), i + j2 = 6 → RB P3 L3 M3 Z3 → Z3 (40 + pt) = (inF (fun i j => (A9 (6 * i + j)).toInt) pt sz (plF s9 sz 6).1 (prv (fun i j => (A9 (6 * i + j)).toInt) s9 sz) i).1 → (∀ q, q < pt → q &&& s9 = q → Z3 (40 + q) = mn (fun i j => (A9 (6 * i + j)).toInt) s9 q) → (∀ v, v < 40 ∨ 106 ≤ v → Z3 v = Z v) → lv_has ls 7 [(6, .int (nI i)), (5, .int (nI (inF (fun i j => (A9 (6 * i + j)).toInt) pt sz (plF s9 sz 6).1 (prv (fun i j => (A9 (6 * i + j)).toInt) s9 sz) i).2)), (4, .int (nI (plF s9 sz 6).1)), (3, .int (nI sz)), (2, .int (nI pt)), (0, .ref (ad 183)), (1, .int (nI s9))] → xI D classes 193 ad s.heap (rw3 σ0 ciM cI cZ (mfs ad th nn rws ps le eq) P3 L3 M3) H locs → W p l e (xrm 3) s m args below meth c H locs 0 0 (MQ below (va_Qv (fun σ2 => ∃ (P' L' M' : Nat → Int32) (Z' : Nat → Int), σ2 = rw3 σ0 ciM cI cZ (mfs ad th nn rws ps le eq) P' L' M' ∧ RB P' L' M' Z' ∧ (∀ q, q ≤ s9 → q &&& s9 = q → Z' (40 + q) = mn (fun i j => (A9 (6 * i + j)).toInt) s9 q) ∧ (∀ v, v < 40 ∨ 106 ≤ v → Z' v = Z v)) (xS D classes (xT cI cJ cZ cC cG cP) 193 ad) (xA 193 ad)) args s 0 0 (xA 193 ad)) (F0 m 51 ls []) := by
            intro j2
            induction j2 with
            | zero =>
              intro i P3 L3 M3 Z3 ls H locs hj g2 g3 g4 g5 hl I
              obtain rfl : i = 6 := by omega
              refine lv_iload hx hb d_SpectrumDeskModel_findMinor_51 (lv_at hl 0 rfl) ?_
              refine lv_bipush (v := nI 6) hx hb d_SpectrumDeskModel_findMinor_53 (by decide) ?_
              refine lv_icmp_ge hx hb d_SpectrumDeskModel_findMinor_55 rfl (fun hf => ?_) (fun hf => ?_)
              · refine lv_iinc (k := 4) (v := nI (pt + 1)) (lv' := [(2, .int (nI (pt + 1))), (6, .int (nI 6)), (5, .int (nI (inF (fun i j => (A9 (6 * i + j)).toInt) pt sz (plF s9 sz 6).1 (prv (fun i j => (A9 (6 * i + j)).toInt) s9 sz) 6).2)), (4, .int (nI (plF s9 sz 6).1)), (3, .int (nI sz)), (0, .ref (ad 183)), (1, .int (nI s9))]) hx hb d_SpectrumDeskModel_findMinor_143 hl rfl (nI_1 pt) (by decide) rfl (fun ls hl => ?_)
                refine lv_goto hx hb d_SpectrumDeskModel_findMinor_146 rfl ?_
                have hl := lv_sub hl [0, 5, 6] rfl
                have hl : lv_has ls 7 [(2, .int (nI (pt + 1))), (0, .ref (ad 183)), (1, .int (nI s9))] := hl
                refine ih (pt + 1) P3 L3 M3 Z3 ls H locs (by omega) g2 (fun q hq hi => ?_) g5 hl I
                by_cases e9 : q = pt
                · rw [e9, g3, mn_in hsz]
                · exact g4 q (by omega) hi
              · exact absurd (by decide) hf
            | succ j2 jh =>
              intro i P3 L3 M3 Z3 ls H locs hj g2 g3 g4 g5 hl I
              have hcol := (pl_lt (set := s9) (sz := sz) 6 (Nat.le_refl _)).1
              refine lv_iload hx hb d_SpectrumDeskModel_findMinor_51 (lv_at hl 0 rfl) ?_
              refine lv_bipush (v := nI 6) hx hb d_SpectrumDeskModel_findMinor_53 (by decide) ?_
              refine lv_icmp_ge hx hb d_SpectrumDeskModel_findMinor_55 rfl (fun hf => ?_) (fun hf => ?_)
              · exact absurd hf (nI_ge (by omega) (by omega))
              · refine lv_iload_n hx hb d_SpectrumDeskModel_findMinor_58 rfl (lv_at hl 4 rfl) ?_
                refine lv_iload hx hb d_SpectrumDeskModel_findMinor_59 (lv_at hl 0 rfl) ?_
                refine lv_ishr hx hb d_SpectrumDeskModel_findMinor_61 ?_
                refine lv_iconst (v := nI 1) hx hb d_SpectrumDeskModel_findMinor_62 (by decide) ?_
                refine lv_iand hx hb d_SpectrumDeskModel_findMinor_63 ?_
                refine xr_topi (y := nI (pt / 2 ^ i % 2)) (mb_bit pt (by omega) i (by omega)) ?_
                refine lv_iconst (v := nI 1) hx hb d_SpectrumDeskModel_findMinor_64 (by decide) ?_
                refine lv_icmp_ne hx hb d_SpectrumDeskModel_findMinor_65 rfl (fun hg => ?_) (fun hg => ?_)
                · have hb1 : ¬ pt / 2 ^ i % 2 = 1 := fun h => hg (by rw [h])
                  refine lv_iinc (k := 0) (v := nI (i + 1)) (lv' := [(6, .int (nI (i + 1))), (5, .int (nI (inF (fun i j => (A9 (6 * i + j)).toInt) pt sz (plF s9 sz 6).1 (prv (fun i j => (A9 (6 * i + j)).toInt) s9 sz) i).2)), (4, .int (nI (plF s9 sz 6).1)), (3, .int (nI sz)), (2, .int (nI pt)), (0, .ref (ad 183)), (1, .int (nI s9))]) hx hb d_SpectrumDeskModel_findMinor_137 hl rfl (nI_1 i) (by decide) rfl (fun ls hl => ?_)
                  refine lv_goto hx hb d_SpectrumDeskModel_findMinor_140 rfl ?_
                  have e9 : inF (fun i j => (A9 (6 * i + j)).toInt) pt sz (plF s9 sz 6).1 (prv (fun i j => (A9 (6 * i + j)).toInt) s9 sz) (i + 1) = inF (fun i j => (A9 (6 * i + j)).toInt) pt sz (plF s9 sz 6).1 (prv (fun i j => (A9 (6 * i + j)).toInt) s9 sz) i := by rw [inF, if_neg hb1]
                  exact jh (i + 1) P3 L3 M3 Z3 ls H locs (by omega) g2 (by rw [e9]; exact g3) g4 g5 (by rw [e9]; exact hl) I
                · have hb1 : pt / 2 ^ i % 2 = 1 := (nI_eq (by omega) (by decide)).mp hg
                  obtain ⟨m1, m2, m3⟩ := mb_sub pt (by omega) i (by omega) hb1
                  have m4 := mb_in s9 hs9 pt (by omega) i (by omega) hb1 hin
                  have hprev : Z3 (40 + (pt - 2 ^ i)) = prv (fun i j => (A9 (6 * i + j)).toInt) s9 sz (pt - 2 ^ i) := by rw [prv_mn (by omega) (by omega) hb1 hsz]; exact g4 _ m2 m4
                  refine lv_aload_n hx hb d_SpectrumDeskModel_findMinor_68 rfl (lv_at hl 5 rfl) ?_
                  refine lv_bipush (v := nI 104) hx hb d_SpectrumDeskModel_findMinor_69 (by decide) ?_
                  refine lv_aload_n hx hb d_SpectrumDeskModel_findMinor_71 rfl (lv_at hl 5 rfl) ?_
                  refine xr_get X I fin_M 183 (by decide) (r183 ..) rfl 6 (by decide) (List.mem_cons_of_mem _ k_78efd7a03a) rfl rfl d_SpectrumDeskModel_findMinor_72 ?_
                  refine lv_bipush (v := nI 6) hx hb d_SpectrumDeskModel_findMinor_75 (by decide) ?_
                  refine lv_iload hx hb d_SpectrumDeskModel_findMinor_77 (lv_at hl 0 rfl) ?_
                  refine lv_imul hx hb d_SpectrumDeskModel_findMinor_79 (xr_topi (y := nI (6 * i)) (pk_mul 6 i) ?_)
                  refine lv_iload hx hb d_SpectrumDeskModel_findMinor_80 (lv_at hl 2 rfl) ?_
                  refine lv_iadd hx hb d_SpectrumDeskModel_findMinor_82 (xr_topi (y := nI ((6 * i) + ((plF s9 sz 6).1))) (nI_add (6 * i) ((plF s9 sz 6).1)) ?_)
                  refine xr_iald X I 188 0 (by decide) ((r_o (by decide)).trans hA9) rfl (by omega) (by decide) d_SpectrumDeskModel_findMinor_83 ?_
                  refine lv_i2l hx hb d_SpectrumDeskModel_findMinor_84 rfl ?_
                  refine xr_callv (xr_runV (kc := 0) (kr := 3) (n := 2) (As := [.int (nI 104), .long ((A9 ((6 * i) + ((plF s9 sz 6).1))).toInt64)]) (rest := []) X I (by decide) (r183 ..) rfl (c_SpectrumDeskModel_bigSet (w := 104) (v := (A9 (6 * i + (plF s9 sz 6).1)).toInt64) mfs_ok (by decide)) (xg k_5f300b8d49) (List.mem_cons_of_mem _ k_7a89662665) (List.mem_cons_of_mem _ k_203da126f2) (List.mem_cons_of_mem _ k_e2b6114fa3) (List.mem_cons_of_mem _ k_30fa15c9ac) (by decide +kernel) (by decide) rfl hl.1 rfl (Nat.le_of_ble_eq_true rfl) d_SpectrumDeskModel_findMinor_85) I (fun σ9 H locs hp I => ?_)
                  obtain ⟨P4, L4, M4, rfl, hf4, hx4⟩ := hp
                  have k4 := RB_up g2 hf4 hx4
                  rw [q_i2l] at k4
                  generalize eZ4 : va_up Z3 104 (A9 (6 * i + (plF s9 sz 6).1)).toInt = Z4 at k4
                  have y104 : Z4 104 = (A9 (6 * i + (plF s9 sz 6).1)).toInt := by rw [← eZ4, va_up_self]
                  have yo : ∀ v, v ≠ 104 → Z4 v = Z3 v := fun v hv => by rw [← eZ4]; exact va_up_ne _ _ hv
                  have bA := hAb i (plF s9 sz 6).1 (by omega) hcol
                  have bP : bd (2 ^ 138) (prv (fun i j => (A9 (6 * i + j)).toInt) s9 sz (pt - 2 ^ i)) := by rw [prv_mn (by omega) (by omega) hb1 hsz]; exact mn_bd hAb
                  have sA : sm (Z4 104) := by rw [y104]; exact sm_of (n := 20) (by decide) (bd_le (by decide) bA)
                  have sP : sm (Z4 (40 + (pt - 2 ^ i))) := by rw [yo _ (by omega), hprev]; exact sm_of (by decide) bP
                  obtain ⟨la, la1, la2⟩ := rb_sm (k4 104 (by decide)) sA
                  obtain ⟨lb, lb1, lb2⟩ := rb_sm (k4 (40 + (pt - 2 ^ i)) (by omega)) sP
                  refine lv_aload_n hx hb d_SpectrumDeskModel_findMinor_88 rfl (lv_at hl 5 rfl) ?_
                  refine lv_bipush (v := nI 105) hx hb d_SpectrumDeskModel_findMinor_89 (by decide) ?_
                  refine lv_bipush (v := nI 104) hx hb d_SpectrumDeskModel_findMinor_91 (by decide) ?_
                  refine lv_bipush (v := nI 40) hx hb d_SpectrumDeskModel_findMinor_93 (by decide) ?_
                  refine lv_iload_n hx hb d_SpectrumDeskModel_findMinor_95 rfl (lv_at hl 4 rfl) ?_
                  refine lv_iconst (v := nI 1) hx hb d_SpectrumDeskModel_findMinor_96 (by decide) ?_
                  refine lv_iload hx hb d_SpectrumDeskModel_findMinor_97 (lv_at hl 0 rfl) ?_
                  refine lv_ishl hx hb d_SpectrumDeskModel_findMinor_99 ?_
                  refine lv_iconst (v := (-1)) hx hb d_SpectrumDeskModel_findMinor_100 (by decide) ?_
                  refine lv_ixor hx hb d_SpectrumDeskModel_findMinor_101 ?_
                  refine lv_iand hx hb d_SpectrumDeskModel_findMinor_102 ?_
                  refine xr_topi (y := nI (pt - 2 ^ i)) (mb_clear pt (by omega) i (by omega) hb1) ?_
                  refine lv_iadd hx hb d_SpectrumDeskModel_findMinor_103 (xr_topi (y := nI (40 + (pt - 2 ^ i))) (nI_add 40 (pt - 2 ^ i)) ?_)
                  refine xr_callv (xr_runV (kc := 1) (kr := 3) (n := 3) (As := [.int (nI 105), .int (nI 104), .int (nI (40 + (pt - 2 ^ i)))]) (rest := []) X I (by decide) (r183 ..) rfl (c_SpectrumDeskModel_bigProduct (w := 105) (u := 104) (v := 40 + (pt - 2 ^ i)) mfs_ok (by decide) (by decide) (by omega) (by decide) (by omega) la2 lb2 (by omega) (k4 104 (by decide)) (k4 (40 + (pt - 2 ^ i)) (by omega))) (xg k_d838ee6d72) (List.mem_cons_of_mem _ k_bbee4b637e) (List.mem_cons_of_mem _ k_55f9d50ad7) (List.mem_cons_of_mem _ k_ea9d46a281) (List.mem_cons_of_mem _ k_30fa15c9ac) (by decide +kernel) (by decide) rfl hl.1 rfl (Nat.le_of_ble_eq_true rfl) d_SpectrumDeskModel_findMinor_104) I (fun σ9 H locs hp I => ?_)
                  obtain ⟨P5, L5, M5, rfl, hf5, hx5⟩ := hp
                  have k5 := RB_up k4 hf5 hx5
                  rw [y104, yo (40 + (pt - 2 ^ i)) (by omega), hprev] at k5
                  generalize eZ5 : va_up Z4 105 ((A9 (6 * i + (plF s9 sz 6).1)).toInt * prv (fun i j => (A9 (6 * i + j)).toInt) s9 sz (pt - 2 ^ i)) = Z5 at k5
                  have y105 : Z5 105 = (A9 (6 * i + (plF s9 sz 6).1)).toInt * prv (fun i j => (A9 (6 * i + j)).toInt) s9 sz (pt - 2 ^ i) := by rw [← eZ5, va_up_self]
                  have yo5 : ∀ v, v ≠ 104 → v ≠ 105 → Z5 v = Z3 v := fun v h1 h2 => by rw [← eZ5]; exact (va_up_ne _ _ h2).trans (yo v h1)
                  have r1 : rbd (Z5 (40 + pt)) := by rw [yo5 _ (by omega) (by omega), g3]; exact sm_rbd (sm_of (by decide) (inF_sm hAb (by omega) hsz (by omega)))
                  have r2 : rbd (Z5 105) := by rw [y105]; exact sm_mul (sm_of (n := 20) (by decide) (bd_le (by decide) bA)) (sm_of (by decide) bP)
                  refine lv_aload_n hx hb d_SpectrumDeskModel_findMinor_107 rfl (lv_at hl 5 rfl) ?_
                  refine lv_bipush (v := nI 40) hx hb d_SpectrumDeskModel_findMinor_108 (by decide) ?_
                  refine lv_iload_n hx hb d_SpectrumDeskModel_findMinor_110 rfl (lv_at hl 4 rfl) ?_
                  refine lv_iadd hx hb d_SpectrumDeskModel_findMinor_111 (xr_topi (y := nI (40 + pt)) (nI_add 40 pt) ?_)
                  refine lv_bipush (v := nI 105) hx hb d_SpectrumDeskModel_findMinor_112 (by decide) ?_
                  refine lv_iload hx hb d_SpectrumDeskModel_findMinor_114 (lv_at hl 1 rfl) ?_
                  refine lv_iload_n hx hb d_SpectrumDeskModel_findMinor_116 rfl (lv_at hl 3 rfl) ?_
                  refine lv_iadd hx hb d_SpectrumDeskModel_findMinor_117 (xr_topi (y := nI (((inF (fun i j => (A9 (6 * i + j)).toInt) pt sz (plF s9 sz 6).1 (prv (fun i j => (A9 (6 * i + j)).toInt) s9 sz) i).2) + sz)) (nI_add ((inF (fun i j => (A9 (6 * i + j)).toInt) pt sz (plF s9 sz 6).1 (prv (fun i j => (A9 (6 * i + j)).toInt) s9 sz) i).2) sz) ?_)
                  refine lv_iconst (v := nI 1) hx hb d_SpectrumDeskModel_findMinor_118 (by decide) ?_
                  refine lv_isub hx hb d_SpectrumDeskModel_findMinor_119 (xr_topi (y := nI ((inF (fun i j => (A9 (6 * i + j)).toInt) pt sz (plF s9 sz 6).1 (prv (fun i j => (A9 (6 * i + j)).toInt) s9 sz) i).2 + sz - 1)) (pk_sub (by omega)) ?_)
                  refine lv_iconst (v := nI 2) hx hb d_SpectrumDeskModel_findMinor_120 (by decide) ?_
                  refine lv_irem hx hb d_SpectrumDeskModel_findMinor_121 (by decide) ?_
                  refine xr_topi (y := nI (((inF (fun i j => (A9 (6 * i + j)).toInt) pt sz (plF s9 sz 6).1 (prv (fun i j => (A9 (6 * i + j)).toInt) s9 sz) i).2 + sz - 1) % 2)) (pk_rem (by have h := inF_at (A := (fun i j => (A9 (6 * i + j)).toInt)) (part := pt) (sz := sz) (col := (plF s9 sz 6).1) (prev := prv (fun i j => (A9 (6 * i + j)).toInt) s9 sz) i; omega) (by decide) (by decide)) ?_
                  refine lv_iconst (v := nI 1) hx hb d_SpectrumDeskModel_findMinor_122 (by decide) ?_
                  refine lv_icmp_ne hx hb d_SpectrumDeskModel_findMinor_123 rfl (fun hh => ?_) (fun hh => ?_)
                  · have hodd : ¬ ((inF (fun i j => (A9 (6 * i + j)).toInt) pt sz (plF s9 sz 6).1 (prv (fun i j => (A9 (6 * i + j)).toInt) s9 sz) i).2 + sz - 1) % 2 = 1 := fun h => hh (by rw [h])
                    refine lv_iconst (v := nI 0) hx hb d_SpectrumDeskModel_findMinor_130 (by decide) ?_
                    refine xr_callv (xr_runV (kc := 2) (kr := 3) (n := 3) (As := [.int (nI (40 + pt)), .int (nI 105), .int (nI 0)]) (rest := []) X I (by decide) (r183 ..) rfl (c_SpectrumDeskModel_bigAdd0 (w := 40 + pt) (u := 105) mfs_ok (by omega) (by decide) (by omega) (k5 (40 + pt) (by omega)) (k5 105 (by decide)) r1 r2) (xg k_dd45f20b23) (List.mem_cons_of_mem _ k_1f49c5cd66) (List.mem_cons_of_mem _ k_a10028f3d7) (List.mem_cons_of_mem _ k_758e0597f6) (List.mem_cons_of_mem _ k_30fa15c9ac) (by decide +kernel) (by decide) rfl hl.1 rfl (Nat.le_of_ble_eq_true rfl) d_SpectrumDeskModel_findMinor_131) I (fun σ9 H locs hp I => ?_)
                    obtain ⟨P6, L6, M6, rfl, hf6, hx6⟩ := hp
                    have k6 := RB_up k5 hf6 hx6
                    refine lv_iinc (k := 1) (v := nI ((inF (fun i j => (A9 (6 * i + j)).toInt) pt sz (plF s9 sz 6).1 (prv (fun i j => (A9 (6 * i + j)).toInt) s9 sz) i).2 + 1)) (lv' := [(5, .int (nI ((inF (fun i j => (A9 (6 * i + j)).toInt) pt sz (plF s9 sz 6).1 (prv (fun i j => (A9 (6 * i + j)).toInt) s9 sz) i).2 + 1))), (6, .int (nI i)), (4, .int (nI (plF s9 sz 6).1)), (3, .int (nI sz)), (2, .int (nI pt)), (0, .ref (ad 183)), (1, .int (nI s9))]) hx hb d_SpectrumDeskModel_findMinor_134 hl rfl (nI_1 _) (by decide) rfl (fun ls hl => ?_)
                    refine lv_iinc (k := 1) (v := nI (i + 1)) (lv' := [(6, .int (nI (i + 1))), (5, .int (nI ((inF (fun i j => (A9 (6 * i + j)).toInt) pt sz (plF s9 sz 6).1 (prv (fun i j => (A9 (6 * i + j)).toInt) s9 sz) i).2 + 1))), (4, .int (nI (plF s9 sz 6).1)), (3, .int (nI sz)), (2, .int (nI pt)), (0, .ref (ad 183)), (1, .int (nI s9))]) hx hb d_SpectrumDeskModel_findMinor_137 hl rfl (nI_1 i) (by decide) rfl (fun ls hl => ?_)
                    refine lv_goto hx hb d_SpectrumDeskModel_findMinor_140 rfl ?_
                    have e9 : inF (fun i j => (A9 (6 * i + j)).toInt) pt sz (plF s9 sz 6).1 (prv (fun i j => (A9 (6 * i + j)).toInt) s9 sz) (i + 1) = ((inF (fun i j => (A9 (6 * i + j)).toInt) pt sz (plF s9 sz 6).1 (prv (fun i j => (A9 (6 * i + j)).toInt) s9 sz) i).1 + (A9 (6 * i + (plF s9 sz 6).1)).toInt * prv (fun i j => (A9 (6 * i + j)).toInt) s9 sz (pt - 2 ^ i), (inF (fun i j => (A9 (6 * i + j)).toInt) pt sz (plF s9 sz 6).1 (prv (fun i j => (A9 (6 * i + j)).toInt) s9 sz) i).2 + 1) := by rw [inF, if_pos hb1, if_neg hodd]
                    refine jh (i + 1) P6 L6 M6 _ ls H locs (by omega) k6 ?_ (fun q hq hi => (va_up_ne _ _ (by omega)).trans ((yo5 _ (by omega) (by omega)).trans (g4 q hq hi))) (fun v hv => (va_up_ne _ _ (by omega)).trans ((yo5 _ (by omega) (by omega)).trans (g5 v hv))) (by rw [e9]; exact hl) I
                    rw [e9, va_up_self, yo5 (40 + pt) (by omega) (by omega), g3, y105]
                  · have hodd : ((inF (fun i j => (A9 (6 * i + j)).toInt) pt sz (plF s9 sz 6).1 (prv (fun i j => (A9 (6 * i + j)).toInt) s9 sz) i).2 + sz - 1) % 2 = 1 := (nI_eq (by omega) (by decide)).mp hh
                    refine lv_iconst (v := nI 1) hx hb d_SpectrumDeskModel_findMinor_126 (by decide) ?_
                    refine lv_goto hx hb d_SpectrumDeskModel_findMinor_127 rfl ?_
                    refine xr_callv (xr_runV (kc := 2) (kr := 3) (n := 3) (As := [.int (nI (40 + pt)), .int (nI 105), .int (nI 1)]) (rest := []) X I (by decide) (r183 ..) rfl (c_SpectrumDeskModel_bigAdd1 (w := 40 + pt) (u := 105) mfs_ok (by omega) (by decide) (by omega) (k5 (40 + pt) (by omega)) (k5 105 (by decide)) r1 r2) (xg k_dd45f20b23) (List.mem_cons_of_mem _ k_1f49c5cd66) (List.mem_cons_of_mem _ k_a10028f3d7) (List.mem_cons_of_mem _ k_758e0597f6) (List.mem_cons_of_mem _ k_30fa15c9ac) (by decide +kernel) (by decide) rfl hl.1 rfl (Nat.le_of_ble_eq_true rfl) d_SpectrumDeskModel_findMinor_131) I (fun σ9 H locs hp I => ?_)
                    obtain ⟨P6, L6, M6, rfl, hf6, hx6⟩ := hp
                    have k6 := RB_up k5 hf6 hx6
                    refine lv_iinc (k := 1) (v := nI ((inF (fun i j => (A9 (6 * i + j)).toInt) pt sz (plF s9 sz 6).1 (prv (fun i j => (A9 (6 * i + j)).toInt) s9 sz) i).2 + 1)) (lv' := [(5, .int (nI ((inF (fun i j => (A9 (6 * i + j)).toInt) pt sz (plF s9 sz 6).1 (prv (fun i j => (A9 (6 * i + j)).toInt) s9 sz) i).2 + 1))), (6, .int (nI i)), (4, .int (nI (plF s9 sz 6).1)), (3, .int (nI sz)), (2, .int (nI pt)), (0, .ref (ad 183)), (1, .int (nI s9))]) hx hb d_SpectrumDeskModel_findMinor_134 hl rfl (nI_1 _) (by decide) rfl (fun ls hl => ?_)
                    refine lv_iinc (k := 1) (v := nI (i + 1)) (lv' := [(6, .int (nI (i + 1))), (5, .int (nI ((inF (fun i j => (A9 (6 * i + j)).toInt) pt sz (plF s9 sz 6).1 (prv (fun i j => (A9 (6 * i + j)).toInt) s9 sz) i).2 + 1))), (4, .int (nI (plF s9 sz 6).1)), (3, .int (nI sz)), (2, .int (nI pt)), (0, .ref (ad 183)), (1, .int (nI s9))]) hx hb d_SpectrumDeskModel_findMinor_137 hl rfl (nI_1 i) (by decide) rfl (fun ls hl => ?_)
                    refine lv_goto hx hb d_SpectrumDeskModel_findMinor_140 rfl ?_
                    have e9 : inF (fun i j => (A9 (6 * i + j)).toInt) pt sz (plF s9 sz 6).1 (prv (fun i j => (A9 (6 * i + j)).toInt) s9 sz) (i + 1) = ((inF (fun i j => (A9 (6 * i + j)).toInt) pt sz (plF s9 sz 6).1 (prv (fun i j => (A9 (6 * i + j)).toInt) s9 sz) i).1 - (A9 (6 * i + (plF s9 sz 6).1)).toInt * prv (fun i j => (A9 (6 * i + j)).toInt) s9 sz (pt - 2 ^ i), (inF (fun i j => (A9 (6 * i + j)).toInt) pt sz (plF s9 sz 6).1 (prv (fun i j => (A9 (6 * i + j)).toInt) s9 sz) i).2 + 1) := by rw [inF, if_pos hb1, if_pos hodd]
                    refine jh (i + 1) P6 L6 M6 _ ls H locs (by omega) k6 ?_ (fun q hq hi => (va_up_ne _ _ (by omega)).trans ((yo5 _ (by omega) (by omega)).trans (g4 q hq hi))) (fun v hv => (va_up_ne _ _ (by omega)).trans ((yo5 _ (by omega) (by omega)).trans (g5 v hv))) (by rw [e9]; exact hl) I
                    rw [e9, va_up_self, yo5 (40 + pt) (by omega) (by omega), g3, y105]
          refine lv_if_ne hx hb d_SpectrumDeskModel_findMinor_25 rfl (fun hg => ?_) (fun hg => ?_)
          · have hz0 : ¬ sz = 0 := fun h => hg (by rw [h]; rfl)
            refine lv_lconst (v := 0) hx hb d_SpectrumDeskModel_findMinor_32 (by decide) ?_
            refine xr_callv (xr_runV (kc := 0) (kr := 3) (n := 2) (As := [.int (nI (40 + pt)), .long 0]) (rest := []) X I (by decide) (r183 ..) rfl (c_SpectrumDeskModel_bigSet (w := 40 + pt) (v := 0) mfs_ok (by omega)) (xg k_5f300b8d49) (List.mem_cons_of_mem _ k_7a89662665) (List.mem_cons_of_mem _ k_203da126f2) (List.mem_cons_of_mem _ k_e2b6114fa3) (List.mem_cons_of_mem _ k_30fa15c9ac) (by decide +kernel) (by decide) rfl hl.1 rfl (Nat.le_of_ble_eq_true rfl) d_SpectrumDeskModel_findMinor_33) I (fun σ9 H locs hp I => ?_)
            obtain ⟨P3, L3, M3, rfl, hf3, hx3⟩ := hp
            have k3 := RB_up h2 hf3 hx3
            refine lv_iload_n hx hb d_SpectrumDeskModel_findMinor_36 rfl (lv_at hl 3 rfl) ?_
            refine lv_iload_n hx hb d_SpectrumDeskModel_findMinor_37 rfl (lv_at hl 0 rfl) ?_
            refine lv_iconst (v := nI 1) hx hb d_SpectrumDeskModel_findMinor_38 (by decide) ?_
            refine lv_isub hx hb d_SpectrumDeskModel_findMinor_39 ?_
            refine xr_topi (y := nP sz) rfl ?_
            refine xr_calli (xr_runS (kc := 0) (kr := 3) (n := 2) (As := [.int (nI s9), .int (nP sz)]) (rest := []) X I (c_SpectrumDeskModel_placeOf (s9 := s9) (sz := sz) hs9 hsz6) (xg k_039dba0db2) (List.mem_cons_of_mem _ k_4aacde9f3d) (List.mem_cons_of_mem _ k_c9cf2d4db0) (List.mem_cons_of_mem _ k_30fa15c9ac) (by decide +kernel) (by decide) rfl hl.1 rfl (Nat.le_of_ble_eq_true rfl) d_SpectrumDeskModel_findMinor_40) I (fun r1 σ9 H locs hp I => ?_)
            obtain ⟨rfl, h9⟩ := hp; rw [h9] at I; clear h9
            refine lv_istore (lv' := [(4, .int (nI (plF s9 sz 6).1)), (3, .int (nI sz)), (2, .int (nI pt)), (0, .ref (ad 183)), (1, .int (nI s9))]) hx hb d_SpectrumDeskModel_findMinor_43 hl (by decide) rfl (fun ls hl => ?_)
            refine lv_iconst (v := nI 0) hx hb d_SpectrumDeskModel_findMinor_45 (by decide) ?_
            refine lv_istore (lv' := [(5, .int (nI 0)), (4, .int (nI (plF s9 sz 6).1)), (3, .int (nI sz)), (2, .int (nI pt)), (0, .ref (ad 183)), (1, .int (nI s9))]) hx hb d_SpectrumDeskModel_findMinor_46 hl (by decide) rfl (fun ls hl => ?_)
            refine lv_iconst (v := nI 0) hx hb d_SpectrumDeskModel_findMinor_48 (by decide) ?_
            refine lv_istore (lv' := [(6, .int (nI 0)), (5, .int (nI 0)), (4, .int (nI (plF s9 sz 6).1)), (3, .int (nI sz)), (2, .int (nI pt)), (0, .ref (ad 183)), (1, .int (nI s9))]) hx hb d_SpectrumDeskModel_findMinor_49 hl (by decide) rfl (fun ls hl => ?_)
            exact inner 6 0 P3 L3 M3 _ ls _ _ (by omega) k3 (by rw [va_up_self]; simp only [inF]; rw [if_neg hz0]; decide) (fun q hq hi => (va_up_ne _ _ (by omega)).trans (h3 q hq hi)) (fun v hv => (va_up_ne _ _ (by omega)).trans (h4 v hv)) hl I
          · have hz0 : sz = 0 := (nI_eq (by omega) (by decide)).mp hg
            refine lv_lconst (v := 1) hx hb d_SpectrumDeskModel_findMinor_28 (by decide) ?_
            refine lv_goto hx hb d_SpectrumDeskModel_findMinor_29 rfl ?_
            refine xr_callv (xr_runV (kc := 0) (kr := 3) (n := 2) (As := [.int (nI (40 + pt)), .long 1]) (rest := []) X I (by decide) (r183 ..) rfl (c_SpectrumDeskModel_bigSet (w := 40 + pt) (v := 1) mfs_ok (by omega)) (xg k_5f300b8d49) (List.mem_cons_of_mem _ k_7a89662665) (List.mem_cons_of_mem _ k_203da126f2) (List.mem_cons_of_mem _ k_e2b6114fa3) (List.mem_cons_of_mem _ k_30fa15c9ac) (by decide +kernel) (by decide) rfl hl.1 rfl (Nat.le_of_ble_eq_true rfl) d_SpectrumDeskModel_findMinor_33) I (fun σ9 H locs hp I => ?_)
            obtain ⟨P3, L3, M3, rfl, hf3, hx3⟩ := hp
            have k3 := RB_up h2 hf3 hx3
            refine lv_iload_n hx hb d_SpectrumDeskModel_findMinor_36 rfl (lv_at hl 3 rfl) ?_
            refine lv_iload_n hx hb d_SpectrumDeskModel_findMinor_37 rfl (lv_at hl 0 rfl) ?_
            refine lv_iconst (v := nI 1) hx hb d_SpectrumDeskModel_findMinor_38 (by decide) ?_
            refine lv_isub hx hb d_SpectrumDeskModel_findMinor_39 ?_
            refine xr_topi (y := nP sz) rfl ?_
            refine xr_calli (xr_runS (kc := 0) (kr := 3) (n := 2) (As := [.int (nI s9), .int (nP sz)]) (rest := []) X I (c_SpectrumDeskModel_placeOf (s9 := s9) (sz := sz) hs9 hsz6) (xg k_039dba0db2) (List.mem_cons_of_mem _ k_4aacde9f3d) (List.mem_cons_of_mem _ k_c9cf2d4db0) (List.mem_cons_of_mem _ k_30fa15c9ac) (by decide +kernel) (by decide) rfl hl.1 rfl (Nat.le_of_ble_eq_true rfl) d_SpectrumDeskModel_findMinor_40) I (fun r1 σ9 H locs hp I => ?_)
            obtain ⟨rfl, h9⟩ := hp; rw [h9] at I; clear h9
            refine lv_istore (lv' := [(4, .int (nI (plF s9 sz 6).1)), (3, .int (nI sz)), (2, .int (nI pt)), (0, .ref (ad 183)), (1, .int (nI s9))]) hx hb d_SpectrumDeskModel_findMinor_43 hl (by decide) rfl (fun ls hl => ?_)
            refine lv_iconst (v := nI 0) hx hb d_SpectrumDeskModel_findMinor_45 (by decide) ?_
            refine lv_istore (lv' := [(5, .int (nI 0)), (4, .int (nI (plF s9 sz 6).1)), (3, .int (nI sz)), (2, .int (nI pt)), (0, .ref (ad 183)), (1, .int (nI s9))]) hx hb d_SpectrumDeskModel_findMinor_46 hl (by decide) rfl (fun ls hl => ?_)
            refine lv_iconst (v := nI 0) hx hb d_SpectrumDeskModel_findMinor_48 (by decide) ?_
            refine lv_istore (lv' := [(6, .int (nI 0)), (5, .int (nI 0)), (4, .int (nI (plF s9 sz 6).1)), (3, .int (nI sz)), (2, .int (nI pt)), (0, .ref (ad 183)), (1, .int (nI s9))]) hx hb d_SpectrumDeskModel_findMinor_49 hl (by decide) rfl (fun ls hl => ?_)
            exact inner 6 0 P3 L3 M3 _ ls _ _ (by omega) k3 (by rw [va_up_self]; simp only [inF]; rw [if_pos hz0]; decide) (fun q hq hi => (va_up_ne _ _ (by omega)).trans (h3 q hq hi)) (fun v hv => (va_up_ne _ _ (by omega)).trans (h4 v hv)) hl I
  refine lv_iconst (v := nI 0) hx hb d_SpectrumDeskModel_findMinor_0 (by decide) ?_
  refine lv_istore_n (lv' := [(2, .int (nI 0)), (0, .ref (ad 183)), (1, .int (nI s9))]) hx hb d_SpectrumDeskModel_findMinor_1 rfl hl (by decide) rfl (fun ls hl => ?_)
  exact outer (s9 + 1) 0 P L M Z ls _ _ (by omega) hB (fun q hq => absurd hq (Nat.not_lt_zero _)) (fun _ _ => rfl) hl I
