/-! Integer.bitCount; SpectrumDesk$Limbs: zeroBitsAtEnd, halve, divideByOdd (written by wip/gen) -/
abbrev b_Integer_bitCount : ByteArray := prog_17_method_49_code
abbrev y_Integer_bitCount : MethodName := ⟨"java/lang/Integer", "bitCount", "(I)I"⟩
abbrev v_Integer_bitCount : List Cond := Cond.code y_Integer_bitCount b_Integer_bitCount 1 (some .int) :: AW
theorem d_Integer_bitCount_0 : decode b_Integer_bitCount 0 = .ok (.iload_n 0, 1) := by decide +kernel
theorem d_Integer_bitCount_1 : decode b_Integer_bitCount 1 = .ok (.iload_n 0, 1) := by decide +kernel
theorem d_Integer_bitCount_2 : decode b_Integer_bitCount 2 = .ok (.iconst 1, 1) := by decide +kernel
theorem d_Integer_bitCount_3 : decode b_Integer_bitCount 3 = .ok (.iushr, 1) := by decide +kernel
theorem d_Integer_bitCount_4 : decode b_Integer_bitCount 4 = .ok (.ldc_w 265, 3) := by decide +kernel
theorem d_Integer_bitCount_7 : decode b_Integer_bitCount 7 = .ok (.iand, 1) := by decide +kernel
theorem d_Integer_bitCount_8 : decode b_Integer_bitCount 8 = .ok (.isub, 1) := by decide +kernel
theorem d_Integer_bitCount_9 : decode b_Integer_bitCount 9 = .ok (.istore_n 0, 1) := by decide +kernel
theorem d_Integer_bitCount_10 : decode b_Integer_bitCount 10 = .ok (.iload_n 0, 1) := by decide +kernel
theorem d_Integer_bitCount_11 : decode b_Integer_bitCount 11 = .ok (.ldc_w 266, 3) := by decide +kernel
theorem d_Integer_bitCount_14 : decode b_Integer_bitCount 14 = .ok (.iand, 1) := by decide +kernel
theorem d_Integer_bitCount_15 : decode b_Integer_bitCount 15 = .ok (.iload_n 0, 1) := by decide +kernel
theorem d_Integer_bitCount_16 : decode b_Integer_bitCount 16 = .ok (.iconst 2, 1) := by decide +kernel
theorem d_Integer_bitCount_17 : decode b_Integer_bitCount 17 = .ok (.iushr, 1) := by decide +kernel
theorem d_Integer_bitCount_18 : decode b_Integer_bitCount 18 = .ok (.ldc_w 266, 3) := by decide +kernel
theorem d_Integer_bitCount_21 : decode b_Integer_bitCount 21 = .ok (.iand, 1) := by decide +kernel
theorem d_Integer_bitCount_22 : decode b_Integer_bitCount 22 = .ok (.iadd, 1) := by decide +kernel
theorem d_Integer_bitCount_23 : decode b_Integer_bitCount 23 = .ok (.istore_n 0, 1) := by decide +kernel
theorem d_Integer_bitCount_24 : decode b_Integer_bitCount 24 = .ok (.iload_n 0, 1) := by decide +kernel
theorem d_Integer_bitCount_25 : decode b_Integer_bitCount 25 = .ok (.iload_n 0, 1) := by decide +kernel
theorem d_Integer_bitCount_26 : decode b_Integer_bitCount 26 = .ok (.iconst 4, 1) := by decide +kernel
theorem d_Integer_bitCount_27 : decode b_Integer_bitCount 27 = .ok (.iushr, 1) := by decide +kernel
theorem d_Integer_bitCount_28 : decode b_Integer_bitCount 28 = .ok (.iadd, 1) := by decide +kernel
theorem d_Integer_bitCount_29 : decode b_Integer_bitCount 29 = .ok (.ldc_w 267, 3) := by decide +kernel
theorem d_Integer_bitCount_32 : decode b_Integer_bitCount 32 = .ok (.iand, 1) := by decide +kernel
theorem d_Integer_bitCount_33 : decode b_Integer_bitCount 33 = .ok (.istore_n 0, 1) := by decide +kernel
theorem d_Integer_bitCount_34 : decode b_Integer_bitCount 34 = .ok (.iload_n 0, 1) := by decide +kernel
theorem d_Integer_bitCount_35 : decode b_Integer_bitCount 35 = .ok (.iload_n 0, 1) := by decide +kernel
theorem d_Integer_bitCount_36 : decode b_Integer_bitCount 36 = .ok (.bipush (8), 2) := by decide +kernel
theorem d_Integer_bitCount_38 : decode b_Integer_bitCount 38 = .ok (.iushr, 1) := by decide +kernel
theorem d_Integer_bitCount_39 : decode b_Integer_bitCount 39 = .ok (.iadd, 1) := by decide +kernel
theorem d_Integer_bitCount_40 : decode b_Integer_bitCount 40 = .ok (.istore_n 0, 1) := by decide +kernel
theorem d_Integer_bitCount_41 : decode b_Integer_bitCount 41 = .ok (.iload_n 0, 1) := by decide +kernel
theorem d_Integer_bitCount_42 : decode b_Integer_bitCount 42 = .ok (.iload_n 0, 1) := by decide +kernel
theorem d_Integer_bitCount_43 : decode b_Integer_bitCount 43 = .ok (.bipush (16), 2) := by decide +kernel
theorem d_Integer_bitCount_45 : decode b_Integer_bitCount 45 = .ok (.iushr, 1) := by decide +kernel
theorem d_Integer_bitCount_46 : decode b_Integer_bitCount 46 = .ok (.iadd, 1) := by decide +kernel
theorem d_Integer_bitCount_47 : decode b_Integer_bitCount 47 = .ok (.istore_n 0, 1) := by decide +kernel
theorem d_Integer_bitCount_48 : decode b_Integer_bitCount 48 = .ok (.iload_n 0, 1) := by decide +kernel
theorem d_Integer_bitCount_49 : decode b_Integer_bitCount 49 = .ok (.bipush (63), 2) := by decide +kernel
theorem d_Integer_bitCount_51 : decode b_Integer_bitCount 51 = .ok (.iand, 1) := by decide +kernel
theorem d_Integer_bitCount_52 : decode b_Integer_bitCount 52 = .ok (.ireturn, 1) := by decide +kernel
abbrev b_Limbs_zeroBitsAtEnd : ByteArray := prog_4_method_10_code
abbrev y_Limbs_zeroBitsAtEnd : MethodName := ⟨"SpectrumDesk$Limbs", "zeroBitsAtEnd", "([II)I"⟩
abbrev v_Limbs_zeroBitsAtEnd : List Cond := Cond.code y_Limbs_zeroBitsAtEnd b_Limbs_zeroBitsAtEnd 3 (some .int) :: AW
theorem d_Limbs_zeroBitsAtEnd_0 : decode b_Limbs_zeroBitsAtEnd 0 = .ok (.iconst 0, 1) := by decide +kernel
theorem d_Limbs_zeroBitsAtEnd_1 : decode b_Limbs_zeroBitsAtEnd 1 = .ok (.istore_n 2, 1) := by decide +kernel
theorem d_Limbs_zeroBitsAtEnd_2 : decode b_Limbs_zeroBitsAtEnd 2 = .ok (.iload_n 2, 1) := by decide +kernel
theorem d_Limbs_zeroBitsAtEnd_3 : decode b_Limbs_zeroBitsAtEnd 3 = .ok (.iload_n 1, 1) := by decide +kernel
theorem d_Limbs_zeroBitsAtEnd_4 : decode b_Limbs_zeroBitsAtEnd 4 = .ok (.if_icmp .ge (34), 3) := by decide +kernel
theorem d_Limbs_zeroBitsAtEnd_7 : decode b_Limbs_zeroBitsAtEnd 7 = .ok (.aload_n 0, 1) := by decide +kernel
theorem d_Limbs_zeroBitsAtEnd_8 : decode b_Limbs_zeroBitsAtEnd 8 = .ok (.iload_n 2, 1) := by decide +kernel
theorem d_Limbs_zeroBitsAtEnd_9 : decode b_Limbs_zeroBitsAtEnd 9 = .ok (.iaload, 1) := by decide +kernel
theorem d_Limbs_zeroBitsAtEnd_10 : decode b_Limbs_zeroBitsAtEnd 10 = .ok (.ifCond .eq (22), 3) := by decide +kernel
theorem d_Limbs_zeroBitsAtEnd_13 : decode b_Limbs_zeroBitsAtEnd 13 = .ok (.iload_n 2, 1) := by decide +kernel
theorem d_Limbs_zeroBitsAtEnd_14 : decode b_Limbs_zeroBitsAtEnd 14 = .ok (.bipush (30), 2) := by decide +kernel
theorem d_Limbs_zeroBitsAtEnd_16 : decode b_Limbs_zeroBitsAtEnd 16 = .ok (.imul, 1) := by decide +kernel
theorem d_Limbs_zeroBitsAtEnd_17 : decode b_Limbs_zeroBitsAtEnd 17 = .ok (.aload_n 0, 1) := by decide +kernel
theorem d_Limbs_zeroBitsAtEnd_18 : decode b_Limbs_zeroBitsAtEnd 18 = .ok (.iload_n 2, 1) := by decide +kernel
theorem d_Limbs_zeroBitsAtEnd_19 : decode b_Limbs_zeroBitsAtEnd 19 = .ok (.iaload, 1) := by decide +kernel
theorem d_Limbs_zeroBitsAtEnd_20 : decode b_Limbs_zeroBitsAtEnd 20 = .ok (.aload_n 0, 1) := by decide +kernel
theorem d_Limbs_zeroBitsAtEnd_21 : decode b_Limbs_zeroBitsAtEnd 21 = .ok (.iload_n 2, 1) := by decide +kernel
theorem d_Limbs_zeroBitsAtEnd_22 : decode b_Limbs_zeroBitsAtEnd 22 = .ok (.iaload, 1) := by decide +kernel
theorem d_Limbs_zeroBitsAtEnd_23 : decode b_Limbs_zeroBitsAtEnd 23 = .ok (.ineg, 1) := by decide +kernel
theorem d_Limbs_zeroBitsAtEnd_24 : decode b_Limbs_zeroBitsAtEnd 24 = .ok (.iand, 1) := by decide +kernel
theorem d_Limbs_zeroBitsAtEnd_25 : decode b_Limbs_zeroBitsAtEnd 25 = .ok (.iconst 1, 1) := by decide +kernel
theorem d_Limbs_zeroBitsAtEnd_26 : decode b_Limbs_zeroBitsAtEnd 26 = .ok (.isub, 1) := by decide +kernel
theorem d_Limbs_zeroBitsAtEnd_27 : decode b_Limbs_zeroBitsAtEnd 27 = .ok (.invokestatic 44, 3) := by decide +kernel
theorem d_Limbs_zeroBitsAtEnd_30 : decode b_Limbs_zeroBitsAtEnd 30 = .ok (.iadd, 1) := by decide +kernel
theorem d_Limbs_zeroBitsAtEnd_31 : decode b_Limbs_zeroBitsAtEnd 31 = .ok (.ireturn, 1) := by decide +kernel
theorem d_Limbs_zeroBitsAtEnd_32 : decode b_Limbs_zeroBitsAtEnd 32 = .ok (.iinc 2 (1), 3) := by decide +kernel
theorem d_Limbs_zeroBitsAtEnd_35 : decode b_Limbs_zeroBitsAtEnd 35 = .ok (.goto (-33), 3) := by decide +kernel
theorem d_Limbs_zeroBitsAtEnd_38 : decode b_Limbs_zeroBitsAtEnd 38 = .ok (.iconst 0, 1) := by decide +kernel
theorem d_Limbs_zeroBitsAtEnd_39 : decode b_Limbs_zeroBitsAtEnd 39 = .ok (.ireturn, 1) := by decide +kernel
abbrev b_Limbs_halve : ByteArray := prog_4_method_11_code
abbrev y_Limbs_halve : MethodName := ⟨"SpectrumDesk$Limbs", "halve", "([III)V"⟩
abbrev v_Limbs_halve : List Cond := Cond.code y_Limbs_halve b_Limbs_halve 11 none :: AW
theorem d_Limbs_halve_0 : decode b_Limbs_halve 0 = .ok (.iload_n 1, 1) := by decide +kernel
theorem d_Limbs_halve_1 : decode b_Limbs_halve 1 = .ok (.bipush (30), 2) := by decide +kernel
theorem d_Limbs_halve_3 : decode b_Limbs_halve 3 = .ok (.idiv, 1) := by decide +kernel
theorem d_Limbs_halve_4 : decode b_Limbs_halve 4 = .ok (.istore_n 3, 1) := by decide +kernel
theorem d_Limbs_halve_5 : decode b_Limbs_halve 5 = .ok (.iload_n 1, 1) := by decide +kernel
theorem d_Limbs_halve_6 : decode b_Limbs_halve 6 = .ok (.bipush (30), 2) := by decide +kernel
theorem d_Limbs_halve_8 : decode b_Limbs_halve 8 = .ok (.irem, 1) := by decide +kernel
theorem d_Limbs_halve_9 : decode b_Limbs_halve 9 = .ok (.istore 4, 2) := by decide +kernel
theorem d_Limbs_halve_11 : decode b_Limbs_halve 11 = .ok (.aload_n 0, 1) := by decide +kernel
theorem d_Limbs_halve_12 : decode b_Limbs_halve 12 = .ok (.iload_n 2, 1) := by decide +kernel
theorem d_Limbs_halve_13 : decode b_Limbs_halve 13 = .ok (.iconst 1, 1) := by decide +kernel
theorem d_Limbs_halve_14 : decode b_Limbs_halve 14 = .ok (.isub, 1) := by decide +kernel
theorem d_Limbs_halve_15 : decode b_Limbs_halve 15 = .ok (.iaload, 1) := by decide +kernel
theorem d_Limbs_halve_16 : decode b_Limbs_halve 16 = .ok (.ldc 28, 2) := by decide +kernel
theorem d_Limbs_halve_18 : decode b_Limbs_halve 18 = .ok (.if_icmp .lt (8), 3) := by decide +kernel
theorem d_Limbs_halve_21 : decode b_Limbs_halve 21 = .ok (.ldc 9, 2) := by decide +kernel
theorem d_Limbs_halve_23 : decode b_Limbs_halve 23 = .ok (.goto (4), 3) := by decide +kernel
theorem d_Limbs_halve_26 : decode b_Limbs_halve 26 = .ok (.iconst 0, 1) := by decide +kernel
theorem d_Limbs_halve_27 : decode b_Limbs_halve 27 = .ok (.istore 5, 2) := by decide +kernel
theorem d_Limbs_halve_29 : decode b_Limbs_halve 29 = .ok (.iconst 0, 1) := by decide +kernel
theorem d_Limbs_halve_30 : decode b_Limbs_halve 30 = .ok (.istore 6, 2) := by decide +kernel
theorem d_Limbs_halve_32 : decode b_Limbs_halve 32 = .ok (.iload 6, 2) := by decide +kernel
theorem d_Limbs_halve_34 : decode b_Limbs_halve 34 = .ok (.iload_n 2, 1) := by decide +kernel
theorem d_Limbs_halve_35 : decode b_Limbs_halve 35 = .ok (.if_icmp .ge (79), 3) := by decide +kernel
theorem d_Limbs_halve_38 : decode b_Limbs_halve 38 = .ok (.iload 6, 2) := by decide +kernel
theorem d_Limbs_halve_40 : decode b_Limbs_halve 40 = .ok (.iload_n 3, 1) := by decide +kernel
theorem d_Limbs_halve_41 : decode b_Limbs_halve 41 = .ok (.iadd, 1) := by decide +kernel
theorem d_Limbs_halve_42 : decode b_Limbs_halve 42 = .ok (.iload_n 2, 1) := by decide +kernel
theorem d_Limbs_halve_43 : decode b_Limbs_halve 43 = .ok (.if_icmp .ge (13), 3) := by decide +kernel
theorem d_Limbs_halve_46 : decode b_Limbs_halve 46 = .ok (.aload_n 0, 1) := by decide +kernel
theorem d_Limbs_halve_47 : decode b_Limbs_halve 47 = .ok (.iload 6, 2) := by decide +kernel
theorem d_Limbs_halve_49 : decode b_Limbs_halve 49 = .ok (.iload_n 3, 1) := by decide +kernel
theorem d_Limbs_halve_50 : decode b_Limbs_halve 50 = .ok (.iadd, 1) := by decide +kernel
theorem d_Limbs_halve_51 : decode b_Limbs_halve 51 = .ok (.iaload, 1) := by decide +kernel
theorem d_Limbs_halve_52 : decode b_Limbs_halve 52 = .ok (.i2l, 1) := by decide +kernel
theorem d_Limbs_halve_53 : decode b_Limbs_halve 53 = .ok (.goto (6), 3) := by decide +kernel
theorem d_Limbs_halve_56 : decode b_Limbs_halve 56 = .ok (.iload 5, 2) := by decide +kernel
theorem d_Limbs_halve_58 : decode b_Limbs_halve 58 = .ok (.i2l, 1) := by decide +kernel
theorem d_Limbs_halve_59 : decode b_Limbs_halve 59 = .ok (.lstore 7, 2) := by decide +kernel
theorem d_Limbs_halve_61 : decode b_Limbs_halve 61 = .ok (.iload 6, 2) := by decide +kernel
theorem d_Limbs_halve_63 : decode b_Limbs_halve 63 = .ok (.iload_n 3, 1) := by decide +kernel
theorem d_Limbs_halve_64 : decode b_Limbs_halve 64 = .ok (.iadd, 1) := by decide +kernel
theorem d_Limbs_halve_65 : decode b_Limbs_halve 65 = .ok (.iconst 1, 1) := by decide +kernel
theorem d_Limbs_halve_66 : decode b_Limbs_halve 66 = .ok (.iadd, 1) := by decide +kernel
theorem d_Limbs_halve_67 : decode b_Limbs_halve 67 = .ok (.iload_n 2, 1) := by decide +kernel
theorem d_Limbs_halve_68 : decode b_Limbs_halve 68 = .ok (.if_icmp .ge (15), 3) := by decide +kernel
theorem d_Limbs_halve_71 : decode b_Limbs_halve 71 = .ok (.aload_n 0, 1) := by decide +kernel
theorem d_Limbs_halve_72 : decode b_Limbs_halve 72 = .ok (.iload 6, 2) := by decide +kernel
theorem d_Limbs_halve_74 : decode b_Limbs_halve 74 = .ok (.iload_n 3, 1) := by decide +kernel
theorem d_Limbs_halve_75 : decode b_Limbs_halve 75 = .ok (.iadd, 1) := by decide +kernel
theorem d_Limbs_halve_76 : decode b_Limbs_halve 76 = .ok (.iconst 1, 1) := by decide +kernel
theorem d_Limbs_halve_77 : decode b_Limbs_halve 77 = .ok (.iadd, 1) := by decide +kernel
theorem d_Limbs_halve_78 : decode b_Limbs_halve 78 = .ok (.iaload, 1) := by decide +kernel
theorem d_Limbs_halve_79 : decode b_Limbs_halve 79 = .ok (.i2l, 1) := by decide +kernel
theorem d_Limbs_halve_80 : decode b_Limbs_halve 80 = .ok (.goto (6), 3) := by decide +kernel
theorem d_Limbs_halve_83 : decode b_Limbs_halve 83 = .ok (.iload 5, 2) := by decide +kernel
theorem d_Limbs_halve_85 : decode b_Limbs_halve 85 = .ok (.i2l, 1) := by decide +kernel
theorem d_Limbs_halve_86 : decode b_Limbs_halve 86 = .ok (.lstore 9, 2) := by decide +kernel
theorem d_Limbs_halve_88 : decode b_Limbs_halve 88 = .ok (.aload_n 0, 1) := by decide +kernel
theorem d_Limbs_halve_89 : decode b_Limbs_halve 89 = .ok (.iload 6, 2) := by decide +kernel
theorem d_Limbs_halve_91 : decode b_Limbs_halve 91 = .ok (.lload 9, 2) := by decide +kernel
theorem d_Limbs_halve_93 : decode b_Limbs_halve 93 = .ok (.bipush (30), 2) := by decide +kernel
theorem d_Limbs_halve_95 : decode b_Limbs_halve 95 = .ok (.lshl, 1) := by decide +kernel
theorem d_Limbs_halve_96 : decode b_Limbs_halve 96 = .ok (.lload 7, 2) := by decide +kernel
theorem d_Limbs_halve_98 : decode b_Limbs_halve 98 = .ok (.lor, 1) := by decide +kernel
theorem d_Limbs_halve_99 : decode b_Limbs_halve 99 = .ok (.iload 4, 2) := by decide +kernel
theorem d_Limbs_halve_101 : decode b_Limbs_halve 101 = .ok (.lshr, 1) := by decide +kernel
theorem d_Limbs_halve_102 : decode b_Limbs_halve 102 = .ok (.ldc2_w 32, 3) := by decide +kernel
theorem d_Limbs_halve_105 : decode b_Limbs_halve 105 = .ok (.land, 1) := by decide +kernel
theorem d_Limbs_halve_106 : decode b_Limbs_halve 106 = .ok (.l2i, 1) := by decide +kernel
theorem d_Limbs_halve_107 : decode b_Limbs_halve 107 = .ok (.iastore, 1) := by decide +kernel
theorem d_Limbs_halve_108 : decode b_Limbs_halve 108 = .ok (.iinc 6 (1), 3) := by decide +kernel
theorem d_Limbs_halve_111 : decode b_Limbs_halve 111 = .ok (.goto (-79), 3) := by decide +kernel
theorem d_Limbs_halve_114 : decode b_Limbs_halve 114 = .ok (.return_, 1) := by decide +kernel
abbrev b_Limbs_divideByOdd : ByteArray := prog_4_method_12_code
abbrev y_Limbs_divideByOdd : MethodName := ⟨"SpectrumDesk$Limbs", "divideByOdd", "([I[II)V"⟩
abbrev v_Limbs_divideByOdd : List Cond := Cond.code y_Limbs_divideByOdd b_Limbs_divideByOdd 6 none :: AW
theorem d_Limbs_divideByOdd_0 : decode b_Limbs_divideByOdd 0 = .ok (.aload_n 1, 1) := by decide +kernel
theorem d_Limbs_divideByOdd_1 : decode b_Limbs_divideByOdd 1 = .ok (.iconst 0, 1) := by decide +kernel
theorem d_Limbs_divideByOdd_2 : decode b_Limbs_divideByOdd 2 = .ok (.iaload, 1) := by decide +kernel
theorem d_Limbs_divideByOdd_3 : decode b_Limbs_divideByOdd 3 = .ok (.istore_n 3, 1) := by decide +kernel
theorem d_Limbs_divideByOdd_4 : decode b_Limbs_divideByOdd 4 = .ok (.iconst 0, 1) := by decide +kernel
theorem d_Limbs_divideByOdd_5 : decode b_Limbs_divideByOdd 5 = .ok (.istore 4, 2) := by decide +kernel
theorem d_Limbs_divideByOdd_7 : decode b_Limbs_divideByOdd 7 = .ok (.iload 4, 2) := by decide +kernel
theorem d_Limbs_divideByOdd_9 : decode b_Limbs_divideByOdd 9 = .ok (.iconst 4, 1) := by decide +kernel
theorem d_Limbs_divideByOdd_10 : decode b_Limbs_divideByOdd 10 = .ok (.if_icmp .ge (19), 3) := by decide +kernel
theorem d_Limbs_divideByOdd_13 : decode b_Limbs_divideByOdd 13 = .ok (.iload_n 3, 1) := by decide +kernel
theorem d_Limbs_divideByOdd_14 : decode b_Limbs_divideByOdd 14 = .ok (.iconst 2, 1) := by decide +kernel
theorem d_Limbs_divideByOdd_15 : decode b_Limbs_divideByOdd 15 = .ok (.aload_n 1, 1) := by decide +kernel
theorem d_Limbs_divideByOdd_16 : decode b_Limbs_divideByOdd 16 = .ok (.iconst 0, 1) := by decide +kernel
theorem d_Limbs_divideByOdd_17 : decode b_Limbs_divideByOdd 17 = .ok (.iaload, 1) := by decide +kernel
theorem d_Limbs_divideByOdd_18 : decode b_Limbs_divideByOdd 18 = .ok (.iload_n 3, 1) := by decide +kernel
theorem d_Limbs_divideByOdd_19 : decode b_Limbs_divideByOdd 19 = .ok (.imul, 1) := by decide +kernel
theorem d_Limbs_divideByOdd_20 : decode b_Limbs_divideByOdd 20 = .ok (.isub, 1) := by decide +kernel
theorem d_Limbs_divideByOdd_21 : decode b_Limbs_divideByOdd 21 = .ok (.imul, 1) := by decide +kernel
theorem d_Limbs_divideByOdd_22 : decode b_Limbs_divideByOdd 22 = .ok (.istore_n 3, 1) := by decide +kernel
theorem d_Limbs_divideByOdd_23 : decode b_Limbs_divideByOdd 23 = .ok (.iinc 4 (1), 3) := by decide +kernel
theorem d_Limbs_divideByOdd_26 : decode b_Limbs_divideByOdd 26 = .ok (.goto (-19), 3) := by decide +kernel
theorem d_Limbs_divideByOdd_29 : decode b_Limbs_divideByOdd 29 = .ok (.iconst 0, 1) := by decide +kernel
theorem d_Limbs_divideByOdd_30 : decode b_Limbs_divideByOdd 30 = .ok (.istore 4, 2) := by decide +kernel
theorem d_Limbs_divideByOdd_32 : decode b_Limbs_divideByOdd 32 = .ok (.iload 4, 2) := by decide +kernel
theorem d_Limbs_divideByOdd_34 : decode b_Limbs_divideByOdd 34 = .ok (.iload_n 2, 1) := by decide +kernel
theorem d_Limbs_divideByOdd_35 : decode b_Limbs_divideByOdd 35 = .ok (.if_icmp .ge (38), 3) := by decide +kernel
theorem d_Limbs_divideByOdd_38 : decode b_Limbs_divideByOdd 38 = .ok (.aload_n 0, 1) := by decide +kernel
theorem d_Limbs_divideByOdd_39 : decode b_Limbs_divideByOdd 39 = .ok (.iload 4, 2) := by decide +kernel
theorem d_Limbs_divideByOdd_41 : decode b_Limbs_divideByOdd 41 = .ok (.iaload, 1) := by decide +kernel
theorem d_Limbs_divideByOdd_42 : decode b_Limbs_divideByOdd 42 = .ok (.iload_n 3, 1) := by decide +kernel
theorem d_Limbs_divideByOdd_43 : decode b_Limbs_divideByOdd 43 = .ok (.imul, 1) := by decide +kernel
theorem d_Limbs_divideByOdd_44 : decode b_Limbs_divideByOdd 44 = .ok (.ldc 9, 2) := by decide +kernel
theorem d_Limbs_divideByOdd_46 : decode b_Limbs_divideByOdd 46 = .ok (.iand, 1) := by decide +kernel
theorem d_Limbs_divideByOdd_47 : decode b_Limbs_divideByOdd 47 = .ok (.istore 5, 2) := by decide +kernel
theorem d_Limbs_divideByOdd_49 : decode b_Limbs_divideByOdd 49 = .ok (.aload_n 0, 1) := by decide +kernel
theorem d_Limbs_divideByOdd_50 : decode b_Limbs_divideByOdd 50 = .ok (.aload_n 1, 1) := by decide +kernel
theorem d_Limbs_divideByOdd_51 : decode b_Limbs_divideByOdd 51 = .ok (.iload 5, 2) := by decide +kernel
theorem d_Limbs_divideByOdd_53 : decode b_Limbs_divideByOdd 53 = .ok (.ineg, 1) := by decide +kernel
theorem d_Limbs_divideByOdd_54 : decode b_Limbs_divideByOdd 54 = .ok (.i2l, 1) := by decide +kernel
theorem d_Limbs_divideByOdd_55 : decode b_Limbs_divideByOdd 55 = .ok (.iload 4, 2) := by decide +kernel
theorem d_Limbs_divideByOdd_57 : decode b_Limbs_divideByOdd 57 = .ok (.iload_n 2, 1) := by decide +kernel
theorem d_Limbs_divideByOdd_58 : decode b_Limbs_divideByOdd 58 = .ok (.invokestatic 38, 3) := by decide +kernel
theorem d_Limbs_divideByOdd_61 : decode b_Limbs_divideByOdd 61 = .ok (.aload_n 0, 1) := by decide +kernel
theorem d_Limbs_divideByOdd_62 : decode b_Limbs_divideByOdd 62 = .ok (.iload 4, 2) := by decide +kernel
theorem d_Limbs_divideByOdd_64 : decode b_Limbs_divideByOdd 64 = .ok (.iload 5, 2) := by decide +kernel
theorem d_Limbs_divideByOdd_66 : decode b_Limbs_divideByOdd 66 = .ok (.iastore, 1) := by decide +kernel
theorem d_Limbs_divideByOdd_67 : decode b_Limbs_divideByOdd 67 = .ok (.iinc 4 (1), 3) := by decide +kernel
theorem d_Limbs_divideByOdd_70 : decode b_Limbs_divideByOdd 70 = .ok (.goto (-38), 3) := by decide +kernel
theorem d_Limbs_divideByOdd_73 : decode b_Limbs_divideByOdd 73 = .ok (.return_, 1) := by decide +kernel
theorem k_c029f327ca : (Jvm.Cond.constant "java/lang/Integer" (265 : Nat) (1431655765 : Int32)) ∈ AW := aw_4 (List.mem_of_getElem? (i := 5) (by decide +kernel)) (by decide +kernel)
theorem k_7595beebd6 : (Jvm.Cond.constant "java/lang/Integer" (266 : Nat) (858993459 : Int32)) ∈ AW := aw_4 (List.mem_of_getElem? (i := 6) (by decide +kernel)) (by decide +kernel)
theorem k_839376bf84 : (Jvm.Cond.constant "java/lang/Integer" (267 : Nat) (252645135 : Int32)) ∈ AW := aw_4 (List.mem_of_getElem? (i := 7) (by decide +kernel)) (by decide +kernel)
theorem k_91a45c7976 : (Jvm.Cond.methodLink "SpectrumDesk$Limbs" (44 : Nat) ({ cls := "java/lang/Integer", name := "bitCount", desc := "(I)I" } : Jvm.MethodName)) ∈ AW := aw_4 (List.mem_of_getElem? (i := 2) (by decide +kernel)) (by decide +kernel)
theorem k_92592fdb20 : (Jvm.Cond.static ({ cls := "java/lang/Integer", name := "bitCount", desc := "(I)I" } : Jvm.MethodName)) ∈ AW := aw_4 (List.mem_of_getElem? (i := 3) (by decide +kernel)) (by decide +kernel)
theorem k_4076ba4f1e : (Jvm.Cond.initialized "java/lang/Integer") ∈ AW := aw_1 (List.mem_of_getElem? (i := 25) (by decide +kernel)) (by decide +kernel)
theorem k_d2b0997339 : (Jvm.Cond.code ({ cls := "java/lang/Integer", name := "bitCount", desc := "(I)I" } : Jvm.MethodName) prog_17_method_49_code (1 : Nat) (Option.some Jvm.ClassFile.FieldType.int)) ∈ AW := aw_4 (List.mem_of_getElem? (i := 4) (by decide +kernel)) (by decide +kernel)
theorem k_3c63172879 : (Jvm.Cond.code ({ cls := "SpectrumDesk$Limbs", name := "zeroBitsAtEnd", desc := "([II)I" } : Jvm.MethodName) prog_4_method_10_code (3 : Nat) (Option.some Jvm.ClassFile.FieldType.int)) ∈ AW := aw_4 (List.mem_of_getElem? (i := 1) (by decide +kernel)) (by decide +kernel)
theorem k_8d9692048a : (Jvm.Cond.code ({ cls := "SpectrumDesk$Limbs", name := "halve", desc := "([III)V" } : Jvm.MethodName) prog_4_method_11_code (11 : Nat) (Option.none : Option Jvm.ClassFile.FieldType)) ∈ AW := aw_4 (List.mem_of_getElem? (i := 10) (by decide +kernel)) (by decide +kernel)
theorem k_fabf5d9a26 : (Jvm.Cond.code ({ cls := "SpectrumDesk$Limbs", name := "divideByOdd", desc := "([I[II)V" } : Jvm.MethodName) prog_4_method_12_code (6 : Nat) (Option.none : Option Jvm.ClassFile.FieldType)) ∈ AW := aw_4 (List.mem_of_getElem? (i := 13) (by decide +kernel)) (by decide +kernel)
set_option maxHeartbeats 4000000 in
set_option maxRecDepth 100000 in
theorem c_Integer_bitCount {l : Launch} {D : va_G} {cI cJ cZ cC cG cP : ClassId} {N : Nat} {ad : Nat → Nat} {σ : Nat → va_E} {k : Nat} (hk : k < 31) :
    Met l y_Integer_bitCount v_Integer_bitCount (xrm 0) (va_Pc [.int (nI (2 ^ k - 1))] (xS D classes (xT cI cJ cZ cC cG cP) N ad σ)) (va_Qi (fun r σ2 => r = nI k ∧ σ2 = σ) (xS D classes (xT cI cJ cZ cC cG cP) N ad) (xA N ad)) 0 0 (xA N ad) := by
  refine xr_met rfl (Nat.le_of_ble_eq_true rfl) ?_
  intro p e s m args below meth c ls hx hb X hr hlk hl I
  have hl : lv_has ls 1 [(0, .int (nI (2 ^ k - 1)))] := hl
  refine lv_iload_n hx hb d_Integer_bitCount_0 rfl (lv_at hl 0 rfl) ?_
  refine lv_iload_n hx hb d_Integer_bitCount_1 rfl (lv_at hl 0 rfl) ?_
  refine lv_iconst (v := nI 1) hx hb d_Integer_bitCount_2 (by decide) ?_
  refine lv_iushr hx hb d_Integer_bitCount_3 rfl ?_
  refine lv_ldcw (v := nI 1431655765) hx hb X.1.2.2.2.1 (X.1.2.2.2.2 _ (List.mem_cons_of_mem _ k_c029f327ca)) d_Integer_bitCount_4 ?_
  refine lv_iand hx hb d_Integer_bitCount_7 ?_
  refine lv_isub hx hb d_Integer_bitCount_8 ?_
  refine xr_topi (y := bc1 (nI (2 ^ k - 1))) rfl ?_
  refine lv_istore_n (lv' := [(0, .int (bc1 (nI (2 ^ k - 1))))]) hx hb d_Integer_bitCount_9 rfl hl (by decide) rfl (fun ls hl => ?_)
  refine lv_iload_n hx hb d_Integer_bitCount_10 rfl (lv_at hl 0 rfl) ?_
  refine lv_ldcw (v := nI 858993459) hx hb X.1.2.2.2.1 (X.1.2.2.2.2 _ (List.mem_cons_of_mem _ k_7595beebd6)) d_Integer_bitCount_11 ?_
  refine lv_iand hx hb d_Integer_bitCount_14 ?_
  refine lv_iload_n hx hb d_Integer_bitCount_15 rfl (lv_at hl 0 rfl) ?_
  refine lv_iconst (v := nI 2) hx hb d_Integer_bitCount_16 (by decide) ?_
  refine lv_iushr hx hb d_Integer_bitCount_17 rfl ?_
  refine lv_ldcw (v := nI 858993459) hx hb X.1.2.2.2.1 (X.1.2.2.2.2 _ (List.mem_cons_of_mem _ k_7595beebd6)) d_Integer_bitCount_18 ?_
  refine lv_iand hx hb d_Integer_bitCount_21 ?_
  refine lv_iadd hx hb d_Integer_bitCount_22 ?_
  refine xr_topi (y := bc2 (bc1 (nI (2 ^ k - 1)))) rfl ?_
  refine lv_istore_n (lv' := [(0, .int (bc2 (bc1 (nI (2 ^ k - 1)))))]) hx hb d_Integer_bitCount_23 rfl hl (by decide) rfl (fun ls hl => ?_)
  refine lv_iload_n hx hb d_Integer_bitCount_24 rfl (lv_at hl 0 rfl) ?_
  refine lv_iload_n hx hb d_Integer_bitCount_25 rfl (lv_at hl 0 rfl) ?_
  refine lv_iconst (v := nI 4) hx hb d_Integer_bitCount_26 (by decide) ?_
  refine lv_iushr hx hb d_Integer_bitCount_27 rfl ?_
  refine lv_iadd hx hb d_Integer_bitCount_28 ?_
  refine lv_ldcw (v := nI 252645135) hx hb X.1.2.2.2.1 (X.1.2.2.2.2 _ (List.mem_cons_of_mem _ k_839376bf84)) d_Integer_bitCount_29 ?_
  refine lv_iand hx hb d_Integer_bitCount_32 ?_
  refine xr_topi (y := bc3 (bc2 (bc1 (nI (2 ^ k - 1))))) rfl ?_
  refine lv_istore_n (lv' := [(0, .int (bc3 (bc2 (bc1 (nI (2 ^ k - 1))))))]) hx hb d_Integer_bitCount_33 rfl hl (by decide) rfl (fun ls hl => ?_)
  refine lv_iload_n hx hb d_Integer_bitCount_34 rfl (lv_at hl 0 rfl) ?_
  refine lv_iload_n hx hb d_Integer_bitCount_35 rfl (lv_at hl 0 rfl) ?_
  refine lv_bipush (v := nI 8) hx hb d_Integer_bitCount_36 (by decide) ?_
  refine lv_iushr hx hb d_Integer_bitCount_38 rfl ?_
  refine lv_iadd hx hb d_Integer_bitCount_39 ?_
  refine xr_topi (y := bc4 (bc3 (bc2 (bc1 (nI (2 ^ k - 1)))))) rfl ?_
  refine lv_istore_n (lv' := [(0, .int (bc4 (bc3 (bc2 (bc1 (nI (2 ^ k - 1)))))))]) hx hb d_Integer_bitCount_40 rfl hl (by decide) rfl (fun ls hl => ?_)
  refine lv_iload_n hx hb d_Integer_bitCount_41 rfl (lv_at hl 0 rfl) ?_
  refine lv_iload_n hx hb d_Integer_bitCount_42 rfl (lv_at hl 0 rfl) ?_
  refine lv_bipush (v := nI 16) hx hb d_Integer_bitCount_43 (by decide) ?_
  refine lv_iushr hx hb d_Integer_bitCount_45 rfl ?_
  refine lv_iadd hx hb d_Integer_bitCount_46 ?_
  refine xr_topi (y := bc5 (bc4 (bc3 (bc2 (bc1 (nI (2 ^ k - 1))))))) rfl ?_
  refine lv_istore_n (lv' := [(0, .int (bc5 (bc4 (bc3 (bc2 (bc1 (nI (2 ^ k - 1))))))))]) hx hb d_Integer_bitCount_47 rfl hl (by decide) rfl (fun ls hl => ?_)
  refine lv_iload_n hx hb d_Integer_bitCount_48 rfl (lv_at hl 0 rfl) ?_
  refine lv_bipush (v := nI 63) hx hb d_Integer_bitCount_49 (by decide) ?_
  refine lv_iand hx hb d_Integer_bitCount_51 ?_
  exact xr_iret X I hr hlk ⟨bc_ones k hk, rfl⟩ d_Integer_bitCount_52
set_option maxHeartbeats 4000000 in
set_option maxRecDepth 100000 in
theorem c_Limbs_zeroBitsAtEnd {l : Launch} {D : va_G} {cI cJ cZ cC cG cP : ClassId} {N : Nat} {ad : Nat → Nat} {σ : Nat → va_E} {a La n : Nat} {f : Nat → Int32} (hNa : a < N) (hσa : σ a = .inl (cI, La, .inl f)) (hn : n ≤ La) (hLa : La < 1000) (hok : lm_ok f n) (h0 : lm_u f n ≠ 0) :
    Met l y_Limbs_zeroBitsAtEnd v_Limbs_zeroBitsAtEnd (xrm 1) (va_Pc [.ref (ad a), .int (nI n)] (xS D classes (xT cI cJ cZ cC cG cP) N ad σ)) (va_Qi (fun r σ2 => σ2 = σ ∧ ∃ z : Nat, r = nI z ∧ z < 30 * n ∧ ∃ y : Int, lm_u f n = 2 ^ z * (2 * y + 1)) (xS D classes (xT cI cJ cZ cC cG cP) N ad) (xA N ad)) 0 0 (xA N ad) := by
  refine xr_met rfl (Nat.le_of_ble_eq_true rfl) ?_
  intro p e s m args below meth c ls hx hb X hr hlk hl I
  have hl : lv_has ls 3 [(0, .ref (ad a)), (1, .int (nI n))] := hl
  refine lv_iconst (v := nI 0) hx hb d_Limbs_zeroBitsAtEnd_0 (by decide) ?_
  refine lv_istore_n (lv' := [(2, .int (nI 0)), (0, .ref (ad a)), (1, .int (nI n))]) hx hb d_Limbs_zeroBitsAtEnd_1 rfl hl (by decide) rfl (fun ls hl => ?_)
  have loop : ∀ (q9 : Nat) (i : Nat) (ls : Array Slot) (H : Heap) (locs : List Loc), i + q9 = n → (∀ j, j < i → f j = 0) → lv_has ls 3 [(2, .int (nI i)), (0, .ref (ad a)), (1, .int (nI n))] → xI D classes N ad s.heap (σ) H locs → W p l e (xrm 1) s m args below meth c H locs 0 0 (MQ below (va_Qi (fun r σ2 => σ2 = σ ∧ ∃ z : Nat, r = nI z ∧ z < 30 * n ∧ ∃ y : Int, lm_u f n = 2 ^ z * (2 * y + 1)) (xS D classes (xT cI cJ cZ cC cG cP) N ad) (xA N ad)) args s 0 0 (xA N ad)) (F0 m 2 ls []) := by
    intro q9
    induction q9 with
    | zero =>
      intro i ls H locs hk hz9 hl I
      obtain rfl : i = n := by omega
      exact absurd (lm_u_zero hok hz9) h0
    | succ q9 ih =>
      intro i ls H locs hk hz9 hl I
      refine lv_iload_n hx hb d_Limbs_zeroBitsAtEnd_2 rfl (lv_at hl 0 rfl) ?_
      refine lv_iload_n hx hb d_Limbs_zeroBitsAtEnd_3 rfl (lv_at hl 2 rfl) ?_
      refine lv_icmp_ge hx hb d_Limbs_zeroBitsAtEnd_4 rfl (fun hc => ?_) (fun hc => ?_)
      · exact absurd hc (nI_ge (by omega) (by omega))
      · refine lv_aload_n hx hb d_Limbs_zeroBitsAtEnd_7 rfl (lv_at hl 1 rfl) ?_
        refine lv_iload_n hx hb d_Limbs_zeroBitsAtEnd_8 rfl (lv_at hl 0 rfl) ?_
        refine xr_iald X I a 0 hNa hσa rfl (by omega) (by omega) d_Limbs_zeroBitsAtEnd_9 ?_
        refine lv_if_eq hx hb d_Limbs_zeroBitsAtEnd_10 rfl (fun hd => ?_) (fun hd => ?_)
        · refine lv_iinc (k := 0) (v := nI (i + 1)) (lv' := [(2, .int (nI (i + 1))), (0, .ref (ad a)), (1, .int (nI n))]) hx hb d_Limbs_zeroBitsAtEnd_32 hl rfl (nI_1 i) (by decide) rfl (fun ls hl => ?_)
          refine lv_goto hx hb d_Limbs_zeroBitsAtEnd_35 rfl ?_
          exact ih (i + 1) ls H locs (by omega) (fun j hj => by rcases Nat.lt_or_ge j i with h | h; exact hz9 j h; obtain rfl : j = i := (by omega); exact hd) hl I
        · obtain ⟨x, x1, x2, x3⟩ := lm_nat hok (show i < n by omega)
          have x0 : 0 < x := Nat.pos_of_ne_zero (fun h => hd (by rw [x2, h]; rfl))
          obtain ⟨k, m9, hx9⟩ := lb_split x x0
          have hk30 : k < 30 := by rcases Nat.lt_or_ge k 30 with h | h; exact h; have h1 : 2 ^ 30 ≤ 2 ^ k := Nat.pow_le_pow_right (by decide) h; have h2 := Nat.mul_le_mul_left (2 ^ k) (show 1 ≤ 2 * m9 + 1 by omega); omega
          refine lv_iload_n hx hb d_Limbs_zeroBitsAtEnd_13 rfl (lv_at hl 0 rfl) ?_
          refine lv_bipush (v := nI 30) hx hb d_Limbs_zeroBitsAtEnd_14 (by decide) ?_
          refine lv_imul hx hb d_Limbs_zeroBitsAtEnd_16 (xr_topi (y := nI (i * 30)) (pk_mul i 30) ?_)
          refine lv_aload_n hx hb d_Limbs_zeroBitsAtEnd_17 rfl (lv_at hl 1 rfl) ?_
          refine lv_iload_n hx hb d_Limbs_zeroBitsAtEnd_18 rfl (lv_at hl 0 rfl) ?_
          refine xr_iald X I a 0 hNa hσa rfl (by omega) (by omega) d_Limbs_zeroBitsAtEnd_19 ?_
          refine xr_topi (y := nI x) x2 ?_
          refine lv_aload_n hx hb d_Limbs_zeroBitsAtEnd_20 rfl (lv_at hl 1 rfl) ?_
          refine lv_iload_n hx hb d_Limbs_zeroBitsAtEnd_21 rfl (lv_at hl 0 rfl) ?_
          refine xr_iald X I a 0 hNa hσa rfl (by omega) (by omega) d_Limbs_zeroBitsAtEnd_22 ?_
          refine xr_topi (y := nI x) x2 ?_
          refine lv_ineg hx hb d_Limbs_zeroBitsAtEnd_23 ?_
          refine lv_iand hx hb d_Limbs_zeroBitsAtEnd_24 ?_
          refine xr_topi (y := nI (2 ^ k)) (lb_and hx9) ?_
          have hp9 : 1 ≤ 2 ^ k := Nat.one_le_two_pow
          refine lv_iconst (v := nI 1) hx hb d_Limbs_zeroBitsAtEnd_25 (by decide) ?_
          refine lv_isub hx hb d_Limbs_zeroBitsAtEnd_26 (xr_topi (y := nI (2 ^ k - 1)) (pk_sub (by omega)) ?_)
          refine xr_calli (xr_runS (kc := 0) (kr := 1) (n := 1) (As := [.int (nI (2 ^ k - 1))]) (rest := [.int (nI (i * 30))]) X I (c_Integer_bitCount (σ := σ) (k := k) (by omega)) (xg k_d2b0997339) (List.mem_cons_of_mem _ k_91a45c7976) (List.mem_cons_of_mem _ k_92592fdb20) (List.mem_cons_of_mem _ k_4076ba4f1e) (by decide +kernel) (by decide) rfl hl.1 rfl (Nat.le_of_ble_eq_true rfl) d_Limbs_zeroBitsAtEnd_27) I (fun r1 σ9 H locs hp I => ?_)
          obtain ⟨rfl, h9⟩ := hp; rw [h9] at I; clear h9
          refine lv_iadd hx hb d_Limbs_zeroBitsAtEnd_30 (xr_topi (y := nI ((i * 30) + k)) (nI_add (i * 30) k) ?_)
          exact xr_iret X I hr hlk ⟨rfl, i * 30 + k, rfl, by omega, lm_low hok (by omega) hz9 (by rw [x3, hx9])⟩ d_Limbs_zeroBitsAtEnd_31
  exact loop n 0 ls _ _ (by omega) (fun j hj => absurd hj (Nat.not_lt_zero _)) hl I
set_option maxHeartbeats 4000000 in
set_option maxRecDepth 100000 in
theorem c_Limbs_halve {l : Launch} {D : va_G} {cI cJ cZ cC cG cP : ClassId} {N : Nat} {ad : Nat → Nat} {σ : Nat → va_E} {a La n t9 : Nat} {f : Nat → Int32} {x : Int} (hNa : a < N) (hσa : σ a = .inl (cI, La, .inl f)) (hn0 : 0 < n) (hn : n ≤ La) (hLa : La < 1000) (ht9 : t9 < 100000) (hsi : lm_si f n x) :
    Met l y_Limbs_halve v_Limbs_halve (xrm 0) (va_Pc [.ref (ad a), .int (nI t9), .int (nI n)] (xS D classes (xT cI cJ cZ cC cG cP) N ad σ)) (va_Qv (lm_up σ a cI La f n (x / 2 ^ t9)) (xS D classes (xT cI cJ cZ cC cG cP) N ad) (xA N ad)) 0 0 (xA N ad) := by
  refine xr_met rfl (Nat.le_of_ble_eq_true rfl) ?_
  intro p e s m args below meth c ls hx hb X hr hlk hl I
  have hl : lv_has ls 11 [(0, .ref (ad a)), (1, .int (nI t9)), (2, .int (nI n))] := hl
  have hok : lm_ok f n := hsi.1.1
  refine lv_iload_n hx hb d_Limbs_halve_0 rfl (lv_at hl 1 rfl) ?_
  refine lv_bipush (v := nI 30) hx hb d_Limbs_halve_1 (by decide) ?_
  refine lv_idiv hx hb d_Limbs_halve_3 (by decide) ?_
  refine xr_topi (y := nI (t9 / 30)) (pk_div (by omega) (by decide) (by decide)) ?_
  refine lv_istore_n (lv' := [(3, .int (nI (t9 / 30))), (0, .ref (ad a)), (1, .int (nI t9)), (2, .int (nI n))]) hx hb d_Limbs_halve_4 rfl hl (by decide) rfl (fun ls hl => ?_)
  refine lv_iload_n hx hb d_Limbs_halve_5 rfl (lv_at hl 2 rfl) ?_
  refine lv_bipush (v := nI 30) hx hb d_Limbs_halve_6 (by decide) ?_
  refine lv_irem hx hb d_Limbs_halve_8 (by decide) ?_
  refine xr_topi (y := nI (t9 % 30)) (pk_rem (by omega) (by decide) (by decide)) ?_
  have hb9 : t9 % 30 < 30 := Nat.mod_lt _ (by decide)
  have ht30 : t9 = 30 * (t9 / 30) + t9 % 30 := by omega
  generalize hs9 : t9 / 30 = s9 at *
  generalize hbb : t9 % 30 = b9 at *
  have hs4 : s9 < 4000 := by omega
  refine lv_istore (lv' := [(4, .int (nI b9)), (3, .int (nI s9)), (0, .ref (ad a)), (1, .int (nI t9)), (2, .int (nI n))]) hx hb d_Limbs_halve_9 hl (by decide) rfl (fun ls hl => ?_)
  refine lv_aload_n hx hb d_Limbs_halve_11 rfl (lv_at hl 2 rfl) ?_
  refine lv_iload_n hx hb d_Limbs_halve_12 rfl (lv_at hl 4 rfl) ?_
  refine lv_iconst (v := nI 1) hx hb d_Limbs_halve_13 (by decide) ?_
  refine lv_isub hx hb d_Limbs_halve_14 (xr_topi (y := nI (n - 1)) (pk_sub (by omega)) ?_)
  refine xr_iald X I a 0 hNa hσa rfl (by omega) (by omega) d_Limbs_halve_15 ?_
  have htop : (f (n - 1)).toInt ≥ 536870912 ↔ x < 0 := lm_top hn0 hsi
  refine lv_ldc (v := nI 536870912) hx hb X.1.2.2.2.1 (X.1.2.2.2.2 _ (List.mem_cons_of_mem _ k_660c696ae3)) d_Limbs_halve_16 ?_
  have loop : ∀ (fi : Nat) (hfi : (fi : Int) = if x < 0 then 1073741823 else 0) (hfi2 : fi < 1073741824) (q8 : Nat) (i : Nat) (f2 : Nat → Int32) (ls : Array Slot) (H : Heap) (locs : List Loc), i + q8 = n → (∀ j, j < i → (f2 j).toInt = x / 2 ^ t9 / 1073741824 ^ j % 1073741824) → (∀ j, i ≤ j → f2 j = f j) → (∀ j, n ≤ j → f2 j = f j) → lv_has ls 11 [(6, .int (nI i)), (5, .int (nI fi)), (4, .int (nI b9)), (3, .int (nI s9)), (0, .ref (ad a)), (1, .int (nI t9)), (2, .int (nI n))] → xI D classes N ad s.heap (va_up σ a (.inl (cI, La, .inl f2))) H locs → W p l e (xrm 0) s m args below meth c H locs 0 0 (MQ below (va_Qv (lm_up σ a cI La f n (x / 2 ^ t9)) (xS D classes (xT cI cJ cZ cC cG cP) N ad) (xA N ad)) args s 0 0 (xA N ad)) (F0 m 32 ls []) := by
    intro fi hfi hfi2 q8
    induction q8 with
    | zero =>
      intro i f2 ls H locs hk hlo hge hhi hl I
      obtain rfl : i = n := by omega
      refine lv_iload hx hb d_Limbs_halve_32 (lv_at hl 0 rfl) ?_
      refine lv_iload_n hx hb d_Limbs_halve_34 rfl (lv_at hl 6 rfl) ?_
      refine lv_icmp_ge hx hb d_Limbs_halve_35 rfl (fun hc => ?_) (fun hc => ?_)
      · exact xr_vret X I hr hlk ⟨f2, rfl, hhi, lm_is_dig hlo⟩ d_Limbs_halve_114
      · exact absurd (nI_le (Nat.le_refl _) (by omega)) hc
    | succ q8 ih =>
      intro i f2 ls H locs hk hlo hge hhi hl I
      refine lv_iload hx hb d_Limbs_halve_32 (lv_at hl 0 rfl) ?_
      refine lv_iload_n hx hb d_Limbs_halve_34 rfl (lv_at hl 6 rfl) ?_
      refine lv_icmp_ge hx hb d_Limbs_halve_35 rfl (fun hc => ?_) (fun hc => ?_)
      · exact absurd hc (nI_ge (by omega) (by omega))
      · refine lv_iload hx hb d_Limbs_halve_38 (lv_at hl 0 rfl) ?_
        refine lv_iload_n hx hb d_Limbs_halve_40 rfl (lv_at hl 3 rfl) ?_
        refine lv_iadd hx hb d_Limbs_halve_41 (xr_topi (y := nI (i + s9)) (nI_add i s9) ?_)
        refine lv_iload_n hx hb d_Limbs_halve_42 rfl (lv_at hl 6 rfl) ?_
        refine lv_icmp_ge hx hb d_Limbs_halve_43 rfl (fun hd => ?_) (fun hd => ?_)
        · have hin : n ≤ i + s9 := (nI_leI (by omega) (by omega)).mp hd
          obtain ⟨lo, l1⟩ : ∃ lo, lo = fi := ⟨_, rfl⟩
          have l5 : (lo : Int) = x / 1073741824 ^ (i + s9) % 1073741824 := by rw [l1, hfi, lm_si_ext hsi hin]
          have l1 : lo < 1073741824 := by omega
          refine lv_iload hx hb d_Limbs_halve_56 (lv_at hl 1 rfl) ?_
          have l6 : nI fi = nI lo := by congr 1; omega
          refine xr_topi (y := nI lo) l6 ?_
          refine lv_i2l hx hb d_Limbs_halve_58 (nI_l (by omega)) ?_
          refine lv_lstore (lv' := [(7, .long (lN lo)), (6, .int (nI i)), (5, .int (nI fi)), (4, .int (nI b9)), (3, .int (nI s9)), (0, .ref (ad a)), (1, .int (nI t9)), (2, .int (nI n))]) hx hb d_Limbs_halve_59 hl (by decide) rfl (fun ls hl => ?_)
          refine lv_iload hx hb d_Limbs_halve_61 (lv_at hl 1 rfl) ?_
          refine lv_iload_n hx hb d_Limbs_halve_63 rfl (lv_at hl 4 rfl) ?_
          refine lv_iadd hx hb d_Limbs_halve_64 (xr_topi (y := nI (i + s9)) (nI_add i s9) ?_)
          refine lv_iconst (v := nI 1) hx hb d_Limbs_halve_65 (by decide) ?_
          refine lv_iadd hx hb d_Limbs_halve_66 (xr_topi (y := nI ((i + s9) + 1)) (nI_add (i + s9) 1) ?_)
          refine lv_iload_n hx hb d_Limbs_halve_67 rfl (lv_at hl 7 rfl) ?_
          refine lv_icmp_ge hx hb d_Limbs_halve_68 rfl (fun he => ?_) (fun he => ?_)
          · have hin2 : n ≤ i + s9 + 1 := (nI_leI (by omega) (by omega)).mp he
            obtain ⟨hi, h1⟩ : ∃ hi, hi = fi := ⟨_, rfl⟩
            have h5 : (hi : Int) = x / 1073741824 ^ (i + s9 + 1) % 1073741824 := by rw [h1, hfi, lm_si_ext hsi hin2]
            have h1 : hi < 1073741824 := by omega
            refine lv_iload hx hb d_Limbs_halve_83 (lv_at hl 2 rfl) ?_
            have h6 : nI fi = nI hi := by congr 1; omega
            refine xr_topi (y := nI hi) h6 ?_
            refine lv_i2l hx hb d_Limbs_halve_85 (nI_l (by omega)) ?_
            refine lv_lstore (lv' := [(9, .long (lN hi)), (7, .long (lN lo)), (6, .int (nI i)), (5, .int (nI fi)), (4, .int (nI b9)), (3, .int (nI s9)), (0, .ref (ad a)), (1, .int (nI t9)), (2, .int (nI n))]) hx hb d_Limbs_halve_86 hl (by decide) rfl (fun ls hl => ?_)
            refine lv_aload_n hx hb d_Limbs_halve_88 rfl (lv_at hl 6 rfl) ?_
            refine lv_iload hx hb d_Limbs_halve_89 (lv_at hl 2 rfl) ?_
            refine lv_lload hx hb d_Limbs_halve_91 (lv_at hl 0 rfl) ?_
            refine lv_bipush (v := nI 30) hx hb d_Limbs_halve_93 (by decide) ?_
            refine lv_lshl hx hb d_Limbs_halve_95 rfl ?_
            refine xr_topl (y := lN (hi * 2 ^ 30)) (wb_shl hi (k := 30) (by decide)) ?_
            refine lv_lload hx hb d_Limbs_halve_96 (lv_at hl 1 rfl) ?_
            refine lv_lor hx hb d_Limbs_halve_98 ?_
            refine xr_topl (y := lN (hi * 1073741824 + lo)) (q_or30 l1) ?_
            refine lv_iload hx hb d_Limbs_halve_99 (lv_at hl 4 rfl) ?_
            refine lv_lshr hx hb d_Limbs_halve_101 rfl ?_
            refine xr_topl (y := lN ((hi * 1073741824 + lo) / 2 ^ b9)) (q_shrN (by omega) (by omega)) ?_
            refine lv_ldc2 (v := 1073741823) hx hb X.1.2.2.2.1 (X.1.2.2.2.2 _ (List.mem_cons_of_mem _ k_4b4bee73ee)) d_Limbs_halve_102 ?_
            refine lv_land hx hb d_Limbs_halve_105 ?_
            refine lv_topl (fun q9 eq9 => ?_)
            have hv9 : (hi * 1073741824 + lo) / 2 ^ b9 ≤ hi * 1073741824 + lo := Nat.div_le_self _ _
            have e7 : q9.toInt = (((hi * 1073741824 + lo) / 2 ^ b9 % 1073741824 : Nat) : Int) := by rw [eq9, q_land30, pk_lT (by omega)]; rfl
            refine lv_l2i hx hb d_Limbs_halve_106 rfl ?_
            refine lv_topi (fun w9 ew9 => ?_)
            have e8 : w9.toInt = (((hi * 1073741824 + lo) / 2 ^ b9 % 1073741824 : Nat) : Int) := by rw [ew9, q_l2i (by omega) (by omega), e7]
            refine xr_iast X I a 0 hNa (va_up_self _ _ _) rfl (by omega) (by omega) d_Limbs_halve_107 (fun H locs I => ?_)
            rw [va_up_up] at I
            refine lv_iinc (k := 2) (v := nI (i + 1)) (lv' := [(6, .int (nI (i + 1))), (9, .long (lN hi)), (7, .long (lN lo)), (5, .int (nI fi)), (4, .int (nI b9)), (3, .int (nI s9)), (0, .ref (ad a)), (1, .int (nI t9)), (2, .int (nI n))]) hx hb d_Limbs_halve_108 hl rfl (nI_1 i) (by decide) rfl (fun ls hl => ?_)
            refine lv_goto hx hb d_Limbs_halve_111 rfl ?_
            have hl := lv_sub hl [0, 3, 4, 5, 6, 7, 8] rfl
            have hl : lv_has ls 11 [(6, .int (nI (i + 1))), (5, .int (nI fi)), (4, .int (nI b9)), (3, .int (nI s9)), (0, .ref (ad a)), (1, .int (nI t9)), (2, .int (nI n))] := hl
            refine ih (i + 1) (upd f2 i w9) ls H locs (by omega) (fun j hj => ?_) (fun j hj => (upd_n (by omega)).trans (hge j (by omega))) (fun j hj => (upd_n (by omega)).trans (hhi j hj)) hl I
            by_cases ej : j = i
            · rw [ej, upd_s, e8]; exact lm_half hb9 ht30 l5 h5
            · rw [upd_n ej]; exact hlo j (by omega)
          · have hin2 : i + s9 + 1 < n := (nI_ltI (by omega) (by omega)).mp (q_nge he)
            obtain ⟨hi, h1, h2, h3⟩ := lm_nat hok hin2
            have h4 : f2 (i + s9 + 1) = nI hi := (hge (i + s9 + 1) (by omega)).trans h2
            refine lv_aload_n hx hb d_Limbs_halve_71 rfl (lv_at hl 5 rfl) ?_
            refine lv_iload hx hb d_Limbs_halve_72 (lv_at hl 1 rfl) ?_
            refine lv_iload_n hx hb d_Limbs_halve_74 rfl (lv_at hl 4 rfl) ?_
            refine lv_iadd hx hb d_Limbs_halve_75 (xr_topi (y := nI (i + s9)) (nI_add i s9) ?_)
            refine lv_iconst (v := nI 1) hx hb d_Limbs_halve_76 (by decide) ?_
            refine lv_iadd hx hb d_Limbs_halve_77 (xr_topi (y := nI ((i + s9) + 1)) (nI_add (i + s9) 1) ?_)
            refine xr_iald X I a 0 hNa (va_up_self _ _ _) rfl (by omega) (by omega) d_Limbs_halve_78 ?_
            refine xr_topi (y := nI hi) h4 ?_
            have h5 : (hi : Int) = x / 1073741824 ^ (i + s9 + 1) % 1073741824 := by rw [← h3]; exact lm_is_at hsi.1 hin2
            refine lv_i2l hx hb d_Limbs_halve_79 (nI_l (by omega)) ?_
            refine lv_goto hx hb d_Limbs_halve_80 rfl ?_
            refine lv_lstore (lv' := [(9, .long (lN hi)), (7, .long (lN lo)), (6, .int (nI i)), (5, .int (nI fi)), (4, .int (nI b9)), (3, .int (nI s9)), (0, .ref (ad a)), (1, .int (nI t9)), (2, .int (nI n))]) hx hb d_Limbs_halve_86 hl (by decide) rfl (fun ls hl => ?_)
            refine lv_aload_n hx hb d_Limbs_halve_88 rfl (lv_at hl 6 rfl) ?_
            refine lv_iload hx hb d_Limbs_halve_89 (lv_at hl 2 rfl) ?_
            refine lv_lload hx hb d_Limbs_halve_91 (lv_at hl 0 rfl) ?_
            refine lv_bipush (v := nI 30) hx hb d_Limbs_halve_93 (by decide) ?_
            refine lv_lshl hx hb d_Limbs_halve_95 rfl ?_
            refine xr_topl (y := lN (hi * 2 ^ 30)) (wb_shl hi (k := 30) (by decide)) ?_
            refine lv_lload hx hb d_Limbs_halve_96 (lv_at hl 1 rfl) ?_
            refine lv_lor hx hb d_Limbs_halve_98 ?_
            refine xr_topl (y := lN (hi * 1073741824 + lo)) (q_or30 l1) ?_
            refine lv_iload hx hb d_Limbs_halve_99 (lv_at hl 4 rfl) ?_
            refine lv_lshr hx hb d_Limbs_halve_101 rfl ?_
            refine xr_topl (y := lN ((hi * 1073741824 + lo) / 2 ^ b9)) (q_shrN (by omega) (by omega)) ?_
            refine lv_ldc2 (v := 1073741823) hx hb X.1.2.2.2.1 (X.1.2.2.2.2 _ (List.mem_cons_of_mem _ k_4b4bee73ee)) d_Limbs_halve_102 ?_
            refine lv_land hx hb d_Limbs_halve_105 ?_
            refine lv_topl (fun q9 eq9 => ?_)
            have hv9 : (hi * 1073741824 + lo) / 2 ^ b9 ≤ hi * 1073741824 + lo := Nat.div_le_self _ _
            have e7 : q9.toInt = (((hi * 1073741824 + lo) / 2 ^ b9 % 1073741824 : Nat) : Int) := by rw [eq9, q_land30, pk_lT (by omega)]; rfl
            refine lv_l2i hx hb d_Limbs_halve_106 rfl ?_
            refine lv_topi (fun w9 ew9 => ?_)
            have e8 : w9.toInt = (((hi * 1073741824 + lo) / 2 ^ b9 % 1073741824 : Nat) : Int) := by rw [ew9, q_l2i (by omega) (by omega), e7]
            refine xr_iast X I a 0 hNa (va_up_self _ _ _) rfl (by omega) (by omega) d_Limbs_halve_107 (fun H locs I => ?_)
            rw [va_up_up] at I
            refine lv_iinc (k := 2) (v := nI (i + 1)) (lv' := [(6, .int (nI (i + 1))), (9, .long (lN hi)), (7, .long (lN lo)), (5, .int (nI fi)), (4, .int (nI b9)), (3, .int (nI s9)), (0, .ref (ad a)), (1, .int (nI t9)), (2, .int (nI n))]) hx hb d_Limbs_halve_108 hl rfl (nI_1 i) (by decide) rfl (fun ls hl => ?_)
            refine lv_goto hx hb d_Limbs_halve_111 rfl ?_
            have hl := lv_sub hl [0, 3, 4, 5, 6, 7, 8] rfl
            have hl : lv_has ls 11 [(6, .int (nI (i + 1))), (5, .int (nI fi)), (4, .int (nI b9)), (3, .int (nI s9)), (0, .ref (ad a)), (1, .int (nI t9)), (2, .int (nI n))] := hl
            refine ih (i + 1) (upd f2 i w9) ls H locs (by omega) (fun j hj => ?_) (fun j hj => (upd_n (by omega)).trans (hge j (by omega))) (fun j hj => (upd_n (by omega)).trans (hhi j hj)) hl I
            by_cases ej : j = i
            · rw [ej, upd_s, e8]; exact lm_half hb9 ht30 l5 h5
            · rw [upd_n ej]; exact hlo j (by omega)
        · have hin : i + s9 < n := (nI_ltI (by omega) (by omega)).mp (q_nge hd)
          obtain ⟨lo, l1, l2, l3⟩ := lm_nat hok hin
          have l4 : f2 (i + s9) = nI lo := (hge (i + s9) (by omega)).trans l2
          refine lv_aload_n hx hb d_Limbs_halve_46 rfl (lv_at hl 4 rfl) ?_
          refine lv_iload hx hb d_Limbs_halve_47 (lv_at hl 0 rfl) ?_
          refine lv_iload_n hx hb d_Limbs_halve_49 rfl (lv_at hl 3 rfl) ?_
          refine lv_iadd hx hb d_Limbs_halve_50 (xr_topi (y := nI (i + s9)) (nI_add i s9) ?_)
          refine xr_iald X I a 0 hNa (va_up_self _ _ _) rfl (by omega) (by omega) d_Limbs_halve_51 ?_
          refine xr_topi (y := nI lo) l4 ?_
          have l5 : (lo : Int) = x / 1073741824 ^ (i + s9) % 1073741824 := by rw [← l3]; exact lm_is_at hsi.1 hin
          refine lv_i2l hx hb d_Limbs_halve_52 (nI_l (by omega)) ?_
          refine lv_goto hx hb d_Limbs_halve_53 rfl ?_
          refine lv_lstore (lv' := [(7, .long (lN lo)), (6, .int (nI i)), (5, .int (nI fi)), (4, .int (nI b9)), (3, .int (nI s9)), (0, .ref (ad a)), (1, .int (nI t9)), (2, .int (nI n))]) hx hb d_Limbs_halve_59 hl (by decide) rfl (fun ls hl => ?_)
          refine lv_iload hx hb d_Limbs_halve_61 (lv_at hl 1 rfl) ?_
          refine lv_iload_n hx hb d_Limbs_halve_63 rfl (lv_at hl 4 rfl) ?_
          refine lv_iadd hx hb d_Limbs_halve_64 (xr_topi (y := nI (i + s9)) (nI_add i s9) ?_)
          refine lv_iconst (v := nI 1) hx hb d_Limbs_halve_65 (by decide) ?_
          refine lv_iadd hx hb d_Limbs_halve_66 (xr_topi (y := nI ((i + s9) + 1)) (nI_add (i + s9) 1) ?_)
          refine lv_iload_n hx hb d_Limbs_halve_67 rfl (lv_at hl 7 rfl) ?_
          refine lv_icmp_ge hx hb d_Limbs_halve_68 rfl (fun he => ?_) (fun he => ?_)
          · have hin2 : n ≤ i + s9 + 1 := (nI_leI (by omega) (by omega)).mp he
            obtain ⟨hi, h1⟩ : ∃ hi, hi = fi := ⟨_, rfl⟩
            have h5 : (hi : Int) = x / 1073741824 ^ (i + s9 + 1) % 1073741824 := by rw [h1, hfi, lm_si_ext hsi hin2]
            have h1 : hi < 1073741824 := by omega
            refine lv_iload hx hb d_Limbs_halve_83 (lv_at hl 2 rfl) ?_
            have h6 : nI fi = nI hi := by congr 1; omega
            refine xr_topi (y := nI hi) h6 ?_
            refine lv_i2l hx hb d_Limbs_halve_85 (nI_l (by omega)) ?_
            refine lv_lstore (lv' := [(9, .long (lN hi)), (7, .long (lN lo)), (6, .int (nI i)), (5, .int (nI fi)), (4, .int (nI b9)), (3, .int (nI s9)), (0, .ref (ad a)), (1, .int (nI t9)), (2, .int (nI n))]) hx hb d_Limbs_halve_86 hl (by decide) rfl (fun ls hl => ?_)
            refine lv_aload_n hx hb d_Limbs_halve_88 rfl (lv_at hl 6 rfl) ?_
            refine lv_iload hx hb d_Limbs_halve_89 (lv_at hl 2 rfl) ?_
            refine lv_lload hx hb d_Limbs_halve_91 (lv_at hl 0 rfl) ?_
            refine lv_bipush (v := nI 30) hx hb d_Limbs_halve_93 (by decide) ?_
            refine lv_lshl hx hb d_Limbs_halve_95 rfl ?_
            refine xr_topl (y := lN (hi * 2 ^ 30)) (wb_shl hi (k := 30) (by decide)) ?_
            refine lv_lload hx hb d_Limbs_halve_96 (lv_at hl 1 rfl) ?_
            refine lv_lor hx hb d_Limbs_halve_98 ?_
            refine xr_topl (y := lN (hi * 1073741824 + lo)) (q_or30 l1) ?_
            refine lv_iload hx hb d_Limbs_halve_99 (lv_at hl 4 rfl) ?_
            refine lv_lshr hx hb d_Limbs_halve_101 rfl ?_
            refine xr_topl (y := lN ((hi * 1073741824 + lo) / 2 ^ b9)) (q_shrN (by omega) (by omega)) ?_
            refine lv_ldc2 (v := 1073741823) hx hb X.1.2.2.2.1 (X.1.2.2.2.2 _ (List.mem_cons_of_mem _ k_4b4bee73ee)) d_Limbs_halve_102 ?_
            refine lv_land hx hb d_Limbs_halve_105 ?_
            refine lv_topl (fun q9 eq9 => ?_)
            have hv9 : (hi * 1073741824 + lo) / 2 ^ b9 ≤ hi * 1073741824 + lo := Nat.div_le_self _ _
            have e7 : q9.toInt = (((hi * 1073741824 + lo) / 2 ^ b9 % 1073741824 : Nat) : Int) := by rw [eq9, q_land30, pk_lT (by omega)]; rfl
            refine lv_l2i hx hb d_Limbs_halve_106 rfl ?_
            refine lv_topi (fun w9 ew9 => ?_)
            have e8 : w9.toInt = (((hi * 1073741824 + lo) / 2 ^ b9 % 1073741824 : Nat) : Int) := by rw [ew9, q_l2i (by omega) (by omega), e7]
            refine xr_iast X I a 0 hNa (va_up_self _ _ _) rfl (by omega) (by omega) d_Limbs_halve_107 (fun H locs I => ?_)
            rw [va_up_up] at I
            refine lv_iinc (k := 2) (v := nI (i + 1)) (lv' := [(6, .int (nI (i + 1))), (9, .long (lN hi)), (7, .long (lN lo)), (5, .int (nI fi)), (4, .int (nI b9)), (3, .int (nI s9)), (0, .ref (ad a)), (1, .int (nI t9)), (2, .int (nI n))]) hx hb d_Limbs_halve_108 hl rfl (nI_1 i) (by decide) rfl (fun ls hl => ?_)
            refine lv_goto hx hb d_Limbs_halve_111 rfl ?_
            have hl := lv_sub hl [0, 3, 4, 5, 6, 7, 8] rfl
            have hl : lv_has ls 11 [(6, .int (nI (i + 1))), (5, .int (nI fi)), (4, .int (nI b9)), (3, .int (nI s9)), (0, .ref (ad a)), (1, .int (nI t9)), (2, .int (nI n))] := hl
            refine ih (i + 1) (upd f2 i w9) ls H locs (by omega) (fun j hj => ?_) (fun j hj => (upd_n (by omega)).trans (hge j (by omega))) (fun j hj => (upd_n (by omega)).trans (hhi j hj)) hl I
            by_cases ej : j = i
            · rw [ej, upd_s, e8]; exact lm_half hb9 ht30 l5 h5
            · rw [upd_n ej]; exact hlo j (by omega)
          · have hin2 : i + s9 + 1 < n := (nI_ltI (by omega) (by omega)).mp (q_nge he)
            obtain ⟨hi, h1, h2, h3⟩ := lm_nat hok hin2
            have h4 : f2 (i + s9 + 1) = nI hi := (hge (i + s9 + 1) (by omega)).trans h2
            refine lv_aload_n hx hb d_Limbs_halve_71 rfl (lv_at hl 5 rfl) ?_
            refine lv_iload hx hb d_Limbs_halve_72 (lv_at hl 1 rfl) ?_
            refine lv_iload_n hx hb d_Limbs_halve_74 rfl (lv_at hl 4 rfl) ?_
            refine lv_iadd hx hb d_Limbs_halve_75 (xr_topi (y := nI (i + s9)) (nI_add i s9) ?_)
            refine lv_iconst (v := nI 1) hx hb d_Limbs_halve_76 (by decide) ?_
            refine lv_iadd hx hb d_Limbs_halve_77 (xr_topi (y := nI ((i + s9) + 1)) (nI_add (i + s9) 1) ?_)
            refine xr_iald X I a 0 hNa (va_up_self _ _ _) rfl (by omega) (by omega) d_Limbs_halve_78 ?_
            refine xr_topi (y := nI hi) h4 ?_
            have h5 : (hi : Int) = x / 1073741824 ^ (i + s9 + 1) % 1073741824 := by rw [← h3]; exact lm_is_at hsi.1 hin2
            refine lv_i2l hx hb d_Limbs_halve_79 (nI_l (by omega)) ?_
            refine lv_goto hx hb d_Limbs_halve_80 rfl ?_
            refine lv_lstore (lv' := [(9, .long (lN hi)), (7, .long (lN lo)), (6, .int (nI i)), (5, .int (nI fi)), (4, .int (nI b9)), (3, .int (nI s9)), (0, .ref (ad a)), (1, .int (nI t9)), (2, .int (nI n))]) hx hb d_Limbs_halve_86 hl (by decide) rfl (fun ls hl => ?_)
            refine lv_aload_n hx hb d_Limbs_halve_88 rfl (lv_at hl 6 rfl) ?_
            refine lv_iload hx hb d_Limbs_halve_89 (lv_at hl 2 rfl) ?_
            refine lv_lload hx hb d_Limbs_halve_91 (lv_at hl 0 rfl) ?_
            refine lv_bipush (v := nI 30) hx hb d_Limbs_halve_93 (by decide) ?_
            refine lv_lshl hx hb d_Limbs_halve_95 rfl ?_
            refine xr_topl (y := lN (hi * 2 ^ 30)) (wb_shl hi (k := 30) (by decide)) ?_
            refine lv_lload hx hb d_Limbs_halve_96 (lv_at hl 1 rfl) ?_
            refine lv_lor hx hb d_Limbs_halve_98 ?_
            refine xr_topl (y := lN (hi * 1073741824 + lo)) (q_or30 l1) ?_
            refine lv_iload hx hb d_Limbs_halve_99 (lv_at hl 4 rfl) ?_
            refine lv_lshr hx hb d_Limbs_halve_101 rfl ?_
            refine xr_topl (y := lN ((hi * 1073741824 + lo) / 2 ^ b9)) (q_shrN (by omega) (by omega)) ?_
            refine lv_ldc2 (v := 1073741823) hx hb X.1.2.2.2.1 (X.1.2.2.2.2 _ (List.mem_cons_of_mem _ k_4b4bee73ee)) d_Limbs_halve_102 ?_
            refine lv_land hx hb d_Limbs_halve_105 ?_
            refine lv_topl (fun q9 eq9 => ?_)
            have hv9 : (hi * 1073741824 + lo) / 2 ^ b9 ≤ hi * 1073741824 + lo := Nat.div_le_self _ _
            have e7 : q9.toInt = (((hi * 1073741824 + lo) / 2 ^ b9 % 1073741824 : Nat) : Int) := by rw [eq9, q_land30, pk_lT (by omega)]; rfl
            refine lv_l2i hx hb d_Limbs_halve_106 rfl ?_
            refine lv_topi (fun w9 ew9 => ?_)
            have e8 : w9.toInt = (((hi * 1073741824 + lo) / 2 ^ b9 % 1073741824 : Nat) : Int) := by rw [ew9, q_l2i (by omega) (by omega), e7]
            refine xr_iast X I a 0 hNa (va_up_self _ _ _) rfl (by omega) (by omega) d_Limbs_halve_107 (fun H locs I => ?_)
            rw [va_up_up] at I
            refine lv_iinc (k := 2) (v := nI (i + 1)) (lv' := [(6, .int (nI (i + 1))), (9, .long (lN hi)), (7, .long (lN lo)), (5, .int (nI fi)), (4, .int (nI b9)), (3, .int (nI s9)), (0, .ref (ad a)), (1, .int (nI t9)), (2, .int (nI n))]) hx hb d_Limbs_halve_108 hl rfl (nI_1 i) (by decide) rfl (fun ls hl => ?_)
            refine lv_goto hx hb d_Limbs_halve_111 rfl ?_
            have hl := lv_sub hl [0, 3, 4, 5, 6, 7, 8] rfl
            have hl : lv_has ls 11 [(6, .int (nI (i + 1))), (5, .int (nI fi)), (4, .int (nI b9)), (3, .int (nI s9)), (0, .ref (ad a)), (1, .int (nI t9)), (2, .int (nI n))] := hl
            refine ih (i + 1) (upd f2 i w9) ls H locs (by omega) (fun j hj => ?_) (fun j hj => (upd_n (by omega)).trans (hge j (by omega))) (fun j hj => (upd_n (by omega)).trans (hhi j hj)) hl I
            by_cases ej : j = i
            · rw [ej, upd_s, e8]; exact lm_half hb9 ht30 l5 h5
            · rw [upd_n ej]; exact hlo j (by omega)
  refine lv_icmp_lt hx hb d_Limbs_halve_18 rfl (fun hc => ?_) (fun hc => ?_)
  · have hx0 : ¬ x < 0 := fun h => by have h1 := htop.mpr h; have h2 := Int32.lt_iff_toInt_lt.mp hc; rw [nI_toInt (by decide)] at h2; omega
    refine lv_iconst (v := nI 0) hx hb d_Limbs_halve_26 (by decide) ?_
    refine lv_istore (lv' := [(5, .int (nI 0)), (4, .int (nI b9)), (3, .int (nI s9)), (0, .ref (ad a)), (1, .int (nI t9)), (2, .int (nI n))]) hx hb d_Limbs_halve_27 hl (by decide) rfl (fun ls hl => ?_)
    refine lv_iconst (v := nI 0) hx hb d_Limbs_halve_29 (by decide) ?_
    refine lv_istore (lv' := [(6, .int (nI 0)), (5, .int (nI 0)), (4, .int (nI b9)), (3, .int (nI s9)), (0, .ref (ad a)), (1, .int (nI t9)), (2, .int (nI n))]) hx hb d_Limbs_halve_30 hl (by decide) rfl (fun ls hl => ?_)
    exact loop 0 (by rw [if_neg hx0]; rfl) (by decide) n 0 f ls _ _ (by omega) (fun j hj => absurd hj (Nat.not_lt_zero _)) (fun _ _ => rfl) (fun _ _ => rfl) hl (by rw [va_up_same hσa]; exact I)
  · have hx0 : x < 0 := htop.mp (by have h := Int32.le_iff_toInt_le.mp (Int32.not_lt.mp hc); rw [nI_toInt (by decide)] at h; omega)
    refine lv_ldc (v := nI 1073741823) hx hb X.1.2.2.2.1 (X.1.2.2.2.2 _ (List.mem_cons_of_mem _ k_67a4a4651d)) d_Limbs_halve_21 ?_
    refine lv_goto hx hb d_Limbs_halve_23 rfl ?_
    refine lv_istore (lv' := [(5, .int (nI 1073741823)), (4, .int (nI b9)), (3, .int (nI s9)), (0, .ref (ad a)), (1, .int (nI t9)), (2, .int (nI n))]) hx hb d_Limbs_halve_27 hl (by decide) rfl (fun ls hl => ?_)
    refine lv_iconst (v := nI 0) hx hb d_Limbs_halve_29 (by decide) ?_
    refine lv_istore (lv' := [(6, .int (nI 0)), (5, .int (nI 1073741823)), (4, .int (nI b9)), (3, .int (nI s9)), (0, .ref (ad a)), (1, .int (nI t9)), (2, .int (nI n))]) hx hb d_Limbs_halve_30 hl (by decide) rfl (fun ls hl => ?_)
    exact loop 1073741823 (by rw [if_pos hx0]; rfl) (by decide) n 0 f ls _ _ (by omega) (fun j hj => absurd hj (Nat.not_lt_zero _)) (fun _ _ => rfl) (fun _ _ => rfl) hl (by rw [va_up_same hσa]; exact I)
set_option maxHeartbeats 4000000 in
set_option maxRecDepth 100000 in
theorem c_Limbs_divideByOdd {l : Launch} {D : va_G} {cI cJ cZ cC cG cP : ClassId} {N : Nat} {ad : Nat → Nat} {σ : Nat → va_E} {a b La Lb n : Nat} {f g : Nat → Int32} {x y q9 : Int} {m9 : Nat} (hNa : a < N) (hNb : b < N) (hσa : σ a = .inl (cI, La, .inl f)) (hσb : σ b = .inl (cI, Lb, .inl g)) (hba : b ≠ a) (hn0 : 0 < n) (hn : n ≤ La) (hLa : La < 1000) (hnb : n ≤ Lb) (hLb : Lb < 1000) (hxf : lm_is f n x) (hyg : lm_is g n y) (hodd : g 0 = nI (2 * m9 + 1)) (hm9 : 2 * m9 + 1 < 1073741824) (hxy : x = y * q9) :
    Met l y_Limbs_divideByOdd v_Limbs_divideByOdd (xrm 1) (va_Pc [.ref (ad a), .ref (ad b), .int (nI n)] (xS D classes (xT cI cJ cZ cC cG cP) N ad σ)) (va_Qv (lm_up σ a cI La f n q9) (xS D classes (xT cI cJ cZ cC cG cP) N ad) (xA N ad)) 0 0 (xA N ad) := by
  refine xr_met rfl (Nat.le_of_ble_eq_true rfl) ?_
  intro p e s m args below meth c ls hx hb X hr hlk hl I
  have hl : lv_has ls 6 [(0, .ref (ad a)), (1, .ref (ad b)), (2, .int (nI n))] := hl
  refine lv_aload_n hx hb d_Limbs_divideByOdd_0 rfl (lv_at hl 1 rfl) ?_
  refine lv_iconst (v := nI 0) hx hb d_Limbs_divideByOdd_1 (by decide) ?_
  refine xr_iald X I b 0 hNb hσb rfl (by omega) (by omega) d_Limbs_divideByOdd_2 ?_
  refine xr_topi (y := ivF (g 0) 0) rfl ?_
  refine lv_istore_n (lv' := [(3, .int (ivF (g 0) 0)), (0, .ref (ad a)), (1, .ref (ad b)), (2, .int (nI n))]) hx hb d_Limbs_divideByOdd_3 rfl hl (by decide) rfl (fun ls hl => ?_)
  refine lv_iconst (v := nI 0) hx hb d_Limbs_divideByOdd_4 (by decide) ?_
  refine lv_istore (lv' := [(4, .int (nI 0)), (3, .int (ivF (g 0) 0)), (0, .ref (ad a)), (1, .ref (ad b)), (2, .int (nI n))]) hx hb d_Limbs_divideByOdd_5 hl (by decide) rfl (fun ls hl => ?_)
  have digs : ∀ (q8 : Nat) (i : Nat) (f2 : Nat → Int32) (ls : Array Slot) (H : Heap) (locs : List Loc), i + q8 = n → lm_ok f2 n → (∀ j, n ≤ j → f2 j = f j) → (∃ r9 : Int, lm_u f2 n - lm_u f2 i + y * lm_u f2 i = x + r9 * 1073741824 ^ n) → lv_has ls 6 [(4, .int (nI i)), (3, .int (ivF (g 0) 4)), (0, .ref (ad a)), (1, .ref (ad b)), (2, .int (nI n))] → xI D classes N ad s.heap (va_up σ a (.inl (cI, La, .inl f2))) H locs → W p l e (xrm 1) s m args below meth c H locs 0 0 (MQ below (va_Qv (lm_up σ a cI La f n q9) (xS D classes (xT cI cJ cZ cC cG cP) N ad) (xA N ad)) args s 0 0 (xA N ad)) (F0 m 32 ls []) := by
    intro q8
    induction q8 with
    | zero =>
      intro i f2 ls H locs hk hok2 hhi inv hl I
      obtain rfl : i = n := by omega
      refine lv_iload hx hb d_Limbs_divideByOdd_32 (lv_at hl 0 rfl) ?_
      refine lv_iload_n hx hb d_Limbs_divideByOdd_34 rfl (lv_at hl 4 rfl) ?_
      refine lv_icmp_ge hx hb d_Limbs_divideByOdd_35 rfl (fun hc => ?_) (fun hc => ?_)
      · exact xr_vret X I hr hlk ⟨f2, rfl, hhi, lm_odd_end hn0 hok2 hyg hodd hm9 hxy inv⟩ d_Limbs_divideByOdd_73
      · exact absurd (nI_le (Nat.le_refl _) (by omega)) hc
    | succ q8 ih =>
      intro i f2 ls H locs hk hok2 hhi inv hl I
      refine lv_iload hx hb d_Limbs_divideByOdd_32 (lv_at hl 0 rfl) ?_
      refine lv_iload_n hx hb d_Limbs_divideByOdd_34 rfl (lv_at hl 4 rfl) ?_
      refine lv_icmp_ge hx hb d_Limbs_divideByOdd_35 rfl (fun hc => ?_) (fun hc => ?_)
      · exact absurd hc (nI_ge (by omega) (by omega))
      · refine lv_aload_n hx hb d_Limbs_divideByOdd_38 rfl (lv_at hl 2 rfl) ?_
        refine lv_iload hx hb d_Limbs_divideByOdd_39 (lv_at hl 0 rfl) ?_
        refine xr_iald X I a 0 hNa (va_up_self _ _ _) rfl (by omega) (by omega) d_Limbs_divideByOdd_41 ?_
        refine lv_iload_n hx hb d_Limbs_divideByOdd_42 rfl (lv_at hl 1 rfl) ?_
        refine lv_imul hx hb d_Limbs_divideByOdd_43 ?_
        refine lv_ldc (v := nI 1073741823) hx hb X.1.2.2.2.1 (X.1.2.2.2.2 _ (List.mem_cons_of_mem _ k_67a4a4651d)) d_Limbs_divideByOdd_44 ?_
        refine lv_iand hx hb d_Limbs_divideByOdd_46 ?_
        refine lv_topi (fun dg edg => ?_)
        obtain ⟨d1, d2, d3⟩ := lm_odd_dig (f := f2) (i := i) hodd edg
        refine lv_istore (lv' := [(5, .int dg), (4, .int (nI i)), (3, .int (ivF (g 0) 4)), (0, .ref (ad a)), (1, .ref (ad b)), (2, .int (nI n))]) hx hb d_Limbs_divideByOdd_47 hl (by decide) rfl (fun ls hl => ?_)
        refine lv_aload_n hx hb d_Limbs_divideByOdd_49 rfl (lv_at hl 3 rfl) ?_
        refine lv_aload_n hx hb d_Limbs_divideByOdd_50 rfl (lv_at hl 4 rfl) ?_
        refine lv_iload hx hb d_Limbs_divideByOdd_51 (lv_at hl 0 rfl) ?_
        refine lv_ineg hx hb d_Limbs_divideByOdd_53 ?_
        refine lv_i2l hx hb d_Limbs_divideByOdd_54 rfl ?_
        refine lv_iload hx hb d_Limbs_divideByOdd_55 (lv_at hl 1 rfl) ?_
        refine lv_iload_n hx hb d_Limbs_divideByOdd_57 rfl (lv_at hl 5 rfl) ?_
        have hn9 : (-dg).toInt64.toInt = -dg.toInt := q_neg30 d1 d2
        refine xr_callv (xr_runS (kc := 0) (kr := 1) (n := 5) (As := [.ref (ad a), .ref (ad b), .long ((-dg).toInt64), .int (nI i), .int (nI n)]) (rest := []) X I (c_Limbs_addTimes (a := a) (b := b) (off := i) (n := n) hNa hNb (va_up_self _ _ _) ((va_up_ne _ _ hba).trans hσb) hba (by rw [hn9]; omega) (by omega) hn (by omega) (by omega) (by omega) ⟨hok2, 0, by rw [Int.zero_mul, Int.add_zero]⟩ (lm_is_le hyg (by omega))) (xg k_c80bea473c) (List.mem_cons_of_mem _ k_344626c77a) (List.mem_cons_of_mem _ k_0ef42f4896) (List.mem_cons_of_mem _ k_b15d0305ca) (by decide +kernel) (by decide) rfl hl.1 rfl (Nat.le_of_ble_eq_true rfl) d_Limbs_divideByOdd_58) I (fun σ9 H locs hp I => ?_)
        obtain ⟨f3, h9, hf3, f4⟩ := hp
        rw [va_up_up] at h9
        rw [h9] at I
        rw [hn9] at f4
        refine lv_aload_n hx hb d_Limbs_divideByOdd_61 rfl (lv_at hl 3 rfl) ?_
        refine lv_iload hx hb d_Limbs_divideByOdd_62 (lv_at hl 1 rfl) ?_
        refine lv_iload hx hb d_Limbs_divideByOdd_64 (lv_at hl 0 rfl) ?_
        refine xr_iast X I a 0 hNa (va_up_self _ _ _) rfl (by omega) (by omega) d_Limbs_divideByOdd_66 (fun H locs I => ?_)
        rw [va_up_up] at I
        refine lv_iinc (k := 1) (v := nI (i + 1)) (lv' := [(4, .int (nI (i + 1))), (5, .int dg), (3, .int (ivF (g 0) 4)), (0, .ref (ad a)), (1, .ref (ad b)), (2, .int (nI n))]) hx hb d_Limbs_divideByOdd_67 hl rfl (nI_1 i) (by decide) rfl (fun ls hl => ?_)
        refine lv_goto hx hb d_Limbs_divideByOdd_70 rfl ?_
        have hl := lv_sub hl [0, 2, 3, 4, 5] rfl
        have hl : lv_has ls 6 [(4, .int (nI (i + 1))), (3, .int (ivF (g 0) 4)), (0, .ref (ad a)), (1, .ref (ad b)), (2, .int (nI n))] := hl
        obtain ⟨s1, s2, s3⟩ := lm_odd_step hok2 hyg (show i < n by omega) f4 d1 d2 d3 inv
        exact ih (i + 1) (upd f3 i dg) ls H locs (by omega) s1 (fun j hj => (upd_n (by omega)).trans ((hf3 j hj).trans (hhi j hj))) s3 hl I
  have inv4 : ∀ (q8 : Nat) (k : Nat) (ls : Array Slot) (H : Heap) (locs : List Loc), k + q8 = 4 → lv_has ls 6 [(4, .int (nI k)), (3, .int (ivF (g 0) k)), (0, .ref (ad a)), (1, .ref (ad b)), (2, .int (nI n))] → xI D classes N ad s.heap (σ) H locs → W p l e (xrm 1) s m args below meth c H locs 0 0 (MQ below (va_Qv (lm_up σ a cI La f n q9) (xS D classes (xT cI cJ cZ cC cG cP) N ad) (xA N ad)) args s 0 0 (xA N ad)) (F0 m 7 ls []) := by
    intro q8
    induction q8 with
    | zero =>
      intro k ls H locs hk hl I
      obtain rfl : k = 4 := by omega
      refine lv_iload hx hb d_Limbs_divideByOdd_7 (lv_at hl 0 rfl) ?_
      refine lv_iconst (v := nI 4) hx hb d_Limbs_divideByOdd_9 (by decide) ?_
      refine lv_icmp_ge hx hb d_Limbs_divideByOdd_10 rfl (fun hc => ?_) (fun hc => ?_)
      · refine lv_iconst (v := nI 0) hx hb d_Limbs_divideByOdd_29 (by decide) ?_
        refine lv_istore (lv' := [(4, .int (nI 0)), (3, .int (ivF (g 0) 4)), (0, .ref (ad a)), (1, .ref (ad b)), (2, .int (nI n))]) hx hb d_Limbs_divideByOdd_30 hl (by decide) rfl (fun ls hl => ?_)
        exact digs n 0 f ls H locs (by omega) hxf.1 (fun _ _ => rfl) (lm_odd_0 hxf) hl (by rw [va_up_same hσa]; exact I)
      · exact absurd (by decide) hc
    | succ q8 ih =>
      intro k ls H locs hk hl I
      refine lv_iload hx hb d_Limbs_divideByOdd_7 (lv_at hl 0 rfl) ?_
      refine lv_iconst (v := nI 4) hx hb d_Limbs_divideByOdd_9 (by decide) ?_
      refine lv_icmp_ge hx hb d_Limbs_divideByOdd_10 rfl (fun hc => ?_) (fun hc => ?_)
      · exact absurd hc (nI_ge (by omega) (by decide))
      · refine lv_iload_n hx hb d_Limbs_divideByOdd_13 rfl (lv_at hl 1 rfl) ?_
        refine lv_iconst (v := nI 2) hx hb d_Limbs_divideByOdd_14 (by decide) ?_
        refine lv_aload_n hx hb d_Limbs_divideByOdd_15 rfl (lv_at hl 3 rfl) ?_
        refine lv_iconst (v := nI 0) hx hb d_Limbs_divideByOdd_16 (by decide) ?_
        refine xr_iald X I b 0 hNb hσb rfl (by omega) (by omega) d_Limbs_divideByOdd_17 ?_
        refine lv_iload_n hx hb d_Limbs_divideByOdd_18 rfl (lv_at hl 1 rfl) ?_
        refine lv_imul hx hb d_Limbs_divideByOdd_19 ?_
        refine lv_isub hx hb d_Limbs_divideByOdd_20 ?_
        refine lv_imul hx hb d_Limbs_divideByOdd_21 ?_
        refine xr_topi (y := ivF (g 0) (k + 1)) rfl ?_
        refine lv_istore_n (lv' := [(3, .int (ivF (g 0) (k + 1))), (4, .int (nI k)), (0, .ref (ad a)), (1, .ref (ad b)), (2, .int (nI n))]) hx hb d_Limbs_divideByOdd_22 rfl hl (by decide) rfl (fun ls hl => ?_)
        refine lv_iinc (k := 1) (v := nI (k + 1)) (lv' := [(4, .int (nI (k + 1))), (3, .int (ivF (g 0) (k + 1))), (0, .ref (ad a)), (1, .ref (ad b)), (2, .int (nI n))]) hx hb d_Limbs_divideByOdd_23 hl rfl (nI_1 k) (by decide) rfl (fun ls hl => ?_)
        refine lv_goto hx hb d_Limbs_divideByOdd_26 rfl ?_
        exact ih (k + 1) ls H locs (by omega) hl I
  exact inv4 4 0 ls _ _ (by omega) hl I
