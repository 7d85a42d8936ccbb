/-! the reference: bigMore, bigSizes, bigDiffer, bigAdd (written by wip/gen) -/
abbrev b_SpectrumDeskModel_bigMore : ByteArray := prog_10_method_9_code
abbrev y_SpectrumDeskModel_bigMore : MethodName := ⟨"SpectrumDeskModel", "bigMore", "(II)V"⟩
abbrev v_SpectrumDeskModel_bigMore : List Cond := Cond.code y_SpectrumDeskModel_bigMore b_SpectrumDeskModel_bigMore 7 none :: AW
theorem d_SpectrumDeskModel_bigMore_0 : decode b_SpectrumDeskModel_bigMore 0 = .ok (.aload_n 0, 1) := by decide +kernel
theorem d_SpectrumDeskModel_bigMore_1 : decode b_SpectrumDeskModel_bigMore 1 = .ok (.getfield 13, 3) := by decide +kernel
theorem d_SpectrumDeskModel_bigMore_4 : decode b_SpectrumDeskModel_bigMore 4 = .ok (.iload_n 1, 1) := by decide +kernel
theorem d_SpectrumDeskModel_bigMore_5 : decode b_SpectrumDeskModel_bigMore 5 = .ok (.iaload, 1) := by decide +kernel
theorem d_SpectrumDeskModel_bigMore_6 : decode b_SpectrumDeskModel_bigMore 6 = .ok (.aload_n 0, 1) := by decide +kernel
theorem d_SpectrumDeskModel_bigMore_7 : decode b_SpectrumDeskModel_bigMore 7 = .ok (.getfield 13, 3) := by decide +kernel
theorem d_SpectrumDeskModel_bigMore_10 : decode b_SpectrumDeskModel_bigMore 10 = .ok (.iload_n 2, 1) := by decide +kernel
theorem d_SpectrumDeskModel_bigMore_11 : decode b_SpectrumDeskModel_bigMore 11 = .ok (.iaload, 1) := by decide +kernel
theorem d_SpectrumDeskModel_bigMore_12 : decode b_SpectrumDeskModel_bigMore 12 = .ok (.if_icmp .le (12), 3) := by decide +kernel
theorem d_SpectrumDeskModel_bigMore_15 : decode b_SpectrumDeskModel_bigMore 15 = .ok (.aload_n 0, 1) := by decide +kernel
theorem d_SpectrumDeskModel_bigMore_16 : decode b_SpectrumDeskModel_bigMore 16 = .ok (.getfield 13, 3) := by decide +kernel
theorem d_SpectrumDeskModel_bigMore_19 : decode b_SpectrumDeskModel_bigMore 19 = .ok (.iload_n 1, 1) := by decide +kernel
theorem d_SpectrumDeskModel_bigMore_20 : decode b_SpectrumDeskModel_bigMore 20 = .ok (.iaload, 1) := by decide +kernel
theorem d_SpectrumDeskModel_bigMore_21 : decode b_SpectrumDeskModel_bigMore 21 = .ok (.goto (9), 3) := by decide +kernel
theorem d_SpectrumDeskModel_bigMore_24 : decode b_SpectrumDeskModel_bigMore 24 = .ok (.aload_n 0, 1) := by decide +kernel
theorem d_SpectrumDeskModel_bigMore_25 : decode b_SpectrumDeskModel_bigMore 25 = .ok (.getfield 13, 3) := by decide +kernel
theorem d_SpectrumDeskModel_bigMore_28 : decode b_SpectrumDeskModel_bigMore 28 = .ok (.iload_n 2, 1) := by decide +kernel
theorem d_SpectrumDeskModel_bigMore_29 : decode b_SpectrumDeskModel_bigMore 29 = .ok (.iaload, 1) := by decide +kernel
theorem d_SpectrumDeskModel_bigMore_30 : decode b_SpectrumDeskModel_bigMore 30 = .ok (.istore_n 3, 1) := by decide +kernel
theorem d_SpectrumDeskModel_bigMore_31 : decode b_SpectrumDeskModel_bigMore 31 = .ok (.iconst 0, 1) := by decide +kernel
theorem d_SpectrumDeskModel_bigMore_32 : decode b_SpectrumDeskModel_bigMore 32 = .ok (.istore 4, 2) := by decide +kernel
theorem d_SpectrumDeskModel_bigMore_34 : decode b_SpectrumDeskModel_bigMore 34 = .ok (.iconst 0, 1) := by decide +kernel
theorem d_SpectrumDeskModel_bigMore_35 : decode b_SpectrumDeskModel_bigMore 35 = .ok (.istore 5, 2) := by decide +kernel
theorem d_SpectrumDeskModel_bigMore_37 : decode b_SpectrumDeskModel_bigMore 37 = .ok (.iload 5, 2) := by decide +kernel
theorem d_SpectrumDeskModel_bigMore_39 : decode b_SpectrumDeskModel_bigMore 39 = .ok (.iload_n 3, 1) := by decide +kernel
theorem d_SpectrumDeskModel_bigMore_40 : decode b_SpectrumDeskModel_bigMore 40 = .ok (.if_icmp .ge (54), 3) := by decide +kernel
theorem d_SpectrumDeskModel_bigMore_43 : decode b_SpectrumDeskModel_bigMore 43 = .ok (.aload_n 0, 1) := by decide +kernel
theorem d_SpectrumDeskModel_bigMore_44 : decode b_SpectrumDeskModel_bigMore 44 = .ok (.iload_n 1, 1) := by decide +kernel
theorem d_SpectrumDeskModel_bigMore_45 : decode b_SpectrumDeskModel_bigMore 45 = .ok (.iload 5, 2) := by decide +kernel
theorem d_SpectrumDeskModel_bigMore_47 : decode b_SpectrumDeskModel_bigMore 47 = .ok (.invokevirtual 16, 3) := by decide +kernel
theorem d_SpectrumDeskModel_bigMore_50 : decode b_SpectrumDeskModel_bigMore 50 = .ok (.aload_n 0, 1) := by decide +kernel
theorem d_SpectrumDeskModel_bigMore_51 : decode b_SpectrumDeskModel_bigMore 51 = .ok (.iload_n 2, 1) := by decide +kernel
theorem d_SpectrumDeskModel_bigMore_52 : decode b_SpectrumDeskModel_bigMore 52 = .ok (.iload 5, 2) := by decide +kernel
theorem d_SpectrumDeskModel_bigMore_54 : decode b_SpectrumDeskModel_bigMore 54 = .ok (.invokevirtual 16, 3) := by decide +kernel
theorem d_SpectrumDeskModel_bigMore_57 : decode b_SpectrumDeskModel_bigMore 57 = .ok (.iadd, 1) := by decide +kernel
theorem d_SpectrumDeskModel_bigMore_58 : decode b_SpectrumDeskModel_bigMore 58 = .ok (.iload 4, 2) := by decide +kernel
theorem d_SpectrumDeskModel_bigMore_60 : decode b_SpectrumDeskModel_bigMore 60 = .ok (.iadd, 1) := by decide +kernel
theorem d_SpectrumDeskModel_bigMore_61 : decode b_SpectrumDeskModel_bigMore 61 = .ok (.istore 6, 2) := by decide +kernel
theorem d_SpectrumDeskModel_bigMore_63 : decode b_SpectrumDeskModel_bigMore 63 = .ok (.aload_n 0, 1) := by decide +kernel
theorem d_SpectrumDeskModel_bigMore_64 : decode b_SpectrumDeskModel_bigMore 64 = .ok (.getfield 7, 3) := by decide +kernel
theorem d_SpectrumDeskModel_bigMore_67 : decode b_SpectrumDeskModel_bigMore 67 = .ok (.sipush (300), 3) := by decide +kernel
theorem d_SpectrumDeskModel_bigMore_70 : decode b_SpectrumDeskModel_bigMore 70 = .ok (.iload_n 1, 1) := by decide +kernel
theorem d_SpectrumDeskModel_bigMore_71 : decode b_SpectrumDeskModel_bigMore 71 = .ok (.imul, 1) := by decide +kernel
theorem d_SpectrumDeskModel_bigMore_72 : decode b_SpectrumDeskModel_bigMore 72 = .ok (.iload 5, 2) := by decide +kernel
theorem d_SpectrumDeskModel_bigMore_74 : decode b_SpectrumDeskModel_bigMore 74 = .ok (.iadd, 1) := by decide +kernel
theorem d_SpectrumDeskModel_bigMore_75 : decode b_SpectrumDeskModel_bigMore 75 = .ok (.iload 6, 2) := by decide +kernel
theorem d_SpectrumDeskModel_bigMore_77 : decode b_SpectrumDeskModel_bigMore 77 = .ok (.ldc 20, 2) := by decide +kernel
theorem d_SpectrumDeskModel_bigMore_79 : decode b_SpectrumDeskModel_bigMore 79 = .ok (.irem, 1) := by decide +kernel
theorem d_SpectrumDeskModel_bigMore_80 : decode b_SpectrumDeskModel_bigMore 80 = .ok (.iastore, 1) := by decide +kernel
theorem d_SpectrumDeskModel_bigMore_81 : decode b_SpectrumDeskModel_bigMore 81 = .ok (.iload 6, 2) := by decide +kernel
theorem d_SpectrumDeskModel_bigMore_83 : decode b_SpectrumDeskModel_bigMore 83 = .ok (.ldc 20, 2) := by decide +kernel
theorem d_SpectrumDeskModel_bigMore_85 : decode b_SpectrumDeskModel_bigMore 85 = .ok (.idiv, 1) := by decide +kernel
theorem d_SpectrumDeskModel_bigMore_86 : decode b_SpectrumDeskModel_bigMore 86 = .ok (.istore 4, 2) := by decide +kernel
theorem d_SpectrumDeskModel_bigMore_88 : decode b_SpectrumDeskModel_bigMore 88 = .ok (.iinc 5 (1), 3) := by decide +kernel
theorem d_SpectrumDeskModel_bigMore_91 : decode b_SpectrumDeskModel_bigMore 91 = .ok (.goto (-54), 3) := by decide +kernel
theorem d_SpectrumDeskModel_bigMore_94 : decode b_SpectrumDeskModel_bigMore 94 = .ok (.aload_n 0, 1) := by decide +kernel
theorem d_SpectrumDeskModel_bigMore_95 : decode b_SpectrumDeskModel_bigMore 95 = .ok (.getfield 13, 3) := by decide +kernel
theorem d_SpectrumDeskModel_bigMore_98 : decode b_SpectrumDeskModel_bigMore 98 = .ok (.iload_n 1, 1) := by decide +kernel
theorem d_SpectrumDeskModel_bigMore_99 : decode b_SpectrumDeskModel_bigMore 99 = .ok (.iload_n 3, 1) := by decide +kernel
theorem d_SpectrumDeskModel_bigMore_100 : decode b_SpectrumDeskModel_bigMore 100 = .ok (.iastore, 1) := by decide +kernel
theorem d_SpectrumDeskModel_bigMore_101 : decode b_SpectrumDeskModel_bigMore 101 = .ok (.iload 4, 2) := by decide +kernel
theorem d_SpectrumDeskModel_bigMore_103 : decode b_SpectrumDeskModel_bigMore 103 = .ok (.ifCond .le (26), 3) := by decide +kernel
theorem d_SpectrumDeskModel_bigMore_106 : decode b_SpectrumDeskModel_bigMore 106 = .ok (.aload_n 0, 1) := by decide +kernel
theorem d_SpectrumDeskModel_bigMore_107 : decode b_SpectrumDeskModel_bigMore 107 = .ok (.getfield 7, 3) := by decide +kernel
theorem d_SpectrumDeskModel_bigMore_110 : decode b_SpectrumDeskModel_bigMore 110 = .ok (.sipush (300), 3) := by decide +kernel
theorem d_SpectrumDeskModel_bigMore_113 : decode b_SpectrumDeskModel_bigMore 113 = .ok (.iload_n 1, 1) := by decide +kernel
theorem d_SpectrumDeskModel_bigMore_114 : decode b_SpectrumDeskModel_bigMore 114 = .ok (.imul, 1) := by decide +kernel
theorem d_SpectrumDeskModel_bigMore_115 : decode b_SpectrumDeskModel_bigMore 115 = .ok (.iload_n 3, 1) := by decide +kernel
theorem d_SpectrumDeskModel_bigMore_116 : decode b_SpectrumDeskModel_bigMore 116 = .ok (.iadd, 1) := by decide +kernel
theorem d_SpectrumDeskModel_bigMore_117 : decode b_SpectrumDeskModel_bigMore 117 = .ok (.iload 4, 2) := by decide +kernel
theorem d_SpectrumDeskModel_bigMore_119 : decode b_SpectrumDeskModel_bigMore 119 = .ok (.iastore, 1) := by decide +kernel
theorem d_SpectrumDeskModel_bigMore_120 : decode b_SpectrumDeskModel_bigMore 120 = .ok (.aload_n 0, 1) := by decide +kernel
theorem d_SpectrumDeskModel_bigMore_121 : decode b_SpectrumDeskModel_bigMore 121 = .ok (.getfield 13, 3) := by decide +kernel
theorem d_SpectrumDeskModel_bigMore_124 : decode b_SpectrumDeskModel_bigMore 124 = .ok (.iload_n 1, 1) := by decide +kernel
theorem d_SpectrumDeskModel_bigMore_125 : decode b_SpectrumDeskModel_bigMore 125 = .ok (.iload_n 3, 1) := by decide +kernel
theorem d_SpectrumDeskModel_bigMore_126 : decode b_SpectrumDeskModel_bigMore 126 = .ok (.iconst 1, 1) := by decide +kernel
theorem d_SpectrumDeskModel_bigMore_127 : decode b_SpectrumDeskModel_bigMore 127 = .ok (.iadd, 1) := by decide +kernel
theorem d_SpectrumDeskModel_bigMore_128 : decode b_SpectrumDeskModel_bigMore 128 = .ok (.iastore, 1) := by decide +kernel
theorem d_SpectrumDeskModel_bigMore_129 : decode b_SpectrumDeskModel_bigMore 129 = .ok (.return_, 1) := by decide +kernel
abbrev b_SpectrumDeskModel_bigSizes : ByteArray := prog_10_method_8_code
abbrev y_SpectrumDeskModel_bigSizes : MethodName := ⟨"SpectrumDeskModel", "bigSizes", "(II)I"⟩
abbrev v_SpectrumDeskModel_bigSizes : List Cond := Cond.code y_SpectrumDeskModel_bigSizes b_SpectrumDeskModel_bigSizes 4 (some .int) :: AW
theorem d_SpectrumDeskModel_bigSizes_0 : decode b_SpectrumDeskModel_bigSizes 0 = .ok (.aload_n 0, 1) := by decide +kernel
theorem d_SpectrumDeskModel_bigSizes_1 : decode b_SpectrumDeskModel_bigSizes 1 = .ok (.getfield 13, 3) := by decide +kernel
theorem d_SpectrumDeskModel_bigSizes_4 : decode b_SpectrumDeskModel_bigSizes 4 = .ok (.iload_n 1, 1) := by decide +kernel
theorem d_SpectrumDeskModel_bigSizes_5 : decode b_SpectrumDeskModel_bigSizes 5 = .ok (.iaload, 1) := by decide +kernel
theorem d_SpectrumDeskModel_bigSizes_6 : decode b_SpectrumDeskModel_bigSizes 6 = .ok (.aload_n 0, 1) := by decide +kernel
theorem d_SpectrumDeskModel_bigSizes_7 : decode b_SpectrumDeskModel_bigSizes 7 = .ok (.getfield 13, 3) := by decide +kernel
theorem d_SpectrumDeskModel_bigSizes_10 : decode b_SpectrumDeskModel_bigSizes 10 = .ok (.iload_n 2, 1) := by decide +kernel
theorem d_SpectrumDeskModel_bigSizes_11 : decode b_SpectrumDeskModel_bigSizes 11 = .ok (.iaload, 1) := by decide +kernel
theorem d_SpectrumDeskModel_bigSizes_12 : decode b_SpectrumDeskModel_bigSizes 12 = .ok (.if_icmp .eq (24), 3) := by decide +kernel
theorem d_SpectrumDeskModel_bigSizes_15 : decode b_SpectrumDeskModel_bigSizes 15 = .ok (.aload_n 0, 1) := by decide +kernel
theorem d_SpectrumDeskModel_bigSizes_16 : decode b_SpectrumDeskModel_bigSizes 16 = .ok (.getfield 13, 3) := by decide +kernel
theorem d_SpectrumDeskModel_bigSizes_19 : decode b_SpectrumDeskModel_bigSizes 19 = .ok (.iload_n 1, 1) := by decide +kernel
theorem d_SpectrumDeskModel_bigSizes_20 : decode b_SpectrumDeskModel_bigSizes 20 = .ok (.iaload, 1) := by decide +kernel
theorem d_SpectrumDeskModel_bigSizes_21 : decode b_SpectrumDeskModel_bigSizes 21 = .ok (.aload_n 0, 1) := by decide +kernel
theorem d_SpectrumDeskModel_bigSizes_22 : decode b_SpectrumDeskModel_bigSizes 22 = .ok (.getfield 13, 3) := by decide +kernel
theorem d_SpectrumDeskModel_bigSizes_25 : decode b_SpectrumDeskModel_bigSizes 25 = .ok (.iload_n 2, 1) := by decide +kernel
theorem d_SpectrumDeskModel_bigSizes_26 : decode b_SpectrumDeskModel_bigSizes 26 = .ok (.iaload, 1) := by decide +kernel
theorem d_SpectrumDeskModel_bigSizes_27 : decode b_SpectrumDeskModel_bigSizes 27 = .ok (.if_icmp .ge (7), 3) := by decide +kernel
theorem d_SpectrumDeskModel_bigSizes_30 : decode b_SpectrumDeskModel_bigSizes 30 = .ok (.iconst (-1), 1) := by decide +kernel
theorem d_SpectrumDeskModel_bigSizes_31 : decode b_SpectrumDeskModel_bigSizes 31 = .ok (.goto (4), 3) := by decide +kernel
theorem d_SpectrumDeskModel_bigSizes_34 : decode b_SpectrumDeskModel_bigSizes 34 = .ok (.iconst 1, 1) := by decide +kernel
theorem d_SpectrumDeskModel_bigSizes_35 : decode b_SpectrumDeskModel_bigSizes 35 = .ok (.ireturn, 1) := by decide +kernel
theorem d_SpectrumDeskModel_bigSizes_36 : decode b_SpectrumDeskModel_bigSizes 36 = .ok (.aload_n 0, 1) := by decide +kernel
theorem d_SpectrumDeskModel_bigSizes_37 : decode b_SpectrumDeskModel_bigSizes 37 = .ok (.getfield 13, 3) := by decide +kernel
theorem d_SpectrumDeskModel_bigSizes_40 : decode b_SpectrumDeskModel_bigSizes 40 = .ok (.iload_n 1, 1) := by decide +kernel
theorem d_SpectrumDeskModel_bigSizes_41 : decode b_SpectrumDeskModel_bigSizes 41 = .ok (.iaload, 1) := by decide +kernel
theorem d_SpectrumDeskModel_bigSizes_42 : decode b_SpectrumDeskModel_bigSizes 42 = .ok (.iconst 1, 1) := by decide +kernel
theorem d_SpectrumDeskModel_bigSizes_43 : decode b_SpectrumDeskModel_bigSizes 43 = .ok (.isub, 1) := by decide +kernel
theorem d_SpectrumDeskModel_bigSizes_44 : decode b_SpectrumDeskModel_bigSizes 44 = .ok (.istore_n 3, 1) := by decide +kernel
theorem d_SpectrumDeskModel_bigSizes_45 : decode b_SpectrumDeskModel_bigSizes 45 = .ok (.iload_n 3, 1) := by decide +kernel
theorem d_SpectrumDeskModel_bigSizes_46 : decode b_SpectrumDeskModel_bigSizes 46 = .ok (.ifCond .lt (24), 3) := by decide +kernel
theorem d_SpectrumDeskModel_bigSizes_49 : decode b_SpectrumDeskModel_bigSizes 49 = .ok (.aload_n 0, 1) := by decide +kernel
theorem d_SpectrumDeskModel_bigSizes_50 : decode b_SpectrumDeskModel_bigSizes 50 = .ok (.iload_n 1, 1) := by decide +kernel
theorem d_SpectrumDeskModel_bigSizes_51 : decode b_SpectrumDeskModel_bigSizes 51 = .ok (.iload_n 3, 1) := by decide +kernel
theorem d_SpectrumDeskModel_bigSizes_52 : decode b_SpectrumDeskModel_bigSizes 52 = .ok (.invokevirtual 16, 3) := by decide +kernel
theorem d_SpectrumDeskModel_bigSizes_55 : decode b_SpectrumDeskModel_bigSizes 55 = .ok (.aload_n 0, 1) := by decide +kernel
theorem d_SpectrumDeskModel_bigSizes_56 : decode b_SpectrumDeskModel_bigSizes 56 = .ok (.iload_n 2, 1) := by decide +kernel
theorem d_SpectrumDeskModel_bigSizes_57 : decode b_SpectrumDeskModel_bigSizes 57 = .ok (.iload_n 3, 1) := by decide +kernel
theorem d_SpectrumDeskModel_bigSizes_58 : decode b_SpectrumDeskModel_bigSizes 58 = .ok (.invokevirtual 16, 3) := by decide +kernel
theorem d_SpectrumDeskModel_bigSizes_61 : decode b_SpectrumDeskModel_bigSizes 61 = .ok (.if_icmp .ne (9), 3) := by decide +kernel
theorem d_SpectrumDeskModel_bigSizes_64 : decode b_SpectrumDeskModel_bigSizes 64 = .ok (.iinc 3 (-1), 3) := by decide +kernel
theorem d_SpectrumDeskModel_bigSizes_67 : decode b_SpectrumDeskModel_bigSizes 67 = .ok (.goto (-22), 3) := by decide +kernel
theorem d_SpectrumDeskModel_bigSizes_70 : decode b_SpectrumDeskModel_bigSizes 70 = .ok (.iload_n 3, 1) := by decide +kernel
theorem d_SpectrumDeskModel_bigSizes_71 : decode b_SpectrumDeskModel_bigSizes 71 = .ok (.ifCond .ge (7), 3) := by decide +kernel
theorem d_SpectrumDeskModel_bigSizes_74 : decode b_SpectrumDeskModel_bigSizes 74 = .ok (.iconst 0, 1) := by decide +kernel
theorem d_SpectrumDeskModel_bigSizes_75 : decode b_SpectrumDeskModel_bigSizes 75 = .ok (.goto (23), 3) := by decide +kernel
theorem d_SpectrumDeskModel_bigSizes_78 : decode b_SpectrumDeskModel_bigSizes 78 = .ok (.aload_n 0, 1) := by decide +kernel
theorem d_SpectrumDeskModel_bigSizes_79 : decode b_SpectrumDeskModel_bigSizes 79 = .ok (.iload_n 1, 1) := by decide +kernel
theorem d_SpectrumDeskModel_bigSizes_80 : decode b_SpectrumDeskModel_bigSizes 80 = .ok (.iload_n 3, 1) := by decide +kernel
theorem d_SpectrumDeskModel_bigSizes_81 : decode b_SpectrumDeskModel_bigSizes 81 = .ok (.invokevirtual 16, 3) := by decide +kernel
theorem d_SpectrumDeskModel_bigSizes_84 : decode b_SpectrumDeskModel_bigSizes 84 = .ok (.aload_n 0, 1) := by decide +kernel
theorem d_SpectrumDeskModel_bigSizes_85 : decode b_SpectrumDeskModel_bigSizes 85 = .ok (.iload_n 2, 1) := by decide +kernel
theorem d_SpectrumDeskModel_bigSizes_86 : decode b_SpectrumDeskModel_bigSizes 86 = .ok (.iload_n 3, 1) := by decide +kernel
theorem d_SpectrumDeskModel_bigSizes_87 : decode b_SpectrumDeskModel_bigSizes 87 = .ok (.invokevirtual 16, 3) := by decide +kernel
theorem d_SpectrumDeskModel_bigSizes_90 : decode b_SpectrumDeskModel_bigSizes 90 = .ok (.if_icmp .ge (7), 3) := by decide +kernel
theorem d_SpectrumDeskModel_bigSizes_93 : decode b_SpectrumDeskModel_bigSizes 93 = .ok (.iconst (-1), 1) := by decide +kernel
theorem d_SpectrumDeskModel_bigSizes_94 : decode b_SpectrumDeskModel_bigSizes 94 = .ok (.goto (4), 3) := by decide +kernel
theorem d_SpectrumDeskModel_bigSizes_97 : decode b_SpectrumDeskModel_bigSizes 97 = .ok (.iconst 1, 1) := by decide +kernel
theorem d_SpectrumDeskModel_bigSizes_98 : decode b_SpectrumDeskModel_bigSizes 98 = .ok (.ireturn, 1) := by decide +kernel
abbrev b_SpectrumDeskModel_bigDiffer : ByteArray := prog_10_method_10_code
abbrev y_SpectrumDeskModel_bigDiffer : MethodName := ⟨"SpectrumDeskModel", "bigDiffer", "(IIZ)V"⟩
abbrev v_SpectrumDeskModel_bigDiffer : List Cond := Cond.code y_SpectrumDeskModel_bigDiffer b_SpectrumDeskModel_bigDiffer 8 none :: AW
theorem d_SpectrumDeskModel_bigDiffer_0 : decode b_SpectrumDeskModel_bigDiffer 0 = .ok (.aload_n 0, 1) := by decide +kernel
theorem d_SpectrumDeskModel_bigDiffer_1 : decode b_SpectrumDeskModel_bigDiffer 1 = .ok (.getfield 13, 3) := by decide +kernel
theorem d_SpectrumDeskModel_bigDiffer_4 : decode b_SpectrumDeskModel_bigDiffer 4 = .ok (.iload_n 1, 1) := by decide +kernel
theorem d_SpectrumDeskModel_bigDiffer_5 : decode b_SpectrumDeskModel_bigDiffer 5 = .ok (.iaload, 1) := by decide +kernel
theorem d_SpectrumDeskModel_bigDiffer_6 : decode b_SpectrumDeskModel_bigDiffer 6 = .ok (.aload_n 0, 1) := by decide +kernel
theorem d_SpectrumDeskModel_bigDiffer_7 : decode b_SpectrumDeskModel_bigDiffer 7 = .ok (.getfield 13, 3) := by decide +kernel
theorem d_SpectrumDeskModel_bigDiffer_10 : decode b_SpectrumDeskModel_bigDiffer 10 = .ok (.iload_n 2, 1) := by decide +kernel
theorem d_SpectrumDeskModel_bigDiffer_11 : decode b_SpectrumDeskModel_bigDiffer 11 = .ok (.iaload, 1) := by decide +kernel
theorem d_SpectrumDeskModel_bigDiffer_12 : decode b_SpectrumDeskModel_bigDiffer 12 = .ok (.if_icmp .le (12), 3) := by decide +kernel
theorem d_SpectrumDeskModel_bigDiffer_15 : decode b_SpectrumDeskModel_bigDiffer 15 = .ok (.aload_n 0, 1) := by decide +kernel
theorem d_SpectrumDeskModel_bigDiffer_16 : decode b_SpectrumDeskModel_bigDiffer 16 = .ok (.getfield 13, 3) := by decide +kernel
theorem d_SpectrumDeskModel_bigDiffer_19 : decode b_SpectrumDeskModel_bigDiffer 19 = .ok (.iload_n 1, 1) := by decide +kernel
theorem d_SpectrumDeskModel_bigDiffer_20 : decode b_SpectrumDeskModel_bigDiffer 20 = .ok (.iaload, 1) := by decide +kernel
theorem d_SpectrumDeskModel_bigDiffer_21 : decode b_SpectrumDeskModel_bigDiffer 21 = .ok (.goto (9), 3) := by decide +kernel
theorem d_SpectrumDeskModel_bigDiffer_24 : decode b_SpectrumDeskModel_bigDiffer 24 = .ok (.aload_n 0, 1) := by decide +kernel
theorem d_SpectrumDeskModel_bigDiffer_25 : decode b_SpectrumDeskModel_bigDiffer 25 = .ok (.getfield 13, 3) := by decide +kernel
theorem d_SpectrumDeskModel_bigDiffer_28 : decode b_SpectrumDeskModel_bigDiffer 28 = .ok (.iload_n 2, 1) := by decide +kernel
theorem d_SpectrumDeskModel_bigDiffer_29 : decode b_SpectrumDeskModel_bigDiffer 29 = .ok (.iaload, 1) := by decide +kernel
theorem d_SpectrumDeskModel_bigDiffer_30 : decode b_SpectrumDeskModel_bigDiffer 30 = .ok (.istore 4, 2) := by decide +kernel
theorem d_SpectrumDeskModel_bigDiffer_32 : decode b_SpectrumDeskModel_bigDiffer 32 = .ok (.iconst 0, 1) := by decide +kernel
theorem d_SpectrumDeskModel_bigDiffer_33 : decode b_SpectrumDeskModel_bigDiffer 33 = .ok (.istore 5, 2) := by decide +kernel
theorem d_SpectrumDeskModel_bigDiffer_35 : decode b_SpectrumDeskModel_bigDiffer 35 = .ok (.iconst 0, 1) := by decide +kernel
theorem d_SpectrumDeskModel_bigDiffer_36 : decode b_SpectrumDeskModel_bigDiffer 36 = .ok (.istore 6, 2) := by decide +kernel
theorem d_SpectrumDeskModel_bigDiffer_38 : decode b_SpectrumDeskModel_bigDiffer 38 = .ok (.iload 6, 2) := by decide +kernel
theorem d_SpectrumDeskModel_bigDiffer_40 : decode b_SpectrumDeskModel_bigDiffer 40 = .ok (.iload 4, 2) := by decide +kernel
theorem d_SpectrumDeskModel_bigDiffer_42 : decode b_SpectrumDeskModel_bigDiffer 42 = .ok (.if_icmp .ge (91), 3) := by decide +kernel
theorem d_SpectrumDeskModel_bigDiffer_45 : decode b_SpectrumDeskModel_bigDiffer 45 = .ok (.iload_n 3, 1) := by decide +kernel
theorem d_SpectrumDeskModel_bigDiffer_46 : decode b_SpectrumDeskModel_bigDiffer 46 = .ok (.ifCond .eq (21), 3) := by decide +kernel
theorem d_SpectrumDeskModel_bigDiffer_49 : decode b_SpectrumDeskModel_bigDiffer 49 = .ok (.aload_n 0, 1) := by decide +kernel
theorem d_SpectrumDeskModel_bigDiffer_50 : decode b_SpectrumDeskModel_bigDiffer 50 = .ok (.iload_n 2, 1) := by decide +kernel
theorem d_SpectrumDeskModel_bigDiffer_51 : decode b_SpectrumDeskModel_bigDiffer 51 = .ok (.iload 6, 2) := by decide +kernel
theorem d_SpectrumDeskModel_bigDiffer_53 : decode b_SpectrumDeskModel_bigDiffer 53 = .ok (.invokevirtual 16, 3) := by decide +kernel
theorem d_SpectrumDeskModel_bigDiffer_56 : decode b_SpectrumDeskModel_bigDiffer 56 = .ok (.aload_n 0, 1) := by decide +kernel
theorem d_SpectrumDeskModel_bigDiffer_57 : decode b_SpectrumDeskModel_bigDiffer 57 = .ok (.iload_n 1, 1) := by decide +kernel
theorem d_SpectrumDeskModel_bigDiffer_58 : decode b_SpectrumDeskModel_bigDiffer 58 = .ok (.iload 6, 2) := by decide +kernel
theorem d_SpectrumDeskModel_bigDiffer_60 : decode b_SpectrumDeskModel_bigDiffer 60 = .ok (.invokevirtual 16, 3) := by decide +kernel
theorem d_SpectrumDeskModel_bigDiffer_63 : decode b_SpectrumDeskModel_bigDiffer 63 = .ok (.isub, 1) := by decide +kernel
theorem d_SpectrumDeskModel_bigDiffer_64 : decode b_SpectrumDeskModel_bigDiffer 64 = .ok (.goto (18), 3) := by decide +kernel
theorem d_SpectrumDeskModel_bigDiffer_67 : decode b_SpectrumDeskModel_bigDiffer 67 = .ok (.aload_n 0, 1) := by decide +kernel
theorem d_SpectrumDeskModel_bigDiffer_68 : decode b_SpectrumDeskModel_bigDiffer 68 = .ok (.iload_n 1, 1) := by decide +kernel
theorem d_SpectrumDeskModel_bigDiffer_69 : decode b_SpectrumDeskModel_bigDiffer 69 = .ok (.iload 6, 2) := by decide +kernel
theorem d_SpectrumDeskModel_bigDiffer_71 : decode b_SpectrumDeskModel_bigDiffer 71 = .ok (.invokevirtual 16, 3) := by decide +kernel
theorem d_SpectrumDeskModel_bigDiffer_74 : decode b_SpectrumDeskModel_bigDiffer 74 = .ok (.aload_n 0, 1) := by decide +kernel
theorem d_SpectrumDeskModel_bigDiffer_75 : decode b_SpectrumDeskModel_bigDiffer 75 = .ok (.iload_n 2, 1) := by decide +kernel
theorem d_SpectrumDeskModel_bigDiffer_76 : decode b_SpectrumDeskModel_bigDiffer 76 = .ok (.iload 6, 2) := by decide +kernel
theorem d_SpectrumDeskModel_bigDiffer_78 : decode b_SpectrumDeskModel_bigDiffer 78 = .ok (.invokevirtual 16, 3) := by decide +kernel
theorem d_SpectrumDeskModel_bigDiffer_81 : decode b_SpectrumDeskModel_bigDiffer 81 = .ok (.isub, 1) := by decide +kernel
theorem d_SpectrumDeskModel_bigDiffer_82 : decode b_SpectrumDeskModel_bigDiffer 82 = .ok (.iload 5, 2) := by decide +kernel
theorem d_SpectrumDeskModel_bigDiffer_84 : decode b_SpectrumDeskModel_bigDiffer 84 = .ok (.isub, 1) := by decide +kernel
theorem d_SpectrumDeskModel_bigDiffer_85 : decode b_SpectrumDeskModel_bigDiffer 85 = .ok (.istore 7, 2) := by decide +kernel
theorem d_SpectrumDeskModel_bigDiffer_87 : decode b_SpectrumDeskModel_bigDiffer 87 = .ok (.iload 7, 2) := by decide +kernel
theorem d_SpectrumDeskModel_bigDiffer_89 : decode b_SpectrumDeskModel_bigDiffer 89 = .ok (.ifCond .ge (7), 3) := by decide +kernel
theorem d_SpectrumDeskModel_bigDiffer_92 : decode b_SpectrumDeskModel_bigDiffer 92 = .ok (.iconst 1, 1) := by decide +kernel
theorem d_SpectrumDeskModel_bigDiffer_93 : decode b_SpectrumDeskModel_bigDiffer 93 = .ok (.goto (4), 3) := by decide +kernel
theorem d_SpectrumDeskModel_bigDiffer_96 : decode b_SpectrumDeskModel_bigDiffer 96 = .ok (.iconst 0, 1) := by decide +kernel
theorem d_SpectrumDeskModel_bigDiffer_97 : decode b_SpectrumDeskModel_bigDiffer 97 = .ok (.istore 5, 2) := by decide +kernel
theorem d_SpectrumDeskModel_bigDiffer_99 : decode b_SpectrumDeskModel_bigDiffer 99 = .ok (.aload_n 0, 1) := by decide +kernel
theorem d_SpectrumDeskModel_bigDiffer_100 : decode b_SpectrumDeskModel_bigDiffer 100 = .ok (.getfield 7, 3) := by decide +kernel
theorem d_SpectrumDeskModel_bigDiffer_103 : decode b_SpectrumDeskModel_bigDiffer 103 = .ok (.sipush (300), 3) := by decide +kernel
theorem d_SpectrumDeskModel_bigDiffer_106 : decode b_SpectrumDeskModel_bigDiffer 106 = .ok (.iload_n 1, 1) := by decide +kernel
theorem d_SpectrumDeskModel_bigDiffer_107 : decode b_SpectrumDeskModel_bigDiffer 107 = .ok (.imul, 1) := by decide +kernel
theorem d_SpectrumDeskModel_bigDiffer_108 : decode b_SpectrumDeskModel_bigDiffer 108 = .ok (.iload 6, 2) := by decide +kernel
theorem d_SpectrumDeskModel_bigDiffer_110 : decode b_SpectrumDeskModel_bigDiffer 110 = .ok (.iadd, 1) := by decide +kernel
theorem d_SpectrumDeskModel_bigDiffer_111 : decode b_SpectrumDeskModel_bigDiffer 111 = .ok (.iload 7, 2) := by decide +kernel
theorem d_SpectrumDeskModel_bigDiffer_113 : decode b_SpectrumDeskModel_bigDiffer 113 = .ok (.ifCond .ge (11), 3) := by decide +kernel
theorem d_SpectrumDeskModel_bigDiffer_116 : decode b_SpectrumDeskModel_bigDiffer 116 = .ok (.iload 7, 2) := by decide +kernel
theorem d_SpectrumDeskModel_bigDiffer_118 : decode b_SpectrumDeskModel_bigDiffer 118 = .ok (.ldc 20, 2) := by decide +kernel
theorem d_SpectrumDeskModel_bigDiffer_120 : decode b_SpectrumDeskModel_bigDiffer 120 = .ok (.iadd, 1) := by decide +kernel
theorem d_SpectrumDeskModel_bigDiffer_121 : decode b_SpectrumDeskModel_bigDiffer 121 = .ok (.goto (5), 3) := by decide +kernel
theorem d_SpectrumDeskModel_bigDiffer_124 : decode b_SpectrumDeskModel_bigDiffer 124 = .ok (.iload 7, 2) := by decide +kernel
theorem d_SpectrumDeskModel_bigDiffer_126 : decode b_SpectrumDeskModel_bigDiffer 126 = .ok (.iastore, 1) := by decide +kernel
theorem d_SpectrumDeskModel_bigDiffer_127 : decode b_SpectrumDeskModel_bigDiffer 127 = .ok (.iinc 6 (1), 3) := by decide +kernel
theorem d_SpectrumDeskModel_bigDiffer_130 : decode b_SpectrumDeskModel_bigDiffer 130 = .ok (.goto (-92), 3) := by decide +kernel
theorem d_SpectrumDeskModel_bigDiffer_133 : decode b_SpectrumDeskModel_bigDiffer 133 = .ok (.aload_n 0, 1) := by decide +kernel
theorem d_SpectrumDeskModel_bigDiffer_134 : decode b_SpectrumDeskModel_bigDiffer 134 = .ok (.getfield 13, 3) := by decide +kernel
theorem d_SpectrumDeskModel_bigDiffer_137 : decode b_SpectrumDeskModel_bigDiffer 137 = .ok (.iload_n 1, 1) := by decide +kernel
theorem d_SpectrumDeskModel_bigDiffer_138 : decode b_SpectrumDeskModel_bigDiffer 138 = .ok (.iload 4, 2) := by decide +kernel
theorem d_SpectrumDeskModel_bigDiffer_140 : decode b_SpectrumDeskModel_bigDiffer 140 = .ok (.iastore, 1) := by decide +kernel
theorem d_SpectrumDeskModel_bigDiffer_141 : decode b_SpectrumDeskModel_bigDiffer 141 = .ok (.aload_n 0, 1) := by decide +kernel
theorem d_SpectrumDeskModel_bigDiffer_142 : decode b_SpectrumDeskModel_bigDiffer 142 = .ok (.iload_n 1, 1) := by decide +kernel
theorem d_SpectrumDeskModel_bigDiffer_143 : decode b_SpectrumDeskModel_bigDiffer 143 = .ok (.invokevirtual 21, 3) := by decide +kernel
theorem d_SpectrumDeskModel_bigDiffer_146 : decode b_SpectrumDeskModel_bigDiffer 146 = .ok (.return_, 1) := by decide +kernel
abbrev b_SpectrumDeskModel_bigAdd : ByteArray := prog_10_method_11_code
abbrev y_SpectrumDeskModel_bigAdd : MethodName := ⟨"SpectrumDeskModel", "bigAdd", "(IIZ)V"⟩
abbrev v_SpectrumDeskModel_bigAdd : List Cond := Cond.code y_SpectrumDeskModel_bigAdd b_SpectrumDeskModel_bigAdd 5 none :: AW
theorem d_SpectrumDeskModel_bigAdd_0 : decode b_SpectrumDeskModel_bigAdd 0 = .ok (.aload_n 0, 1) := by decide +kernel
theorem d_SpectrumDeskModel_bigAdd_1 : decode b_SpectrumDeskModel_bigAdd 1 = .ok (.getfield 1, 3) := by decide +kernel
theorem d_SpectrumDeskModel_bigAdd_4 : decode b_SpectrumDeskModel_bigAdd 4 = .ok (.iload_n 2, 1) := by decide +kernel
theorem d_SpectrumDeskModel_bigAdd_5 : decode b_SpectrumDeskModel_bigAdd 5 = .ok (.baload, 1) := by decide +kernel
theorem d_SpectrumDeskModel_bigAdd_6 : decode b_SpectrumDeskModel_bigAdd 6 = .ok (.iload_n 3, 1) := by decide +kernel
theorem d_SpectrumDeskModel_bigAdd_7 : decode b_SpectrumDeskModel_bigAdd 7 = .ok (.if_icmp .eq (7), 3) := by decide +kernel
theorem d_SpectrumDeskModel_bigAdd_10 : decode b_SpectrumDeskModel_bigAdd 10 = .ok (.iconst 1, 1) := by decide +kernel
theorem d_SpectrumDeskModel_bigAdd_11 : decode b_SpectrumDeskModel_bigAdd 11 = .ok (.goto (4), 3) := by decide +kernel
theorem d_SpectrumDeskModel_bigAdd_14 : decode b_SpectrumDeskModel_bigAdd 14 = .ok (.iconst 0, 1) := by decide +kernel
theorem d_SpectrumDeskModel_bigAdd_15 : decode b_SpectrumDeskModel_bigAdd 15 = .ok (.istore 4, 2) := by decide +kernel
theorem d_SpectrumDeskModel_bigAdd_17 : decode b_SpectrumDeskModel_bigAdd 17 = .ok (.aload_n 0, 1) := by decide +kernel
theorem d_SpectrumDeskModel_bigAdd_18 : decode b_SpectrumDeskModel_bigAdd 18 = .ok (.getfield 1, 3) := by decide +kernel
theorem d_SpectrumDeskModel_bigAdd_21 : decode b_SpectrumDeskModel_bigAdd 21 = .ok (.iload_n 1, 1) := by decide +kernel
theorem d_SpectrumDeskModel_bigAdd_22 : decode b_SpectrumDeskModel_bigAdd 22 = .ok (.baload, 1) := by decide +kernel
theorem d_SpectrumDeskModel_bigAdd_23 : decode b_SpectrumDeskModel_bigAdd 23 = .ok (.iload 4, 2) := by decide +kernel
theorem d_SpectrumDeskModel_bigAdd_25 : decode b_SpectrumDeskModel_bigAdd 25 = .ok (.if_icmp .ne (12), 3) := by decide +kernel
theorem d_SpectrumDeskModel_bigAdd_28 : decode b_SpectrumDeskModel_bigAdd 28 = .ok (.aload_n 0, 1) := by decide +kernel
theorem d_SpectrumDeskModel_bigAdd_29 : decode b_SpectrumDeskModel_bigAdd 29 = .ok (.iload_n 1, 1) := by decide +kernel
theorem d_SpectrumDeskModel_bigAdd_30 : decode b_SpectrumDeskModel_bigAdd 30 = .ok (.iload_n 2, 1) := by decide +kernel
theorem d_SpectrumDeskModel_bigAdd_31 : decode b_SpectrumDeskModel_bigAdd 31 = .ok (.invokevirtual 25, 3) := by decide +kernel
theorem d_SpectrumDeskModel_bigAdd_34 : decode b_SpectrumDeskModel_bigAdd 34 = .ok (.goto (37), 3) := by decide +kernel
theorem d_SpectrumDeskModel_bigAdd_37 : decode b_SpectrumDeskModel_bigAdd 37 = .ok (.aload_n 0, 1) := by decide +kernel
theorem d_SpectrumDeskModel_bigAdd_38 : decode b_SpectrumDeskModel_bigAdd 38 = .ok (.iload_n 1, 1) := by decide +kernel
theorem d_SpectrumDeskModel_bigAdd_39 : decode b_SpectrumDeskModel_bigAdd 39 = .ok (.iload_n 2, 1) := by decide +kernel
theorem d_SpectrumDeskModel_bigAdd_40 : decode b_SpectrumDeskModel_bigAdd 40 = .ok (.invokevirtual 29, 3) := by decide +kernel
theorem d_SpectrumDeskModel_bigAdd_43 : decode b_SpectrumDeskModel_bigAdd 43 = .ok (.ifCond .lt (13), 3) := by decide +kernel
theorem d_SpectrumDeskModel_bigAdd_46 : decode b_SpectrumDeskModel_bigAdd 46 = .ok (.aload_n 0, 1) := by decide +kernel
theorem d_SpectrumDeskModel_bigAdd_47 : decode b_SpectrumDeskModel_bigAdd 47 = .ok (.iload_n 1, 1) := by decide +kernel
theorem d_SpectrumDeskModel_bigAdd_48 : decode b_SpectrumDeskModel_bigAdd 48 = .ok (.iload_n 2, 1) := by decide +kernel
theorem d_SpectrumDeskModel_bigAdd_49 : decode b_SpectrumDeskModel_bigAdd 49 = .ok (.iconst 0, 1) := by decide +kernel
theorem d_SpectrumDeskModel_bigAdd_50 : decode b_SpectrumDeskModel_bigAdd 50 = .ok (.invokevirtual 32, 3) := by decide +kernel
theorem d_SpectrumDeskModel_bigAdd_53 : decode b_SpectrumDeskModel_bigAdd 53 = .ok (.goto (18), 3) := by decide +kernel
theorem d_SpectrumDeskModel_bigAdd_56 : decode b_SpectrumDeskModel_bigAdd 56 = .ok (.aload_n 0, 1) := by decide +kernel
theorem d_SpectrumDeskModel_bigAdd_57 : decode b_SpectrumDeskModel_bigAdd 57 = .ok (.iload_n 1, 1) := by decide +kernel
theorem d_SpectrumDeskModel_bigAdd_58 : decode b_SpectrumDeskModel_bigAdd 58 = .ok (.iload_n 2, 1) := by decide +kernel
theorem d_SpectrumDeskModel_bigAdd_59 : decode b_SpectrumDeskModel_bigAdd 59 = .ok (.iconst 1, 1) := by decide +kernel
theorem d_SpectrumDeskModel_bigAdd_60 : decode b_SpectrumDeskModel_bigAdd 60 = .ok (.invokevirtual 32, 3) := by decide +kernel
theorem d_SpectrumDeskModel_bigAdd_63 : decode b_SpectrumDeskModel_bigAdd 63 = .ok (.aload_n 0, 1) := by decide +kernel
theorem d_SpectrumDeskModel_bigAdd_64 : decode b_SpectrumDeskModel_bigAdd 64 = .ok (.getfield 1, 3) := by decide +kernel
theorem d_SpectrumDeskModel_bigAdd_67 : decode b_SpectrumDeskModel_bigAdd 67 = .ok (.iload_n 1, 1) := by decide +kernel
theorem d_SpectrumDeskModel_bigAdd_68 : decode b_SpectrumDeskModel_bigAdd 68 = .ok (.iload 4, 2) := by decide +kernel
theorem d_SpectrumDeskModel_bigAdd_70 : decode b_SpectrumDeskModel_bigAdd 70 = .ok (.bastore, 1) := by decide +kernel
theorem d_SpectrumDeskModel_bigAdd_71 : decode b_SpectrumDeskModel_bigAdd 71 = .ok (.return_, 1) := by decide +kernel
theorem k_42414df306 : (Jvm.Cond.methodLink "SpectrumDeskModel" (16 : Nat) ({ cls := "SpectrumDeskModel", name := "bigAt", desc := "(II)I" } : Jvm.MethodName)) ∈ AW := aw_5 (List.mem_of_getElem? (i := 68) (by decide +kernel)) (by decide +kernel)
theorem k_a35af8c930 : (Jvm.Cond.instanceMethod ({ cls := "SpectrumDeskModel", name := "bigAt", desc := "(II)I" } : Jvm.MethodName)) ∈ AW := aw_5 (List.mem_of_getElem? (i := 70) (by decide +kernel)) (by decide +kernel)
theorem k_9a4475df0e : (Jvm.Cond.selects "SpectrumDeskModel" ({ cls := "SpectrumDeskModel", name := "bigAt", desc := "(II)I" } : Jvm.MethodName) ({ cls := "SpectrumDeskModel", name := "bigAt", desc := "(II)I" } : Jvm.MethodName)) ∈ AW := aw_p (by decide +kernel) (by decide +kernel)
theorem k_30fa15c9ac : (Jvm.Cond.initialized "SpectrumDeskModel") ∈ AW := aw_1 (List.mem_of_getElem? (i := 10) (by decide +kernel)) (by decide +kernel)
theorem k_0f8e24087a : (Jvm.Cond.constant "SpectrumDeskModel" (20 : Nat) (16777216 : Int32)) ∈ AW := aw_5 (List.mem_of_getElem? (i := 72) (by decide +kernel)) (by decide +kernel)
theorem k_fdf1e9da4b : (Jvm.Cond.methodLink "SpectrumDeskModel" (21 : Nat) ({ cls := "SpectrumDeskModel", name := "bigTrim", desc := "(I)V" } : Jvm.MethodName)) ∈ AW := aw_5 (List.mem_of_getElem? (i := 56) (by decide +kernel)) (by decide +kernel)
theorem k_72a5102e81 : (Jvm.Cond.instanceMethod ({ cls := "SpectrumDeskModel", name := "bigTrim", desc := "(I)V" } : Jvm.MethodName)) ∈ AW := aw_5 (List.mem_of_getElem? (i := 58) (by decide +kernel)) (by decide +kernel)
theorem k_90f9c60262 : (Jvm.Cond.selects "SpectrumDeskModel" ({ cls := "SpectrumDeskModel", name := "bigTrim", desc := "(I)V" } : Jvm.MethodName) ({ cls := "SpectrumDeskModel", name := "bigTrim", desc := "(I)V" } : Jvm.MethodName)) ∈ AW := aw_p (by decide +kernel) (by decide +kernel)
theorem k_72a62daed8 : (Jvm.Cond.methodLink "SpectrumDeskModel" (25 : Nat) ({ cls := "SpectrumDeskModel", name := "bigMore", desc := "(II)V" } : Jvm.MethodName)) ∈ AW := aw_5 (List.mem_of_getElem? (i := 64) (by decide +kernel)) (by decide +kernel)
theorem k_4e1eb4d18f : (Jvm.Cond.instanceMethod ({ cls := "SpectrumDeskModel", name := "bigMore", desc := "(II)V" } : Jvm.MethodName)) ∈ AW := aw_5 (List.mem_of_getElem? (i := 66) (by decide +kernel)) (by decide +kernel)
theorem k_7fffc0722b : (Jvm.Cond.selects "SpectrumDeskModel" ({ cls := "SpectrumDeskModel", name := "bigMore", desc := "(II)V" } : Jvm.MethodName) ({ cls := "SpectrumDeskModel", name := "bigMore", desc := "(II)V" } : Jvm.MethodName)) ∈ AW := aw_p (by decide +kernel) (by decide +kernel)
theorem k_c0032b460a : (Jvm.Cond.methodLink "SpectrumDeskModel" (29 : Nat) ({ cls := "SpectrumDeskModel", name := "bigSizes", desc := "(II)I" } : Jvm.MethodName)) ∈ AW := aw_5 (List.mem_of_getElem? (i := 73) (by decide +kernel)) (by decide +kernel)
theorem k_cf2ddaaf03 : (Jvm.Cond.instanceMethod ({ cls := "SpectrumDeskModel", name := "bigSizes", desc := "(II)I" } : Jvm.MethodName)) ∈ AW := aw_5 (List.mem_of_getElem? (i := 75) (by decide +kernel)) (by decide +kernel)
theorem k_af57503f5d : (Jvm.Cond.selects "SpectrumDeskModel" ({ cls := "SpectrumDeskModel", name := "bigSizes", desc := "(II)I" } : Jvm.MethodName) ({ cls := "SpectrumDeskModel", name := "bigSizes", desc := "(II)I" } : Jvm.MethodName)) ∈ AW := aw_p (by decide +kernel) (by decide +kernel)
theorem k_6543122d39 : (Jvm.Cond.methodLink "SpectrumDeskModel" (32 : Nat) ({ cls := "SpectrumDeskModel", name := "bigDiffer", desc := "(IIZ)V" } : Jvm.MethodName)) ∈ AW := aw_5 (List.mem_of_getElem? (i := 77) (by decide +kernel)) (by decide +kernel)
theorem k_f670f9e174 : (Jvm.Cond.instanceMethod ({ cls := "SpectrumDeskModel", name := "bigDiffer", desc := "(IIZ)V" } : Jvm.MethodName)) ∈ AW := aw_5 (List.mem_of_getElem? (i := 79) (by decide +kernel)) (by decide +kernel)
theorem k_3e9fe204cb : (Jvm.Cond.selects "SpectrumDeskModel" ({ cls := "SpectrumDeskModel", name := "bigDiffer", desc := "(IIZ)V" } : Jvm.MethodName) ({ cls := "SpectrumDeskModel", name := "bigDiffer", desc := "(IIZ)V" } : Jvm.MethodName)) ∈ AW := aw_p (by decide +kernel) (by decide +kernel)
theorem k_ff14552d82 : (Jvm.Cond.code ({ cls := "SpectrumDeskModel", name := "bigMore", desc := "(II)V" } : Jvm.MethodName) prog_10_method_9_code (7 : Nat) (Option.none : Option Jvm.ClassFile.FieldType)) ∈ AW := aw_5 (List.mem_of_getElem? (i := 67) (by decide +kernel)) (by decide +kernel)
theorem k_99203b0091 : (Jvm.Cond.code ({ cls := "SpectrumDeskModel", name := "bigSizes", desc := "(II)I" } : Jvm.MethodName) prog_10_method_8_code (4 : Nat) (Option.some Jvm.ClassFile.FieldType.int)) ∈ AW := aw_5 (List.mem_of_getElem? (i := 76) (by decide +kernel)) (by decide +kernel)
theorem k_72c7a99444 : (Jvm.Cond.code ({ cls := "SpectrumDeskModel", name := "bigDiffer", desc := "(IIZ)V" } : Jvm.MethodName) prog_10_method_10_code (8 : Nat) (Option.none : Option Jvm.ClassFile.FieldType)) ∈ AW := aw_5 (List.mem_of_getElem? (i := 80) (by decide +kernel)) (by decide +kernel)
theorem k_dd45f20b23 : (Jvm.Cond.code ({ cls := "SpectrumDeskModel", name := "bigAdd", desc := "(IIZ)V" } : Jvm.MethodName) prog_10_method_11_code (5 : Nat) (Option.none : Option Jvm.ClassFile.FieldType)) ∈ AW := aw_5 (List.mem_of_getElem? (i := 63) (by decide +kernel)) (by decide +kernel)
set_option maxHeartbeats 4000000 in
set_option maxRecDepth 100000 in
theorem c_SpectrumDeskModel_bigMore {l : Launch} {D : va_G} {cI cJ cZ cC cG cP : ClassId} {ad : Nat → Nat} {σ0 : Nat → va_E} {fs : List Value} {P L M : Nat → Int32} {w u a b : Nat} (hF : mF ad fs) (hw : w < 112) (hu : u < 112) (hne : u ≠ w) (ha : a < 300) (hb9 : b < 300) (hLw : L w = nI a) (hLu : L u = nI b) (hwo : rg_ok P (300 * w) a) (huo : rg_ok P (300 * u) b) (hwt : 0 < a → P (300 * w + (a - 1)) ≠ 0) (hut : 0 < b → P (300 * u + (b - 1)) ≠ 0) :
    Met l y_SpectrumDeskModel_bigMore v_SpectrumDeskModel_bigMore (xrm 1) (va_Pc [.ref (ad 183), .int (nI w), .int (nI u)] (xS D classes (xT cI cJ cZ cC cG cP) 193 ad (rw3 σ0 ciM cI cZ fs P L M))) (va_Qv (rm_up σ0 ciM cI cZ fs P L M w (rg P (300 * w) a + rg P (300 * u) b)) (xS D classes (xT cI cJ cZ cC cG cP) 193 ad) (xA 193 ad)) 0 0 (xA 193 ad) := by
  refine xr_met rfl (Nat.le_of_ble_eq_true rfl) ?_
  intro p e s m args below meth c ls hx hb X hr hlk hl I
  have hl : lv_has ls 7 [(0, .ref (ad 183)), (1, .int (nI w)), (2, .int (nI u))] := hl
  have loop : ∀ (mo : Nat) (hmx : (a = mo ∧ b ≤ mo) ∨ (b = mo ∧ a ≤ mo)) (k : Nat) (i cy : Nat) (P2 : Nat → Int32) (ls : Array Slot) (H : Heap) (locs : List Loc), i + k = mo → cy ≤ 1 → (∀ j, j < 300 * w ∨ 300 * w + 300 ≤ j → P2 j = P j) → (∀ j, i ≤ j → P2 (300 * w + j) = P (300 * w + j)) → rg_ok P2 (300 * w) i → rg P2 (300 * w) i + (cy : Int) * 16777216 ^ i = dv (dg P (300 * w) a) i + dv (dg P (300 * u) b) i → lv_has ls 7 [(5, .int (nI i)), (4, .int (nI cy)), (3, .int (nI mo)), (0, .ref (ad 183)), (1, .int (nI w)), (2, .int (nI u))] → xI D classes 193 ad s.heap (rw3 σ0 ciM cI cZ fs P2 L M) H locs → W p l e (xrm 1) s m args below meth c H locs 0 0 (MQ below (va_Qv (rm_up σ0 ciM cI cZ fs P L M w (rg P (300 * w) a + rg P (300 * u) b)) (xS D classes (xT cI cJ cZ cC cG cP) 193 ad) (xA 193 ad)) args s 0 0 (xA 193 ad)) (F0 m 37 ls []) := by
    intro mo hmx k
    induction k with
    | zero =>
      intro i cy P2 ls H locs hk hcy hfr hge hok inv hl I
      obtain rfl : i = mo := by omega
      refine lv_iload hx hb d_SpectrumDeskModel_bigMore_37 (lv_at hl 0 rfl) ?_
      refine lv_iload_n hx hb d_SpectrumDeskModel_bigMore_39 rfl (lv_at hl 2 rfl) ?_
      refine lv_icmp_ge hx hb d_SpectrumDeskModel_bigMore_40 rfl (fun hc => ?_) (fun hc => ?_)
      · refine lv_aload_n hx hb d_SpectrumDeskModel_bigMore_94 rfl (lv_at hl 3 rfl) ?_
        refine xr_get X I fin_M 183 (by decide) (r183 ..) rfl 1 (by decide) (List.mem_cons_of_mem _ k_4ae214c350) rfl (mF_lengths hF) d_SpectrumDeskModel_bigMore_95 ?_
        refine lv_iload_n hx hb d_SpectrumDeskModel_bigMore_98 rfl (lv_at hl 4 rfl) ?_
        refine lv_iload_n hx hb d_SpectrumDeskModel_bigMore_99 rfl (lv_at hl 2 rfl) ?_
        refine xr_iast X I 185 0 (by decide) (r185 ..) rfl (by omega) (by decide) d_SpectrumDeskModel_bigMore_100 (fun H locs I => ?_)
        rw [rw3_L] at I
        refine lv_iload hx hb d_SpectrumDeskModel_bigMore_101 (lv_at hl 1 rfl) ?_
        rw [dv_all (show a ≤ i by omega), dv_all (show b ≤ i by omega)] at inv
        refine lv_if_le hx hb d_SpectrumDeskModel_bigMore_103 rfl (fun hd => ?_) (fun hd => ?_)
        · have hc0 : cy = 0 := (Nat.eq_zero_or_pos cy).elim id (fun h => absurd hd (nI_nle h (by omega)))
          rw [hc0] at inv; simp at inv
          exact xr_vret X I hr hlk ⟨P2, i, rfl, by omega, hfr, hok, fun h => more_top hok h inv hwo huo hwt hut hmx, inv⟩ d_SpectrumDeskModel_bigMore_129
        · have hc1 : cy = 1 := (Nat.eq_zero_or_pos cy).elim (fun h => absurd (by rw [h]; decide) hd) (fun h => by omega)
          refine lv_aload_n hx hb d_SpectrumDeskModel_bigMore_106 rfl (lv_at hl 3 rfl) ?_
          refine xr_get X I fin_M 183 (by decide) (r183 ..) rfl 0 (by decide) (List.mem_cons_of_mem _ k_eae5455160) rfl (mF_parts hF) d_SpectrumDeskModel_bigMore_107 ?_
          refine lv_sipush (v := nI 300) hx hb d_SpectrumDeskModel_bigMore_110 (by decide) ?_
          refine lv_iload_n hx hb d_SpectrumDeskModel_bigMore_113 rfl (lv_at hl 4 rfl) ?_
          refine lv_imul hx hb d_SpectrumDeskModel_bigMore_114 (xr_topi (y := nI (300 * w)) (pk_mul 300 w) ?_)
          refine lv_iload_n hx hb d_SpectrumDeskModel_bigMore_115 rfl (lv_at hl 2 rfl) ?_
          refine lv_iadd hx hb d_SpectrumDeskModel_bigMore_116 (xr_topi (y := nI ((300 * w) + i)) (nI_add (300 * w) i) ?_)
          refine lv_iload hx hb d_SpectrumDeskModel_bigMore_117 (lv_at hl 1 rfl) ?_
          refine xr_iast X I 184 0 (by decide) (r184 ..) rfl (by omega) (by decide) d_SpectrumDeskModel_bigMore_119 (fun H locs I => ?_)
          rw [rw3_P] at I
          refine lv_aload_n hx hb d_SpectrumDeskModel_bigMore_120 rfl (lv_at hl 3 rfl) ?_
          refine xr_get X I fin_M 183 (by decide) (r183 ..) rfl 1 (by decide) (List.mem_cons_of_mem _ k_4ae214c350) rfl (mF_lengths hF) d_SpectrumDeskModel_bigMore_121 ?_
          refine lv_iload_n hx hb d_SpectrumDeskModel_bigMore_124 rfl (lv_at hl 4 rfl) ?_
          refine lv_iload_n hx hb d_SpectrumDeskModel_bigMore_125 rfl (lv_at hl 2 rfl) ?_
          refine lv_iconst (v := nI 1) hx hb d_SpectrumDeskModel_bigMore_126 (by decide) ?_
          refine lv_iadd hx hb d_SpectrumDeskModel_bigMore_127 (xr_topi (y := nI (i + 1)) (nI_add i 1) ?_)
          refine xr_iast X I 185 0 (by decide) (r185 ..) rfl (by omega) (by decide) d_SpectrumDeskModel_bigMore_128 (fun H locs I => ?_)
          rw [rw3_L] at I
          rw [upd_upd] at I
          obtain ⟨o1, o2⟩ := rg_push (P := P2) (v := nI cy) hok (by rw [nI_toInt (by omega)]; omega)
          refine xr_vret X I hr hlk ⟨_, i + 1, rfl, by omega, fun j hj => (upd_n (by omega)).trans (hfr j hj), o1, fun _ => ?_, by rw [o2, nI_toInt (by omega)]; omega⟩ d_SpectrumDeskModel_bigMore_129
          rw [Nat.add_sub_cancel, upd_s, hc1]; decide
      · exact absurd (nI_le (Nat.le_refl _) (by omega)) hc
    | succ k ih =>
      intro i cy P2 ls H locs hk hcy hfr hge hok inv hl I
      refine lv_iload hx hb d_SpectrumDeskModel_bigMore_37 (lv_at hl 0 rfl) ?_
      refine lv_iload_n hx hb d_SpectrumDeskModel_bigMore_39 rfl (lv_at hl 2 rfl) ?_
      refine lv_icmp_ge hx hb d_SpectrumDeskModel_bigMore_40 rfl (fun hc => ?_) (fun hc => ?_)
      · exact absurd hc (nI_ge (by omega) (by omega))
      · have hP2 : ∀ j, i ≤ j → P2 (300 * w + j) = P (300 * w + j) := hge
        refine lv_aload_n hx hb d_SpectrumDeskModel_bigMore_43 rfl (lv_at hl 3 rfl) ?_
        refine lv_iload_n hx hb d_SpectrumDeskModel_bigMore_44 rfl (lv_at hl 4 rfl) ?_
        refine lv_iload hx hb d_SpectrumDeskModel_bigMore_45 (lv_at hl 0 rfl) ?_
        refine xr_calli (xr_runV (kc := 0) (kr := 1) (n := 2) (As := [.int (nI w), .int (nI i)]) (rest := []) X I (by decide) (r183 ..) rfl (c_SpectrumDeskModel_bigAt (P := P2) (L := L) (M := M) (n := a) (i := i) hF hw (by omega) (by omega) hLw) (xg k_9795bdc343) (List.mem_cons_of_mem _ k_42414df306) (List.mem_cons_of_mem _ k_a35af8c930) (List.mem_cons_of_mem _ k_9a4475df0e) (List.mem_cons_of_mem _ k_30fa15c9ac) (by decide +kernel) (by decide) rfl hl.1 rfl (Nat.le_of_ble_eq_true rfl) d_SpectrumDeskModel_bigMore_47) I (fun r1 σ1 H locs hp I => ?_)
        obtain ⟨hp1, rfl⟩ := hp
        rw [hP2 i (Nat.le_refl _)] at hp1
        obtain ⟨x, x1, rfl, x3⟩ := dg_nat hwo hp1
        refine lv_aload_n hx hb d_SpectrumDeskModel_bigMore_50 rfl (lv_at hl 3 rfl) ?_
        refine lv_iload_n hx hb d_SpectrumDeskModel_bigMore_51 rfl (lv_at hl 5 rfl) ?_
        refine lv_iload hx hb d_SpectrumDeskModel_bigMore_52 (lv_at hl 0 rfl) ?_
        refine xr_calli (xr_runV (kc := 0) (kr := 1) (n := 2) (As := [.int (nI u), .int (nI i)]) (rest := [.int (nI x)]) X I (by decide) (r183 ..) rfl (c_SpectrumDeskModel_bigAt (P := P2) (L := L) (M := M) (n := b) (i := i) hF hu (by omega) (by omega) hLu) (xg k_9795bdc343) (List.mem_cons_of_mem _ k_42414df306) (List.mem_cons_of_mem _ k_a35af8c930) (List.mem_cons_of_mem _ k_9a4475df0e) (List.mem_cons_of_mem _ k_30fa15c9ac) (by decide +kernel) (by decide) rfl hl.1 rfl (Nat.le_of_ble_eq_true rfl) d_SpectrumDeskModel_bigMore_54) I (fun r1 σ1 H locs hp I => ?_)
        obtain ⟨hp1, rfl⟩ := hp
        rw [hfr (300 * u + i) (by omega)] at hp1
        obtain ⟨y, y1, rfl, y3⟩ := dg_nat huo hp1
        refine lv_iadd hx hb d_SpectrumDeskModel_bigMore_57 (xr_topi (y := nI (x + y)) (nI_add x y) ?_)
        refine lv_iload hx hb d_SpectrumDeskModel_bigMore_58 (lv_at hl 1 rfl) ?_
        refine lv_iadd hx hb d_SpectrumDeskModel_bigMore_60 (xr_topi (y := nI ((x + y) + cy)) (nI_add (x + y) cy) ?_)
        refine lv_istore (lv' := [(6, .int (nI ((x + y) + cy))), (5, .int (nI i)), (4, .int (nI cy)), (3, .int (nI mo)), (0, .ref (ad 183)), (1, .int (nI w)), (2, .int (nI u))]) hx hb d_SpectrumDeskModel_bigMore_61 hl (by decide) rfl (fun ls hl => ?_)
        refine lv_aload_n hx hb d_SpectrumDeskModel_bigMore_63 rfl (lv_at hl 4 rfl) ?_
        refine xr_get X I fin_M 183 (by decide) (r183 ..) rfl 0 (by decide) (List.mem_cons_of_mem _ k_eae5455160) rfl (mF_parts hF) d_SpectrumDeskModel_bigMore_64 ?_
        refine lv_sipush (v := nI 300) hx hb d_SpectrumDeskModel_bigMore_67 (by decide) ?_
        refine lv_iload_n hx hb d_SpectrumDeskModel_bigMore_70 rfl (lv_at hl 5 rfl) ?_
        refine lv_imul hx hb d_SpectrumDeskModel_bigMore_71 (xr_topi (y := nI (300 * w)) (pk_mul 300 w) ?_)
        refine lv_iload hx hb d_SpectrumDeskModel_bigMore_72 (lv_at hl 1 rfl) ?_
        refine lv_iadd hx hb d_SpectrumDeskModel_bigMore_74 (xr_topi (y := nI ((300 * w) + i)) (nI_add (300 * w) i) ?_)
        refine lv_iload hx hb d_SpectrumDeskModel_bigMore_75 (lv_at hl 0 rfl) ?_
        refine lv_ldc (v := nI 16777216) hx hb X.1.2.2.2.1 (X.1.2.2.2.2 _ (List.mem_cons_of_mem _ k_0f8e24087a)) d_SpectrumDeskModel_bigMore_77 ?_
        refine lv_irem hx hb d_SpectrumDeskModel_bigMore_79 (by decide) ?_
        refine xr_topi (y := nI ((x + y + cy) % 16777216)) (pk_rem (by omega) (by decide) (by decide)) ?_
        refine xr_iast X I 184 0 (by decide) (r184 ..) rfl (by omega) (by decide) d_SpectrumDeskModel_bigMore_80 (fun H locs I => ?_)
        rw [rw3_P] at I
        refine lv_iload hx hb d_SpectrumDeskModel_bigMore_81 (lv_at hl 0 rfl) ?_
        refine lv_ldc (v := nI 16777216) hx hb X.1.2.2.2.1 (X.1.2.2.2.2 _ (List.mem_cons_of_mem _ k_0f8e24087a)) d_SpectrumDeskModel_bigMore_83 ?_
        refine lv_idiv hx hb d_SpectrumDeskModel_bigMore_85 (by decide) ?_
        refine xr_topi (y := nI ((x + y + cy) / 16777216)) (pk_div (by omega) (by decide) (by decide)) ?_
        refine lv_istore (lv' := [(4, .int (nI ((x + y + cy) / 16777216))), (6, .int (nI ((x + y) + cy))), (5, .int (nI i)), (3, .int (nI mo)), (0, .ref (ad 183)), (1, .int (nI w)), (2, .int (nI u))]) hx hb d_SpectrumDeskModel_bigMore_86 hl (by decide) rfl (fun ls hl => ?_)
        refine lv_iinc (k := 2) (v := nI (i + 1)) (lv' := [(5, .int (nI (i + 1))), (4, .int (nI ((x + y + cy) / 16777216))), (6, .int (nI ((x + y) + cy))), (3, .int (nI mo)), (0, .ref (ad 183)), (1, .int (nI w)), (2, .int (nI u))]) hx hb d_SpectrumDeskModel_bigMore_88 hl rfl (nI_1 i) (by decide) rfl (fun ls hl => ?_)
        refine lv_goto hx hb d_SpectrumDeskModel_bigMore_91 rfl ?_
        have hl := lv_sub hl [0, 1, 3, 4, 5, 6] rfl
        have hl : lv_has ls 7 [(5, .int (nI (i + 1))), (4, .int (nI ((x + y + cy) / 16777216))), (3, .int (nI mo)), (0, .ref (ad 183)), (1, .int (nI w)), (2, .int (nI u))] := hl
        obtain ⟨s1, s2⟩ := more_step (c := cy) (c' := (x + y + cy) / 16777216) (v := (x + y + cy) % 16777216) hok (by omega) inv (by rw [x3, y3]; omega)
        exact ih (i + 1) _ _ ls H locs (by omega) (by omega) (fun j hj => (upd_n (by omega)).trans (hfr j hj)) (fun j hj => (upd_n (by omega)).trans (hge j (by omega))) s1 s2 hl I
  refine lv_aload_n hx hb d_SpectrumDeskModel_bigMore_0 rfl (lv_at hl 0 rfl) ?_
  refine xr_get X I fin_M 183 (by decide) (r183 ..) rfl 1 (by decide) (List.mem_cons_of_mem _ k_4ae214c350) rfl (mF_lengths hF) d_SpectrumDeskModel_bigMore_1 ?_
  refine lv_iload_n hx hb d_SpectrumDeskModel_bigMore_4 rfl (lv_at hl 1 rfl) ?_
  refine xr_iald X I 185 0 (by decide) (r185 ..) rfl (by omega) (by decide) d_SpectrumDeskModel_bigMore_5 ?_
  refine xr_topi (y := nI a) hLw ?_
  refine lv_aload_n hx hb d_SpectrumDeskModel_bigMore_6 rfl (lv_at hl 0 rfl) ?_
  refine xr_get X I fin_M 183 (by decide) (r183 ..) rfl 1 (by decide) (List.mem_cons_of_mem _ k_4ae214c350) rfl (mF_lengths hF) d_SpectrumDeskModel_bigMore_7 ?_
  refine lv_iload_n hx hb d_SpectrumDeskModel_bigMore_10 rfl (lv_at hl 2 rfl) ?_
  refine xr_iald X I 185 0 (by decide) (r185 ..) rfl (by omega) (by decide) d_SpectrumDeskModel_bigMore_11 ?_
  refine xr_topi (y := nI b) hLu ?_
  refine lv_icmp_le hx hb d_SpectrumDeskModel_bigMore_12 rfl (fun hc => ?_) (fun hc => ?_)
  · have hle : a ≤ b := (nI_leI (by omega) (by omega)).mp hc
    refine lv_aload_n hx hb d_SpectrumDeskModel_bigMore_24 rfl (lv_at hl 0 rfl) ?_
    refine xr_get X I fin_M 183 (by decide) (r183 ..) rfl 1 (by decide) (List.mem_cons_of_mem _ k_4ae214c350) rfl (mF_lengths hF) d_SpectrumDeskModel_bigMore_25 ?_
    refine lv_iload_n hx hb d_SpectrumDeskModel_bigMore_28 rfl (lv_at hl 2 rfl) ?_
    refine xr_iald X I 185 0 (by decide) (r185 ..) rfl (by omega) (by decide) d_SpectrumDeskModel_bigMore_29 ?_
    refine xr_topi (y := nI b) hLu ?_
    refine lv_istore_n (lv' := [(3, .int (nI b)), (0, .ref (ad 183)), (1, .int (nI w)), (2, .int (nI u))]) hx hb d_SpectrumDeskModel_bigMore_30 rfl hl (by decide) rfl (fun ls hl => ?_)
    refine lv_iconst (v := nI 0) hx hb d_SpectrumDeskModel_bigMore_31 (by decide) ?_
    refine lv_istore (lv' := [(4, .int (nI 0)), (3, .int (nI b)), (0, .ref (ad 183)), (1, .int (nI w)), (2, .int (nI u))]) hx hb d_SpectrumDeskModel_bigMore_32 hl (by decide) rfl (fun ls hl => ?_)
    refine lv_iconst (v := nI 0) hx hb d_SpectrumDeskModel_bigMore_34 (by decide) ?_
    refine lv_istore (lv' := [(5, .int (nI 0)), (4, .int (nI 0)), (3, .int (nI b)), (0, .ref (ad 183)), (1, .int (nI w)), (2, .int (nI u))]) hx hb d_SpectrumDeskModel_bigMore_35 hl (by decide) rfl (fun ls hl => ?_)
    exact loop b (Or.inr ⟨rfl, hle⟩) b 0 0 P ls _ _ (by omega) (by decide) (fun _ _ => rfl) (fun _ _ => rfl) (fun j hj => absurd hj (Nat.not_lt_zero _)) (by simp [rg, dv]) hl I
  · have hle : b ≤ a := (Nat.le_total b a).elim id (fun h => absurd (nI_le h (by omega)) hc)
    refine lv_aload_n hx hb d_SpectrumDeskModel_bigMore_15 rfl (lv_at hl 0 rfl) ?_
    refine xr_get X I fin_M 183 (by decide) (r183 ..) rfl 1 (by decide) (List.mem_cons_of_mem _ k_4ae214c350) rfl (mF_lengths hF) d_SpectrumDeskModel_bigMore_16 ?_
    refine lv_iload_n hx hb d_SpectrumDeskModel_bigMore_19 rfl (lv_at hl 1 rfl) ?_
    refine xr_iald X I 185 0 (by decide) (r185 ..) rfl (by omega) (by decide) d_SpectrumDeskModel_bigMore_20 ?_
    refine xr_topi (y := nI a) hLw ?_
    refine lv_goto hx hb d_SpectrumDeskModel_bigMore_21 rfl ?_
    refine lv_istore_n (lv' := [(3, .int (nI a)), (0, .ref (ad 183)), (1, .int (nI w)), (2, .int (nI u))]) hx hb d_SpectrumDeskModel_bigMore_30 rfl hl (by decide) rfl (fun ls hl => ?_)
    refine lv_iconst (v := nI 0) hx hb d_SpectrumDeskModel_bigMore_31 (by decide) ?_
    refine lv_istore (lv' := [(4, .int (nI 0)), (3, .int (nI a)), (0, .ref (ad 183)), (1, .int (nI w)), (2, .int (nI u))]) hx hb d_SpectrumDeskModel_bigMore_32 hl (by decide) rfl (fun ls hl => ?_)
    refine lv_iconst (v := nI 0) hx hb d_SpectrumDeskModel_bigMore_34 (by decide) ?_
    refine lv_istore (lv' := [(5, .int (nI 0)), (4, .int (nI 0)), (3, .int (nI a)), (0, .ref (ad 183)), (1, .int (nI w)), (2, .int (nI u))]) hx hb d_SpectrumDeskModel_bigMore_35 hl (by decide) rfl (fun ls hl => ?_)
    exact loop a (Or.inl ⟨rfl, hle⟩) a 0 0 P ls _ _ (by omega) (by decide) (fun _ _ => rfl) (fun _ _ => rfl) (fun j hj => absurd hj (Nat.not_lt_zero _)) (by simp [rg, dv]) hl I
set_option maxHeartbeats 4000000 in
set_option maxRecDepth 100000 in
theorem c_SpectrumDeskModel_bigSizes {l : Launch} {D : va_G} {cI cJ cZ cC cG cP : ClassId} {ad : Nat → Nat} {σ0 : Nat → va_E} {fs : List Value} {P L M : Nat → Int32} {w u a b : Nat} (hF : mF ad fs) (hw : w < 112) (hu : u < 112) (hne : u ≠ w) (ha : a < 300) (hb9 : b < 300) (hLw : L w = nI a) (hLu : L u = nI b) (hwo : rg_ok P (300 * w) a) (huo : rg_ok P (300 * u) b) (hwt : 0 < a → P (300 * w + (a - 1)) ≠ 0) (hut : 0 < b → P (300 * u + (b - 1)) ≠ 0) :
    Met l y_SpectrumDeskModel_bigSizes v_SpectrumDeskModel_bigSizes (xrm 1) (va_Pc [.ref (ad 183), .int (nI w), .int (nI u)] (xS D classes (xT cI cJ cZ cC cG cP) 193 ad (rw3 σ0 ciM cI cZ fs P L M))) (va_Qi (fun r σ2 => r = sg (rg P (300 * w) a - rg P (300 * u) b) ∧ σ2 = rw3 σ0 ciM cI cZ fs P L M) (xS D classes (xT cI cJ cZ cC cG cP) 193 ad) (xA 193 ad)) 0 0 (xA 193 ad) := by
  refine xr_met rfl (Nat.le_of_ble_eq_true rfl) ?_
  intro p e s m args below meth c ls hx hb X hr hlk hl I
  have hl : lv_has ls 4 [(0, .ref (ad 183)), (1, .int (nI w)), (2, .int (nI u))] := hl
  refine lv_aload_n hx hb d_SpectrumDeskModel_bigSizes_0 rfl (lv_at hl 0 rfl) ?_
  refine xr_get X I fin_M 183 (by decide) (r183 ..) rfl 1 (by decide) (List.mem_cons_of_mem _ k_4ae214c350) rfl (mF_lengths hF) d_SpectrumDeskModel_bigSizes_1 ?_
  refine lv_iload_n hx hb d_SpectrumDeskModel_bigSizes_4 rfl (lv_at hl 1 rfl) ?_
  refine xr_iald X I 185 0 (by decide) (r185 ..) rfl (by omega) (by decide) d_SpectrumDeskModel_bigSizes_5 ?_
  refine xr_topi (y := nI a) hLw ?_
  refine lv_aload_n hx hb d_SpectrumDeskModel_bigSizes_6 rfl (lv_at hl 0 rfl) ?_
  refine xr_get X I fin_M 183 (by decide) (r183 ..) rfl 1 (by decide) (List.mem_cons_of_mem _ k_4ae214c350) rfl (mF_lengths hF) d_SpectrumDeskModel_bigSizes_7 ?_
  refine lv_iload_n hx hb d_SpectrumDeskModel_bigSizes_10 rfl (lv_at hl 2 rfl) ?_
  refine xr_iald X I 185 0 (by decide) (r185 ..) rfl (by omega) (by decide) d_SpectrumDeskModel_bigSizes_11 ?_
  refine xr_topi (y := nI b) hLu ?_
  refine lv_icmp_eq hx hb d_SpectrumDeskModel_bigSizes_12 rfl (fun hc => ?_) (fun hc => ?_)
  · have hab : b = a := ((nI_eq (by omega) (by omega)).mp hc).symm
    rw [hab] at hLu huo
    refine lv_aload_n hx hb d_SpectrumDeskModel_bigSizes_36 rfl (lv_at hl 0 rfl) ?_
    refine xr_get X I fin_M 183 (by decide) (r183 ..) rfl 1 (by decide) (List.mem_cons_of_mem _ k_4ae214c350) rfl (mF_lengths hF) d_SpectrumDeskModel_bigSizes_37 ?_
    refine lv_iload_n hx hb d_SpectrumDeskModel_bigSizes_40 rfl (lv_at hl 1 rfl) ?_
    refine xr_iald X I 185 0 (by decide) (r185 ..) rfl (by omega) (by decide) d_SpectrumDeskModel_bigSizes_41 ?_
    refine xr_topi (y := nI a) hLw ?_
    refine lv_iconst (v := nI 1) hx hb d_SpectrumDeskModel_bigSizes_42 (by decide) ?_
    refine lv_isub hx hb d_SpectrumDeskModel_bigSizes_43 ?_
    refine xr_topi (y := nP a) rfl ?_
    refine lv_istore_n (lv' := [(3, .int (nP a)), (0, .ref (ad 183)), (1, .int (nI w)), (2, .int (nI u))]) hx hb d_SpectrumDeskModel_bigSizes_44 rfl hl (by decide) rfl (fun ls hl => ?_)
    have loop : ∀ (k : Nat)  (ls : Array Slot) (H : Heap) (locs : List Loc), k ≤ a → (∀ j, k ≤ j → j < a → P (300 * w + j) = P (300 * u + j)) → lv_has ls 4 [(3, .int (nP k)), (0, .ref (ad 183)), (1, .int (nI w)), (2, .int (nI u))] → xI D classes 193 ad s.heap (rw3 σ0 ciM cI cZ fs P L M) H locs → W p l e (xrm 1) s m args below meth c H locs 0 0 (MQ below (va_Qi (fun r σ2 => r = sg (rg P (300 * w) a - rg P (300 * u) b) ∧ σ2 = rw3 σ0 ciM cI cZ fs P L M) (xS D classes (xT cI cJ cZ cC cG cP) 193 ad) (xA 193 ad)) args s 0 0 (xA 193 ad)) (F0 m 45 ls []) := by
      intro k
      induction k with
      | zero =>
        intro ls H locs hk hz hl I
        refine lv_iload_n hx hb d_SpectrumDeskModel_bigSizes_45 rfl (lv_at hl 0 rfl) ?_
        refine lv_if_lt hx hb d_SpectrumDeskModel_bigSizes_46 rfl (fun hc => ?_) (fun hc => ?_)
        · refine lv_iload_n hx hb d_SpectrumDeskModel_bigSizes_70 rfl (lv_at hl 0 rfl) ?_
          refine lv_if_ge hx hb d_SpectrumDeskModel_bigSizes_71 rfl (fun hd => ?_) (fun hd => ?_)
          · exact absurd hd (by decide)
          · refine lv_iconst (v := nI 0) hx hb d_SpectrumDeskModel_bigSizes_74 (by decide) ?_
            refine lv_goto hx hb d_SpectrumDeskModel_bigSizes_75 rfl ?_
            exact xr_iret X I hr hlk ⟨by rw [hab, rg_congr (P' := P) (o' := 300 * u) (fun j hj => hz j (by omega) hj), Int.sub_self]; rfl, rfl⟩ d_SpectrumDeskModel_bigSizes_98
        · exact absurd nP_0 hc
      | succ k ih =>
        intro ls H locs hk hz hl I
        refine lv_iload_n hx hb d_SpectrumDeskModel_bigSizes_45 rfl (lv_at hl 0 rfl) ?_
        refine xr_topi (y := nI k) (nP_succ k) ?_
        refine lv_if_lt hx hb d_SpectrumDeskModel_bigSizes_46 rfl (fun hc => ?_) (fun hc => ?_)
        · exact absurd hc (nI_pos (by omega))
        · refine lv_aload_n hx hb d_SpectrumDeskModel_bigSizes_49 rfl (lv_at hl 1 rfl) ?_
          refine lv_iload_n hx hb d_SpectrumDeskModel_bigSizes_50 rfl (lv_at hl 2 rfl) ?_
          refine lv_iload_n hx hb d_SpectrumDeskModel_bigSizes_51 rfl (lv_at hl 0 rfl) ?_
          refine xr_topi (y := nI k) (nP_succ k) ?_
          refine xr_calli (xr_runV (kc := 0) (kr := 1) (n := 2) (As := [.int (nI w), .int (nI k)]) (rest := []) X I (by decide) (r183 ..) rfl (c_SpectrumDeskModel_bigAt (P := P) (L := L) (M := M) (n := a) (i := k) hF hw (by omega) (by omega) hLw) (xg k_9795bdc343) (List.mem_cons_of_mem _ k_42414df306) (List.mem_cons_of_mem _ k_a35af8c930) (List.mem_cons_of_mem _ k_9a4475df0e) (List.mem_cons_of_mem _ k_30fa15c9ac) (by decide +kernel) (by decide) rfl hl.1 rfl (Nat.le_of_ble_eq_true rfl) d_SpectrumDeskModel_bigSizes_52) I (fun r1 σ1 H locs hp I => ?_)
          obtain ⟨hp1, rfl⟩ := hp
          obtain ⟨x, x1, rfl, x3⟩ := dg_nat hwo hp1
          refine lv_aload_n hx hb d_SpectrumDeskModel_bigSizes_55 rfl (lv_at hl 1 rfl) ?_
          refine lv_iload_n hx hb d_SpectrumDeskModel_bigSizes_56 rfl (lv_at hl 3 rfl) ?_
          refine lv_iload_n hx hb d_SpectrumDeskModel_bigSizes_57 rfl (lv_at hl 0 rfl) ?_
          refine xr_topi (y := nI k) (nP_succ k) ?_
          refine xr_calli (xr_runV (kc := 0) (kr := 1) (n := 2) (As := [.int (nI u), .int (nI k)]) (rest := [.int (nI x)]) X I (by decide) (r183 ..) rfl (c_SpectrumDeskModel_bigAt (P := P) (L := L) (M := M) (n := a) (i := k) hF hu (by omega) (by omega) hLu) (xg k_9795bdc343) (List.mem_cons_of_mem _ k_42414df306) (List.mem_cons_of_mem _ k_a35af8c930) (List.mem_cons_of_mem _ k_9a4475df0e) (List.mem_cons_of_mem _ k_30fa15c9ac) (by decide +kernel) (by decide) rfl hl.1 rfl (Nat.le_of_ble_eq_true rfl) d_SpectrumDeskModel_bigSizes_58) I (fun r1 σ1 H locs hp I => ?_)
          obtain ⟨hp1, rfl⟩ := hp
          obtain ⟨y, y1, rfl, y3⟩ := dg_nat huo hp1
          rw [dg, if_pos (show k < a by omega)] at x3 y3
          refine lv_icmp_ne hx hb d_SpectrumDeskModel_bigSizes_61 rfl (fun hd => ?_) (fun hd => ?_)
          · refine lv_iload_n hx hb d_SpectrumDeskModel_bigSizes_70 rfl (lv_at hl 0 rfl) ?_
            refine xr_topi (y := nI k) (nP_succ k) ?_
            refine lv_if_ge hx hb d_SpectrumDeskModel_bigSizes_71 rfl (fun hf => ?_) (fun hf => ?_)
            · refine lv_aload_n hx hb d_SpectrumDeskModel_bigSizes_78 rfl (lv_at hl 1 rfl) ?_
              refine lv_iload_n hx hb d_SpectrumDeskModel_bigSizes_79 rfl (lv_at hl 2 rfl) ?_
              refine lv_iload_n hx hb d_SpectrumDeskModel_bigSizes_80 rfl (lv_at hl 0 rfl) ?_
              refine xr_topi (y := nI k) (nP_succ k) ?_
              refine xr_calli (xr_runV (kc := 0) (kr := 1) (n := 2) (As := [.int (nI w), .int (nI k)]) (rest := []) X I (by decide) (r183 ..) rfl (c_SpectrumDeskModel_bigAt (P := P) (L := L) (M := M) (n := a) (i := k) hF hw (by omega) (by omega) hLw) (xg k_9795bdc343) (List.mem_cons_of_mem _ k_42414df306) (List.mem_cons_of_mem _ k_a35af8c930) (List.mem_cons_of_mem _ k_9a4475df0e) (List.mem_cons_of_mem _ k_30fa15c9ac) (by decide +kernel) (by decide) rfl hl.1 rfl (Nat.le_of_ble_eq_true rfl) d_SpectrumDeskModel_bigSizes_81) I (fun r1 σ1 H locs hp I => ?_)
              obtain ⟨hp1, rfl⟩ := hp
              obtain ⟨x2, x4, rfl, x5⟩ := dg_nat hwo hp1
              refine lv_aload_n hx hb d_SpectrumDeskModel_bigSizes_84 rfl (lv_at hl 1 rfl) ?_
              refine lv_iload_n hx hb d_SpectrumDeskModel_bigSizes_85 rfl (lv_at hl 3 rfl) ?_
              refine lv_iload_n hx hb d_SpectrumDeskModel_bigSizes_86 rfl (lv_at hl 0 rfl) ?_
              refine xr_topi (y := nI k) (nP_succ k) ?_
              refine xr_calli (xr_runV (kc := 0) (kr := 1) (n := 2) (As := [.int (nI u), .int (nI k)]) (rest := [.int (nI x2)]) X I (by decide) (r183 ..) rfl (c_SpectrumDeskModel_bigAt (P := P) (L := L) (M := M) (n := a) (i := k) hF hu (by omega) (by omega) hLu) (xg k_9795bdc343) (List.mem_cons_of_mem _ k_42414df306) (List.mem_cons_of_mem _ k_a35af8c930) (List.mem_cons_of_mem _ k_9a4475df0e) (List.mem_cons_of_mem _ k_30fa15c9ac) (by decide +kernel) (by decide) rfl hl.1 rfl (Nat.le_of_ble_eq_true rfl) d_SpectrumDeskModel_bigSizes_87) I (fun r1 σ1 H locs hp I => ?_)
              obtain ⟨hp1, rfl⟩ := hp
              obtain ⟨y2, y4, rfl, y5⟩ := dg_nat huo hp1
              rw [dg, if_pos (show k < a by omega)] at x5 y5
              have hxy : x ≠ y := fun h => hd (by rw [h])
              refine lv_icmp_ge hx hb d_SpectrumDeskModel_bigSizes_90 rfl (fun hg => ?_) (fun hg => ?_)
              · have h := (nI_leI (by omega) (by omega)).mp hg
                have hlt := rg_lt_at (show k < a by omega) huo hwo (fun j h1 h2 => (hz j (by omega) h2).symm) (by omega)
                refine lv_iconst (v := nI 1) hx hb d_SpectrumDeskModel_bigSizes_97 (by decide) ?_
                exact xr_iret X I hr hlk ⟨by rw [hab, sg, if_neg (by omega), if_neg (by omega)]; rfl, rfl⟩ d_SpectrumDeskModel_bigSizes_98
              · have h : ¬ y2 ≤ x2 := fun h => hg (nI_le h (by omega))
                have hlt := rg_lt_at (show k < a by omega) hwo huo (fun j h1 h2 => hz j (by omega) h2) (by omega)
                refine lv_iconst (v := (-1)) hx hb d_SpectrumDeskModel_bigSizes_93 (by decide) ?_
                refine lv_goto hx hb d_SpectrumDeskModel_bigSizes_94 rfl ?_
                exact xr_iret X I hr hlk ⟨by rw [hab, sg, if_pos (by omega)], rfl⟩ d_SpectrumDeskModel_bigSizes_98
            · exact absurd (nI_pos' (by omega)) hf
          · have hxy : x = y := (nI_eq (by omega) (by omega)).mp hd
            refine lv_iinc (k := 0) (v := nP k) (lv' := [(3, .int (nP k)), (0, .ref (ad 183)), (1, .int (nI w)), (2, .int (nI u))]) hx hb d_SpectrumDeskModel_bigSizes_64 hl rfl (nP_dec k) (by decide) rfl (fun ls hl => ?_)
            refine lv_goto hx hb d_SpectrumDeskModel_bigSizes_67 rfl ?_
            exact ih ls H locs (by omega) (fun j h1 h2 => if ej : j = k then (by rw [ej]; exact q_iinj (by omega)) else hz j (by omega) h2) hl I
    exact loop a ls _ _ (Nat.le_refl _) (fun j h1 h2 => by omega) hl I
  · have hab : a ≠ b := fun h => hc (by rw [h])
    refine lv_aload_n hx hb d_SpectrumDeskModel_bigSizes_15 rfl (lv_at hl 0 rfl) ?_
    refine xr_get X I fin_M 183 (by decide) (r183 ..) rfl 1 (by decide) (List.mem_cons_of_mem _ k_4ae214c350) rfl (mF_lengths hF) d_SpectrumDeskModel_bigSizes_16 ?_
    refine lv_iload_n hx hb d_SpectrumDeskModel_bigSizes_19 rfl (lv_at hl 1 rfl) ?_
    refine xr_iald X I 185 0 (by decide) (r185 ..) rfl (by omega) (by decide) d_SpectrumDeskModel_bigSizes_20 ?_
    refine xr_topi (y := nI a) hLw ?_
    refine lv_aload_n hx hb d_SpectrumDeskModel_bigSizes_21 rfl (lv_at hl 0 rfl) ?_
    refine xr_get X I fin_M 183 (by decide) (r183 ..) rfl 1 (by decide) (List.mem_cons_of_mem _ k_4ae214c350) rfl (mF_lengths hF) d_SpectrumDeskModel_bigSizes_22 ?_
    refine lv_iload_n hx hb d_SpectrumDeskModel_bigSizes_25 rfl (lv_at hl 2 rfl) ?_
    refine xr_iald X I 185 0 (by decide) (r185 ..) rfl (by omega) (by decide) d_SpectrumDeskModel_bigSizes_26 ?_
    refine xr_topi (y := nI b) hLu ?_
    refine lv_icmp_ge hx hb d_SpectrumDeskModel_bigSizes_27 rfl (fun hd => ?_) (fun hd => ?_)
    · have h := (nI_leI (by omega) (by omega)).mp hd
      have hlt := rg_lt_len huo hwo (show b < a by omega) hwt
      refine lv_iconst (v := nI 1) hx hb d_SpectrumDeskModel_bigSizes_34 (by decide) ?_
      exact xr_iret X I hr hlk ⟨by rw [sg, if_neg (by omega), if_neg (by omega)]; rfl, rfl⟩ d_SpectrumDeskModel_bigSizes_35
    · have h : ¬ b ≤ a := fun h => hd (nI_le h (by omega))
      have hlt := rg_lt_len hwo huo (show a < b by omega) hut
      refine lv_iconst (v := (-1)) hx hb d_SpectrumDeskModel_bigSizes_30 (by decide) ?_
      refine lv_goto hx hb d_SpectrumDeskModel_bigSizes_31 rfl ?_
      exact xr_iret X I hr hlk ⟨by rw [sg, if_pos (by omega)], rfl⟩ d_SpectrumDeskModel_bigSizes_35
set_option maxHeartbeats 4000000 in
set_option maxRecDepth 100000 in
theorem c_SpectrumDeskModel_bigDiffer0 {l : Launch} {D : va_G} {cI cJ cZ cC cG cP : ClassId} {ad : Nat → Nat} {σ0 : Nat → va_E} {fs : List Value} {P L M : Nat → Int32} {w u a b : Nat} (hF : mF ad fs) (hw : w < 112) (hu : u < 112) (hne : u ≠ w) (ha : a < 300) (hb9 : b < 300) (hLw : L w = nI a) (hLu : L u = nI b) (hwo : rg_ok P (300 * w) a) (huo : rg_ok P (300 * u) b) (hwt : 0 < a → P (300 * w + (a - 1)) ≠ 0) (hut : 0 < b → P (300 * u + (b - 1)) ≠ 0) (hge0 : 0 ≤ rg P (300 * w) a - rg P (300 * u) b) :
    Met l y_SpectrumDeskModel_bigDiffer v_SpectrumDeskModel_bigDiffer (xrm 1) (va_Pc [.ref (ad 183), .int (nI w), .int (nI u), .int (nI 0)] (xS D classes (xT cI cJ cZ cC cG cP) 193 ad (rw3 σ0 ciM cI cZ fs P L M))) (va_Qv (rm_up σ0 ciM cI cZ fs P L M w (rg P (300 * w) a - rg P (300 * u) b)) (xS D classes (xT cI cJ cZ cC cG cP) 193 ad) (xA 193 ad)) 0 0 (xA 193 ad) := by
  refine xr_met rfl (Nat.le_of_ble_eq_true rfl) ?_
  intro p e s m args below meth c ls hx hb X hr hlk hl I
  have hl : lv_has ls 8 [(0, .ref (ad 183)), (1, .int (nI w)), (2, .int (nI u)), (3, .int (nI 0))] := hl
  have loop : ∀ (mo : Nat) (hmx : (a = mo ∧ b ≤ mo) ∨ (b = mo ∧ a ≤ mo)) (k : Nat) (i bw : Nat) (P2 : Nat → Int32) (ls : Array Slot) (H : Heap) (locs : List Loc), i + k = mo → bw ≤ 1 → (∀ j, j < 300 * w ∨ 300 * w + 300 ≤ j → P2 j = P j) → (∀ j, i ≤ j → P2 (300 * w + j) = P (300 * w + j)) → rg_ok P2 (300 * w) i → rg P2 (300 * w) i = dv (dg P (300 * w) a) i - dv (dg P (300 * u) b) i + (bw : Int) * 16777216 ^ i → lv_has ls 8 [(6, .int (nI i)), (5, .int (nI bw)), (4, .int (nI mo)), (0, .ref (ad 183)), (1, .int (nI w)), (2, .int (nI u)), (3, .int (nI 0))] → xI D classes 193 ad s.heap (rw3 σ0 ciM cI cZ fs P2 L M) H locs → W p l e (xrm 1) s m args below meth c H locs 0 0 (MQ below (va_Qv (rm_up σ0 ciM cI cZ fs P L M w (rg P (300 * w) a - rg P (300 * u) b)) (xS D classes (xT cI cJ cZ cC cG cP) 193 ad) (xA 193 ad)) args s 0 0 (xA 193 ad)) (F0 m 38 ls []) := by
    intro mo hmx k
    induction k with
    | zero =>
      intro i bw P2 ls H locs hk hbw hfr hge hok inv hl I
      obtain rfl : i = mo := by omega
      refine lv_iload hx hb d_SpectrumDeskModel_bigDiffer_38 (lv_at hl 0 rfl) ?_
      refine lv_iload hx hb d_SpectrumDeskModel_bigDiffer_40 (lv_at hl 2 rfl) ?_
      refine lv_icmp_ge hx hb d_SpectrumDeskModel_bigDiffer_42 rfl (fun hc => ?_) (fun hc => ?_)
      · refine lv_aload_n hx hb d_SpectrumDeskModel_bigDiffer_133 rfl (lv_at hl 3 rfl) ?_
        refine xr_get X I fin_M 183 (by decide) (r183 ..) rfl 1 (by decide) (List.mem_cons_of_mem _ k_4ae214c350) rfl (mF_lengths hF) d_SpectrumDeskModel_bigDiffer_134 ?_
        refine lv_iload_n hx hb d_SpectrumDeskModel_bigDiffer_137 rfl (lv_at hl 4 rfl) ?_
        refine lv_iload hx hb d_SpectrumDeskModel_bigDiffer_138 (lv_at hl 2 rfl) ?_
        refine xr_iast X I 185 0 (by decide) (r185 ..) rfl (by omega) (by decide) d_SpectrumDeskModel_bigDiffer_140 (fun H locs I => ?_)
        rw [rw3_L] at I
        refine lv_aload_n hx hb d_SpectrumDeskModel_bigDiffer_141 rfl (lv_at hl 3 rfl) ?_
        refine lv_iload_n hx hb d_SpectrumDeskModel_bigDiffer_142 rfl (lv_at hl 4 rfl) ?_
        rw [dv_all (show _ ≤ i by omega), dv_all (show _ ≤ i by omega)] at inv
        have hb0 : bw = 0 := (Nat.eq_zero_or_pos bw).elim id (fun h => by
          have h1 := (rg_range hok).2
          have h2 : bw = 1 := by omega
          rw [h2] at inv
          have h3 : ((1 : Nat) : Int) * 16777216 ^ i = 16777216 ^ i := by simp
          rw [h3] at inv
          omega)
        rw [hb0] at inv; simp at inv
        refine xr_callv (xr_runV (kc := 0) (kr := 1) (n := 1) (As := [.int (nI w)]) (rest := []) X I (by decide) (r183 ..) rfl (c_SpectrumDeskModel_bigTrim (P := P2) (L := upd L w (nI i)) (M := M) (n := i) hF hw (by omega) upd_s) (xg k_10a67c202b) (List.mem_cons_of_mem _ k_fdf1e9da4b) (List.mem_cons_of_mem _ k_72a5102e81) (List.mem_cons_of_mem _ k_90f9c60262) (List.mem_cons_of_mem _ k_30fa15c9ac) (by decide +kernel) (by decide) rfl hl.1 rfl (Nat.le_of_ble_eq_true rfl) d_SpectrumDeskModel_bigDiffer_143) I (fun σ1 H locs hp I => ?_)
        obtain ⟨n2, t1, rfl, t2, t3⟩ := hp
        rw [upd_upd] at I
        exact xr_vret X I hr hlk ⟨P2, n2, rfl, by omega, hfr, rg_ok_le hok t1, t3, t2.trans (by omega)⟩ d_SpectrumDeskModel_bigDiffer_146
      · exact absurd (nI_le (Nat.le_refl _) (by omega)) hc
    | succ k ih =>
      intro i bw P2 ls H locs hk hbw hfr hge hok inv hl I
      refine lv_iload hx hb d_SpectrumDeskModel_bigDiffer_38 (lv_at hl 0 rfl) ?_
      refine lv_iload hx hb d_SpectrumDeskModel_bigDiffer_40 (lv_at hl 2 rfl) ?_
      refine lv_icmp_ge hx hb d_SpectrumDeskModel_bigDiffer_42 rfl (fun hc => ?_) (fun hc => ?_)
      · exact absurd hc (nI_ge (by omega) (by omega))
      · refine lv_iload_n hx hb d_SpectrumDeskModel_bigDiffer_45 rfl (lv_at hl 6 rfl) ?_
        refine lv_if_eq hx hb d_SpectrumDeskModel_bigDiffer_46 rfl (fun ht => ?_) (fun ht => ?_)
        · refine lv_aload_n hx hb d_SpectrumDeskModel_bigDiffer_67 rfl (lv_at hl 3 rfl) ?_
          refine lv_iload_n hx hb d_SpectrumDeskModel_bigDiffer_68 rfl (lv_at hl 4 rfl) ?_
          refine lv_iload hx hb d_SpectrumDeskModel_bigDiffer_69 (lv_at hl 0 rfl) ?_
          refine xr_calli (xr_runV (kc := 0) (kr := 1) (n := 2) (As := [.int (nI w), .int (nI i)]) (rest := []) X I (by decide) (r183 ..) rfl (c_SpectrumDeskModel_bigAt (P := P2) (L := L) (M := M) (n := a) (i := i) hF hw (by omega) (by omega) hLw) (xg k_9795bdc343) (List.mem_cons_of_mem _ k_42414df306) (List.mem_cons_of_mem _ k_a35af8c930) (List.mem_cons_of_mem _ k_9a4475df0e) (List.mem_cons_of_mem _ k_30fa15c9ac) (by decide +kernel) (by decide) rfl hl.1 rfl (Nat.le_of_ble_eq_true rfl) d_SpectrumDeskModel_bigDiffer_71) I (fun r1 σ1 H locs hp I => ?_)
          obtain ⟨hp1, rfl⟩ := hp
          rw [hge i (Nat.le_refl _)] at hp1
          obtain ⟨x, x1, rfl, x3⟩ := dg_nat hwo hp1
          refine lv_aload_n hx hb d_SpectrumDeskModel_bigDiffer_74 rfl (lv_at hl 3 rfl) ?_
          refine lv_iload_n hx hb d_SpectrumDeskModel_bigDiffer_75 rfl (lv_at hl 5 rfl) ?_
          refine lv_iload hx hb d_SpectrumDeskModel_bigDiffer_76 (lv_at hl 0 rfl) ?_
          refine xr_calli (xr_runV (kc := 0) (kr := 1) (n := 2) (As := [.int (nI u), .int (nI i)]) (rest := [.int (nI x)]) X I (by decide) (r183 ..) rfl (c_SpectrumDeskModel_bigAt (P := P2) (L := L) (M := M) (n := b) (i := i) hF hu (by omega) (by omega) hLu) (xg k_9795bdc343) (List.mem_cons_of_mem _ k_42414df306) (List.mem_cons_of_mem _ k_a35af8c930) (List.mem_cons_of_mem _ k_9a4475df0e) (List.mem_cons_of_mem _ k_30fa15c9ac) (by decide +kernel) (by decide) rfl hl.1 rfl (Nat.le_of_ble_eq_true rfl) d_SpectrumDeskModel_bigDiffer_78) I (fun r1 σ1 H locs hp I => ?_)
          obtain ⟨hp1, rfl⟩ := hp
          rw [hfr (300 * u + i) (by omega)] at hp1
          obtain ⟨y, y1, rfl, y3⟩ := dg_nat huo hp1
          refine lv_isub hx hb d_SpectrumDeskModel_bigDiffer_81 ?_
          refine lv_iload hx hb d_SpectrumDeskModel_bigDiffer_82 (lv_at hl 1 rfl) ?_
          refine lv_isub hx hb d_SpectrumDeskModel_bigDiffer_84 ?_
          refine lv_topi (fun v ev => ?_)
          have hv : v.toInt = (x : Int) - y - bw := by rw [ev, q_isub (by rw [q_isub (by rw [nI_toInt (by omega), nI_toInt (by omega)]; omega) (by rw [nI_toInt (by omega), nI_toInt (by omega)]; omega), nI_toInt (by omega), nI_toInt (by omega), nI_toInt (by omega)]; omega) (by rw [q_isub (by rw [nI_toInt (by omega), nI_toInt (by omega)]; omega) (by rw [nI_toInt (by omega), nI_toInt (by omega)]; omega), nI_toInt (by omega), nI_toInt (by omega), nI_toInt (by omega)]; omega), q_isub (by rw [nI_toInt (by omega), nI_toInt (by omega)]; omega) (by rw [nI_toInt (by omega), nI_toInt (by omega)]; omega), nI_toInt (by omega), nI_toInt (by omega), nI_toInt (by omega)]
          refine lv_istore (lv' := [(7, .int v), (6, .int (nI i)), (5, .int (nI bw)), (4, .int (nI mo)), (0, .ref (ad 183)), (1, .int (nI w)), (2, .int (nI u)), (3, .int (nI 0))]) hx hb d_SpectrumDeskModel_bigDiffer_85 hl (by decide) rfl (fun ls hl => ?_)
          refine lv_iload hx hb d_SpectrumDeskModel_bigDiffer_87 (lv_at hl 0 rfl) ?_
          refine lv_if_ge hx hb d_SpectrumDeskModel_bigDiffer_89 rfl (fun hd => ?_) (fun hd => ?_)
          · have h0 : 0 ≤ v.toInt := Int32.le_iff_toInt_le.mp hd
            refine lv_iconst (v := nI 0) hx hb d_SpectrumDeskModel_bigDiffer_96 (by decide) ?_
            refine lv_istore (lv' := [(5, .int (nI 0)), (7, .int v), (6, .int (nI i)), (4, .int (nI mo)), (0, .ref (ad 183)), (1, .int (nI w)), (2, .int (nI u)), (3, .int (nI 0))]) hx hb d_SpectrumDeskModel_bigDiffer_97 hl (by decide) rfl (fun ls hl => ?_)
            refine lv_aload_n hx hb d_SpectrumDeskModel_bigDiffer_99 rfl (lv_at hl 4 rfl) ?_
            refine xr_get X I fin_M 183 (by decide) (r183 ..) rfl 0 (by decide) (List.mem_cons_of_mem _ k_eae5455160) rfl (mF_parts hF) d_SpectrumDeskModel_bigDiffer_100 ?_
            refine lv_sipush (v := nI 300) hx hb d_SpectrumDeskModel_bigDiffer_103 (by decide) ?_
            refine lv_iload_n hx hb d_SpectrumDeskModel_bigDiffer_106 rfl (lv_at hl 5 rfl) ?_
            refine lv_imul hx hb d_SpectrumDeskModel_bigDiffer_107 (xr_topi (y := nI (300 * w)) (pk_mul 300 w) ?_)
            refine lv_iload hx hb d_SpectrumDeskModel_bigDiffer_108 (lv_at hl 2 rfl) ?_
            refine lv_iadd hx hb d_SpectrumDeskModel_bigDiffer_110 (xr_topi (y := nI ((300 * w) + i)) (nI_add (300 * w) i) ?_)
            refine lv_iload hx hb d_SpectrumDeskModel_bigDiffer_111 (lv_at hl 1 rfl) ?_
            refine lv_if_ge hx hb d_SpectrumDeskModel_bigDiffer_113 rfl (fun hg => ?_) (fun hg => ?_)
            · refine lv_iload hx hb d_SpectrumDeskModel_bigDiffer_124 (lv_at hl 1 rfl) ?_
              refine xr_topi (y := nI (x - y - bw)) (q_iinj (by rw [nI_toInt (by omega)]; omega)) ?_
              refine xr_iast X I 184 0 (by decide) (r184 ..) rfl (by omega) (by decide) d_SpectrumDeskModel_bigDiffer_126 (fun H locs I => ?_)
              rw [rw3_P] at I
              refine lv_iinc (k := 2) (v := nI (i + 1)) (lv' := [(6, .int (nI (i + 1))), (5, .int (nI 0)), (7, .int v), (4, .int (nI mo)), (0, .ref (ad 183)), (1, .int (nI w)), (2, .int (nI u)), (3, .int (nI 0))]) hx hb d_SpectrumDeskModel_bigDiffer_127 hl rfl (nI_1 i) (by decide) rfl (fun ls hl => ?_)
              refine lv_goto hx hb d_SpectrumDeskModel_bigDiffer_130 rfl ?_
              have hl := lv_sub hl [0, 1, 3, 4, 5, 6, 7] rfl
              have hl : lv_has ls 8 [(6, .int (nI (i + 1))), (5, .int (nI 0)), (4, .int (nI mo)), (0, .ref (ad 183)), (1, .int (nI w)), (2, .int (nI u)), (3, .int (nI 0))] := hl
              obtain ⟨s1, s2⟩ := less_step (b := bw) (b' := 0) (v := x - y - bw) hok (by omega) inv (by rw [x3, y3]; omega)
              exact ih (i + 1) 0 _ ls H locs (by omega) (by decide) (fun j hj => (upd_n (by omega)).trans (hfr j hj)) (fun j hj => (upd_n (by omega)).trans (hge j (by omega))) s1 s2 hl I
            · exact absurd hd hg
          · have h0 : v.toInt < 0 := (Int.lt_or_le v.toInt 0).elim id (fun h => absurd (Int32.le_iff_toInt_le.mpr (show (0 : Int32).toInt ≤ v.toInt from h)) hd)
            refine lv_iconst (v := nI 1) hx hb d_SpectrumDeskModel_bigDiffer_92 (by decide) ?_
            refine lv_goto hx hb d_SpectrumDeskModel_bigDiffer_93 rfl ?_
            refine lv_istore (lv' := [(5, .int (nI 1)), (7, .int v), (6, .int (nI i)), (4, .int (nI mo)), (0, .ref (ad 183)), (1, .int (nI w)), (2, .int (nI u)), (3, .int (nI 0))]) hx hb d_SpectrumDeskModel_bigDiffer_97 hl (by decide) rfl (fun ls hl => ?_)
            refine lv_aload_n hx hb d_SpectrumDeskModel_bigDiffer_99 rfl (lv_at hl 4 rfl) ?_
            refine xr_get X I fin_M 183 (by decide) (r183 ..) rfl 0 (by decide) (List.mem_cons_of_mem _ k_eae5455160) rfl (mF_parts hF) d_SpectrumDeskModel_bigDiffer_100 ?_
            refine lv_sipush (v := nI 300) hx hb d_SpectrumDeskModel_bigDiffer_103 (by decide) ?_
            refine lv_iload_n hx hb d_SpectrumDeskModel_bigDiffer_106 rfl (lv_at hl 5 rfl) ?_
            refine lv_imul hx hb d_SpectrumDeskModel_bigDiffer_107 (xr_topi (y := nI (300 * w)) (pk_mul 300 w) ?_)
            refine lv_iload hx hb d_SpectrumDeskModel_bigDiffer_108 (lv_at hl 2 rfl) ?_
            refine lv_iadd hx hb d_SpectrumDeskModel_bigDiffer_110 (xr_topi (y := nI ((300 * w) + i)) (nI_add (300 * w) i) ?_)
            refine lv_iload hx hb d_SpectrumDeskModel_bigDiffer_111 (lv_at hl 1 rfl) ?_
            refine lv_if_ge hx hb d_SpectrumDeskModel_bigDiffer_113 rfl (fun hg => ?_) (fun hg => ?_)
            · exact absurd hg hd
            · refine lv_iload hx hb d_SpectrumDeskModel_bigDiffer_116 (lv_at hl 1 rfl) ?_
              refine lv_ldc (v := nI 16777216) hx hb X.1.2.2.2.1 (X.1.2.2.2.2 _ (List.mem_cons_of_mem _ k_0f8e24087a)) d_SpectrumDeskModel_bigDiffer_118 ?_
              refine lv_iadd hx hb d_SpectrumDeskModel_bigDiffer_120 ?_
              refine xr_topi (y := nI (x + 16777216 - y - bw)) (q_iinj (by rw [q_iadd (by rw [nI_toInt (by decide)]; omega) (by rw [nI_toInt (by decide)]; omega), nI_toInt (by decide), nI_toInt (by omega)]; omega)) ?_
              refine lv_goto hx hb d_SpectrumDeskModel_bigDiffer_121 rfl ?_
              refine xr_iast X I 184 0 (by decide) (r184 ..) rfl (by omega) (by decide) d_SpectrumDeskModel_bigDiffer_126 (fun H locs I => ?_)
              rw [rw3_P] at I
              refine lv_iinc (k := 2) (v := nI (i + 1)) (lv' := [(6, .int (nI (i + 1))), (5, .int (nI 1)), (7, .int v), (4, .int (nI mo)), (0, .ref (ad 183)), (1, .int (nI w)), (2, .int (nI u)), (3, .int (nI 0))]) hx hb d_SpectrumDeskModel_bigDiffer_127 hl rfl (nI_1 i) (by decide) rfl (fun ls hl => ?_)
              refine lv_goto hx hb d_SpectrumDeskModel_bigDiffer_130 rfl ?_
              have hl := lv_sub hl [0, 1, 3, 4, 5, 6, 7] rfl
              have hl : lv_has ls 8 [(6, .int (nI (i + 1))), (5, .int (nI 1)), (4, .int (nI mo)), (0, .ref (ad 183)), (1, .int (nI w)), (2, .int (nI u)), (3, .int (nI 0))] := hl
              obtain ⟨s1, s2⟩ := less_step (b := bw) (b' := 1) (v := x + 16777216 - y - bw) hok (by omega) inv (by rw [x3, y3]; omega)
              exact ih (i + 1) 1 _ ls H locs (by omega) (by decide) (fun j hj => (upd_n (by omega)).trans (hfr j hj)) (fun j hj => (upd_n (by omega)).trans (hge j (by omega))) s1 s2 hl I
        · exact absurd rfl ht
  refine lv_aload_n hx hb d_SpectrumDeskModel_bigDiffer_0 rfl (lv_at hl 0 rfl) ?_
  refine xr_get X I fin_M 183 (by decide) (r183 ..) rfl 1 (by decide) (List.mem_cons_of_mem _ k_4ae214c350) rfl (mF_lengths hF) d_SpectrumDeskModel_bigDiffer_1 ?_
  refine lv_iload_n hx hb d_SpectrumDeskModel_bigDiffer_4 rfl (lv_at hl 1 rfl) ?_
  refine xr_iald X I 185 0 (by decide) (r185 ..) rfl (by omega) (by decide) d_SpectrumDeskModel_bigDiffer_5 ?_
  refine xr_topi (y := nI a) hLw ?_
  refine lv_aload_n hx hb d_SpectrumDeskModel_bigDiffer_6 rfl (lv_at hl 0 rfl) ?_
  refine xr_get X I fin_M 183 (by decide) (r183 ..) rfl 1 (by decide) (List.mem_cons_of_mem _ k_4ae214c350) rfl (mF_lengths hF) d_SpectrumDeskModel_bigDiffer_7 ?_
  refine lv_iload_n hx hb d_SpectrumDeskModel_bigDiffer_10 rfl (lv_at hl 2 rfl) ?_
  refine xr_iald X I 185 0 (by decide) (r185 ..) rfl (by omega) (by decide) d_SpectrumDeskModel_bigDiffer_11 ?_
  refine xr_topi (y := nI b) hLu ?_
  refine lv_icmp_le hx hb d_SpectrumDeskModel_bigDiffer_12 rfl (fun hc => ?_) (fun hc => ?_)
  · have hle : a ≤ b := (nI_leI (by omega) (by omega)).mp hc
    refine lv_aload_n hx hb d_SpectrumDeskModel_bigDiffer_24 rfl (lv_at hl 0 rfl) ?_
    refine xr_get X I fin_M 183 (by decide) (r183 ..) rfl 1 (by decide) (List.mem_cons_of_mem _ k_4ae214c350) rfl (mF_lengths hF) d_SpectrumDeskModel_bigDiffer_25 ?_
    refine lv_iload_n hx hb d_SpectrumDeskModel_bigDiffer_28 rfl (lv_at hl 2 rfl) ?_
    refine xr_iald X I 185 0 (by decide) (r185 ..) rfl (by omega) (by decide) d_SpectrumDeskModel_bigDiffer_29 ?_
    refine xr_topi (y := nI b) hLu ?_
    refine lv_istore (lv' := [(4, .int (nI b)), (0, .ref (ad 183)), (1, .int (nI w)), (2, .int (nI u)), (3, .int (nI 0))]) hx hb d_SpectrumDeskModel_bigDiffer_30 hl (by decide) rfl (fun ls hl => ?_)
    refine lv_iconst (v := nI 0) hx hb d_SpectrumDeskModel_bigDiffer_32 (by decide) ?_
    refine lv_istore (lv' := [(5, .int (nI 0)), (4, .int (nI b)), (0, .ref (ad 183)), (1, .int (nI w)), (2, .int (nI u)), (3, .int (nI 0))]) hx hb d_SpectrumDeskModel_bigDiffer_33 hl (by decide) rfl (fun ls hl => ?_)
    refine lv_iconst (v := nI 0) hx hb d_SpectrumDeskModel_bigDiffer_35 (by decide) ?_
    refine lv_istore (lv' := [(6, .int (nI 0)), (5, .int (nI 0)), (4, .int (nI b)), (0, .ref (ad 183)), (1, .int (nI w)), (2, .int (nI u)), (3, .int (nI 0))]) hx hb d_SpectrumDeskModel_bigDiffer_36 hl (by decide) rfl (fun ls hl => ?_)
    exact loop b (Or.inr ⟨rfl, hle⟩) b 0 0 P ls _ _ (by omega) (by decide) (fun _ _ => rfl) (fun _ _ => rfl) (fun j hj => absurd hj (Nat.not_lt_zero _)) (by simp [rg, dv]) hl I
  · have hle : b ≤ a := (Nat.le_total b a).elim id (fun h => absurd (nI_le h (by omega)) hc)
    refine lv_aload_n hx hb d_SpectrumDeskModel_bigDiffer_15 rfl (lv_at hl 0 rfl) ?_
    refine xr_get X I fin_M 183 (by decide) (r183 ..) rfl 1 (by decide) (List.mem_cons_of_mem _ k_4ae214c350) rfl (mF_lengths hF) d_SpectrumDeskModel_bigDiffer_16 ?_
    refine lv_iload_n hx hb d_SpectrumDeskModel_bigDiffer_19 rfl (lv_at hl 1 rfl) ?_
    refine xr_iald X I 185 0 (by decide) (r185 ..) rfl (by omega) (by decide) d_SpectrumDeskModel_bigDiffer_20 ?_
    refine xr_topi (y := nI a) hLw ?_
    refine lv_goto hx hb d_SpectrumDeskModel_bigDiffer_21 rfl ?_
    refine lv_istore (lv' := [(4, .int (nI a)), (0, .ref (ad 183)), (1, .int (nI w)), (2, .int (nI u)), (3, .int (nI 0))]) hx hb d_SpectrumDeskModel_bigDiffer_30 hl (by decide) rfl (fun ls hl => ?_)
    refine lv_iconst (v := nI 0) hx hb d_SpectrumDeskModel_bigDiffer_32 (by decide) ?_
    refine lv_istore (lv' := [(5, .int (nI 0)), (4, .int (nI a)), (0, .ref (ad 183)), (1, .int (nI w)), (2, .int (nI u)), (3, .int (nI 0))]) hx hb d_SpectrumDeskModel_bigDiffer_33 hl (by decide) rfl (fun ls hl => ?_)
    refine lv_iconst (v := nI 0) hx hb d_SpectrumDeskModel_bigDiffer_35 (by decide) ?_
    refine lv_istore (lv' := [(6, .int (nI 0)), (5, .int (nI 0)), (4, .int (nI a)), (0, .ref (ad 183)), (1, .int (nI w)), (2, .int (nI u)), (3, .int (nI 0))]) hx hb d_SpectrumDeskModel_bigDiffer_36 hl (by decide) rfl (fun ls hl => ?_)
    exact loop a (Or.inl ⟨rfl, hle⟩) a 0 0 P ls _ _ (by omega) (by decide) (fun _ _ => rfl) (fun _ _ => rfl) (fun j hj => absurd hj (Nat.not_lt_zero _)) (by simp [rg, dv]) hl I
set_option maxHeartbeats 4000000 in
set_option maxRecDepth 100000 in
theorem c_SpectrumDeskModel_bigDiffer1 {l : Launch} {D : va_G} {cI cJ cZ cC cG cP : ClassId} {ad : Nat → Nat} {σ0 : Nat → va_E} {fs : List Value} {P L M : Nat → Int32} {w u a b : Nat} (hF : mF ad fs) (hw : w < 112) (hu : u < 112) (hne : u ≠ w) (ha : a < 300) (hb9 : b < 300) (hLw : L w = nI a) (hLu : L u = nI b) (hwo : rg_ok P (300 * w) a) (huo : rg_ok P (300 * u) b) (hwt : 0 < a → P (300 * w + (a - 1)) ≠ 0) (hut : 0 < b → P (300 * u + (b - 1)) ≠ 0) (hge0 : 0 ≤ rg P (300 * u) b - rg P (300 * w) a) :
    Met l y_SpectrumDeskModel_bigDiffer v_SpectrumDeskModel_bigDiffer (xrm 1) (va_Pc [.ref (ad 183), .int (nI w), .int (nI u), .int (nI 1)] (xS D classes (xT cI cJ cZ cC cG cP) 193 ad (rw3 σ0 ciM cI cZ fs P L M))) (va_Qv (rm_up σ0 ciM cI cZ fs P L M w (rg P (300 * u) b - rg P (300 * w) a)) (xS D classes (xT cI cJ cZ cC cG cP) 193 ad) (xA 193 ad)) 0 0 (xA 193 ad) := by
  refine xr_met rfl (Nat.le_of_ble_eq_true rfl) ?_
  intro p e s m args below meth c ls hx hb X hr hlk hl I
  have hl : lv_has ls 8 [(0, .ref (ad 183)), (1, .int (nI w)), (2, .int (nI u)), (3, .int (nI 1))] := hl
  have loop : ∀ (mo : Nat) (hmx : (a = mo ∧ b ≤ mo) ∨ (b = mo ∧ a ≤ mo)) (k : Nat) (i bw : Nat) (P2 : Nat → Int32) (ls : Array Slot) (H : Heap) (locs : List Loc), i + k = mo → bw ≤ 1 → (∀ j, j < 300 * w ∨ 300 * w + 300 ≤ j → P2 j = P j) → (∀ j, i ≤ j → P2 (300 * w + j) = P (300 * w + j)) → rg_ok P2 (300 * w) i → rg P2 (300 * w) i = dv (dg P (300 * u) b) i - dv (dg P (300 * w) a) i + (bw : Int) * 16777216 ^ i → lv_has ls 8 [(6, .int (nI i)), (5, .int (nI bw)), (4, .int (nI mo)), (0, .ref (ad 183)), (1, .int (nI w)), (2, .int (nI u)), (3, .int (nI 1))] → xI D classes 193 ad s.heap (rw3 σ0 ciM cI cZ fs P2 L M) H locs → W p l e (xrm 1) s m args below meth c H locs 0 0 (MQ below (va_Qv (rm_up σ0 ciM cI cZ fs P L M w (rg P (300 * u) b - rg P (300 * w) a)) (xS D classes (xT cI cJ cZ cC cG cP) 193 ad) (xA 193 ad)) args s 0 0 (xA 193 ad)) (F0 m 38 ls []) := by
    intro mo hmx k
    induction k with
    | zero =>
      intro i bw P2 ls H locs hk hbw hfr hge hok inv hl I
      obtain rfl : i = mo := by omega
      refine lv_iload hx hb d_SpectrumDeskModel_bigDiffer_38 (lv_at hl 0 rfl) ?_
      refine lv_iload hx hb d_SpectrumDeskModel_bigDiffer_40 (lv_at hl 2 rfl) ?_
      refine lv_icmp_ge hx hb d_SpectrumDeskModel_bigDiffer_42 rfl (fun hc => ?_) (fun hc => ?_)
      · refine lv_aload_n hx hb d_SpectrumDeskModel_bigDiffer_133 rfl (lv_at hl 3 rfl) ?_
        refine xr_get X I fin_M 183 (by decide) (r183 ..) rfl 1 (by decide) (List.mem_cons_of_mem _ k_4ae214c350) rfl (mF_lengths hF) d_SpectrumDeskModel_bigDiffer_134 ?_
        refine lv_iload_n hx hb d_SpectrumDeskModel_bigDiffer_137 rfl (lv_at hl 4 rfl) ?_
        refine lv_iload hx hb d_SpectrumDeskModel_bigDiffer_138 (lv_at hl 2 rfl) ?_
        refine xr_iast X I 185 0 (by decide) (r185 ..) rfl (by omega) (by decide) d_SpectrumDeskModel_bigDiffer_140 (fun H locs I => ?_)
        rw [rw3_L] at I
        refine lv_aload_n hx hb d_SpectrumDeskModel_bigDiffer_141 rfl (lv_at hl 3 rfl) ?_
        refine lv_iload_n hx hb d_SpectrumDeskModel_bigDiffer_142 rfl (lv_at hl 4 rfl) ?_
        rw [dv_all (show _ ≤ i by omega), dv_all (show _ ≤ i by omega)] at inv
        have hb0 : bw = 0 := (Nat.eq_zero_or_pos bw).elim id (fun h => by
          have h1 := (rg_range hok).2
          have h2 : bw = 1 := by omega
          rw [h2] at inv
          have h3 : ((1 : Nat) : Int) * 16777216 ^ i = 16777216 ^ i := by simp
          rw [h3] at inv
          omega)
        rw [hb0] at inv; simp at inv
        refine xr_callv (xr_runV (kc := 0) (kr := 1) (n := 1) (As := [.int (nI w)]) (rest := []) X I (by decide) (r183 ..) rfl (c_SpectrumDeskModel_bigTrim (P := P2) (L := upd L w (nI i)) (M := M) (n := i) hF hw (by omega) upd_s) (xg k_10a67c202b) (List.mem_cons_of_mem _ k_fdf1e9da4b) (List.mem_cons_of_mem _ k_72a5102e81) (List.mem_cons_of_mem _ k_90f9c60262) (List.mem_cons_of_mem _ k_30fa15c9ac) (by decide +kernel) (by decide) rfl hl.1 rfl (Nat.le_of_ble_eq_true rfl) d_SpectrumDeskModel_bigDiffer_143) I (fun σ1 H locs hp I => ?_)
        obtain ⟨n2, t1, rfl, t2, t3⟩ := hp
        rw [upd_upd] at I
        exact xr_vret X I hr hlk ⟨P2, n2, rfl, by omega, hfr, rg_ok_le hok t1, t3, t2.trans (by omega)⟩ d_SpectrumDeskModel_bigDiffer_146
      · exact absurd (nI_le (Nat.le_refl _) (by omega)) hc
    | succ k ih =>
      intro i bw P2 ls H locs hk hbw hfr hge hok inv hl I
      refine lv_iload hx hb d_SpectrumDeskModel_bigDiffer_38 (lv_at hl 0 rfl) ?_
      refine lv_iload hx hb d_SpectrumDeskModel_bigDiffer_40 (lv_at hl 2 rfl) ?_
      refine lv_icmp_ge hx hb d_SpectrumDeskModel_bigDiffer_42 rfl (fun hc => ?_) (fun hc => ?_)
      · exact absurd hc (nI_ge (by omega) (by omega))
      · refine lv_iload_n hx hb d_SpectrumDeskModel_bigDiffer_45 rfl (lv_at hl 6 rfl) ?_
        refine lv_if_eq hx hb d_SpectrumDeskModel_bigDiffer_46 rfl (fun ht => ?_) (fun ht => ?_)
        · exact absurd ht (by decide)
        · refine lv_aload_n hx hb d_SpectrumDeskModel_bigDiffer_49 rfl (lv_at hl 3 rfl) ?_
          refine lv_iload_n hx hb d_SpectrumDeskModel_bigDiffer_50 rfl (lv_at hl 5 rfl) ?_
          refine lv_iload hx hb d_SpectrumDeskModel_bigDiffer_51 (lv_at hl 0 rfl) ?_
          refine xr_calli (xr_runV (kc := 0) (kr := 1) (n := 2) (As := [.int (nI u), .int (nI i)]) (rest := []) X I (by decide) (r183 ..) rfl (c_SpectrumDeskModel_bigAt (P := P2) (L := L) (M := M) (n := b) (i := i) hF hu (by omega) (by omega) hLu) (xg k_9795bdc343) (List.mem_cons_of_mem _ k_42414df306) (List.mem_cons_of_mem _ k_a35af8c930) (List.mem_cons_of_mem _ k_9a4475df0e) (List.mem_cons_of_mem _ k_30fa15c9ac) (by decide +kernel) (by decide) rfl hl.1 rfl (Nat.le_of_ble_eq_true rfl) d_SpectrumDeskModel_bigDiffer_53) I (fun r1 σ1 H locs hp I => ?_)
          obtain ⟨hp1, rfl⟩ := hp
          rw [hfr (300 * u + i) (by omega)] at hp1
          obtain ⟨x, x1, rfl, x3⟩ := dg_nat huo hp1
          refine lv_aload_n hx hb d_SpectrumDeskModel_bigDiffer_56 rfl (lv_at hl 3 rfl) ?_
          refine lv_iload_n hx hb d_SpectrumDeskModel_bigDiffer_57 rfl (lv_at hl 4 rfl) ?_
          refine lv_iload hx hb d_SpectrumDeskModel_bigDiffer_58 (lv_at hl 0 rfl) ?_
          refine xr_calli (xr_runV (kc := 0) (kr := 1) (n := 2) (As := [.int (nI w), .int (nI i)]) (rest := [.int (nI x)]) X I (by decide) (r183 ..) rfl (c_SpectrumDeskModel_bigAt (P := P2) (L := L) (M := M) (n := a) (i := i) hF hw (by omega) (by omega) hLw) (xg k_9795bdc343) (List.mem_cons_of_mem _ k_42414df306) (List.mem_cons_of_mem _ k_a35af8c930) (List.mem_cons_of_mem _ k_9a4475df0e) (List.mem_cons_of_mem _ k_30fa15c9ac) (by decide +kernel) (by decide) rfl hl.1 rfl (Nat.le_of_ble_eq_true rfl) d_SpectrumDeskModel_bigDiffer_60) I (fun r1 σ1 H locs hp I => ?_)
          obtain ⟨hp1, rfl⟩ := hp
          rw [hge i (Nat.le_refl _)] at hp1
          obtain ⟨y, y1, rfl, y3⟩ := dg_nat hwo hp1
          refine lv_isub hx hb d_SpectrumDeskModel_bigDiffer_63 ?_
          refine lv_goto hx hb d_SpectrumDeskModel_bigDiffer_64 rfl ?_
          refine lv_iload hx hb d_SpectrumDeskModel_bigDiffer_82 (lv_at hl 1 rfl) ?_
          refine lv_isub hx hb d_SpectrumDeskModel_bigDiffer_84 ?_
          refine lv_topi (fun v ev => ?_)
          have hv : v.toInt = (x : Int) - y - bw := by rw [ev, q_isub (by rw [q_isub (by rw [nI_toInt (by omega), nI_toInt (by omega)]; omega) (by rw [nI_toInt (by omega), nI_toInt (by omega)]; omega), nI_toInt (by omega), nI_toInt (by omega), nI_toInt (by omega)]; omega) (by rw [q_isub (by rw [nI_toInt (by omega), nI_toInt (by omega)]; omega) (by rw [nI_toInt (by omega), nI_toInt (by omega)]; omega), nI_toInt (by omega), nI_toInt (by omega), nI_toInt (by omega)]; omega), q_isub (by rw [nI_toInt (by omega), nI_toInt (by omega)]; omega) (by rw [nI_toInt (by omega), nI_toInt (by omega)]; omega), nI_toInt (by omega), nI_toInt (by omega), nI_toInt (by omega)]
          refine lv_istore (lv' := [(7, .int v), (6, .int (nI i)), (5, .int (nI bw)), (4, .int (nI mo)), (0, .ref (ad 183)), (1, .int (nI w)), (2, .int (nI u)), (3, .int (nI 1))]) hx hb d_SpectrumDeskModel_bigDiffer_85 hl (by decide) rfl (fun ls hl => ?_)
          refine lv_iload hx hb d_SpectrumDeskModel_bigDiffer_87 (lv_at hl 0 rfl) ?_
          refine lv_if_ge hx hb d_SpectrumDeskModel_bigDiffer_89 rfl (fun hd => ?_) (fun hd => ?_)
          · have h0 : 0 ≤ v.toInt := Int32.le_iff_toInt_le.mp hd
            refine lv_iconst (v := nI 0) hx hb d_SpectrumDeskModel_bigDiffer_96 (by decide) ?_
            refine lv_istore (lv' := [(5, .int (nI 0)), (7, .int v), (6, .int (nI i)), (4, .int (nI mo)), (0, .ref (ad 183)), (1, .int (nI w)), (2, .int (nI u)), (3, .int (nI 1))]) hx hb d_SpectrumDeskModel_bigDiffer_97 hl (by decide) rfl (fun ls hl => ?_)
            refine lv_aload_n hx hb d_SpectrumDeskModel_bigDiffer_99 rfl (lv_at hl 4 rfl) ?_
            refine xr_get X I fin_M 183 (by decide) (r183 ..) rfl 0 (by decide) (List.mem_cons_of_mem _ k_eae5455160) rfl (mF_parts hF) d_SpectrumDeskModel_bigDiffer_100 ?_
            refine lv_sipush (v := nI 300) hx hb d_SpectrumDeskModel_bigDiffer_103 (by decide) ?_
            refine lv_iload_n hx hb d_SpectrumDeskModel_bigDiffer_106 rfl (lv_at hl 5 rfl) ?_
            refine lv_imul hx hb d_SpectrumDeskModel_bigDiffer_107 (xr_topi (y := nI (300 * w)) (pk_mul 300 w) ?_)
            refine lv_iload hx hb d_SpectrumDeskModel_bigDiffer_108 (lv_at hl 2 rfl) ?_
            refine lv_iadd hx hb d_SpectrumDeskModel_bigDiffer_110 (xr_topi (y := nI ((300 * w) + i)) (nI_add (300 * w) i) ?_)
            refine lv_iload hx hb d_SpectrumDeskModel_bigDiffer_111 (lv_at hl 1 rfl) ?_
            refine lv_if_ge hx hb d_SpectrumDeskModel_bigDiffer_113 rfl (fun hg => ?_) (fun hg => ?_)
            · refine lv_iload hx hb d_SpectrumDeskModel_bigDiffer_124 (lv_at hl 1 rfl) ?_
              refine xr_topi (y := nI (x - y - bw)) (q_iinj (by rw [nI_toInt (by omega)]; omega)) ?_
              refine xr_iast X I 184 0 (by decide) (r184 ..) rfl (by omega) (by decide) d_SpectrumDeskModel_bigDiffer_126 (fun H locs I => ?_)
              rw [rw3_P] at I
              refine lv_iinc (k := 2) (v := nI (i + 1)) (lv' := [(6, .int (nI (i + 1))), (5, .int (nI 0)), (7, .int v), (4, .int (nI mo)), (0, .ref (ad 183)), (1, .int (nI w)), (2, .int (nI u)), (3, .int (nI 1))]) hx hb d_SpectrumDeskModel_bigDiffer_127 hl rfl (nI_1 i) (by decide) rfl (fun ls hl => ?_)
              refine lv_goto hx hb d_SpectrumDeskModel_bigDiffer_130 rfl ?_
              have hl := lv_sub hl [0, 1, 3, 4, 5, 6, 7] rfl
              have hl : lv_has ls 8 [(6, .int (nI (i + 1))), (5, .int (nI 0)), (4, .int (nI mo)), (0, .ref (ad 183)), (1, .int (nI w)), (2, .int (nI u)), (3, .int (nI 1))] := hl
              obtain ⟨s1, s2⟩ := less_step (b := bw) (b' := 0) (v := x - y - bw) hok (by omega) inv (by rw [x3, y3]; omega)
              exact ih (i + 1) 0 _ ls H locs (by omega) (by decide) (fun j hj => (upd_n (by omega)).trans (hfr j hj)) (fun j hj => (upd_n (by omega)).trans (hge j (by omega))) s1 s2 hl I
            · exact absurd hd hg
          · have h0 : v.toInt < 0 := (Int.lt_or_le v.toInt 0).elim id (fun h => absurd (Int32.le_iff_toInt_le.mpr (show (0 : Int32).toInt ≤ v.toInt from h)) hd)
            refine lv_iconst (v := nI 1) hx hb d_SpectrumDeskModel_bigDiffer_92 (by decide) ?_
            refine lv_goto hx hb d_SpectrumDeskModel_bigDiffer_93 rfl ?_
            refine lv_istore (lv' := [(5, .int (nI 1)), (7, .int v), (6, .int (nI i)), (4, .int (nI mo)), (0, .ref (ad 183)), (1, .int (nI w)), (2, .int (nI u)), (3, .int (nI 1))]) hx hb d_SpectrumDeskModel_bigDiffer_97 hl (by decide) rfl (fun ls hl => ?_)
            refine lv_aload_n hx hb d_SpectrumDeskModel_bigDiffer_99 rfl (lv_at hl 4 rfl) ?_
            refine xr_get X I fin_M 183 (by decide) (r183 ..) rfl 0 (by decide) (List.mem_cons_of_mem _ k_eae5455160) rfl (mF_parts hF) d_SpectrumDeskModel_bigDiffer_100 ?_
            refine lv_sipush (v := nI 300) hx hb d_SpectrumDeskModel_bigDiffer_103 (by decide) ?_
            refine lv_iload_n hx hb d_SpectrumDeskModel_bigDiffer_106 rfl (lv_at hl 5 rfl) ?_
            refine lv_imul hx hb d_SpectrumDeskModel_bigDiffer_107 (xr_topi (y := nI (300 * w)) (pk_mul 300 w) ?_)
            refine lv_iload hx hb d_SpectrumDeskModel_bigDiffer_108 (lv_at hl 2 rfl) ?_
            refine lv_iadd hx hb d_SpectrumDeskModel_bigDiffer_110 (xr_topi (y := nI ((300 * w) + i)) (nI_add (300 * w) i) ?_)
            refine lv_iload hx hb d_SpectrumDeskModel_bigDiffer_111 (lv_at hl 1 rfl) ?_
            refine lv_if_ge hx hb d_SpectrumDeskModel_bigDiffer_113 rfl (fun hg => ?_) (fun hg => ?_)
            · exact absurd hg hd
            · refine lv_iload hx hb d_SpectrumDeskModel_bigDiffer_116 (lv_at hl 1 rfl) ?_
              refine lv_ldc (v := nI 16777216) hx hb X.1.2.2.2.1 (X.1.2.2.2.2 _ (List.mem_cons_of_mem _ k_0f8e24087a)) d_SpectrumDeskModel_bigDiffer_118 ?_
              refine lv_iadd hx hb d_SpectrumDeskModel_bigDiffer_120 ?_
              refine xr_topi (y := nI (x + 16777216 - y - bw)) (q_iinj (by rw [q_iadd (by rw [nI_toInt (by decide)]; omega) (by rw [nI_toInt (by decide)]; omega), nI_toInt (by decide), nI_toInt (by omega)]; omega)) ?_
              refine lv_goto hx hb d_SpectrumDeskModel_bigDiffer_121 rfl ?_
              refine xr_iast X I 184 0 (by decide) (r184 ..) rfl (by omega) (by decide) d_SpectrumDeskModel_bigDiffer_126 (fun H locs I => ?_)
              rw [rw3_P] at I
              refine lv_iinc (k := 2) (v := nI (i + 1)) (lv' := [(6, .int (nI (i + 1))), (5, .int (nI 1)), (7, .int v), (4, .int (nI mo)), (0, .ref (ad 183)), (1, .int (nI w)), (2, .int (nI u)), (3, .int (nI 1))]) hx hb d_SpectrumDeskModel_bigDiffer_127 hl rfl (nI_1 i) (by decide) rfl (fun ls hl => ?_)
              refine lv_goto hx hb d_SpectrumDeskModel_bigDiffer_130 rfl ?_
              have hl := lv_sub hl [0, 1, 3, 4, 5, 6, 7] rfl
              have hl : lv_has ls 8 [(6, .int (nI (i + 1))), (5, .int (nI 1)), (4, .int (nI mo)), (0, .ref (ad 183)), (1, .int (nI w)), (2, .int (nI u)), (3, .int (nI 1))] := hl
              obtain ⟨s1, s2⟩ := less_step (b := bw) (b' := 1) (v := x + 16777216 - y - bw) hok (by omega) inv (by rw [x3, y3]; omega)
              exact ih (i + 1) 1 _ ls H locs (by omega) (by decide) (fun j hj => (upd_n (by omega)).trans (hfr j hj)) (fun j hj => (upd_n (by omega)).trans (hge j (by omega))) s1 s2 hl I
  refine lv_aload_n hx hb d_SpectrumDeskModel_bigDiffer_0 rfl (lv_at hl 0 rfl) ?_
  refine xr_get X I fin_M 183 (by decide) (r183 ..) rfl 1 (by decide) (List.mem_cons_of_mem _ k_4ae214c350) rfl (mF_lengths hF) d_SpectrumDeskModel_bigDiffer_1 ?_
  refine lv_iload_n hx hb d_SpectrumDeskModel_bigDiffer_4 rfl (lv_at hl 1 rfl) ?_
  refine xr_iald X I 185 0 (by decide) (r185 ..) rfl (by omega) (by decide) d_SpectrumDeskModel_bigDiffer_5 ?_
  refine xr_topi (y := nI a) hLw ?_
  refine lv_aload_n hx hb d_SpectrumDeskModel_bigDiffer_6 rfl (lv_at hl 0 rfl) ?_
  refine xr_get X I fin_M 183 (by decide) (r183 ..) rfl 1 (by decide) (List.mem_cons_of_mem _ k_4ae214c350) rfl (mF_lengths hF) d_SpectrumDeskModel_bigDiffer_7 ?_
  refine lv_iload_n hx hb d_SpectrumDeskModel_bigDiffer_10 rfl (lv_at hl 2 rfl) ?_
  refine xr_iald X I 185 0 (by decide) (r185 ..) rfl (by omega) (by decide) d_SpectrumDeskModel_bigDiffer_11 ?_
  refine xr_topi (y := nI b) hLu ?_
  refine lv_icmp_le hx hb d_SpectrumDeskModel_bigDiffer_12 rfl (fun hc => ?_) (fun hc => ?_)
  · have hle : a ≤ b := (nI_leI (by omega) (by omega)).mp hc
    refine lv_aload_n hx hb d_SpectrumDeskModel_bigDiffer_24 rfl (lv_at hl 0 rfl) ?_
    refine xr_get X I fin_M 183 (by decide) (r183 ..) rfl 1 (by decide) (List.mem_cons_of_mem _ k_4ae214c350) rfl (mF_lengths hF) d_SpectrumDeskModel_bigDiffer_25 ?_
    refine lv_iload_n hx hb d_SpectrumDeskModel_bigDiffer_28 rfl (lv_at hl 2 rfl) ?_
    refine xr_iald X I 185 0 (by decide) (r185 ..) rfl (by omega) (by decide) d_SpectrumDeskModel_bigDiffer_29 ?_
    refine xr_topi (y := nI b) hLu ?_
    refine lv_istore (lv' := [(4, .int (nI b)), (0, .ref (ad 183)), (1, .int (nI w)), (2, .int (nI u)), (3, .int (nI 1))]) hx hb d_SpectrumDeskModel_bigDiffer_30 hl (by decide) rfl (fun ls hl => ?_)
    refine lv_iconst (v := nI 0) hx hb d_SpectrumDeskModel_bigDiffer_32 (by decide) ?_
    refine lv_istore (lv' := [(5, .int (nI 0)), (4, .int (nI b)), (0, .ref (ad 183)), (1, .int (nI w)), (2, .int (nI u)), (3, .int (nI 1))]) hx hb d_SpectrumDeskModel_bigDiffer_33 hl (by decide) rfl (fun ls hl => ?_)
    refine lv_iconst (v := nI 0) hx hb d_SpectrumDeskModel_bigDiffer_35 (by decide) ?_
    refine lv_istore (lv' := [(6, .int (nI 0)), (5, .int (nI 0)), (4, .int (nI b)), (0, .ref (ad 183)), (1, .int (nI w)), (2, .int (nI u)), (3, .int (nI 1))]) hx hb d_SpectrumDeskModel_bigDiffer_36 hl (by decide) rfl (fun ls hl => ?_)
    exact loop b (Or.inr ⟨rfl, hle⟩) b 0 0 P ls _ _ (by omega) (by decide) (fun _ _ => rfl) (fun _ _ => rfl) (fun j hj => absurd hj (Nat.not_lt_zero _)) (by simp [rg, dv]) hl I
  · have hle : b ≤ a := (Nat.le_total b a).elim id (fun h => absurd (nI_le h (by omega)) hc)
    refine lv_aload_n hx hb d_SpectrumDeskModel_bigDiffer_15 rfl (lv_at hl 0 rfl) ?_
    refine xr_get X I fin_M 183 (by decide) (r183 ..) rfl 1 (by decide) (List.mem_cons_of_mem _ k_4ae214c350) rfl (mF_lengths hF) d_SpectrumDeskModel_bigDiffer_16 ?_
    refine lv_iload_n hx hb d_SpectrumDeskModel_bigDiffer_19 rfl (lv_at hl 1 rfl) ?_
    refine xr_iald X I 185 0 (by decide) (r185 ..) rfl (by omega) (by decide) d_SpectrumDeskModel_bigDiffer_20 ?_
    refine xr_topi (y := nI a) hLw ?_
    refine lv_goto hx hb d_SpectrumDeskModel_bigDiffer_21 rfl ?_
    refine lv_istore (lv' := [(4, .int (nI a)), (0, .ref (ad 183)), (1, .int (nI w)), (2, .int (nI u)), (3, .int (nI 1))]) hx hb d_SpectrumDeskModel_bigDiffer_30 hl (by decide) rfl (fun ls hl => ?_)
    refine lv_iconst (v := nI 0) hx hb d_SpectrumDeskModel_bigDiffer_32 (by decide) ?_
    refine lv_istore (lv' := [(5, .int (nI 0)), (4, .int (nI a)), (0, .ref (ad 183)), (1, .int (nI w)), (2, .int (nI u)), (3, .int (nI 1))]) hx hb d_SpectrumDeskModel_bigDiffer_33 hl (by decide) rfl (fun ls hl => ?_)
    refine lv_iconst (v := nI 0) hx hb d_SpectrumDeskModel_bigDiffer_35 (by decide) ?_
    refine lv_istore (lv' := [(6, .int (nI 0)), (5, .int (nI 0)), (4, .int (nI a)), (0, .ref (ad 183)), (1, .int (nI w)), (2, .int (nI u)), (3, .int (nI 1))]) hx hb d_SpectrumDeskModel_bigDiffer_36 hl (by decide) rfl (fun ls hl => ?_)
    exact loop a (Or.inl ⟨rfl, hle⟩) a 0 0 P ls _ _ (by omega) (by decide) (fun _ _ => rfl) (fun _ _ => rfl) (fun j hj => absurd hj (Nat.not_lt_zero _)) (by simp [rg, dv]) hl I
set_option maxHeartbeats 4000000 in
set_option maxRecDepth 100000 in
theorem c_SpectrumDeskModel_bigAdd0 {l : Launch} {D : va_G} {cI cJ cZ cC cG cP : ClassId} {ad : Nat → Nat} {σ0 : Nat → va_E} {fs : List Value} {P L M : Nat → Int32} {w u : Nat} {x y : Int} (hF : mF ad fs) (hw : w < 112) (hu : u < 112) (hne : u ≠ w) (hx0 : rb P L M w x) (hy0 : rb P L M u y) (hxb : rbd x) (hyb : rbd y) :
    Met l y_SpectrumDeskModel_bigAdd v_SpectrumDeskModel_bigAdd (xrm 2) (va_Pc [.ref (ad 183), .int (nI w), .int (nI u), .int (nI 0)] (xS D classes (xT cI cJ cZ cC cG cP) 193 ad (rw3 σ0 ciM cI cZ fs P L M))) (va_Qv (rb_up σ0 ciM cI cZ fs P L M w (x + y)) (xS D classes (xT cI cJ cZ cC cG cP) 193 ad) (xA 193 ad)) 0 0 (xA 193 ad) := by
  obtain ⟨a, a1, hLw, hwo, hwt, hsw⟩ := hx0
  obtain ⟨b, b1, hLu, huo, hut, hsu⟩ := hy0
  have hA := (rg_range hwo).1
  have hB := (rg_range huo).1
  have ha : a < 300 := by have := rb_len (k := 299) hwo hwt (show _ < rBB from by have h1 : -rBB < x := hxb.1; have h2 : x < rBB := hxb.2; omega); omega
  have hb9 : b < 300 := by have := rb_len (k := 299) huo hut (show _ < rBB from by have h1 : -rBB < y := hyb.1; have h2 : y < rBB := hyb.2; omega); omega
  refine xr_met rfl (Nat.le_of_ble_eq_true rfl) ?_
  intro p e s m args below meth c ls hx hb X hr hlk hl I
  have hl : lv_has ls 5 [(0, .ref (ad 183)), (1, .int (nI w)), (2, .int (nI u)), (3, .int (nI 0))] := hl
  rcases hsw with ⟨hmw, hxe⟩ | ⟨hmw, hxe⟩ <;> rcases hsu with ⟨hmu, hye⟩ | ⟨hmu, hye⟩
  · refine lv_aload_n hx hb d_SpectrumDeskModel_bigAdd_0 rfl (lv_at hl 0 rfl) ?_
    refine xr_get X I fin_M 183 (by decide) (r183 ..) rfl 2 (by decide) (List.mem_cons_of_mem _ k_7646d4378e) rfl (mF_minus hF) d_SpectrumDeskModel_bigAdd_1 ?_
    refine lv_iload_n hx hb d_SpectrumDeskModel_bigAdd_4 rfl (lv_at hl 2 rfl) ?_
    refine xr_zald X I 186 2 (by decide) (r186 ..) rfl (by omega) (by decide) d_SpectrumDeskModel_bigAdd_5 ?_
    refine xr_topi (y := nI 0) hmu ?_
    refine lv_iload_n hx hb d_SpectrumDeskModel_bigAdd_6 rfl (lv_at hl 3 rfl) ?_
    refine lv_icmp_eq hx hb d_SpectrumDeskModel_bigAdd_7 rfl (fun hc => ?_) (fun hc => ?_)
    · refine lv_iconst (v := nI 0) hx hb d_SpectrumDeskModel_bigAdd_14 (by decide) ?_
      refine lv_istore (lv' := [(4, .int (nI 0)), (0, .ref (ad 183)), (1, .int (nI w)), (2, .int (nI u)), (3, .int (nI 0))]) hx hb d_SpectrumDeskModel_bigAdd_15 hl (by decide) rfl (fun ls hl => ?_)
      refine lv_aload_n hx hb d_SpectrumDeskModel_bigAdd_17 rfl (lv_at hl 1 rfl) ?_
      refine xr_get X I fin_M 183 (by decide) (r183 ..) rfl 2 (by decide) (List.mem_cons_of_mem _ k_7646d4378e) rfl (mF_minus hF) d_SpectrumDeskModel_bigAdd_18 ?_
      refine lv_iload_n hx hb d_SpectrumDeskModel_bigAdd_21 rfl (lv_at hl 2 rfl) ?_
      refine xr_zald X I 186 2 (by decide) (r186 ..) rfl (by omega) (by decide) d_SpectrumDeskModel_bigAdd_22 ?_
      refine xr_topi (y := nI 0) hmw ?_
      refine lv_iload hx hb d_SpectrumDeskModel_bigAdd_23 (lv_at hl 0 rfl) ?_
      refine lv_icmp_ne hx hb d_SpectrumDeskModel_bigAdd_25 rfl (fun he => ?_) (fun he => ?_)
      · exact absurd rfl he
      · refine lv_aload_n hx hb d_SpectrumDeskModel_bigAdd_28 rfl (lv_at hl 1 rfl) ?_
        refine lv_iload_n hx hb d_SpectrumDeskModel_bigAdd_29 rfl (lv_at hl 2 rfl) ?_
        refine lv_iload_n hx hb d_SpectrumDeskModel_bigAdd_30 rfl (lv_at hl 3 rfl) ?_
        refine xr_callv (xr_runV (kc := 1) (kr := 2) (n := 2) (As := [.int (nI w), .int (nI u)]) (rest := []) X I (by decide) (r183 ..) rfl (c_SpectrumDeskModel_bigMore hF hw hu hne ha hb9 hLw hLu hwo huo hwt hut) (xg k_ff14552d82) (List.mem_cons_of_mem _ k_72a62daed8) (List.mem_cons_of_mem _ k_4e1eb4d18f) (List.mem_cons_of_mem _ k_7fffc0722b) (List.mem_cons_of_mem _ k_30fa15c9ac) (by decide +kernel) (by decide) rfl hl.1 rfl (Nat.le_of_ble_eq_true rfl) d_SpectrumDeskModel_bigAdd_31) I (fun σ1 H locs hp I => ?_)
        refine lv_goto hx hb d_SpectrumDeskModel_bigAdd_34 rfl ?_
        exact xr_vret X I hr hlk (rm_rb hp (Or.inl ⟨hmw, by omega⟩)) d_SpectrumDeskModel_bigAdd_71
    · exact absurd rfl hc
  · refine lv_aload_n hx hb d_SpectrumDeskModel_bigAdd_0 rfl (lv_at hl 0 rfl) ?_
    refine xr_get X I fin_M 183 (by decide) (r183 ..) rfl 2 (by decide) (List.mem_cons_of_mem _ k_7646d4378e) rfl (mF_minus hF) d_SpectrumDeskModel_bigAdd_1 ?_
    refine lv_iload_n hx hb d_SpectrumDeskModel_bigAdd_4 rfl (lv_at hl 2 rfl) ?_
    refine xr_zald X I 186 2 (by decide) (r186 ..) rfl (by omega) (by decide) d_SpectrumDeskModel_bigAdd_5 ?_
    refine xr_topi (y := nI 1) hmu ?_
    refine lv_iload_n hx hb d_SpectrumDeskModel_bigAdd_6 rfl (lv_at hl 3 rfl) ?_
    refine lv_icmp_eq hx hb d_SpectrumDeskModel_bigAdd_7 rfl (fun hc => ?_) (fun hc => ?_)
    · exact absurd hc (by decide)
    · refine lv_iconst (v := nI 1) hx hb d_SpectrumDeskModel_bigAdd_10 (by decide) ?_
      refine lv_goto hx hb d_SpectrumDeskModel_bigAdd_11 rfl ?_
      refine lv_istore (lv' := [(4, .int (nI 1)), (0, .ref (ad 183)), (1, .int (nI w)), (2, .int (nI u)), (3, .int (nI 0))]) hx hb d_SpectrumDeskModel_bigAdd_15 hl (by decide) rfl (fun ls hl => ?_)
      refine lv_aload_n hx hb d_SpectrumDeskModel_bigAdd_17 rfl (lv_at hl 1 rfl) ?_
      refine xr_get X I fin_M 183 (by decide) (r183 ..) rfl 2 (by decide) (List.mem_cons_of_mem _ k_7646d4378e) rfl (mF_minus hF) d_SpectrumDeskModel_bigAdd_18 ?_
      refine lv_iload_n hx hb d_SpectrumDeskModel_bigAdd_21 rfl (lv_at hl 2 rfl) ?_
      refine xr_zald X I 186 2 (by decide) (r186 ..) rfl (by omega) (by decide) d_SpectrumDeskModel_bigAdd_22 ?_
      refine xr_topi (y := nI 0) hmw ?_
      refine lv_iload hx hb d_SpectrumDeskModel_bigAdd_23 (lv_at hl 0 rfl) ?_
      refine lv_icmp_ne hx hb d_SpectrumDeskModel_bigAdd_25 rfl (fun he => ?_) (fun he => ?_)
      · refine lv_aload_n hx hb d_SpectrumDeskModel_bigAdd_37 rfl (lv_at hl 1 rfl) ?_
        refine lv_iload_n hx hb d_SpectrumDeskModel_bigAdd_38 rfl (lv_at hl 2 rfl) ?_
        refine lv_iload_n hx hb d_SpectrumDeskModel_bigAdd_39 rfl (lv_at hl 3 rfl) ?_
        refine xr_calli (xr_runV (kc := 1) (kr := 2) (n := 2) (As := [.int (nI w), .int (nI u)]) (rest := []) X I (by decide) (r183 ..) rfl (c_SpectrumDeskModel_bigSizes hF hw hu hne ha hb9 hLw hLu hwo huo hwt hut) (xg k_99203b0091) (List.mem_cons_of_mem _ k_c0032b460a) (List.mem_cons_of_mem _ k_cf2ddaaf03) (List.mem_cons_of_mem _ k_af57503f5d) (List.mem_cons_of_mem _ k_30fa15c9ac) (by decide +kernel) (by decide) rfl hl.1 rfl (Nat.le_of_ble_eq_true rfl) d_SpectrumDeskModel_bigAdd_40) I (fun r1 σ1 H locs hp I => ?_)
        obtain ⟨rfl, rfl⟩ := hp
        refine lv_if_lt hx hb d_SpectrumDeskModel_bigAdd_43 rfl (fun hd => ?_) (fun hd => ?_)
        · have hlt := sg_neg.mp hd
          refine lv_aload_n hx hb d_SpectrumDeskModel_bigAdd_56 rfl (lv_at hl 1 rfl) ?_
          refine lv_iload_n hx hb d_SpectrumDeskModel_bigAdd_57 rfl (lv_at hl 2 rfl) ?_
          refine lv_iload_n hx hb d_SpectrumDeskModel_bigAdd_58 rfl (lv_at hl 3 rfl) ?_
          refine lv_iconst (v := nI 1) hx hb d_SpectrumDeskModel_bigAdd_59 (by decide) ?_
          refine xr_callv (xr_runV (kc := 1) (kr := 2) (n := 3) (As := [.int (nI w), .int (nI u), .int (nI 1)]) (rest := []) X I (by decide) (r183 ..) rfl (c_SpectrumDeskModel_bigDiffer1 hF hw hu hne ha hb9 hLw hLu hwo huo hwt hut (by omega)) (xg k_72c7a99444) (List.mem_cons_of_mem _ k_6543122d39) (List.mem_cons_of_mem _ k_f670f9e174) (List.mem_cons_of_mem _ k_3e9fe204cb) (List.mem_cons_of_mem _ k_30fa15c9ac) (by decide +kernel) (by decide) rfl hl.1 rfl (Nat.le_of_ble_eq_true rfl) d_SpectrumDeskModel_bigAdd_60) I (fun σ1 H locs hp I => ?_)
          obtain ⟨P', n', rfl, h1, h2, h3, h4, h5⟩ := hp
          refine lv_aload_n hx hb d_SpectrumDeskModel_bigAdd_63 rfl (lv_at hl 1 rfl) ?_
          refine xr_get X I fin_M 183 (by decide) (r183 ..) rfl 2 (by decide) (List.mem_cons_of_mem _ k_7646d4378e) rfl (mF_minus hF) d_SpectrumDeskModel_bigAdd_64 ?_
          refine lv_iload_n hx hb d_SpectrumDeskModel_bigAdd_67 rfl (lv_at hl 2 rfl) ?_
          refine lv_iload hx hb d_SpectrumDeskModel_bigAdd_68 (lv_at hl 0 rfl) ?_
          refine xr_zast X I 186 2 (by decide) (r186 ..) rfl (by omega) (by decide) d_SpectrumDeskModel_bigAdd_70 (fun H locs I => ?_)
          rw [rw3_M, show vp_nar .boolean (nI 1) = nI 1 by decide] at I
          exact xr_vret X I hr hlk ⟨P', _, _, rfl, ⟨h2, fun j hj => upd_n hj, fun j hj => upd_n hj⟩, n', h1, upd_s, h3, h4, Or.inr ⟨upd_s, by omega⟩⟩ d_SpectrumDeskModel_bigAdd_71
        · have hge : ¬ rg P (300 * w) a - rg P (300 * u) b < 0 := fun h => hd (sg_neg.mpr h)
          refine lv_aload_n hx hb d_SpectrumDeskModel_bigAdd_46 rfl (lv_at hl 1 rfl) ?_
          refine lv_iload_n hx hb d_SpectrumDeskModel_bigAdd_47 rfl (lv_at hl 2 rfl) ?_
          refine lv_iload_n hx hb d_SpectrumDeskModel_bigAdd_48 rfl (lv_at hl 3 rfl) ?_
          refine lv_iconst (v := nI 0) hx hb d_SpectrumDeskModel_bigAdd_49 (by decide) ?_
          refine xr_callv (xr_runV (kc := 1) (kr := 2) (n := 3) (As := [.int (nI w), .int (nI u), .int (nI 0)]) (rest := []) X I (by decide) (r183 ..) rfl (c_SpectrumDeskModel_bigDiffer0 hF hw hu hne ha hb9 hLw hLu hwo huo hwt hut (by omega)) (xg k_72c7a99444) (List.mem_cons_of_mem _ k_6543122d39) (List.mem_cons_of_mem _ k_f670f9e174) (List.mem_cons_of_mem _ k_3e9fe204cb) (List.mem_cons_of_mem _ k_30fa15c9ac) (by decide +kernel) (by decide) rfl hl.1 rfl (Nat.le_of_ble_eq_true rfl) d_SpectrumDeskModel_bigAdd_50) I (fun σ1 H locs hp I => ?_)
          refine lv_goto hx hb d_SpectrumDeskModel_bigAdd_53 rfl ?_
          exact xr_vret X I hr hlk (rm_rb hp (Or.inl ⟨hmw, by omega⟩)) d_SpectrumDeskModel_bigAdd_71
      · exact absurd he (by decide)
  · refine lv_aload_n hx hb d_SpectrumDeskModel_bigAdd_0 rfl (lv_at hl 0 rfl) ?_
    refine xr_get X I fin_M 183 (by decide) (r183 ..) rfl 2 (by decide) (List.mem_cons_of_mem _ k_7646d4378e) rfl (mF_minus hF) d_SpectrumDeskModel_bigAdd_1 ?_
    refine lv_iload_n hx hb d_SpectrumDeskModel_bigAdd_4 rfl (lv_at hl 2 rfl) ?_
    refine xr_zald X I 186 2 (by decide) (r186 ..) rfl (by omega) (by decide) d_SpectrumDeskModel_bigAdd_5 ?_
    refine xr_topi (y := nI 0) hmu ?_
    refine lv_iload_n hx hb d_SpectrumDeskModel_bigAdd_6 rfl (lv_at hl 3 rfl) ?_
    refine lv_icmp_eq hx hb d_SpectrumDeskModel_bigAdd_7 rfl (fun hc => ?_) (fun hc => ?_)
    · refine lv_iconst (v := nI 0) hx hb d_SpectrumDeskModel_bigAdd_14 (by decide) ?_
      refine lv_istore (lv' := [(4, .int (nI 0)), (0, .ref (ad 183)), (1, .int (nI w)), (2, .int (nI u)), (3, .int (nI 0))]) hx hb d_SpectrumDeskModel_bigAdd_15 hl (by decide) rfl (fun ls hl => ?_)
      refine lv_aload_n hx hb d_SpectrumDeskModel_bigAdd_17 rfl (lv_at hl 1 rfl) ?_
      refine xr_get X I fin_M 183 (by decide) (r183 ..) rfl 2 (by decide) (List.mem_cons_of_mem _ k_7646d4378e) rfl (mF_minus hF) d_SpectrumDeskModel_bigAdd_18 ?_
      refine lv_iload_n hx hb d_SpectrumDeskModel_bigAdd_21 rfl (lv_at hl 2 rfl) ?_
      refine xr_zald X I 186 2 (by decide) (r186 ..) rfl (by omega) (by decide) d_SpectrumDeskModel_bigAdd_22 ?_
      refine xr_topi (y := nI 1) hmw ?_
      refine lv_iload hx hb d_SpectrumDeskModel_bigAdd_23 (lv_at hl 0 rfl) ?_
      refine lv_icmp_ne hx hb d_SpectrumDeskModel_bigAdd_25 rfl (fun he => ?_) (fun he => ?_)
      · refine lv_aload_n hx hb d_SpectrumDeskModel_bigAdd_37 rfl (lv_at hl 1 rfl) ?_
        refine lv_iload_n hx hb d_SpectrumDeskModel_bigAdd_38 rfl (lv_at hl 2 rfl) ?_
        refine lv_iload_n hx hb d_SpectrumDeskModel_bigAdd_39 rfl (lv_at hl 3 rfl) ?_
        refine xr_calli (xr_runV (kc := 1) (kr := 2) (n := 2) (As := [.int (nI w), .int (nI u)]) (rest := []) X I (by decide) (r183 ..) rfl (c_SpectrumDeskModel_bigSizes hF hw hu hne ha hb9 hLw hLu hwo huo hwt hut) (xg k_99203b0091) (List.mem_cons_of_mem _ k_c0032b460a) (List.mem_cons_of_mem _ k_cf2ddaaf03) (List.mem_cons_of_mem _ k_af57503f5d) (List.mem_cons_of_mem _ k_30fa15c9ac) (by decide +kernel) (by decide) rfl hl.1 rfl (Nat.le_of_ble_eq_true rfl) d_SpectrumDeskModel_bigAdd_40) I (fun r1 σ1 H locs hp I => ?_)
        obtain ⟨rfl, rfl⟩ := hp
        refine lv_if_lt hx hb d_SpectrumDeskModel_bigAdd_43 rfl (fun hd => ?_) (fun hd => ?_)
        · have hlt := sg_neg.mp hd
          refine lv_aload_n hx hb d_SpectrumDeskModel_bigAdd_56 rfl (lv_at hl 1 rfl) ?_
          refine lv_iload_n hx hb d_SpectrumDeskModel_bigAdd_57 rfl (lv_at hl 2 rfl) ?_
          refine lv_iload_n hx hb d_SpectrumDeskModel_bigAdd_58 rfl (lv_at hl 3 rfl) ?_
          refine lv_iconst (v := nI 1) hx hb d_SpectrumDeskModel_bigAdd_59 (by decide) ?_
          refine xr_callv (xr_runV (kc := 1) (kr := 2) (n := 3) (As := [.int (nI w), .int (nI u), .int (nI 1)]) (rest := []) X I (by decide) (r183 ..) rfl (c_SpectrumDeskModel_bigDiffer1 hF hw hu hne ha hb9 hLw hLu hwo huo hwt hut (by omega)) (xg k_72c7a99444) (List.mem_cons_of_mem _ k_6543122d39) (List.mem_cons_of_mem _ k_f670f9e174) (List.mem_cons_of_mem _ k_3e9fe204cb) (List.mem_cons_of_mem _ k_30fa15c9ac) (by decide +kernel) (by decide) rfl hl.1 rfl (Nat.le_of_ble_eq_true rfl) d_SpectrumDeskModel_bigAdd_60) I (fun σ1 H locs hp I => ?_)
          obtain ⟨P', n', rfl, h1, h2, h3, h4, h5⟩ := hp
          refine lv_aload_n hx hb d_SpectrumDeskModel_bigAdd_63 rfl (lv_at hl 1 rfl) ?_
          refine xr_get X I fin_M 183 (by decide) (r183 ..) rfl 2 (by decide) (List.mem_cons_of_mem _ k_7646d4378e) rfl (mF_minus hF) d_SpectrumDeskModel_bigAdd_64 ?_
          refine lv_iload_n hx hb d_SpectrumDeskModel_bigAdd_67 rfl (lv_at hl 2 rfl) ?_
          refine lv_iload hx hb d_SpectrumDeskModel_bigAdd_68 (lv_at hl 0 rfl) ?_
          refine xr_zast X I 186 2 (by decide) (r186 ..) rfl (by omega) (by decide) d_SpectrumDeskModel_bigAdd_70 (fun H locs I => ?_)
          rw [rw3_M, show vp_nar .boolean (nI 0) = nI 0 by decide] at I
          exact xr_vret X I hr hlk ⟨P', _, _, rfl, ⟨h2, fun j hj => upd_n hj, fun j hj => upd_n hj⟩, n', h1, upd_s, h3, h4, Or.inl ⟨upd_s, by omega⟩⟩ d_SpectrumDeskModel_bigAdd_71
        · have hge : ¬ rg P (300 * w) a - rg P (300 * u) b < 0 := fun h => hd (sg_neg.mpr h)
          refine lv_aload_n hx hb d_SpectrumDeskModel_bigAdd_46 rfl (lv_at hl 1 rfl) ?_
          refine lv_iload_n hx hb d_SpectrumDeskModel_bigAdd_47 rfl (lv_at hl 2 rfl) ?_
          refine lv_iload_n hx hb d_SpectrumDeskModel_bigAdd_48 rfl (lv_at hl 3 rfl) ?_
          refine lv_iconst (v := nI 0) hx hb d_SpectrumDeskModel_bigAdd_49 (by decide) ?_
          refine xr_callv (xr_runV (kc := 1) (kr := 2) (n := 3) (As := [.int (nI w), .int (nI u), .int (nI 0)]) (rest := []) X I (by decide) (r183 ..) rfl (c_SpectrumDeskModel_bigDiffer0 hF hw hu hne ha hb9 hLw hLu hwo huo hwt hut (by omega)) (xg k_72c7a99444) (List.mem_cons_of_mem _ k_6543122d39) (List.mem_cons_of_mem _ k_f670f9e174) (List.mem_cons_of_mem _ k_3e9fe204cb) (List.mem_cons_of_mem _ k_30fa15c9ac) (by decide +kernel) (by decide) rfl hl.1 rfl (Nat.le_of_ble_eq_true rfl) d_SpectrumDeskModel_bigAdd_50) I (fun σ1 H locs hp I => ?_)
          refine lv_goto hx hb d_SpectrumDeskModel_bigAdd_53 rfl ?_
          exact xr_vret X I hr hlk (rm_rb hp (Or.inr ⟨hmw, by omega⟩)) d_SpectrumDeskModel_bigAdd_71
      · exact absurd he (by decide)
    · exact absurd rfl hc
  · refine lv_aload_n hx hb d_SpectrumDeskModel_bigAdd_0 rfl (lv_at hl 0 rfl) ?_
    refine xr_get X I fin_M 183 (by decide) (r183 ..) rfl 2 (by decide) (List.mem_cons_of_mem _ k_7646d4378e) rfl (mF_minus hF) d_SpectrumDeskModel_bigAdd_1 ?_
    refine lv_iload_n hx hb d_SpectrumDeskModel_bigAdd_4 rfl (lv_at hl 2 rfl) ?_
    refine xr_zald X I 186 2 (by decide) (r186 ..) rfl (by omega) (by decide) d_SpectrumDeskModel_bigAdd_5 ?_
    refine xr_topi (y := nI 1) hmu ?_
    refine lv_iload_n hx hb d_SpectrumDeskModel_bigAdd_6 rfl (lv_at hl 3 rfl) ?_
    refine lv_icmp_eq hx hb d_SpectrumDeskModel_bigAdd_7 rfl (fun hc => ?_) (fun hc => ?_)
    · exact absurd hc (by decide)
    · refine lv_iconst (v := nI 1) hx hb d_SpectrumDeskModel_bigAdd_10 (by decide) ?_
      refine lv_goto hx hb d_SpectrumDeskModel_bigAdd_11 rfl ?_
      refine lv_istore (lv' := [(4, .int (nI 1)), (0, .ref (ad 183)), (1, .int (nI w)), (2, .int (nI u)), (3, .int (nI 0))]) hx hb d_SpectrumDeskModel_bigAdd_15 hl (by decide) rfl (fun ls hl => ?_)
      refine lv_aload_n hx hb d_SpectrumDeskModel_bigAdd_17 rfl (lv_at hl 1 rfl) ?_
      refine xr_get X I fin_M 183 (by decide) (r183 ..) rfl 2 (by decide) (List.mem_cons_of_mem _ k_7646d4378e) rfl (mF_minus hF) d_SpectrumDeskModel_bigAdd_18 ?_
      refine lv_iload_n hx hb d_SpectrumDeskModel_bigAdd_21 rfl (lv_at hl 2 rfl) ?_
      refine xr_zald X I 186 2 (by decide) (r186 ..) rfl (by omega) (by decide) d_SpectrumDeskModel_bigAdd_22 ?_
      refine xr_topi (y := nI 1) hmw ?_
      refine lv_iload hx hb d_SpectrumDeskModel_bigAdd_23 (lv_at hl 0 rfl) ?_
      refine lv_icmp_ne hx hb d_SpectrumDeskModel_bigAdd_25 rfl (fun he => ?_) (fun he => ?_)
      · exact absurd rfl he
      · refine lv_aload_n hx hb d_SpectrumDeskModel_bigAdd_28 rfl (lv_at hl 1 rfl) ?_
        refine lv_iload_n hx hb d_SpectrumDeskModel_bigAdd_29 rfl (lv_at hl 2 rfl) ?_
        refine lv_iload_n hx hb d_SpectrumDeskModel_bigAdd_30 rfl (lv_at hl 3 rfl) ?_
        refine xr_callv (xr_runV (kc := 1) (kr := 2) (n := 2) (As := [.int (nI w), .int (nI u)]) (rest := []) X I (by decide) (r183 ..) rfl (c_SpectrumDeskModel_bigMore hF hw hu hne ha hb9 hLw hLu hwo huo hwt hut) (xg k_ff14552d82) (List.mem_cons_of_mem _ k_72a62daed8) (List.mem_cons_of_mem _ k_4e1eb4d18f) (List.mem_cons_of_mem _ k_7fffc0722b) (List.mem_cons_of_mem _ k_30fa15c9ac) (by decide +kernel) (by decide) rfl hl.1 rfl (Nat.le_of_ble_eq_true rfl) d_SpectrumDeskModel_bigAdd_31) I (fun σ1 H locs hp I => ?_)
        refine lv_goto hx hb d_SpectrumDeskModel_bigAdd_34 rfl ?_
        exact xr_vret X I hr hlk (rm_rb hp (Or.inr ⟨hmw, by omega⟩)) d_SpectrumDeskModel_bigAdd_71
set_option maxHeartbeats 4000000 in
set_option maxRecDepth 100000 in
theorem c_SpectrumDeskModel_bigAdd1 {l : Launch} {D : va_G} {cI cJ cZ cC cG cP : ClassId} {ad : Nat → Nat} {σ0 : Nat → va_E} {fs : List Value} {P L M : Nat → Int32} {w u : Nat} {x y : Int} (hF : mF ad fs) (hw : w < 112) (hu : u < 112) (hne : u ≠ w) (hx0 : rb P L M w x) (hy0 : rb P L M u y) (hxb : rbd x) (hyb : rbd y) :
    Met l y_SpectrumDeskModel_bigAdd v_SpectrumDeskModel_bigAdd (xrm 2) (va_Pc [.ref (ad 183), .int (nI w), .int (nI u), .int (nI 1)] (xS D classes (xT cI cJ cZ cC cG cP) 193 ad (rw3 σ0 ciM cI cZ fs P L M))) (va_Qv (rb_up σ0 ciM cI cZ fs P L M w (x - y)) (xS D classes (xT cI cJ cZ cC cG cP) 193 ad) (xA 193 ad)) 0 0 (xA 193 ad) := by
  obtain ⟨a, a1, hLw, hwo, hwt, hsw⟩ := hx0
  obtain ⟨b, b1, hLu, huo, hut, hsu⟩ := hy0
  have hA := (rg_range hwo).1
  have hB := (rg_range huo).1
  have ha : a < 300 := by have := rb_len (k := 299) hwo hwt (show _ < rBB from by have h1 : -rBB < x := hxb.1; have h2 : x < rBB := hxb.2; omega); omega
  have hb9 : b < 300 := by have := rb_len (k := 299) huo hut (show _ < rBB from by have h1 : -rBB < y := hyb.1; have h2 : y < rBB := hyb.2; omega); omega
  refine xr_met rfl (Nat.le_of_ble_eq_true rfl) ?_
  intro p e s m args below meth c ls hx hb X hr hlk hl I
  have hl : lv_has ls 5 [(0, .ref (ad 183)), (1, .int (nI w)), (2, .int (nI u)), (3, .int (nI 1))] := hl
  rcases hsw with ⟨hmw, hxe⟩ | ⟨hmw, hxe⟩ <;> rcases hsu with ⟨hmu, hye⟩ | ⟨hmu, hye⟩
  · refine lv_aload_n hx hb d_SpectrumDeskModel_bigAdd_0 rfl (lv_at hl 0 rfl) ?_
    refine xr_get X I fin_M 183 (by decide) (r183 ..) rfl 2 (by decide) (List.mem_cons_of_mem _ k_7646d4378e) rfl (mF_minus hF) d_SpectrumDeskModel_bigAdd_1 ?_
    refine lv_iload_n hx hb d_SpectrumDeskModel_bigAdd_4 rfl (lv_at hl 2 rfl) ?_
    refine xr_zald X I 186 2 (by decide) (r186 ..) rfl (by omega) (by decide) d_SpectrumDeskModel_bigAdd_5 ?_
    refine xr_topi (y := nI 0) hmu ?_
    refine lv_iload_n hx hb d_SpectrumDeskModel_bigAdd_6 rfl (lv_at hl 3 rfl) ?_
    refine lv_icmp_eq hx hb d_SpectrumDeskModel_bigAdd_7 rfl (fun hc => ?_) (fun hc => ?_)
    · exact absurd hc (by decide)
    · refine lv_iconst (v := nI 1) hx hb d_SpectrumDeskModel_bigAdd_10 (by decide) ?_
      refine lv_goto hx hb d_SpectrumDeskModel_bigAdd_11 rfl ?_
      refine lv_istore (lv' := [(4, .int (nI 1)), (0, .ref (ad 183)), (1, .int (nI w)), (2, .int (nI u)), (3, .int (nI 1))]) hx hb d_SpectrumDeskModel_bigAdd_15 hl (by decide) rfl (fun ls hl => ?_)
      refine lv_aload_n hx hb d_SpectrumDeskModel_bigAdd_17 rfl (lv_at hl 1 rfl) ?_
      refine xr_get X I fin_M 183 (by decide) (r183 ..) rfl 2 (by decide) (List.mem_cons_of_mem _ k_7646d4378e) rfl (mF_minus hF) d_SpectrumDeskModel_bigAdd_18 ?_
      refine lv_iload_n hx hb d_SpectrumDeskModel_bigAdd_21 rfl (lv_at hl 2 rfl) ?_
      refine xr_zald X I 186 2 (by decide) (r186 ..) rfl (by omega) (by decide) d_SpectrumDeskModel_bigAdd_22 ?_
      refine xr_topi (y := nI 0) hmw ?_
      refine lv_iload hx hb d_SpectrumDeskModel_bigAdd_23 (lv_at hl 0 rfl) ?_
      refine lv_icmp_ne hx hb d_SpectrumDeskModel_bigAdd_25 rfl (fun he => ?_) (fun he => ?_)
      · refine lv_aload_n hx hb d_SpectrumDeskModel_bigAdd_37 rfl (lv_at hl 1 rfl) ?_
        refine lv_iload_n hx hb d_SpectrumDeskModel_bigAdd_38 rfl (lv_at hl 2 rfl) ?_
        refine lv_iload_n hx hb d_SpectrumDeskModel_bigAdd_39 rfl (lv_at hl 3 rfl) ?_
        refine xr_calli (xr_runV (kc := 1) (kr := 2) (n := 2) (As := [.int (nI w), .int (nI u)]) (rest := []) X I (by decide) (r183 ..) rfl (c_SpectrumDeskModel_bigSizes hF hw hu hne ha hb9 hLw hLu hwo huo hwt hut) (xg k_99203b0091) (List.mem_cons_of_mem _ k_c0032b460a) (List.mem_cons_of_mem _ k_cf2ddaaf03) (List.mem_cons_of_mem _ k_af57503f5d) (List.mem_cons_of_mem _ k_30fa15c9ac) (by decide +kernel) (by decide) rfl hl.1 rfl (Nat.le_of_ble_eq_true rfl) d_SpectrumDeskModel_bigAdd_40) I (fun r1 σ1 H locs hp I => ?_)
        obtain ⟨rfl, rfl⟩ := hp
        refine lv_if_lt hx hb d_SpectrumDeskModel_bigAdd_43 rfl (fun hd => ?_) (fun hd => ?_)
        · have hlt := sg_neg.mp hd
          refine lv_aload_n hx hb d_SpectrumDeskModel_bigAdd_56 rfl (lv_at hl 1 rfl) ?_
          refine lv_iload_n hx hb d_SpectrumDeskModel_bigAdd_57 rfl (lv_at hl 2 rfl) ?_
          refine lv_iload_n hx hb d_SpectrumDeskModel_bigAdd_58 rfl (lv_at hl 3 rfl) ?_
          refine lv_iconst (v := nI 1) hx hb d_SpectrumDeskModel_bigAdd_59 (by decide) ?_
          refine xr_callv (xr_runV (kc := 1) (kr := 2) (n := 3) (As := [.int (nI w), .int (nI u), .int (nI 1)]) (rest := []) X I (by decide) (r183 ..) rfl (c_SpectrumDeskModel_bigDiffer1 hF hw hu hne ha hb9 hLw hLu hwo huo hwt hut (by omega)) (xg k_72c7a99444) (List.mem_cons_of_mem _ k_6543122d39) (List.mem_cons_of_mem _ k_f670f9e174) (List.mem_cons_of_mem _ k_3e9fe204cb) (List.mem_cons_of_mem _ k_30fa15c9ac) (by decide +kernel) (by decide) rfl hl.1 rfl (Nat.le_of_ble_eq_true rfl) d_SpectrumDeskModel_bigAdd_60) I (fun σ1 H locs hp I => ?_)
          obtain ⟨P', n', rfl, h1, h2, h3, h4, h5⟩ := hp
          refine lv_aload_n hx hb d_SpectrumDeskModel_bigAdd_63 rfl (lv_at hl 1 rfl) ?_
          refine xr_get X I fin_M 183 (by decide) (r183 ..) rfl 2 (by decide) (List.mem_cons_of_mem _ k_7646d4378e) rfl (mF_minus hF) d_SpectrumDeskModel_bigAdd_64 ?_
          refine lv_iload_n hx hb d_SpectrumDeskModel_bigAdd_67 rfl (lv_at hl 2 rfl) ?_
          refine lv_iload hx hb d_SpectrumDeskModel_bigAdd_68 (lv_at hl 0 rfl) ?_
          refine xr_zast X I 186 2 (by decide) (r186 ..) rfl (by omega) (by decide) d_SpectrumDeskModel_bigAdd_70 (fun H locs I => ?_)
          rw [rw3_M, show vp_nar .boolean (nI 1) = nI 1 by decide] at I
          exact xr_vret X I hr hlk ⟨P', _, _, rfl, ⟨h2, fun j hj => upd_n hj, fun j hj => upd_n hj⟩, n', h1, upd_s, h3, h4, Or.inr ⟨upd_s, by omega⟩⟩ d_SpectrumDeskModel_bigAdd_71
        · have hge : ¬ rg P (300 * w) a - rg P (300 * u) b < 0 := fun h => hd (sg_neg.mpr h)
          refine lv_aload_n hx hb d_SpectrumDeskModel_bigAdd_46 rfl (lv_at hl 1 rfl) ?_
          refine lv_iload_n hx hb d_SpectrumDeskModel_bigAdd_47 rfl (lv_at hl 2 rfl) ?_
          refine lv_iload_n hx hb d_SpectrumDeskModel_bigAdd_48 rfl (lv_at hl 3 rfl) ?_
          refine lv_iconst (v := nI 0) hx hb d_SpectrumDeskModel_bigAdd_49 (by decide) ?_
          refine xr_callv (xr_runV (kc := 1) (kr := 2) (n := 3) (As := [.int (nI w), .int (nI u), .int (nI 0)]) (rest := []) X I (by decide) (r183 ..) rfl (c_SpectrumDeskModel_bigDiffer0 hF hw hu hne ha hb9 hLw hLu hwo huo hwt hut (by omega)) (xg k_72c7a99444) (List.mem_cons_of_mem _ k_6543122d39) (List.mem_cons_of_mem _ k_f670f9e174) (List.mem_cons_of_mem _ k_3e9fe204cb) (List.mem_cons_of_mem _ k_30fa15c9ac) (by decide +kernel) (by decide) rfl hl.1 rfl (Nat.le_of_ble_eq_true rfl) d_SpectrumDeskModel_bigAdd_50) I (fun σ1 H locs hp I => ?_)
          refine lv_goto hx hb d_SpectrumDeskModel_bigAdd_53 rfl ?_
          exact xr_vret X I hr hlk (rm_rb hp (Or.inl ⟨hmw, by omega⟩)) d_SpectrumDeskModel_bigAdd_71
      · exact absurd he (by decide)
  · refine lv_aload_n hx hb d_SpectrumDeskModel_bigAdd_0 rfl (lv_at hl 0 rfl) ?_
    refine xr_get X I fin_M 183 (by decide) (r183 ..) rfl 2 (by decide) (List.mem_cons_of_mem _ k_7646d4378e) rfl (mF_minus hF) d_SpectrumDeskModel_bigAdd_1 ?_
    refine lv_iload_n hx hb d_SpectrumDeskModel_bigAdd_4 rfl (lv_at hl 2 rfl) ?_
    refine xr_zald X I 186 2 (by decide) (r186 ..) rfl (by omega) (by decide) d_SpectrumDeskModel_bigAdd_5 ?_
    refine xr_topi (y := nI 1) hmu ?_
    refine lv_iload_n hx hb d_SpectrumDeskModel_bigAdd_6 rfl (lv_at hl 3 rfl) ?_
    refine lv_icmp_eq hx hb d_SpectrumDeskModel_bigAdd_7 rfl (fun hc => ?_) (fun hc => ?_)
    · refine lv_iconst (v := nI 0) hx hb d_SpectrumDeskModel_bigAdd_14 (by decide) ?_
      refine lv_istore (lv' := [(4, .int (nI 0)), (0, .ref (ad 183)), (1, .int (nI w)), (2, .int (nI u)), (3, .int (nI 1))]) hx hb d_SpectrumDeskModel_bigAdd_15 hl (by decide) rfl (fun ls hl => ?_)
      refine lv_aload_n hx hb d_SpectrumDeskModel_bigAdd_17 rfl (lv_at hl 1 rfl) ?_
      refine xr_get X I fin_M 183 (by decide) (r183 ..) rfl 2 (by decide) (List.mem_cons_of_mem _ k_7646d4378e) rfl (mF_minus hF) d_SpectrumDeskModel_bigAdd_18 ?_
      refine lv_iload_n hx hb d_SpectrumDeskModel_bigAdd_21 rfl (lv_at hl 2 rfl) ?_
      refine xr_zald X I 186 2 (by decide) (r186 ..) rfl (by omega) (by decide) d_SpectrumDeskModel_bigAdd_22 ?_
      refine xr_topi (y := nI 0) hmw ?_
      refine lv_iload hx hb d_SpectrumDeskModel_bigAdd_23 (lv_at hl 0 rfl) ?_
      refine lv_icmp_ne hx hb d_SpectrumDeskModel_bigAdd_25 rfl (fun he => ?_) (fun he => ?_)
      · exact absurd rfl he
      · refine lv_aload_n hx hb d_SpectrumDeskModel_bigAdd_28 rfl (lv_at hl 1 rfl) ?_
        refine lv_iload_n hx hb d_SpectrumDeskModel_bigAdd_29 rfl (lv_at hl 2 rfl) ?_
        refine lv_iload_n hx hb d_SpectrumDeskModel_bigAdd_30 rfl (lv_at hl 3 rfl) ?_
        refine xr_callv (xr_runV (kc := 1) (kr := 2) (n := 2) (As := [.int (nI w), .int (nI u)]) (rest := []) X I (by decide) (r183 ..) rfl (c_SpectrumDeskModel_bigMore hF hw hu hne ha hb9 hLw hLu hwo huo hwt hut) (xg k_ff14552d82) (List.mem_cons_of_mem _ k_72a62daed8) (List.mem_cons_of_mem _ k_4e1eb4d18f) (List.mem_cons_of_mem _ k_7fffc0722b) (List.mem_cons_of_mem _ k_30fa15c9ac) (by decide +kernel) (by decide) rfl hl.1 rfl (Nat.le_of_ble_eq_true rfl) d_SpectrumDeskModel_bigAdd_31) I (fun σ1 H locs hp I => ?_)
        refine lv_goto hx hb d_SpectrumDeskModel_bigAdd_34 rfl ?_
        exact xr_vret X I hr hlk (rm_rb hp (Or.inl ⟨hmw, by omega⟩)) d_SpectrumDeskModel_bigAdd_71
    · exact absurd rfl hc
  · refine lv_aload_n hx hb d_SpectrumDeskModel_bigAdd_0 rfl (lv_at hl 0 rfl) ?_
    refine xr_get X I fin_M 183 (by decide) (r183 ..) rfl 2 (by decide) (List.mem_cons_of_mem _ k_7646d4378e) rfl (mF_minus hF) d_SpectrumDeskModel_bigAdd_1 ?_
    refine lv_iload_n hx hb d_SpectrumDeskModel_bigAdd_4 rfl (lv_at hl 2 rfl) ?_
    refine xr_zald X I 186 2 (by decide) (r186 ..) rfl (by omega) (by decide) d_SpectrumDeskModel_bigAdd_5 ?_
    refine xr_topi (y := nI 0) hmu ?_
    refine lv_iload_n hx hb d_SpectrumDeskModel_bigAdd_6 rfl (lv_at hl 3 rfl) ?_
    refine lv_icmp_eq hx hb d_SpectrumDeskModel_bigAdd_7 rfl (fun hc => ?_) (fun hc => ?_)
    · exact absurd hc (by decide)
    · refine lv_iconst (v := nI 1) hx hb d_SpectrumDeskModel_bigAdd_10 (by decide) ?_
      refine lv_goto hx hb d_SpectrumDeskModel_bigAdd_11 rfl ?_
      refine lv_istore (lv' := [(4, .int (nI 1)), (0, .ref (ad 183)), (1, .int (nI w)), (2, .int (nI u)), (3, .int (nI 1))]) hx hb d_SpectrumDeskModel_bigAdd_15 hl (by decide) rfl (fun ls hl => ?_)
      refine lv_aload_n hx hb d_SpectrumDeskModel_bigAdd_17 rfl (lv_at hl 1 rfl) ?_
      refine xr_get X I fin_M 183 (by decide) (r183 ..) rfl 2 (by decide) (List.mem_cons_of_mem _ k_7646d4378e) rfl (mF_minus hF) d_SpectrumDeskModel_bigAdd_18 ?_
      refine lv_iload_n hx hb d_SpectrumDeskModel_bigAdd_21 rfl (lv_at hl 2 rfl) ?_
      refine xr_zald X I 186 2 (by decide) (r186 ..) rfl (by omega) (by decide) d_SpectrumDeskModel_bigAdd_22 ?_
      refine xr_topi (y := nI 1) hmw ?_
      refine lv_iload hx hb d_SpectrumDeskModel_bigAdd_23 (lv_at hl 0 rfl) ?_
      refine lv_icmp_ne hx hb d_SpectrumDeskModel_bigAdd_25 rfl (fun he => ?_) (fun he => ?_)
      · exact absurd rfl he
      · refine lv_aload_n hx hb d_SpectrumDeskModel_bigAdd_28 rfl (lv_at hl 1 rfl) ?_
        refine lv_iload_n hx hb d_SpectrumDeskModel_bigAdd_29 rfl (lv_at hl 2 rfl) ?_
        refine lv_iload_n hx hb d_SpectrumDeskModel_bigAdd_30 rfl (lv_at hl 3 rfl) ?_
        refine xr_callv (xr_runV (kc := 1) (kr := 2) (n := 2) (As := [.int (nI w), .int (nI u)]) (rest := []) X I (by decide) (r183 ..) rfl (c_SpectrumDeskModel_bigMore hF hw hu hne ha hb9 hLw hLu hwo huo hwt hut) (xg k_ff14552d82) (List.mem_cons_of_mem _ k_72a62daed8) (List.mem_cons_of_mem _ k_4e1eb4d18f) (List.mem_cons_of_mem _ k_7fffc0722b) (List.mem_cons_of_mem _ k_30fa15c9ac) (by decide +kernel) (by decide) rfl hl.1 rfl (Nat.le_of_ble_eq_true rfl) d_SpectrumDeskModel_bigAdd_31) I (fun σ1 H locs hp I => ?_)
        refine lv_goto hx hb d_SpectrumDeskModel_bigAdd_34 rfl ?_
        exact xr_vret X I hr hlk (rm_rb hp (Or.inr ⟨hmw, by omega⟩)) d_SpectrumDeskModel_bigAdd_71
  · refine lv_aload_n hx hb d_SpectrumDeskModel_bigAdd_0 rfl (lv_at hl 0 rfl) ?_
    refine xr_get X I fin_M 183 (by decide) (r183 ..) rfl 2 (by decide) (List.mem_cons_of_mem _ k_7646d4378e) rfl (mF_minus hF) d_SpectrumDeskModel_bigAdd_1 ?_
    refine lv_iload_n hx hb d_SpectrumDeskModel_bigAdd_4 rfl (lv_at hl 2 rfl) ?_
    refine xr_zald X I 186 2 (by decide) (r186 ..) rfl (by omega) (by decide) d_SpectrumDeskModel_bigAdd_5 ?_
    refine xr_topi (y := nI 1) hmu ?_
    refine lv_iload_n hx hb d_SpectrumDeskModel_bigAdd_6 rfl (lv_at hl 3 rfl) ?_
    refine lv_icmp_eq hx hb d_SpectrumDeskModel_bigAdd_7 rfl (fun hc => ?_) (fun hc => ?_)
    · refine lv_iconst (v := nI 0) hx hb d_SpectrumDeskModel_bigAdd_14 (by decide) ?_
      refine lv_istore (lv' := [(4, .int (nI 0)), (0, .ref (ad 183)), (1, .int (nI w)), (2, .int (nI u)), (3, .int (nI 1))]) hx hb d_SpectrumDeskModel_bigAdd_15 hl (by decide) rfl (fun ls hl => ?_)
      refine lv_aload_n hx hb d_SpectrumDeskModel_bigAdd_17 rfl (lv_at hl 1 rfl) ?_
      refine xr_get X I fin_M 183 (by decide) (r183 ..) rfl 2 (by decide) (List.mem_cons_of_mem _ k_7646d4378e) rfl (mF_minus hF) d_SpectrumDeskModel_bigAdd_18 ?_
      refine lv_iload_n hx hb d_SpectrumDeskModel_bigAdd_21 rfl (lv_at hl 2 rfl) ?_
      refine xr_zald X I 186 2 (by decide) (r186 ..) rfl (by omega) (by decide) d_SpectrumDeskModel_bigAdd_22 ?_
      refine xr_topi (y := nI 1) hmw ?_
      refine lv_iload hx hb d_SpectrumDeskModel_bigAdd_23 (lv_at hl 0 rfl) ?_
      refine lv_icmp_ne hx hb d_SpectrumDeskModel_bigAdd_25 rfl (fun he => ?_) (fun he => ?_)
      · refine lv_aload_n hx hb d_SpectrumDeskModel_bigAdd_37 rfl (lv_at hl 1 rfl) ?_
        refine lv_iload_n hx hb d_SpectrumDeskModel_bigAdd_38 rfl (lv_at hl 2 rfl) ?_
        refine lv_iload_n hx hb d_SpectrumDeskModel_bigAdd_39 rfl (lv_at hl 3 rfl) ?_
        refine xr_calli (xr_runV (kc := 1) (kr := 2) (n := 2) (As := [.int (nI w), .int (nI u)]) (rest := []) X I (by decide) (r183 ..) rfl (c_SpectrumDeskModel_bigSizes hF hw hu hne ha hb9 hLw hLu hwo huo hwt hut) (xg k_99203b0091) (List.mem_cons_of_mem _ k_c0032b460a) (List.mem_cons_of_mem _ k_cf2ddaaf03) (List.mem_cons_of_mem _ k_af57503f5d) (List.mem_cons_of_mem _ k_30fa15c9ac) (by decide +kernel) (by decide) rfl hl.1 rfl (Nat.le_of_ble_eq_true rfl) d_SpectrumDeskModel_bigAdd_40) I (fun r1 σ1 H locs hp I => ?_)
        obtain ⟨rfl, rfl⟩ := hp
        refine lv_if_lt hx hb d_SpectrumDeskModel_bigAdd_43 rfl (fun hd => ?_) (fun hd => ?_)
        · have hlt := sg_neg.mp hd
          refine lv_aload_n hx hb d_SpectrumDeskModel_bigAdd_56 rfl (lv_at hl 1 rfl) ?_
          refine lv_iload_n hx hb d_SpectrumDeskModel_bigAdd_57 rfl (lv_at hl 2 rfl) ?_
          refine lv_iload_n hx hb d_SpectrumDeskModel_bigAdd_58 rfl (lv_at hl 3 rfl) ?_
          refine lv_iconst (v := nI 1) hx hb d_SpectrumDeskModel_bigAdd_59 (by decide) ?_
          refine xr_callv (xr_runV (kc := 1) (kr := 2) (n := 3) (As := [.int (nI w), .int (nI u), .int (nI 1)]) (rest := []) X I (by decide) (r183 ..) rfl (c_SpectrumDeskModel_bigDiffer1 hF hw hu hne ha hb9 hLw hLu hwo huo hwt hut (by omega)) (xg k_72c7a99444) (List.mem_cons_of_mem _ k_6543122d39) (List.mem_cons_of_mem _ k_f670f9e174) (List.mem_cons_of_mem _ k_3e9fe204cb) (List.mem_cons_of_mem _ k_30fa15c9ac) (by decide +kernel) (by decide) rfl hl.1 rfl (Nat.le_of_ble_eq_true rfl) d_SpectrumDeskModel_bigAdd_60) I (fun σ1 H locs hp I => ?_)
          obtain ⟨P', n', rfl, h1, h2, h3, h4, h5⟩ := hp
          refine lv_aload_n hx hb d_SpectrumDeskModel_bigAdd_63 rfl (lv_at hl 1 rfl) ?_
          refine xr_get X I fin_M 183 (by decide) (r183 ..) rfl 2 (by decide) (List.mem_cons_of_mem _ k_7646d4378e) rfl (mF_minus hF) d_SpectrumDeskModel_bigAdd_64 ?_
          refine lv_iload_n hx hb d_SpectrumDeskModel_bigAdd_67 rfl (lv_at hl 2 rfl) ?_
          refine lv_iload hx hb d_SpectrumDeskModel_bigAdd_68 (lv_at hl 0 rfl) ?_
          refine xr_zast X I 186 2 (by decide) (r186 ..) rfl (by omega) (by decide) d_SpectrumDeskModel_bigAdd_70 (fun H locs I => ?_)
          rw [rw3_M, show vp_nar .boolean (nI 0) = nI 0 by decide] at I
          exact xr_vret X I hr hlk ⟨P', _, _, rfl, ⟨h2, fun j hj => upd_n hj, fun j hj => upd_n hj⟩, n', h1, upd_s, h3, h4, Or.inl ⟨upd_s, by omega⟩⟩ d_SpectrumDeskModel_bigAdd_71
        · have hge : ¬ rg P (300 * w) a - rg P (300 * u) b < 0 := fun h => hd (sg_neg.mpr h)
          refine lv_aload_n hx hb d_SpectrumDeskModel_bigAdd_46 rfl (lv_at hl 1 rfl) ?_
          refine lv_iload_n hx hb d_SpectrumDeskModel_bigAdd_47 rfl (lv_at hl 2 rfl) ?_
          refine lv_iload_n hx hb d_SpectrumDeskModel_bigAdd_48 rfl (lv_at hl 3 rfl) ?_
          refine lv_iconst (v := nI 0) hx hb d_SpectrumDeskModel_bigAdd_49 (by decide) ?_
          refine xr_callv (xr_runV (kc := 1) (kr := 2) (n := 3) (As := [.int (nI w), .int (nI u), .int (nI 0)]) (rest := []) X I (by decide) (r183 ..) rfl (c_SpectrumDeskModel_bigDiffer0 hF hw hu hne ha hb9 hLw hLu hwo huo hwt hut (by omega)) (xg k_72c7a99444) (List.mem_cons_of_mem _ k_6543122d39) (List.mem_cons_of_mem _ k_f670f9e174) (List.mem_cons_of_mem _ k_3e9fe204cb) (List.mem_cons_of_mem _ k_30fa15c9ac) (by decide +kernel) (by decide) rfl hl.1 rfl (Nat.le_of_ble_eq_true rfl) d_SpectrumDeskModel_bigAdd_50) I (fun σ1 H locs hp I => ?_)
          refine lv_goto hx hb d_SpectrumDeskModel_bigAdd_53 rfl ?_
          exact xr_vret X I hr hlk (rm_rb hp (Or.inr ⟨hmw, by omega⟩)) d_SpectrumDeskModel_bigAdd_71
      · exact absurd he (by decide)
    · exact absurd rfl hc
