/-! SpectrumDesk$Polynomial.loadDerivative; SpectrumDesk$Euclid: limbsNeeded, cancelFirst, divideAll, reduce (written by wip/gen) -/
abbrev b_Polynomial_loadDerivative : ByteArray := prog_5_method_3_code
abbrev y_Polynomial_loadDerivative : MethodName := ⟨"SpectrumDesk$Polynomial", "loadDerivative", "(LSpectrumDesk$Polynomial;I)V"⟩
abbrev v_Polynomial_loadDerivative : List Cond := Cond.code y_Polynomial_loadDerivative b_Polynomial_loadDerivative 4 none :: AW
theorem d_Polynomial_loadDerivative_0 : decode b_Polynomial_loadDerivative 0 = .ok (.aload_n 0, 1) := by decide +kernel
theorem d_Polynomial_loadDerivative_1 : decode b_Polynomial_loadDerivative 1 = .ok (.iload_n 2, 1) := by decide +kernel
theorem d_Polynomial_loadDerivative_2 : decode b_Polynomial_loadDerivative 2 = .ok (.putfield 20, 3) := by decide +kernel
theorem d_Polynomial_loadDerivative_5 : decode b_Polynomial_loadDerivative 5 = .ok (.aload_n 0, 1) := by decide +kernel
theorem d_Polynomial_loadDerivative_6 : decode b_Polynomial_loadDerivative 6 = .ok (.aload_n 1, 1) := by decide +kernel
theorem d_Polynomial_loadDerivative_7 : decode b_Polynomial_loadDerivative 7 = .ok (.getfield 24, 3) := by decide +kernel
theorem d_Polynomial_loadDerivative_10 : decode b_Polynomial_loadDerivative 10 = .ok (.iconst 1, 1) := by decide +kernel
theorem d_Polynomial_loadDerivative_11 : decode b_Polynomial_loadDerivative 11 = .ok (.isub, 1) := by decide +kernel
theorem d_Polynomial_loadDerivative_12 : decode b_Polynomial_loadDerivative 12 = .ok (.putfield 24, 3) := by decide +kernel
theorem d_Polynomial_loadDerivative_15 : decode b_Polynomial_loadDerivative 15 = .ok (.iconst 0, 1) := by decide +kernel
theorem d_Polynomial_loadDerivative_16 : decode b_Polynomial_loadDerivative 16 = .ok (.istore_n 3, 1) := by decide +kernel
theorem d_Polynomial_loadDerivative_17 : decode b_Polynomial_loadDerivative 17 = .ok (.iload_n 3, 1) := by decide +kernel
theorem d_Polynomial_loadDerivative_18 : decode b_Polynomial_loadDerivative 18 = .ok (.aload_n 0, 1) := by decide +kernel
theorem d_Polynomial_loadDerivative_19 : decode b_Polynomial_loadDerivative 19 = .ok (.getfield 24, 3) := by decide +kernel
theorem d_Polynomial_loadDerivative_22 : decode b_Polynomial_loadDerivative 22 = .ok (.if_icmp .gt (60), 3) := by decide +kernel
theorem d_Polynomial_loadDerivative_25 : decode b_Polynomial_loadDerivative 25 = .ok (.aload_n 0, 1) := by decide +kernel
theorem d_Polynomial_loadDerivative_26 : decode b_Polynomial_loadDerivative 26 = .ok (.getfield 16, 3) := by decide +kernel
theorem d_Polynomial_loadDerivative_29 : decode b_Polynomial_loadDerivative 29 = .ok (.iload_n 2, 1) := by decide +kernel
theorem d_Polynomial_loadDerivative_30 : decode b_Polynomial_loadDerivative 30 = .ok (.aload_n 1, 1) := by decide +kernel
theorem d_Polynomial_loadDerivative_31 : decode b_Polynomial_loadDerivative 31 = .ok (.getfield 11, 3) := by decide +kernel
theorem d_Polynomial_loadDerivative_34 : decode b_Polynomial_loadDerivative 34 = .ok (.iload_n 3, 1) := by decide +kernel
theorem d_Polynomial_loadDerivative_35 : decode b_Polynomial_loadDerivative 35 = .ok (.iconst 1, 1) := by decide +kernel
theorem d_Polynomial_loadDerivative_36 : decode b_Polynomial_loadDerivative 36 = .ok (.iadd, 1) := by decide +kernel
theorem d_Polynomial_loadDerivative_37 : decode b_Polynomial_loadDerivative 37 = .ok (.aaload, 1) := by decide +kernel
theorem d_Polynomial_loadDerivative_38 : decode b_Polynomial_loadDerivative 38 = .ok (.aload_n 1, 1) := by decide +kernel
theorem d_Polynomial_loadDerivative_39 : decode b_Polynomial_loadDerivative 39 = .ok (.getfield 20, 3) := by decide +kernel
theorem d_Polynomial_loadDerivative_42 : decode b_Polynomial_loadDerivative 42 = .ok (.invokestatic 27, 3) := by decide +kernel
theorem d_Polynomial_loadDerivative_45 : decode b_Polynomial_loadDerivative 45 = .ok (.aload_n 0, 1) := by decide +kernel
theorem d_Polynomial_loadDerivative_46 : decode b_Polynomial_loadDerivative 46 = .ok (.getfield 11, 3) := by decide +kernel
theorem d_Polynomial_loadDerivative_49 : decode b_Polynomial_loadDerivative 49 = .ok (.iload_n 3, 1) := by decide +kernel
theorem d_Polynomial_loadDerivative_50 : decode b_Polynomial_loadDerivative 50 = .ok (.aaload, 1) := by decide +kernel
theorem d_Polynomial_loadDerivative_51 : decode b_Polynomial_loadDerivative 51 = .ok (.iconst 0, 1) := by decide +kernel
theorem d_Polynomial_loadDerivative_52 : decode b_Polynomial_loadDerivative 52 = .ok (.iload_n 2, 1) := by decide +kernel
theorem d_Polynomial_loadDerivative_53 : decode b_Polynomial_loadDerivative 53 = .ok (.iconst 0, 1) := by decide +kernel
theorem d_Polynomial_loadDerivative_54 : decode b_Polynomial_loadDerivative 54 = .ok (.invokestatic 33, 3) := by decide +kernel
theorem d_Polynomial_loadDerivative_57 : decode b_Polynomial_loadDerivative 57 = .ok (.aload_n 0, 1) := by decide +kernel
theorem d_Polynomial_loadDerivative_58 : decode b_Polynomial_loadDerivative 58 = .ok (.getfield 11, 3) := by decide +kernel
theorem d_Polynomial_loadDerivative_61 : decode b_Polynomial_loadDerivative 61 = .ok (.iload_n 3, 1) := by decide +kernel
theorem d_Polynomial_loadDerivative_62 : decode b_Polynomial_loadDerivative 62 = .ok (.aaload, 1) := by decide +kernel
theorem d_Polynomial_loadDerivative_63 : decode b_Polynomial_loadDerivative 63 = .ok (.aload_n 0, 1) := by decide +kernel
theorem d_Polynomial_loadDerivative_64 : decode b_Polynomial_loadDerivative 64 = .ok (.getfield 16, 3) := by decide +kernel
theorem d_Polynomial_loadDerivative_67 : decode b_Polynomial_loadDerivative 67 = .ok (.iload_n 3, 1) := by decide +kernel
theorem d_Polynomial_loadDerivative_68 : decode b_Polynomial_loadDerivative 68 = .ok (.iconst 1, 1) := by decide +kernel
theorem d_Polynomial_loadDerivative_69 : decode b_Polynomial_loadDerivative 69 = .ok (.iadd, 1) := by decide +kernel
theorem d_Polynomial_loadDerivative_70 : decode b_Polynomial_loadDerivative 70 = .ok (.i2l, 1) := by decide +kernel
theorem d_Polynomial_loadDerivative_71 : decode b_Polynomial_loadDerivative 71 = .ok (.iconst 0, 1) := by decide +kernel
theorem d_Polynomial_loadDerivative_72 : decode b_Polynomial_loadDerivative 72 = .ok (.iload_n 2, 1) := by decide +kernel
theorem d_Polynomial_loadDerivative_73 : decode b_Polynomial_loadDerivative 73 = .ok (.invokestatic 39, 3) := by decide +kernel
theorem d_Polynomial_loadDerivative_76 : decode b_Polynomial_loadDerivative 76 = .ok (.iinc 3 (1), 3) := by decide +kernel
theorem d_Polynomial_loadDerivative_79 : decode b_Polynomial_loadDerivative 79 = .ok (.goto (-62), 3) := by decide +kernel
theorem d_Polynomial_loadDerivative_82 : decode b_Polynomial_loadDerivative 82 = .ok (.return_, 1) := by decide +kernel
abbrev b_Euclid_limbsNeeded : ByteArray := prog_3_method_3_code
abbrev y_Euclid_limbsNeeded : MethodName := ⟨"SpectrumDesk$Euclid", "limbsNeeded", "(II)I"⟩
abbrev v_Euclid_limbsNeeded : List Cond := Cond.code y_Euclid_limbsNeeded b_Euclid_limbsNeeded 3 (some .int) :: AW
theorem d_Euclid_limbsNeeded_0 : decode b_Euclid_limbsNeeded 0 = .ok (.iload_n 0, 1) := by decide +kernel
theorem d_Euclid_limbsNeeded_1 : decode b_Euclid_limbsNeeded 1 = .ok (.iload_n 0, 1) := by decide +kernel
theorem d_Euclid_limbsNeeded_2 : decode b_Euclid_limbsNeeded 2 = .ok (.iconst 1, 1) := by decide +kernel
theorem d_Euclid_limbsNeeded_3 : decode b_Euclid_limbsNeeded 3 = .ok (.isub, 1) := by decide +kernel
theorem d_Euclid_limbsNeeded_4 : decode b_Euclid_limbsNeeded 4 = .ok (.imul, 1) := by decide +kernel
theorem d_Euclid_limbsNeeded_5 : decode b_Euclid_limbsNeeded 5 = .ok (.iconst 2, 1) := by decide +kernel
theorem d_Euclid_limbsNeeded_6 : decode b_Euclid_limbsNeeded 6 = .ok (.iload_n 0, 1) := by decide +kernel
theorem d_Euclid_limbsNeeded_7 : decode b_Euclid_limbsNeeded 7 = .ok (.iconst 2, 1) := by decide +kernel
theorem d_Euclid_limbsNeeded_8 : decode b_Euclid_limbsNeeded 8 = .ok (.isub, 1) := by decide +kernel
theorem d_Euclid_limbsNeeded_9 : decode b_Euclid_limbsNeeded 9 = .ok (.imul, 1) := by decide +kernel
theorem d_Euclid_limbsNeeded_10 : decode b_Euclid_limbsNeeded 10 = .ok (.iload_n 0, 1) := by decide +kernel
theorem d_Euclid_limbsNeeded_11 : decode b_Euclid_limbsNeeded 11 = .ok (.iconst 3, 1) := by decide +kernel
theorem d_Euclid_limbsNeeded_12 : decode b_Euclid_limbsNeeded 12 = .ok (.isub, 1) := by decide +kernel
theorem d_Euclid_limbsNeeded_13 : decode b_Euclid_limbsNeeded 13 = .ok (.imul, 1) := by decide +kernel
theorem d_Euclid_limbsNeeded_14 : decode b_Euclid_limbsNeeded 14 = .ok (.iadd, 1) := by decide +kernel
theorem d_Euclid_limbsNeeded_15 : decode b_Euclid_limbsNeeded 15 = .ok (.istore_n 2, 1) := by decide +kernel
theorem d_Euclid_limbsNeeded_16 : decode b_Euclid_limbsNeeded 16 = .ok (.iload_n 2, 1) := by decide +kernel
theorem d_Euclid_limbsNeeded_17 : decode b_Euclid_limbsNeeded 17 = .ok (.iconst 2, 1) := by decide +kernel
theorem d_Euclid_limbsNeeded_18 : decode b_Euclid_limbsNeeded 18 = .ok (.iload_n 1, 1) := by decide +kernel
theorem d_Euclid_limbsNeeded_19 : decode b_Euclid_limbsNeeded 19 = .ok (.imul, 1) := by decide +kernel
theorem d_Euclid_limbsNeeded_20 : decode b_Euclid_limbsNeeded 20 = .ok (.i2l, 1) := by decide +kernel
theorem d_Euclid_limbsNeeded_21 : decode b_Euclid_limbsNeeded 21 = .ok (.invokestatic 64, 3) := by decide +kernel
theorem d_Euclid_limbsNeeded_24 : decode b_Euclid_limbsNeeded 24 = .ok (.imul, 1) := by decide +kernel
theorem d_Euclid_limbsNeeded_25 : decode b_Euclid_limbsNeeded 25 = .ok (.bipush (24), 2) := by decide +kernel
theorem d_Euclid_limbsNeeded_27 : decode b_Euclid_limbsNeeded 27 = .ok (.iadd, 1) := by decide +kernel
theorem d_Euclid_limbsNeeded_28 : decode b_Euclid_limbsNeeded 28 = .ok (.bipush (30), 2) := by decide +kernel
theorem d_Euclid_limbsNeeded_30 : decode b_Euclid_limbsNeeded 30 = .ok (.idiv, 1) := by decide +kernel
theorem d_Euclid_limbsNeeded_31 : decode b_Euclid_limbsNeeded 31 = .ok (.iconst 1, 1) := by decide +kernel
theorem d_Euclid_limbsNeeded_32 : decode b_Euclid_limbsNeeded 32 = .ok (.iadd, 1) := by decide +kernel
theorem d_Euclid_limbsNeeded_33 : decode b_Euclid_limbsNeeded 33 = .ok (.ireturn, 1) := by decide +kernel
abbrev b_Euclid_cancelFirst : ByteArray := prog_3_method_5_code
abbrev y_Euclid_cancelFirst : MethodName := ⟨"SpectrumDesk$Euclid", "cancelFirst", "(LSpectrumDesk$Polynomial;LSpectrumDesk$Polynomial;)V"⟩
abbrev v_Euclid_cancelFirst : List Cond := Cond.code y_Euclid_cancelFirst b_Euclid_cancelFirst 7 none :: AW
theorem d_Euclid_cancelFirst_0 : decode b_Euclid_cancelFirst 0 = .ok (.aload_n 0, 1) := by decide +kernel
theorem d_Euclid_cancelFirst_1 : decode b_Euclid_cancelFirst 1 = .ok (.getfield 27, 3) := by decide +kernel
theorem d_Euclid_cancelFirst_4 : decode b_Euclid_cancelFirst 4 = .ok (.istore_n 2, 1) := by decide +kernel
theorem d_Euclid_cancelFirst_5 : decode b_Euclid_cancelFirst 5 = .ok (.aload_n 0, 1) := by decide +kernel
theorem d_Euclid_cancelFirst_6 : decode b_Euclid_cancelFirst 6 = .ok (.getfield 61, 3) := by decide +kernel
theorem d_Euclid_cancelFirst_9 : decode b_Euclid_cancelFirst 9 = .ok (.istore_n 3, 1) := by decide +kernel
theorem d_Euclid_cancelFirst_10 : decode b_Euclid_cancelFirst 10 = .ok (.iload_n 2, 1) := by decide +kernel
theorem d_Euclid_cancelFirst_11 : decode b_Euclid_cancelFirst 11 = .ok (.aload_n 1, 1) := by decide +kernel
theorem d_Euclid_cancelFirst_12 : decode b_Euclid_cancelFirst 12 = .ok (.getfield 27, 3) := by decide +kernel
theorem d_Euclid_cancelFirst_15 : decode b_Euclid_cancelFirst 15 = .ok (.isub, 1) := by decide +kernel
theorem d_Euclid_cancelFirst_16 : decode b_Euclid_cancelFirst 16 = .ok (.istore 4, 2) := by decide +kernel
theorem d_Euclid_cancelFirst_18 : decode b_Euclid_cancelFirst 18 = .ok (.aload_n 0, 1) := by decide +kernel
theorem d_Euclid_cancelFirst_19 : decode b_Euclid_cancelFirst 19 = .ok (.getfield 73, 3) := by decide +kernel
theorem d_Euclid_cancelFirst_22 : decode b_Euclid_cancelFirst 22 = .ok (.astore 5, 2) := by decide +kernel
theorem d_Euclid_cancelFirst_24 : decode b_Euclid_cancelFirst 24 = .ok (.iconst 0, 1) := by decide +kernel
theorem d_Euclid_cancelFirst_25 : decode b_Euclid_cancelFirst 25 = .ok (.istore 6, 2) := by decide +kernel
theorem d_Euclid_cancelFirst_27 : decode b_Euclid_cancelFirst 27 = .ok (.iload 6, 2) := by decide +kernel
theorem d_Euclid_cancelFirst_29 : decode b_Euclid_cancelFirst 29 = .ok (.iload_n 2, 1) := by decide +kernel
theorem d_Euclid_cancelFirst_30 : decode b_Euclid_cancelFirst 30 = .ok (.if_icmp .ge (83), 3) := by decide +kernel
theorem d_Euclid_cancelFirst_33 : decode b_Euclid_cancelFirst 33 = .ok (.aload 5, 2) := by decide +kernel
theorem d_Euclid_cancelFirst_35 : decode b_Euclid_cancelFirst 35 = .ok (.iconst 0, 1) := by decide +kernel
theorem d_Euclid_cancelFirst_36 : decode b_Euclid_cancelFirst 36 = .ok (.iload_n 3, 1) := by decide +kernel
theorem d_Euclid_cancelFirst_37 : decode b_Euclid_cancelFirst 37 = .ok (.iconst 0, 1) := by decide +kernel
theorem d_Euclid_cancelFirst_38 : decode b_Euclid_cancelFirst 38 = .ok (.invokestatic 82, 3) := by decide +kernel
theorem d_Euclid_cancelFirst_41 : decode b_Euclid_cancelFirst 41 = .ok (.aload 5, 2) := by decide +kernel
theorem d_Euclid_cancelFirst_43 : decode b_Euclid_cancelFirst 43 = .ok (.aload_n 0, 1) := by decide +kernel
theorem d_Euclid_cancelFirst_44 : decode b_Euclid_cancelFirst 44 = .ok (.getfield 46, 3) := by decide +kernel
theorem d_Euclid_cancelFirst_47 : decode b_Euclid_cancelFirst 47 = .ok (.iload 6, 2) := by decide +kernel
theorem d_Euclid_cancelFirst_49 : decode b_Euclid_cancelFirst 49 = .ok (.aaload, 1) := by decide +kernel
theorem d_Euclid_cancelFirst_50 : decode b_Euclid_cancelFirst 50 = .ok (.aload_n 1, 1) := by decide +kernel
theorem d_Euclid_cancelFirst_51 : decode b_Euclid_cancelFirst 51 = .ok (.getfield 46, 3) := by decide +kernel
theorem d_Euclid_cancelFirst_54 : decode b_Euclid_cancelFirst 54 = .ok (.aload_n 1, 1) := by decide +kernel
theorem d_Euclid_cancelFirst_55 : decode b_Euclid_cancelFirst 55 = .ok (.getfield 27, 3) := by decide +kernel
theorem d_Euclid_cancelFirst_58 : decode b_Euclid_cancelFirst 58 = .ok (.aaload, 1) := by decide +kernel
theorem d_Euclid_cancelFirst_59 : decode b_Euclid_cancelFirst 59 = .ok (.iconst 1, 1) := by decide +kernel
theorem d_Euclid_cancelFirst_60 : decode b_Euclid_cancelFirst 60 = .ok (.iload_n 3, 1) := by decide +kernel
theorem d_Euclid_cancelFirst_61 : decode b_Euclid_cancelFirst 61 = .ok (.invokestatic 88, 3) := by decide +kernel
theorem d_Euclid_cancelFirst_64 : decode b_Euclid_cancelFirst 64 = .ok (.iload 6, 2) := by decide +kernel
theorem d_Euclid_cancelFirst_66 : decode b_Euclid_cancelFirst 66 = .ok (.iload 4, 2) := by decide +kernel
theorem d_Euclid_cancelFirst_68 : decode b_Euclid_cancelFirst 68 = .ok (.if_icmp .lt (26), 3) := by decide +kernel
theorem d_Euclid_cancelFirst_71 : decode b_Euclid_cancelFirst 71 = .ok (.aload 5, 2) := by decide +kernel
theorem d_Euclid_cancelFirst_73 : decode b_Euclid_cancelFirst 73 = .ok (.aload_n 1, 1) := by decide +kernel
theorem d_Euclid_cancelFirst_74 : decode b_Euclid_cancelFirst 74 = .ok (.getfield 46, 3) := by decide +kernel
theorem d_Euclid_cancelFirst_77 : decode b_Euclid_cancelFirst 77 = .ok (.iload 6, 2) := by decide +kernel
theorem d_Euclid_cancelFirst_79 : decode b_Euclid_cancelFirst 79 = .ok (.iload 4, 2) := by decide +kernel
theorem d_Euclid_cancelFirst_81 : decode b_Euclid_cancelFirst 81 = .ok (.isub, 1) := by decide +kernel
theorem d_Euclid_cancelFirst_82 : decode b_Euclid_cancelFirst 82 = .ok (.aaload, 1) := by decide +kernel
theorem d_Euclid_cancelFirst_83 : decode b_Euclid_cancelFirst 83 = .ok (.aload_n 0, 1) := by decide +kernel
theorem d_Euclid_cancelFirst_84 : decode b_Euclid_cancelFirst 84 = .ok (.getfield 46, 3) := by decide +kernel
theorem d_Euclid_cancelFirst_87 : decode b_Euclid_cancelFirst 87 = .ok (.iload_n 2, 1) := by decide +kernel
theorem d_Euclid_cancelFirst_88 : decode b_Euclid_cancelFirst 88 = .ok (.aaload, 1) := by decide +kernel
theorem d_Euclid_cancelFirst_89 : decode b_Euclid_cancelFirst 89 = .ok (.iconst (-1), 1) := by decide +kernel
theorem d_Euclid_cancelFirst_90 : decode b_Euclid_cancelFirst 90 = .ok (.iload_n 3, 1) := by decide +kernel
theorem d_Euclid_cancelFirst_91 : decode b_Euclid_cancelFirst 91 = .ok (.invokestatic 88, 3) := by decide +kernel
theorem d_Euclid_cancelFirst_94 : decode b_Euclid_cancelFirst 94 = .ok (.aload_n 0, 1) := by decide +kernel
theorem d_Euclid_cancelFirst_95 : decode b_Euclid_cancelFirst 95 = .ok (.getfield 46, 3) := by decide +kernel
theorem d_Euclid_cancelFirst_98 : decode b_Euclid_cancelFirst 98 = .ok (.iload 6, 2) := by decide +kernel
theorem d_Euclid_cancelFirst_100 : decode b_Euclid_cancelFirst 100 = .ok (.aaload, 1) := by decide +kernel
theorem d_Euclid_cancelFirst_101 : decode b_Euclid_cancelFirst 101 = .ok (.aload 5, 2) := by decide +kernel
theorem d_Euclid_cancelFirst_103 : decode b_Euclid_cancelFirst 103 = .ok (.iload_n 3, 1) := by decide +kernel
theorem d_Euclid_cancelFirst_104 : decode b_Euclid_cancelFirst 104 = .ok (.invokestatic 54, 3) := by decide +kernel
theorem d_Euclid_cancelFirst_107 : decode b_Euclid_cancelFirst 107 = .ok (.iinc 6 (1), 3) := by decide +kernel
theorem d_Euclid_cancelFirst_110 : decode b_Euclid_cancelFirst 110 = .ok (.goto (-83), 3) := by decide +kernel
theorem d_Euclid_cancelFirst_113 : decode b_Euclid_cancelFirst 113 = .ok (.aload_n 0, 1) := by decide +kernel
theorem d_Euclid_cancelFirst_114 : decode b_Euclid_cancelFirst 114 = .ok (.iload_n 2, 1) := by decide +kernel
theorem d_Euclid_cancelFirst_115 : decode b_Euclid_cancelFirst 115 = .ok (.iconst 1, 1) := by decide +kernel
theorem d_Euclid_cancelFirst_116 : decode b_Euclid_cancelFirst 116 = .ok (.isub, 1) := by decide +kernel
theorem d_Euclid_cancelFirst_117 : decode b_Euclid_cancelFirst 117 = .ok (.putfield 27, 3) := by decide +kernel
theorem d_Euclid_cancelFirst_120 : decode b_Euclid_cancelFirst 120 = .ok (.return_, 1) := by decide +kernel
abbrev b_Euclid_divideAll : ByteArray := prog_3_method_6_code
abbrev y_Euclid_divideAll : MethodName := ⟨"SpectrumDesk$Euclid", "divideAll", "(LSpectrumDesk$Polynomial;I)V"⟩
abbrev v_Euclid_divideAll : List Cond := Cond.code y_Euclid_divideAll b_Euclid_divideAll 6 none :: AW
theorem d_Euclid_divideAll_0 : decode b_Euclid_divideAll 0 = .ok (.aload_n 0, 1) := by decide +kernel
theorem d_Euclid_divideAll_1 : decode b_Euclid_divideAll 1 = .ok (.getfield 23, 3) := by decide +kernel
theorem d_Euclid_divideAll_4 : decode b_Euclid_divideAll 4 = .ok (.aload_n 1, 1) := by decide +kernel
theorem d_Euclid_divideAll_5 : decode b_Euclid_divideAll 5 = .ok (.getfield 61, 3) := by decide +kernel
theorem d_Euclid_divideAll_8 : decode b_Euclid_divideAll 8 = .ok (.invokestatic 92, 3) := by decide +kernel
theorem d_Euclid_divideAll_11 : decode b_Euclid_divideAll 11 = .ok (.istore_n 3, 1) := by decide +kernel
theorem d_Euclid_divideAll_12 : decode b_Euclid_divideAll 12 = .ok (.aload_n 0, 1) := by decide +kernel
theorem d_Euclid_divideAll_13 : decode b_Euclid_divideAll 13 = .ok (.getfield 23, 3) := by decide +kernel
theorem d_Euclid_divideAll_16 : decode b_Euclid_divideAll 16 = .ok (.iload_n 3, 1) := by decide +kernel
theorem d_Euclid_divideAll_17 : decode b_Euclid_divideAll 17 = .ok (.aload_n 1, 1) := by decide +kernel
theorem d_Euclid_divideAll_18 : decode b_Euclid_divideAll 18 = .ok (.getfield 61, 3) := by decide +kernel
theorem d_Euclid_divideAll_21 : decode b_Euclid_divideAll 21 = .ok (.invokestatic 95, 3) := by decide +kernel
theorem d_Euclid_divideAll_24 : decode b_Euclid_divideAll 24 = .ok (.iconst 0, 1) := by decide +kernel
theorem d_Euclid_divideAll_25 : decode b_Euclid_divideAll 25 = .ok (.istore 4, 2) := by decide +kernel
theorem d_Euclid_divideAll_27 : decode b_Euclid_divideAll 27 = .ok (.iload 4, 2) := by decide +kernel
theorem d_Euclid_divideAll_29 : decode b_Euclid_divideAll 29 = .ok (.aload_n 1, 1) := by decide +kernel
theorem d_Euclid_divideAll_30 : decode b_Euclid_divideAll 30 = .ok (.getfield 27, 3) := by decide +kernel
theorem d_Euclid_divideAll_33 : decode b_Euclid_divideAll 33 = .ok (.if_icmp .gt (59), 3) := by decide +kernel
theorem d_Euclid_divideAll_36 : decode b_Euclid_divideAll 36 = .ok (.aload_n 1, 1) := by decide +kernel
theorem d_Euclid_divideAll_37 : decode b_Euclid_divideAll 37 = .ok (.getfield 46, 3) := by decide +kernel
theorem d_Euclid_divideAll_40 : decode b_Euclid_divideAll 40 = .ok (.iload 4, 2) := by decide +kernel
theorem d_Euclid_divideAll_42 : decode b_Euclid_divideAll 42 = .ok (.aaload, 1) := by decide +kernel
theorem d_Euclid_divideAll_43 : decode b_Euclid_divideAll 43 = .ok (.iload_n 3, 1) := by decide +kernel
theorem d_Euclid_divideAll_44 : decode b_Euclid_divideAll 44 = .ok (.iload_n 2, 1) := by decide +kernel
theorem d_Euclid_divideAll_45 : decode b_Euclid_divideAll 45 = .ok (.imul, 1) := by decide +kernel
theorem d_Euclid_divideAll_46 : decode b_Euclid_divideAll 46 = .ok (.aload_n 1, 1) := by decide +kernel
theorem d_Euclid_divideAll_47 : decode b_Euclid_divideAll 47 = .ok (.getfield 61, 3) := by decide +kernel
theorem d_Euclid_divideAll_50 : decode b_Euclid_divideAll 50 = .ok (.invokestatic 95, 3) := by decide +kernel
theorem d_Euclid_divideAll_53 : decode b_Euclid_divideAll 53 = .ok (.iconst 0, 1) := by decide +kernel
theorem d_Euclid_divideAll_54 : decode b_Euclid_divideAll 54 = .ok (.istore 5, 2) := by decide +kernel
theorem d_Euclid_divideAll_56 : decode b_Euclid_divideAll 56 = .ok (.iload 5, 2) := by decide +kernel
theorem d_Euclid_divideAll_58 : decode b_Euclid_divideAll 58 = .ok (.iload_n 2, 1) := by decide +kernel
theorem d_Euclid_divideAll_59 : decode b_Euclid_divideAll 59 = .ok (.if_icmp .ge (27), 3) := by decide +kernel
theorem d_Euclid_divideAll_62 : decode b_Euclid_divideAll 62 = .ok (.aload_n 1, 1) := by decide +kernel
theorem d_Euclid_divideAll_63 : decode b_Euclid_divideAll 63 = .ok (.getfield 46, 3) := by decide +kernel
theorem d_Euclid_divideAll_66 : decode b_Euclid_divideAll 66 = .ok (.iload 4, 2) := by decide +kernel
theorem d_Euclid_divideAll_68 : decode b_Euclid_divideAll 68 = .ok (.aaload, 1) := by decide +kernel
theorem d_Euclid_divideAll_69 : decode b_Euclid_divideAll 69 = .ok (.aload_n 0, 1) := by decide +kernel
theorem d_Euclid_divideAll_70 : decode b_Euclid_divideAll 70 = .ok (.getfield 23, 3) := by decide +kernel
theorem d_Euclid_divideAll_73 : decode b_Euclid_divideAll 73 = .ok (.aload_n 1, 1) := by decide +kernel
theorem d_Euclid_divideAll_74 : decode b_Euclid_divideAll 74 = .ok (.getfield 61, 3) := by decide +kernel
theorem d_Euclid_divideAll_77 : decode b_Euclid_divideAll 77 = .ok (.invokestatic 99, 3) := by decide +kernel
theorem d_Euclid_divideAll_80 : decode b_Euclid_divideAll 80 = .ok (.iinc 5 (1), 3) := by decide +kernel
theorem d_Euclid_divideAll_83 : decode b_Euclid_divideAll 83 = .ok (.goto (-27), 3) := by decide +kernel
theorem d_Euclid_divideAll_86 : decode b_Euclid_divideAll 86 = .ok (.iinc 4 (1), 3) := by decide +kernel
theorem d_Euclid_divideAll_89 : decode b_Euclid_divideAll 89 = .ok (.goto (-62), 3) := by decide +kernel
theorem d_Euclid_divideAll_92 : decode b_Euclid_divideAll 92 = .ok (.return_, 1) := by decide +kernel
abbrev b_Euclid_reduce : ByteArray := prog_3_method_4_code
abbrev y_Euclid_reduce : MethodName := ⟨"SpectrumDesk$Euclid", "reduce", "(LSpectrumDesk$Polynomial;LSpectrumDesk$Polynomial;)V"⟩
abbrev v_Euclid_reduce : List Cond := Cond.code y_Euclid_reduce b_Euclid_reduce 4 none :: AW
theorem d_Euclid_reduce_0 : decode b_Euclid_reduce 0 = .ok (.aload_n 0, 1) := by decide +kernel
theorem d_Euclid_reduce_1 : decode b_Euclid_reduce 1 = .ok (.getfield 23, 3) := by decide +kernel
theorem d_Euclid_reduce_4 : decode b_Euclid_reduce 4 = .ok (.aload_n 1, 1) := by decide +kernel
theorem d_Euclid_reduce_5 : decode b_Euclid_reduce 5 = .ok (.getfield 46, 3) := by decide +kernel
theorem d_Euclid_reduce_8 : decode b_Euclid_reduce 8 = .ok (.aload_n 1, 1) := by decide +kernel
theorem d_Euclid_reduce_9 : decode b_Euclid_reduce 9 = .ok (.getfield 27, 3) := by decide +kernel
theorem d_Euclid_reduce_12 : decode b_Euclid_reduce 12 = .ok (.aaload, 1) := by decide +kernel
theorem d_Euclid_reduce_13 : decode b_Euclid_reduce 13 = .ok (.aload_n 1, 1) := by decide +kernel
theorem d_Euclid_reduce_14 : decode b_Euclid_reduce 14 = .ok (.getfield 61, 3) := by decide +kernel
theorem d_Euclid_reduce_17 : decode b_Euclid_reduce 17 = .ok (.invokestatic 54, 3) := by decide +kernel
theorem d_Euclid_reduce_20 : decode b_Euclid_reduce 20 = .ok (.aload_n 1, 1) := by decide +kernel
theorem d_Euclid_reduce_21 : decode b_Euclid_reduce 21 = .ok (.aload_n 2, 1) := by decide +kernel
theorem d_Euclid_reduce_22 : decode b_Euclid_reduce 22 = .ok (.invokestatic 70, 3) := by decide +kernel
theorem d_Euclid_reduce_25 : decode b_Euclid_reduce 25 = .ok (.aload_n 1, 1) := by decide +kernel
theorem d_Euclid_reduce_26 : decode b_Euclid_reduce 26 = .ok (.aload_n 2, 1) := by decide +kernel
theorem d_Euclid_reduce_27 : decode b_Euclid_reduce 27 = .ok (.invokestatic 70, 3) := by decide +kernel
theorem d_Euclid_reduce_30 : decode b_Euclid_reduce 30 = .ok (.iconst 0, 1) := by decide +kernel
theorem d_Euclid_reduce_31 : decode b_Euclid_reduce 31 = .ok (.istore_n 3, 1) := by decide +kernel
theorem d_Euclid_reduce_32 : decode b_Euclid_reduce 32 = .ok (.iload_n 3, 1) := by decide +kernel
theorem d_Euclid_reduce_33 : decode b_Euclid_reduce 33 = .ok (.aload_n 1, 1) := by decide +kernel
theorem d_Euclid_reduce_34 : decode b_Euclid_reduce 34 = .ok (.getfield 27, 3) := by decide +kernel
theorem d_Euclid_reduce_37 : decode b_Euclid_reduce 37 = .ok (.if_icmp .gt (47), 3) := by decide +kernel
theorem d_Euclid_reduce_40 : decode b_Euclid_reduce 40 = .ok (.aload_n 1, 1) := by decide +kernel
theorem d_Euclid_reduce_41 : decode b_Euclid_reduce 41 = .ok (.getfield 73, 3) := by decide +kernel
theorem d_Euclid_reduce_44 : decode b_Euclid_reduce 44 = .ok (.aload_n 1, 1) := by decide +kernel
theorem d_Euclid_reduce_45 : decode b_Euclid_reduce 45 = .ok (.getfield 46, 3) := by decide +kernel
theorem d_Euclid_reduce_48 : decode b_Euclid_reduce 48 = .ok (.iload_n 3, 1) := by decide +kernel
theorem d_Euclid_reduce_49 : decode b_Euclid_reduce 49 = .ok (.aaload, 1) := by decide +kernel
theorem d_Euclid_reduce_50 : decode b_Euclid_reduce 50 = .ok (.aload_n 1, 1) := by decide +kernel
theorem d_Euclid_reduce_51 : decode b_Euclid_reduce 51 = .ok (.getfield 61, 3) := by decide +kernel
theorem d_Euclid_reduce_54 : decode b_Euclid_reduce 54 = .ok (.invokestatic 54, 3) := by decide +kernel
theorem d_Euclid_reduce_57 : decode b_Euclid_reduce 57 = .ok (.aload_n 1, 1) := by decide +kernel
theorem d_Euclid_reduce_58 : decode b_Euclid_reduce 58 = .ok (.getfield 46, 3) := by decide +kernel
theorem d_Euclid_reduce_61 : decode b_Euclid_reduce 61 = .ok (.iload_n 3, 1) := by decide +kernel
theorem d_Euclid_reduce_62 : decode b_Euclid_reduce 62 = .ok (.aaload, 1) := by decide +kernel
theorem d_Euclid_reduce_63 : decode b_Euclid_reduce 63 = .ok (.aload_n 1, 1) := by decide +kernel
theorem d_Euclid_reduce_64 : decode b_Euclid_reduce 64 = .ok (.getfield 73, 3) := by decide +kernel
theorem d_Euclid_reduce_67 : decode b_Euclid_reduce 67 = .ok (.ldc2_w 76, 3) := by decide +kernel
theorem d_Euclid_reduce_70 : decode b_Euclid_reduce 70 = .ok (.iconst 0, 1) := by decide +kernel
theorem d_Euclid_reduce_71 : decode b_Euclid_reduce 71 = .ok (.aload_n 1, 1) := by decide +kernel
theorem d_Euclid_reduce_72 : decode b_Euclid_reduce 72 = .ok (.getfield 61, 3) := by decide +kernel
theorem d_Euclid_reduce_75 : decode b_Euclid_reduce 75 = .ok (.invokestatic 78, 3) := by decide +kernel
theorem d_Euclid_reduce_78 : decode b_Euclid_reduce 78 = .ok (.iinc 3 (1), 3) := by decide +kernel
theorem d_Euclid_reduce_81 : decode b_Euclid_reduce 81 = .ok (.goto (-49), 3) := by decide +kernel
theorem d_Euclid_reduce_84 : decode b_Euclid_reduce 84 = .ok (.aload_n 0, 1) := by decide +kernel
theorem d_Euclid_reduce_85 : decode b_Euclid_reduce 85 = .ok (.aload_n 1, 1) := by decide +kernel
theorem d_Euclid_reduce_86 : decode b_Euclid_reduce 86 = .ok (.iconst 2, 1) := by decide +kernel
theorem d_Euclid_reduce_87 : decode b_Euclid_reduce 87 = .ok (.invokevirtual 58, 3) := by decide +kernel
theorem d_Euclid_reduce_90 : decode b_Euclid_reduce 90 = .ok (.return_, 1) := by decide +kernel
theorem k_981a5bd067 : (Jvm.Cond.methodLink "SpectrumDesk$Polynomial" (39 : Nat) ({ cls := "SpectrumDesk$Limbs", name := "addTimes", desc := "([I[IJII)V" } : Jvm.MethodName)) ∈ AW := aw_3 (List.mem_of_getElem? (i := 220) (by decide +kernel)) (by decide +kernel)
theorem k_32cb2e953f : (Jvm.Cond.fieldLink "SpectrumDesk$Euclid" (27 : Nat) "SpectrumDesk$Polynomial" "degree" "I") ∈ AW := aw_1 (List.mem_of_getElem? (i := 78) (by decide +kernel)) (by decide +kernel)
theorem k_f41369adce : (Jvm.Cond.fieldLink "SpectrumDesk$Euclid" (61 : Nat) "SpectrumDesk$Polynomial" "limbs" "I") ∈ AW := aw_1 (List.mem_of_getElem? (i := 83) (by decide +kernel)) (by decide +kernel)
theorem k_82087acf87 : (Jvm.Cond.fieldLink "SpectrumDesk$Euclid" (73 : Nat) "SpectrumDesk$Polynomial" "spare" "[I") ∈ AW := aw_1 (List.mem_of_getElem? (i := 76) (by decide +kernel)) (by decide +kernel)
theorem k_8fa435f096 : (Jvm.Cond.methodLink "SpectrumDesk$Euclid" (82 : Nat) ({ cls := "java/util/Arrays", name := "fill", desc := "([IIII)V" } : Jvm.MethodName)) ∈ AW := aw_3 (List.mem_of_getElem? (i := 229) (by decide +kernel)) (by decide +kernel)
theorem k_0d65117528 : (Jvm.Cond.fieldLink "SpectrumDesk$Euclid" (46 : Nat) "SpectrumDesk$Polynomial" "c" "[[I") ∈ AW := aw_1 (List.mem_of_getElem? (i := 72) (by decide +kernel)) (by decide +kernel)
theorem k_4fd268d615 : (Jvm.Cond.methodLink "SpectrumDesk$Euclid" (88 : Nat) ({ cls := "SpectrumDesk$Limbs", name := "addProduct", desc := "([I[I[III)V" } : Jvm.MethodName)) ∈ AW := aw_3 (List.mem_of_getElem? (i := 230) (by decide +kernel)) (by decide +kernel)
theorem k_f29c5092d9 : (Jvm.Cond.static ({ cls := "SpectrumDesk$Limbs", name := "addProduct", desc := "([I[I[III)V" } : Jvm.MethodName)) ∈ AW := aw_3 (List.mem_of_getElem? (i := 231) (by decide +kernel)) (by decide +kernel)
theorem k_8d5a2f9673 : (Jvm.Cond.methodLink "SpectrumDesk$Euclid" (54 : Nat) ({ cls := "SpectrumDesk$Limbs", name := "copy", desc := "([I[II)V" } : Jvm.MethodName)) ∈ AW := aw_3 (List.mem_of_getElem? (i := 225) (by decide +kernel)) (by decide +kernel)
theorem k_34a72900f7 : (Jvm.Cond.fieldLink "SpectrumDesk$Euclid" (23 : Nat) "SpectrumDesk$Euclid" "divisor" "[I") ∈ AW := aw_1 (List.mem_of_getElem? (i := 125) (by decide +kernel)) (by decide +kernel)
theorem k_6351644be4 : (Jvm.Cond.methodLink "SpectrumDesk$Euclid" (92 : Nat) ({ cls := "SpectrumDesk$Limbs", name := "zeroBitsAtEnd", desc := "([II)I" } : Jvm.MethodName)) ∈ AW := aw_3 (List.mem_of_getElem? (i := 239) (by decide +kernel)) (by decide +kernel)
theorem k_455511446b : (Jvm.Cond.static ({ cls := "SpectrumDesk$Limbs", name := "zeroBitsAtEnd", desc := "([II)I" } : Jvm.MethodName)) ∈ AW := aw_4 (List.mem_of_getElem? (i := 0) (by decide +kernel)) (by decide +kernel)
theorem k_2f65515de3 : (Jvm.Cond.methodLink "SpectrumDesk$Euclid" (95 : Nat) ({ cls := "SpectrumDesk$Limbs", name := "halve", desc := "([III)V" } : Jvm.MethodName)) ∈ AW := aw_4 (List.mem_of_getElem? (i := 8) (by decide +kernel)) (by decide +kernel)
theorem k_f4f15af44f : (Jvm.Cond.static ({ cls := "SpectrumDesk$Limbs", name := "halve", desc := "([III)V" } : Jvm.MethodName)) ∈ AW := aw_4 (List.mem_of_getElem? (i := 9) (by decide +kernel)) (by decide +kernel)
theorem k_9324ebff4c : (Jvm.Cond.methodLink "SpectrumDesk$Euclid" (99 : Nat) ({ cls := "SpectrumDesk$Limbs", name := "divideByOdd", desc := "([I[II)V" } : Jvm.MethodName)) ∈ AW := aw_4 (List.mem_of_getElem? (i := 11) (by decide +kernel)) (by decide +kernel)
theorem k_4abddd947f : (Jvm.Cond.static ({ cls := "SpectrumDesk$Limbs", name := "divideByOdd", desc := "([I[II)V" } : Jvm.MethodName)) ∈ AW := aw_4 (List.mem_of_getElem? (i := 12) (by decide +kernel)) (by decide +kernel)
theorem k_3d8d451266 : (Jvm.Cond.methodLink "SpectrumDesk$Euclid" (70 : Nat) ({ cls := "SpectrumDesk$Euclid", name := "cancelFirst", desc := "(LSpectrumDesk$Polynomial;LSpectrumDesk$Polynomial;)V" } : Jvm.MethodName)) ∈ AW := aw_3 (List.mem_of_getElem? (i := 226) (by decide +kernel)) (by decide +kernel)
theorem k_793cd8bd4a : (Jvm.Cond.static ({ cls := "SpectrumDesk$Euclid", name := "cancelFirst", desc := "(LSpectrumDesk$Polynomial;LSpectrumDesk$Polynomial;)V" } : Jvm.MethodName)) ∈ AW := aw_3 (List.mem_of_getElem? (i := 227) (by decide +kernel)) (by decide +kernel)
theorem k_29b988b263 : (Jvm.Cond.initialized "SpectrumDesk$Euclid") ∈ AW := aw_1 (List.mem_of_getElem? (i := 8) (by decide +kernel)) (by decide +kernel)
theorem k_f0501db3dc : (Jvm.Cond.methodLink "SpectrumDesk$Euclid" (58 : Nat) ({ cls := "SpectrumDesk$Euclid", name := "divideAll", desc := "(LSpectrumDesk$Polynomial;I)V" } : Jvm.MethodName)) ∈ AW := aw_3 (List.mem_of_getElem? (i := 235) (by decide +kernel)) (by decide +kernel)
theorem k_71784da9a1 : (Jvm.Cond.instanceMethod ({ cls := "SpectrumDesk$Euclid", name := "divideAll", desc := "(LSpectrumDesk$Polynomial;I)V" } : Jvm.MethodName)) ∈ AW := aw_3 (List.mem_of_getElem? (i := 237) (by decide +kernel)) (by decide +kernel)
theorem k_9e7bed079e : (Jvm.Cond.selects "SpectrumDesk$Euclid" ({ cls := "SpectrumDesk$Euclid", name := "divideAll", desc := "(LSpectrumDesk$Polynomial;I)V" } : Jvm.MethodName) ({ cls := "SpectrumDesk$Euclid", name := "divideAll", desc := "(LSpectrumDesk$Polynomial;I)V" } : Jvm.MethodName)) ∈ AW := aw_p (by decide +kernel) (by decide +kernel)
theorem k_181b3cb3aa : (Jvm.Cond.constantLong "SpectrumDesk$Euclid" (76 : Nat) (-2 : Int64)) ∈ AW := aw_3 (List.mem_of_getElem? (i := 233) (by decide +kernel)) (by decide +kernel)
theorem k_55cf2de2da : (Jvm.Cond.methodLink "SpectrumDesk$Euclid" (78 : Nat) ({ cls := "SpectrumDesk$Limbs", name := "addTimes", desc := "([I[IJII)V" } : Jvm.MethodName)) ∈ AW := aw_3 (List.mem_of_getElem? (i := 234) (by decide +kernel)) (by decide +kernel)
theorem k_3893c840eb : (Jvm.Cond.code ({ cls := "SpectrumDesk$Polynomial", name := "loadDerivative", desc := "(LSpectrumDesk$Polynomial;I)V" } : Jvm.MethodName) prog_5_method_3_code (4 : Nat) (Option.none : Option Jvm.ClassFile.FieldType)) ∈ AW := aw_3 (List.mem_of_getElem? (i := 219) (by decide +kernel)) (by decide +kernel)
theorem k_54b7a3af77 : (Jvm.Cond.code ({ cls := "SpectrumDesk$Euclid", name := "limbsNeeded", desc := "(II)I" } : Jvm.MethodName) prog_3_method_3_code (3 : Nat) (Option.some Jvm.ClassFile.FieldType.int)) ∈ AW := aw_3 (List.mem_of_getElem? (i := 213) (by decide +kernel)) (by decide +kernel)
theorem k_26fbd32fae : (Jvm.Cond.code ({ cls := "SpectrumDesk$Euclid", name := "cancelFirst", desc := "(LSpectrumDesk$Polynomial;LSpectrumDesk$Polynomial;)V" } : Jvm.MethodName) prog_3_method_5_code (7 : Nat) (Option.none : Option Jvm.ClassFile.FieldType)) ∈ AW := aw_3 (List.mem_of_getElem? (i := 228) (by decide +kernel)) (by decide +kernel)
theorem k_20a341c590 : (Jvm.Cond.code ({ cls := "SpectrumDesk$Euclid", name := "divideAll", desc := "(LSpectrumDesk$Polynomial;I)V" } : Jvm.MethodName) prog_3_method_6_code (6 : Nat) (Option.none : Option Jvm.ClassFile.FieldType)) ∈ AW := aw_3 (List.mem_of_getElem? (i := 238) (by decide +kernel)) (by decide +kernel)
theorem k_acf35f2c69 : (Jvm.Cond.code ({ cls := "SpectrumDesk$Euclid", name := "reduce", desc := "(LSpectrumDesk$Polynomial;LSpectrumDesk$Polynomial;)V" } : Jvm.MethodName) prog_3_method_4_code (4 : Nat) (Option.none : Option Jvm.ClassFile.FieldType)) ∈ AW := aw_3 (List.mem_of_getElem? (i := 224) (by decide +kernel)) (by decide +kernel)
set_option maxHeartbeats 4000000 in
set_option maxRecDepth 100000 in
theorem c_Polynomial_loadDerivative {l : Launch} {D : va_G} {cI cJ cZ cC cG cP : ClassId} {N : Nat} {ad : Nat → Nat} {σ : Nat → va_E} {i j mi di li mj dj lj lbs : Nat} {Fi Fj : Nat → Nat → Int32} {si sj : Nat → Int32} {p0 : Nat → Int} (hNi : i + 10 ≤ N) (hNj : j + 10 ≤ N) (hij : i + 10 ≤ j ∨ j + 10 ≤ i) (hpi : pl ad cI cG σ i mi di li Fi si) (hpj : pl ad cI cG σ j mj (dj + 1) lj Fj sj) (hdj : dj ≤ 5) (hmi : mi < 2 ^ 31) (hmj : mj < 2 ^ 31) (hlj : lj ≤ mj) (hl0 : 0 < lj) (hlm : lbs ≤ mi) (his : pl_is Fj (dj + 1) lj p0) (hsz : pl_sz (dj + 1) lj p0) :
    Met l y_Polynomial_loadDerivative v_Polynomial_loadDerivative (xrm 3) (va_Pc [.ref (ad i), .ref (ad j), .int (nI lbs)] (xS D classes (xT cI cJ cZ cC cG cP) N ad σ)) (va_Qv (fun σ2 => ∃ (F2 : Nat → Nat → Int32) (s2 : Nat → Int32), pl_fr10 σ σ2 i ∧ pl ad cI cG σ2 i mi dj lbs F2 s2 ∧ pl_is F2 dj lbs (dF p0)) (xS D classes (xT cI cJ cZ cC cG cP) N ad) (xA N ad)) 0 0 (xA N ad) := by
  refine xr_met rfl (Nat.le_of_ble_eq_true rfl) ?_
  intro p e s m args below meth c ls hx hb X hr hlk hl I
  have hl : lv_has ls 4 [(0, .ref (ad i)), (1, .ref (ad j)), (2, .int (nI lbs))] := hl
  refine lv_aload_n hx hb d_Polynomial_loadDerivative_0 rfl (lv_at hl 0 rfl) ?_
  refine lv_iload_n hx hb d_Polynomial_loadDerivative_1 rfl (lv_at hl 2 rfl) ?_
  refine xr_put (ty := .int) X I fin_P t_P t_P_ok n_P i (by omega) (pl_o hpi) rfl 3 (by decide) (List.mem_cons_of_mem _ k_e72feda95c) rfl rfl (by decide +kernel) rfl rfl (Nat.le_of_ble_eq_true rfl) d_Polynomial_loadDerivative_2 (fun H locs I => ?_)
  have h1 := pl_fields hpi di lbs
  have k1 := pl_else hpj (show i < j ∨ j + 10 ≤ i by omega) (.inr (ciP, [.ref (ad (i + 1)), .ref (ad (i + 9)), .int (nI di), .int (nI lbs)]))
  have I : xI D classes N ad s.heap (va_up σ i (.inr (ciP, [.ref (ad (i + 1)), .ref (ad (i + 9)), .int (nI di), .int (nI lbs)]))) H locs := I
  refine lv_aload_n hx hb d_Polynomial_loadDerivative_5 rfl (lv_at hl 0 rfl) ?_
  refine lv_aload_n hx hb d_Polynomial_loadDerivative_6 rfl (lv_at hl 1 rfl) ?_
  refine xr_get X I fin_P j (by omega) (pl_o k1) rfl 2 (by decide) (List.mem_cons_of_mem _ k_d20440e3eb) rfl rfl d_Polynomial_loadDerivative_7 ?_
  refine lv_iconst (v := nI 1) hx hb d_Polynomial_loadDerivative_10 (by decide) ?_
  refine lv_isub hx hb d_Polynomial_loadDerivative_11 (xr_topi (y := nI dj) (pk_sub (a := dj + 1) (b := 1) (by omega)) ?_)
  refine xr_put (ty := .int) X I fin_P t_P t_P_ok n_P i (by omega) (pl_o h1) rfl 2 (by decide) (List.mem_cons_of_mem _ k_d20440e3eb) rfl rfl (by decide +kernel) rfl rfl (Nat.le_of_ble_eq_true rfl) d_Polynomial_loadDerivative_12 (fun H locs I => ?_)
  have h2 := pl_fields h1 dj lbs
  have k2 := pl_else k1 (show i < j ∨ j + 10 ≤ i by omega) (.inr (ciP, [.ref (ad (i + 1)), .ref (ad (i + 9)), .int (nI dj), .int (nI lbs)]))
  have I : xI D classes N ad s.heap (va_up (va_up σ i (.inr (ciP, [.ref (ad (i + 1)), .ref (ad (i + 9)), .int (nI di), .int (nI lbs)]))) i (.inr (ciP, [.ref (ad (i + 1)), .ref (ad (i + 9)), .int (nI dj), .int (nI lbs)]))) H locs := I
  have fr0 : pl_fr10 σ (va_up (va_up σ i (.inr (ciP, [.ref (ad (i + 1)), .ref (ad (i + 9)), .int (nI di), .int (nI lbs)]))) i (.inr (ciP, [.ref (ad (i + 1)), .ref (ad (i + 9)), .int (nI dj), .int (nI lbs)]))) i := fun q hq => (va_up_ne _ _ (by omega)).trans (va_up_ne _ _ (by omega))
  refine lv_iconst (v := nI 0) hx hb d_Polynomial_loadDerivative_15 (by decide) ?_
  refine lv_istore_n (lv' := [(3, .int (nI 0)), (0, .ref (ad i)), (1, .ref (ad j)), (2, .int (nI lbs))]) hx hb d_Polynomial_loadDerivative_16 rfl hl (by decide) rfl (fun ls hl => ?_)
  have loop : ∀ (q : Nat) (k : Nat) (σ3 : Nat → va_E) (F2 : Nat → Nat → Int32) (s2 : Nat → Int32) (ls : Array Slot) (H : Heap) (locs : List Loc), k + q = dj + 1 → pl ad cI cG σ3 i mi dj lbs F2 s2 → pl ad cI cG σ3 j mj (dj + 1) lj Fj sj → pl_fr10 σ σ3 i → (∀ k2, k2 < k → lm_is (F2 k2) lbs (dF p0 k2)) → lv_has ls 4 [(3, .int (nI k)), (0, .ref (ad i)), (1, .ref (ad j)), (2, .int (nI lbs))] → xI D classes N ad s.heap (σ3) H locs → W p l e (xrm 3) s m args below meth c H locs 0 0 (MQ below (va_Qv (fun σ2 => ∃ (F2 : Nat → Nat → Int32) (s2 : Nat → Int32), pl_fr10 σ σ2 i ∧ pl ad cI cG σ2 i mi dj lbs F2 s2 ∧ pl_is F2 dj lbs (dF p0)) (xS D classes (xT cI cJ cZ cC cG cP) N ad) (xA N ad)) args s 0 0 (xA N ad)) (F0 m 17 ls []) := by
    intro q
    induction q with
    | zero =>
      intro k σ3 F2 s2 ls H locs hk h3 k3 fr3 g3 hl I
      obtain rfl : k = dj + 1 := by omega
      refine lv_iload_n hx hb d_Polynomial_loadDerivative_17 rfl (lv_at hl 0 rfl) ?_
      refine lv_aload_n hx hb d_Polynomial_loadDerivative_18 rfl (lv_at hl 1 rfl) ?_
      refine xr_get X I fin_P i (by omega) (pl_o h3) rfl 2 (by decide) (List.mem_cons_of_mem _ k_d20440e3eb) rfl rfl d_Polynomial_loadDerivative_19 ?_
      refine lv_icmp_gt hx hb d_Polynomial_loadDerivative_22 rfl (fun hc => ?_) (fun hc => ?_)
      · exact xr_vret X I hr hlk ⟨F2, s2, fr3, h3, fun k hk => g3 k (by omega)⟩ d_Polynomial_loadDerivative_82
      · exact absurd (nI_lt (Nat.lt_succ_self _) (by omega)) hc
    | succ q ih =>
      intro k σ3 F2 s2 ls H locs hk h3 k3 fr3 g3 hl I
      refine lv_iload_n hx hb d_Polynomial_loadDerivative_17 rfl (lv_at hl 0 rfl) ?_
      refine lv_aload_n hx hb d_Polynomial_loadDerivative_18 rfl (lv_at hl 1 rfl) ?_
      refine xr_get X I fin_P i (by omega) (pl_o h3) rfl 2 (by decide) (List.mem_cons_of_mem _ k_d20440e3eb) rfl rfl d_Polynomial_loadDerivative_19 ?_
      refine lv_icmp_gt hx hb d_Polynomial_loadDerivative_22 rfl (fun hc => ?_) (fun hc => ?_)
      · exact absurd hc (nI_nlt (by omega) (by omega))
      · refine lv_aload_n hx hb d_Polynomial_loadDerivative_25 rfl (lv_at hl 1 rfl) ?_
        refine xr_get X I fin_P i (by omega) (pl_o h3) rfl 1 (by decide) (List.mem_cons_of_mem _ k_d6e97a041f) rfl rfl d_Polynomial_loadDerivative_26 ?_
        refine lv_iload_n hx hb d_Polynomial_loadDerivative_29 rfl (lv_at hl 3 rfl) ?_
        refine lv_aload_n hx hb d_Polynomial_loadDerivative_30 rfl (lv_at hl 2 rfl) ?_
        refine xr_get X I fin_P j (by omega) (pl_o k3) rfl 0 (by decide) (List.mem_cons_of_mem _ k_fc34798cd9) rfl rfl d_Polynomial_loadDerivative_31 ?_
        refine lv_iload_n hx hb d_Polynomial_loadDerivative_34 rfl (lv_at hl 0 rfl) ?_
        refine lv_iconst (v := nI 1) hx hb d_Polynomial_loadDerivative_35 (by decide) ?_
        refine lv_iadd hx hb d_Polynomial_loadDerivative_36 (xr_topi (y := nI (k + 1)) (nI_add k 1) ?_)
        refine xr_aald X I (j + 1) 4 (by omega) (pl_c k3) rfl rfl (by omega) (by decide) (pl_at (by omega)) d_Polynomial_loadDerivative_37 ?_
        refine lv_aload_n hx hb d_Polynomial_loadDerivative_38 rfl (lv_at hl 2 rfl) ?_
        refine xr_get X I fin_P j (by omega) (pl_o k3) rfl 3 (by decide) (List.mem_cons_of_mem _ k_e72feda95c) rfl rfl d_Polynomial_loadDerivative_39 ?_
        refine xr_callv (xr_runS (kc := 2) (kr := 3) (n := 4) (As := [.ref (ad (i + 9)), .int (nI lbs), .ref (ad (j + 2 + (k + 1))), .int (nI lj)]) (rest := []) X I (c_Limbs_widen (σ := σ3) (show i + 9 < N by omega) (show j + 2 + (k + 1) < N by omega) (pl_s h3) (pl_r k3 (by omega)) (by omega) hl0 hlm hmi hlj hmj ⟨his (k + 1) (by omega), hsz (k + 1) (by omega)⟩) (xg k_c2ea1ab362) (List.mem_cons_of_mem _ k_9a64875283) (List.mem_cons_of_mem _ k_1fafd596c5) (List.mem_cons_of_mem _ k_b15d0305ca) (by decide +kernel) (by decide) rfl hl.1 rfl (Nat.le_of_ble_eq_true rfl) d_Polynomial_loadDerivative_42) I (fun σ4 H locs hp I => ?_)
        obtain ⟨f2, rfl, -, f4⟩ := hp
        have h4 := pl_spare h3 f2
        have k4 := pl_else k3 (show i + 9 < j ∨ j + 10 ≤ i + 9 by omega) (.inl (cI, mi, .inl f2))
        refine lv_aload_n hx hb d_Polynomial_loadDerivative_45 rfl (lv_at hl 1 rfl) ?_
        refine xr_get X I fin_P i (by omega) (pl_o h4) rfl 0 (by decide) (List.mem_cons_of_mem _ k_fc34798cd9) rfl rfl d_Polynomial_loadDerivative_46 ?_
        refine lv_iload_n hx hb d_Polynomial_loadDerivative_49 rfl (lv_at hl 0 rfl) ?_
        refine xr_aald X I (i + 1) 4 (by omega) (pl_c h4) rfl rfl (by omega) (by decide) (pl_at (by omega)) d_Polynomial_loadDerivative_50 ?_
        refine lv_iconst (v := nI 0) hx hb d_Polynomial_loadDerivative_51 (by decide) ?_
        refine lv_iload_n hx hb d_Polynomial_loadDerivative_52 rfl (lv_at hl 3 rfl) ?_
        refine lv_iconst (v := nI 0) hx hb d_Polynomial_loadDerivative_53 (by decide) ?_
        refine xr_callv (xr_runS (kc := 1) (kr := 3) (n := 4) (As := [.ref (ad (i + 2 + k)), .int (nI 0), .int (nI lbs), .int (nI 0)]) (rest := []) X I (c_Arrays_fill4 (a := i + 2 + k) (fr := 0) (to := lbs) (v := nI 0) (by omega) (pl_r h4 (by omega)) (by omega) hlm hmi) (xg k_0d10cb0081) (List.mem_cons_of_mem _ k_337ad15048) (List.mem_cons_of_mem _ k_f06b3a4574) (List.mem_cons_of_mem _ k_9b51368402) (by decide +kernel) (by decide) rfl hl.1 rfl (Nat.le_of_ble_eq_true rfl) d_Polynomial_loadDerivative_54) I (fun σ4 H locs hp I => ?_)
        obtain ⟨f5, rfl, f6, -⟩ := hp
        have h5 := pl_row h4 (show k < 7 by omega) f5
        have k5 := pl_else k4 (show i + 2 + k < j ∨ j + 10 ≤ i + 2 + k by omega) (.inl (cI, mi, .inl f5))
        refine lv_aload_n hx hb d_Polynomial_loadDerivative_57 rfl (lv_at hl 1 rfl) ?_
        refine xr_get X I fin_P i (by omega) (pl_o h5) rfl 0 (by decide) (List.mem_cons_of_mem _ k_fc34798cd9) rfl rfl d_Polynomial_loadDerivative_58 ?_
        refine lv_iload_n hx hb d_Polynomial_loadDerivative_61 rfl (lv_at hl 0 rfl) ?_
        refine xr_aald X I (i + 1) 4 (by omega) (pl_c h5) rfl rfl (by omega) (by decide) (pl_at (by omega)) d_Polynomial_loadDerivative_62 ?_
        refine lv_aload_n hx hb d_Polynomial_loadDerivative_63 rfl (lv_at hl 1 rfl) ?_
        refine xr_get X I fin_P i (by omega) (pl_o h5) rfl 1 (by decide) (List.mem_cons_of_mem _ k_d6e97a041f) rfl rfl d_Polynomial_loadDerivative_64 ?_
        refine lv_iload_n hx hb d_Polynomial_loadDerivative_67 rfl (lv_at hl 0 rfl) ?_
        refine lv_iconst (v := nI 1) hx hb d_Polynomial_loadDerivative_68 (by decide) ?_
        refine lv_iadd hx hb d_Polynomial_loadDerivative_69 (xr_topi (y := nI (k + 1)) (nI_add k 1) ?_)
        refine lv_i2l hx hb d_Polynomial_loadDerivative_70 rfl ?_
        refine lv_iconst (v := nI 0) hx hb d_Polynomial_loadDerivative_71 (by decide) ?_
        refine lv_iload_n hx hb d_Polynomial_loadDerivative_72 rfl (lv_at hl 3 rfl) ?_
        have e9 : (nI (k + 1)).toInt64.toInt = (k : Int) + 1 := by rw [q_i2l, nI_toInt (by omega)]; omega
        refine xr_callv (xr_runS (kc := 0) (kr := 3) (n := 5) (As := [.ref (ad (i + 2 + k)), .ref (ad (i + 9)), .long ((nI (k + 1)).toInt64), .int (nI 0), .int (nI lbs)]) (rest := []) X I (c_Limbs_addTimes (a := i + 2 + k) (b := i + 9) (off := 0) (n := lbs) (by omega) (by omega) (pl_r h5 (by omega)) (pl_s h5) (by omega) (by rw [e9]; omega) (by omega) hlm hmi (by omega) hmi (by rw [va_up_self]; exact lm_is_zero (fun q hq => f6 q (by omega) hq)) f4) (xg k_c80bea473c) (List.mem_cons_of_mem _ k_981a5bd067) (List.mem_cons_of_mem _ k_0ef42f4896) (List.mem_cons_of_mem _ k_b15d0305ca) (by decide +kernel) (by decide) rfl hl.1 rfl (Nat.le_of_ble_eq_true rfl) d_Polynomial_loadDerivative_73) I (fun σ4 H locs hp I => ?_)
        obtain ⟨f7, rfl, -, f8⟩ := hp
        rw [e9, Int.pow_zero, Int.mul_one, Int.zero_add] at f8
        refine lv_iinc (k := 0) (v := nI (k + 1)) (lv' := [(3, .int (nI (k + 1))), (0, .ref (ad i)), (1, .ref (ad j)), (2, .int (nI lbs))]) hx hb d_Polynomial_loadDerivative_76 hl rfl (nI_1 k) (by decide) rfl (fun ls hl => ?_)
        refine lv_goto hx hb d_Polynomial_loadDerivative_79 rfl ?_
        refine ih (k + 1) _ _ f2 ls H locs (by omega) (pl_row h5 (show k < 7 by omega) f7) (pl_else k5 (by omega) _) (fun q hq => (va_up_ne _ _ (by omega)).trans ((va_up_ne _ _ (by omega)).trans ((va_up_ne _ _ (by omega)).trans (fr3 q hq)))) (fun e he => ?_) hl I
        by_cases q9 : e = k
        · rw [q9, va_up_self]; exact f8
        · rw [va_up_ne _ _ q9, va_up_ne _ _ q9]; exact g3 e (by omega)
  exact loop (dj + 1) 0 _ Fi si ls _ _ (by omega) h2 k2 fr0 (fun k hk => absurd hk (Nat.not_lt_zero _)) hl I
set_option maxHeartbeats 4000000 in
set_option maxRecDepth 100000 in
theorem c_Euclid_limbsNeeded {l : Launch} {D : va_G} {cI cJ cZ cC cG cP : ClassId} {N : Nat} {ad : Nat → Nat} {σ : Nat → va_E} {n bo : Nat} (hN : N = 193) (h1 : 1 ≤ n) (hn : n ≤ 6) (hbo : bo ≤ 6000000) :
    Met l y_Euclid_limbsNeeded v_Euclid_limbsNeeded (xrm 5) (va_Pc [.int (nI n), .int (nI bo)] (xS D classes (xT cI cJ cZ cC cG cP) N ad σ)) (va_Qi (fun r σ2 => ∃ b : Nat, r = nI ((pwF n * b + 24) / 30 + 1) ∧ b ≤ 24 ∧ 2 * bo < 2 ^ b ∧ (∀ k, k < b → 2 ^ k ≤ 2 * bo) ∧ σ2 = σ) (xS D classes (xT cI cJ cZ cC cG cP) N ad) (xA N ad)) 0 0 (xA N ad) := by
  refine xr_met rfl (Nat.le_of_ble_eq_true rfl) ?_
  intro p e s m args below meth c ls hx hb X hr hlk hl I
  have hl : lv_has ls 3 [(0, .int (nI n)), (1, .int (nI bo))] := hl
  refine lv_iload_n hx hb d_Euclid_limbsNeeded_0 rfl (lv_at hl 0 rfl) ?_
  refine lv_iload_n hx hb d_Euclid_limbsNeeded_1 rfl (lv_at hl 0 rfl) ?_
  refine lv_iconst (v := nI 1) hx hb d_Euclid_limbsNeeded_2 (by decide) ?_
  refine lv_isub hx hb d_Euclid_limbsNeeded_3 ?_
  refine lv_imul hx hb d_Euclid_limbsNeeded_4 ?_
  refine lv_iconst (v := nI 2) hx hb d_Euclid_limbsNeeded_5 (by decide) ?_
  refine lv_iload_n hx hb d_Euclid_limbsNeeded_6 rfl (lv_at hl 0 rfl) ?_
  refine lv_iconst (v := nI 2) hx hb d_Euclid_limbsNeeded_7 (by decide) ?_
  refine lv_isub hx hb d_Euclid_limbsNeeded_8 ?_
  refine lv_imul hx hb d_Euclid_limbsNeeded_9 ?_
  refine lv_iload_n hx hb d_Euclid_limbsNeeded_10 rfl (lv_at hl 0 rfl) ?_
  refine lv_iconst (v := nI 3) hx hb d_Euclid_limbsNeeded_11 (by decide) ?_
  refine lv_isub hx hb d_Euclid_limbsNeeded_12 ?_
  refine lv_imul hx hb d_Euclid_limbsNeeded_13 ?_
  refine lv_iadd hx hb d_Euclid_limbsNeeded_14 ?_
  refine xr_topi (y := nI (pwF n)) (pwF_ok n (by omega) h1) ?_
  have hpw := pwF_le n (by omega)
  refine lv_istore_n (lv' := [(2, .int (nI (pwF n))), (0, .int (nI n)), (1, .int (nI bo))]) hx hb d_Euclid_limbsNeeded_15 rfl hl (by decide) rfl (fun ls hl => ?_)
  refine lv_iload_n hx hb d_Euclid_limbsNeeded_16 rfl (lv_at hl 0 rfl) ?_
  refine lv_iconst (v := nI 2) hx hb d_Euclid_limbsNeeded_17 (by decide) ?_
  refine lv_iload_n hx hb d_Euclid_limbsNeeded_18 rfl (lv_at hl 2 rfl) ?_
  refine lv_imul hx hb d_Euclid_limbsNeeded_19 (xr_topi (y := nI (2 * bo)) (pk_mul 2 bo) ?_)
  refine lv_i2l hx hb d_Euclid_limbsNeeded_20 (nI_l (by omega)) ?_
  refine xr_calli (xr_runSN (kc := 0) (kr := 5) (n := 1) (As := [.long (lN (2 * bo))]) (rest := [.int (nI (pwF n))]) X I (c_SpectrumDesk_bitsOf (v := 2 * bo) (by omega)) (xg k_5f25c3479c) X.2.2.2 (List.mem_cons_of_mem _ k_7d37d71315) (List.mem_cons_of_mem _ k_6836736ab7) (by decide +kernel) (by decide) rfl hl.1 rfl (Nat.le_of_ble_eq_true rfl) d_Euclid_limbsNeeded_21) I (fun r1 σ9 H locs hp I => ?_)
  obtain ⟨b, rfl, b1, b2, h9⟩ := hp; rw [h9] at I; clear h9
  have hb24 : b ≤ 24 := by rcases Nat.lt_or_ge 24 b with h | h; have := b2 24 h; omega; exact h
  have hpb : pwF n * b ≤ 54 * 24 := Nat.mul_le_mul hpw.2 hb24
  refine lv_imul hx hb d_Euclid_limbsNeeded_24 (xr_topi (y := nI ((pwF n) * b)) (pk_mul (pwF n) b) ?_)
  refine lv_bipush (v := nI 24) hx hb d_Euclid_limbsNeeded_25 (by decide) ?_
  refine lv_iadd hx hb d_Euclid_limbsNeeded_27 (xr_topi (y := nI (((pwF n) * b) + 24)) (nI_add ((pwF n) * b) 24) ?_)
  refine lv_bipush (v := nI 30) hx hb d_Euclid_limbsNeeded_28 (by decide) ?_
  refine lv_idiv hx hb d_Euclid_limbsNeeded_30 (by decide) ?_
  refine xr_topi (y := nI ((pwF n * b + 24) / 30)) (pk_div (by omega) (by decide) (by decide)) ?_
  refine lv_iconst (v := nI 1) hx hb d_Euclid_limbsNeeded_31 (by decide) ?_
  refine lv_iadd hx hb d_Euclid_limbsNeeded_32 (xr_topi (y := nI (((pwF n * b + 24) / 30) + 1)) (nI_add ((pwF n * b + 24) / 30) 1) ?_)
  exact xr_iret X I hr hlk ⟨b, rfl, hb24, b1, b2, rfl⟩ d_Euclid_limbsNeeded_33
set_option maxHeartbeats 4000000 in
set_option maxRecDepth 100000 in
theorem c_Euclid_cancelFirst {l : Launch} {D : va_G} {cI cJ cZ cC cG cP : ClassId} {N : Nat} {ad : Nat → Nat} {σ : Nat → va_E} {ui li du dl lbs : Nat} {Fu Fl : Nat → Nat → Int32} {su sl : Nat → Int32} {U L : Nat → Int} (hN : N = 193) (hui : 156 ≤ ui ∧ ui + 10 ≤ 176) (hli : 156 ≤ li ∧ li + 10 ≤ 176) (hij : ui + 10 ≤ li ∨ li + 10 ≤ ui) (hU : pl ad cI cG σ ui 45 du lbs Fu su) (hL : pl ad cI cG σ li 45 dl lbs Fl sl) (hlb : lbs ≤ 45) (hl2 : 1 ≤ lbs) (hiu : pl_is Fu du lbs U) (hil : pl_is Fl dl lbs L) (hdu : 1 ≤ du) (hd6 : du ≤ 6) (hdl : dl ≤ du) :
    Met l y_Euclid_cancelFirst v_Euclid_cancelFirst (xrm 2) (va_Pc [.ref (ad ui), .ref (ad li)] (xS D classes (xT cI cJ cZ cC cG cP) N ad σ)) (va_Qv (fun σ2 => ∃ (F2 : Nat → Nat → Int32) (s2 : Nat → Int32), pl_fr10 σ σ2 ui ∧ pl ad cI cG σ2 ui 45 (du - 1) lbs F2 s2 ∧ pl_is F2 (du - 1) lbs (cnF U L du dl du)) (xS D classes (xT cI cJ cZ cC cG cP) N ad) (xA N ad)) 0 0 (xA N ad) := by
  refine xr_met rfl (Nat.le_of_ble_eq_true rfl) ?_
  intro p e s m args below meth c ls hx hb X hr hlk hl I
  have hl : lv_has ls 7 [(0, .ref (ad ui)), (1, .ref (ad li))] := hl
  refine lv_aload_n hx hb d_Euclid_cancelFirst_0 rfl (lv_at hl 0 rfl) ?_
  refine xr_get X I fin_P ui (by omega) (pl_o hU) rfl 2 (by decide) (List.mem_cons_of_mem _ k_32cb2e953f) rfl rfl d_Euclid_cancelFirst_1 ?_
  refine lv_istore_n (lv' := [(2, .int (nI du)), (0, .ref (ad ui)), (1, .ref (ad li))]) hx hb d_Euclid_cancelFirst_4 rfl hl (by decide) rfl (fun ls hl => ?_)
  refine lv_aload_n hx hb d_Euclid_cancelFirst_5 rfl (lv_at hl 1 rfl) ?_
  refine xr_get X I fin_P ui (by omega) (pl_o hU) rfl 3 (by decide) (List.mem_cons_of_mem _ k_f41369adce) rfl rfl d_Euclid_cancelFirst_6 ?_
  refine lv_istore_n (lv' := [(3, .int (nI lbs)), (2, .int (nI du)), (0, .ref (ad ui)), (1, .ref (ad li))]) hx hb d_Euclid_cancelFirst_9 rfl hl (by decide) rfl (fun ls hl => ?_)
  refine lv_iload_n hx hb d_Euclid_cancelFirst_10 rfl (lv_at hl 1 rfl) ?_
  refine lv_aload_n hx hb d_Euclid_cancelFirst_11 rfl (lv_at hl 3 rfl) ?_
  refine xr_get X I fin_P li (by omega) (pl_o hL) rfl 2 (by decide) (List.mem_cons_of_mem _ k_32cb2e953f) rfl rfl d_Euclid_cancelFirst_12 ?_
  refine lv_isub hx hb d_Euclid_cancelFirst_15 (xr_topi (y := nI (du - dl)) (pk_sub hdl) ?_)
  refine lv_istore (lv' := [(4, .int (nI (du - dl))), (3, .int (nI lbs)), (2, .int (nI du)), (0, .ref (ad ui)), (1, .ref (ad li))]) hx hb d_Euclid_cancelFirst_16 hl (by decide) rfl (fun ls hl => ?_)
  refine lv_aload_n hx hb d_Euclid_cancelFirst_18 rfl (lv_at hl 3 rfl) ?_
  refine xr_get X I fin_P ui (by omega) (pl_o hU) rfl 1 (by decide) (List.mem_cons_of_mem _ k_82087acf87) rfl rfl d_Euclid_cancelFirst_19 ?_
  refine lv_astore (lv' := [(5, .ref (ad (ui + 9))), (4, .int (nI (du - dl))), (3, .int (nI lbs)), (2, .int (nI du)), (0, .ref (ad ui)), (1, .ref (ad li))]) hx hb d_Euclid_cancelFirst_22 hl (by decide) rfl (fun ls hl => ?_)
  refine lv_iconst (v := nI 0) hx hb d_Euclid_cancelFirst_24 (by decide) ?_
  refine lv_istore (lv' := [(6, .int (nI 0)), (5, .ref (ad (ui + 9))), (4, .int (nI (du - dl))), (3, .int (nI lbs)), (2, .int (nI du)), (0, .ref (ad ui)), (1, .ref (ad li))]) hx hb d_Euclid_cancelFirst_25 hl (by decide) rfl (fun ls hl => ?_)
  have loop : ∀ (q8 : Nat) (k : Nat) (σ3 : Nat → va_E) (F2 : Nat → Nat → Int32) (s2 : Nat → Int32) (ls : Array Slot) (H : Heap) (locs : List Loc), k + q8 = du → pl ad cI cG σ3 ui 45 du lbs F2 s2 → pl ad cI cG σ3 li 45 dl lbs Fl sl → pl_fr10 σ σ3 ui → (∀ q, q ≤ du → lm_is (F2 q) lbs (cnF U L du dl k q)) → lv_has ls 7 [(6, .int (nI k)), (5, .ref (ad (ui + 9))), (4, .int (nI (du - dl))), (3, .int (nI lbs)), (2, .int (nI du)), (0, .ref (ad ui)), (1, .ref (ad li))] → xI D classes N ad s.heap (σ3) H locs → W p l e (xrm 2) s m args below meth c H locs 0 0 (MQ below (va_Qv (fun σ2 => ∃ (F2 : Nat → Nat → Int32) (s2 : Nat → Int32), pl_fr10 σ σ2 ui ∧ pl ad cI cG σ2 ui 45 (du - 1) lbs F2 s2 ∧ pl_is F2 (du - 1) lbs (cnF U L du dl du)) (xS D classes (xT cI cJ cZ cC cG cP) N ad) (xA N ad)) args s 0 0 (xA N ad)) (F0 m 27 ls []) := by
    intro q8
    induction q8 with
    | zero =>
      intro k σ3 F2 s2 ls H locs hk h3 k3 fr3 g3 hl I
      obtain rfl : k = du := by omega
      refine lv_iload hx hb d_Euclid_cancelFirst_27 (lv_at hl 0 rfl) ?_
      refine lv_iload_n hx hb d_Euclid_cancelFirst_29 rfl (lv_at hl 4 rfl) ?_
      refine lv_icmp_ge hx hb d_Euclid_cancelFirst_30 rfl (fun hc => ?_) (fun hc => ?_)
      · refine lv_aload_n hx hb d_Euclid_cancelFirst_113 rfl (lv_at hl 5 rfl) ?_
        refine lv_iload_n hx hb d_Euclid_cancelFirst_114 rfl (lv_at hl 4 rfl) ?_
        refine lv_iconst (v := nI 1) hx hb d_Euclid_cancelFirst_115 (by decide) ?_
        refine lv_isub hx hb d_Euclid_cancelFirst_116 (xr_topi (y := nI (k - 1)) (pk_sub hdu) ?_)
        refine xr_put (ty := .int) X I fin_P t_P t_P_ok n_P ui (by omega) (pl_o h3) rfl 2 (by decide) (List.mem_cons_of_mem _ k_32cb2e953f) rfl rfl (by decide +kernel) rfl rfl (Nat.le_of_ble_eq_true rfl) d_Euclid_cancelFirst_117 (fun H locs I => ?_)
        have I : xI D classes N ad s.heap (va_up σ3 ui (.inr (ciP, [.ref (ad (ui + 1)), .ref (ad (ui + 9)), .int (nI (k - 1)), .int (nI lbs)]))) H locs := I
        exact xr_vret X I hr hlk ⟨F2, s2, fun q hq => (va_up_ne _ _ (by omega)).trans (fr3 q hq), pl_fields h3 (k - 1) lbs, fun q hq => g3 q (by omega)⟩ d_Euclid_cancelFirst_120
      · exact absurd (nI_le (Nat.le_refl _) (by omega)) hc
    | succ q8 ih =>
      intro k σ3 F2 s2 ls H locs hk h3 k3 fr3 g3 hl I
      refine lv_iload hx hb d_Euclid_cancelFirst_27 (lv_at hl 0 rfl) ?_
      refine lv_iload_n hx hb d_Euclid_cancelFirst_29 rfl (lv_at hl 4 rfl) ?_
      refine lv_icmp_ge hx hb d_Euclid_cancelFirst_30 rfl (fun hc => ?_) (fun hc => ?_)
      · exact absurd hc (nI_ge (by omega) (by omega))
      · refine lv_aload hx hb d_Euclid_cancelFirst_33 (lv_at hl 1 rfl) ?_
        refine lv_iconst (v := nI 0) hx hb d_Euclid_cancelFirst_35 (by decide) ?_
        refine lv_iload_n hx hb d_Euclid_cancelFirst_36 rfl (lv_at hl 3 rfl) ?_
        refine lv_iconst (v := nI 0) hx hb d_Euclid_cancelFirst_37 (by decide) ?_
        refine xr_callv (xr_runS (kc := 1) (kr := 2) (n := 4) (As := [.ref (ad (ui + 9)), .int (nI 0), .int (nI lbs), .int (nI 0)]) (rest := []) X I (c_Arrays_fill4 (a := ui + 9) (fr := 0) (to := lbs) (v := nI 0) (by omega) (pl_s h3) (by omega) hlb (by decide)) (xg k_0d10cb0081) (List.mem_cons_of_mem _ k_8fa435f096) (List.mem_cons_of_mem _ k_f06b3a4574) (List.mem_cons_of_mem _ k_9b51368402) (by decide +kernel) (by decide) rfl hl.1 rfl (Nat.le_of_ble_eq_true rfl) d_Euclid_cancelFirst_38) I (fun σ4 H locs hp I => ?_)
        obtain ⟨f2, rfl, f3, -⟩ := hp
        have h4 := pl_spare h3 f2
        have k4 := pl_else k3 (show ui + 9 < li ∨ li + 10 ≤ ui + 9 by omega) (.inl (cI, 45, .inl f2))
        have c0 : cnF U L du dl k k = U k := by rw [cnF, if_neg (Nat.lt_irrefl _)]
        have cd : cnF U L du dl k du = U du := by rw [cnF, if_neg (by omega)]
        have gk : lm_is (F2 k) lbs (U k) := by have h := g3 k (by omega); rwa [c0] at h
        have gd : lm_is (F2 du) lbs (U du) := by have h := g3 du (Nat.le_refl _); rwa [cd] at h
        refine lv_aload hx hb d_Euclid_cancelFirst_41 (lv_at hl 1 rfl) ?_
        refine lv_aload_n hx hb d_Euclid_cancelFirst_43 rfl (lv_at hl 5 rfl) ?_
        refine xr_get X I fin_P ui (by omega) (pl_o h4) rfl 0 (by decide) (List.mem_cons_of_mem _ k_0d65117528) rfl rfl d_Euclid_cancelFirst_44 ?_
        refine lv_iload hx hb d_Euclid_cancelFirst_47 (lv_at hl 0 rfl) ?_
        refine xr_aald X I (ui + 1) 4 (by omega) (pl_c h4) rfl rfl (by omega) (by decide) (pl_at (by omega)) d_Euclid_cancelFirst_49 ?_
        refine lv_aload_n hx hb d_Euclid_cancelFirst_50 rfl (lv_at hl 6 rfl) ?_
        refine xr_get X I fin_P li (by omega) (pl_o k4) rfl 0 (by decide) (List.mem_cons_of_mem _ k_0d65117528) rfl rfl d_Euclid_cancelFirst_51 ?_
        refine lv_aload_n hx hb d_Euclid_cancelFirst_54 rfl (lv_at hl 6 rfl) ?_
        refine xr_get X I fin_P li (by omega) (pl_o k4) rfl 2 (by decide) (List.mem_cons_of_mem _ k_32cb2e953f) rfl rfl d_Euclid_cancelFirst_55 ?_
        refine xr_aald X I (li + 1) 4 (by omega) (pl_c k4) rfl rfl (by omega) (by decide) (pl_at (by omega)) d_Euclid_cancelFirst_58 ?_
        refine lv_iconst (v := nI 1) hx hb d_Euclid_cancelFirst_59 (by decide) ?_
        refine lv_iload_n hx hb d_Euclid_cancelFirst_60 rfl (lv_at hl 3 rfl) ?_
        refine xr_callv (xr_runS (kc := 1) (kr := 2) (n := 5) (As := [.ref (ad (ui + 9)), .ref (ad (ui + 2 + k)), .ref (ad (li + 2 + dl)), .int (nI 1), .int (nI lbs)]) (rest := []) X I (c_Limbs_addProductP (a := ui + 9) (b := ui + 2 + k) (c9 := li + 2 + dl) (n := lbs) (by omega) (by omega) (by omega) (pl_s h4) (pl_r h4 (by omega)) (pl_r k4 (by omega)) (by omega) (by omega) hlb (by decide) hlb (by decide) hlb (by decide) (lm_is_zero (fun q hq => f3 q (by omega) hq)) gk (hil dl (Nat.le_refl _))) (xg k_46770d5d82) (List.mem_cons_of_mem _ k_4fd268d615) (List.mem_cons_of_mem _ k_f29c5092d9) (List.mem_cons_of_mem _ k_b15d0305ca) (by decide +kernel) (by decide) rfl hl.1 rfl (Nat.le_of_ble_eq_true rfl) d_Euclid_cancelFirst_61) I (fun σ4 H locs hp I => ?_)
        obtain ⟨f5, rfl, -, f6⟩ := hp
        have h5 := pl_spare h4 f5
        have k5 := pl_else k4 (show ui + 9 < li ∨ li + 10 ≤ ui + 9 by omega) (.inl (cI, 45, .inl f5))
        refine lv_iload hx hb d_Euclid_cancelFirst_64 (lv_at hl 0 rfl) ?_
        refine lv_iload hx hb d_Euclid_cancelFirst_66 (lv_at hl 2 rfl) ?_
        refine lv_icmp_lt hx hb d_Euclid_cancelFirst_68 rfl (fun hd => ?_) (fun hd => ?_)
        · have ho : ¬ du - dl ≤ k := fun h => absurd hd (nI_nlt h (by omega))
          refine lv_aload_n hx hb d_Euclid_cancelFirst_94 rfl (lv_at hl 5 rfl) ?_
          refine xr_get X I fin_P ui (by omega) (pl_o h5) rfl 0 (by decide) (List.mem_cons_of_mem _ k_0d65117528) rfl rfl d_Euclid_cancelFirst_95 ?_
          refine lv_iload hx hb d_Euclid_cancelFirst_98 (lv_at hl 0 rfl) ?_
          refine xr_aald X I (ui + 1) 4 (by omega) (pl_c h5) rfl rfl (by omega) (by decide) (pl_at (by omega)) d_Euclid_cancelFirst_100 ?_
          refine lv_aload hx hb d_Euclid_cancelFirst_101 (lv_at hl 1 rfl) ?_
          refine lv_iload_n hx hb d_Euclid_cancelFirst_103 rfl (lv_at hl 3 rfl) ?_
          refine xr_callv (xr_runS (kc := 1) (kr := 2) (n := 3) (As := [.ref (ad (ui + 2 + k)), .ref (ad (ui + 9)), .int (nI lbs)]) (rest := []) X I (c_Limbs_copy (a := ui + 2 + k) (b := ui + 9) (n := lbs) (by omega) (by omega) (pl_r h5 (by omega)) (pl_s h5) hlb (by decide) hlb (by decide)) (xg k_a09a60a57c) (List.mem_cons_of_mem _ k_8d5a2f9673) (List.mem_cons_of_mem _ k_d700ff4995) (List.mem_cons_of_mem _ k_b15d0305ca) (by decide +kernel) (by decide) rfl hl.1 rfl (Nat.le_of_ble_eq_true rfl) d_Euclid_cancelFirst_104) I (fun σ4 H locs hp I => ?_)
          rw [hp] at I
          refine lv_iinc (k := 0) (v := nI (k + 1)) (lv' := [(6, .int (nI (k + 1))), (5, .ref (ad (ui + 9))), (4, .int (nI (du - dl))), (3, .int (nI lbs)), (2, .int (nI du)), (0, .ref (ad ui)), (1, .ref (ad li))]) hx hb d_Euclid_cancelFirst_107 hl rfl (nI_1 k) (by decide) rfl (fun ls hl => ?_)
          refine lv_goto hx hb d_Euclid_cancelFirst_110 rfl ?_
          refine ih (k + 1) _ _ f5 ls H locs (by omega) (pl_row h5 (show k < 7 by omega) _) (pl_else k5 (by omega) _) (fun q hq => (va_up_ne _ _ (by omega)).trans ((va_up_ne _ _ (by omega)).trans ((va_up_ne _ _ (by omega)).trans (fr3 q hq)))) (fun q hq => ?_) hl I
          by_cases q9 : q = k
          · rw [q9, va_up_self, cnF, if_pos (Nat.lt_succ_self _)]; exact lm_cpy (lm_is_eq f6 (by rw [if_neg ho]; omega))
          · rw [va_up_ne _ _ q9]; refine lm_is_eq (g3 q hq) ?_
            rw [cnF, cnF]
            by_cases h : q < k
            · rw [if_pos h, if_pos (show q < k + 1 by omega)]
            · rw [if_neg h, if_neg (show ¬ q < k + 1 by omega)]
        · have ho : du - dl ≤ k := by rcases Nat.lt_or_ge k (du - dl) with h | h; exact absurd (nI_lt h (by omega)) hd; exact h
          refine lv_aload hx hb d_Euclid_cancelFirst_71 (lv_at hl 1 rfl) ?_
          refine lv_aload_n hx hb d_Euclid_cancelFirst_73 rfl (lv_at hl 6 rfl) ?_
          refine xr_get X I fin_P li (by omega) (pl_o k5) rfl 0 (by decide) (List.mem_cons_of_mem _ k_0d65117528) rfl rfl d_Euclid_cancelFirst_74 ?_
          refine lv_iload hx hb d_Euclid_cancelFirst_77 (lv_at hl 0 rfl) ?_
          refine lv_iload hx hb d_Euclid_cancelFirst_79 (lv_at hl 2 rfl) ?_
          refine lv_isub hx hb d_Euclid_cancelFirst_81 (xr_topi (y := nI (k - (du - dl))) (pk_sub ho) ?_)
          refine xr_aald X I (li + 1) 4 (by omega) (pl_c k5) rfl rfl (by omega) (by decide) (pl_at (by omega)) d_Euclid_cancelFirst_82 ?_
          refine lv_aload_n hx hb d_Euclid_cancelFirst_83 rfl (lv_at hl 5 rfl) ?_
          refine xr_get X I fin_P ui (by omega) (pl_o h5) rfl 0 (by decide) (List.mem_cons_of_mem _ k_0d65117528) rfl rfl d_Euclid_cancelFirst_84 ?_
          refine lv_iload_n hx hb d_Euclid_cancelFirst_87 rfl (lv_at hl 4 rfl) ?_
          refine xr_aald X I (ui + 1) 4 (by omega) (pl_c h5) rfl rfl (by omega) (by decide) (pl_at (by omega)) d_Euclid_cancelFirst_88 ?_
          refine lv_iconst (v := (-1)) hx hb d_Euclid_cancelFirst_89 (by decide) ?_
          refine lv_iload_n hx hb d_Euclid_cancelFirst_90 rfl (lv_at hl 3 rfl) ?_
          refine xr_callv (xr_runS (kc := 1) (kr := 2) (n := 5) (As := [.ref (ad (ui + 9)), .ref (ad (li + 2 + (k - (du - dl)))), .ref (ad (ui + 2 + du)), .int ((-1)), .int (nI lbs)]) (rest := []) X I (c_Limbs_addProductM (a := ui + 9) (b := li + 2 + (k - (du - dl))) (c9 := ui + 2 + du) (n := lbs) (by omega) (by omega) (by omega) (pl_s h5) (pl_r k5 (by omega)) (pl_r h5 (by omega)) (by omega) (by omega) hlb (by decide) hlb (by decide) hlb (by decide) f6 (hil _ (by omega)) gd) (xg k_46770d5d82) (List.mem_cons_of_mem _ k_4fd268d615) (List.mem_cons_of_mem _ k_f29c5092d9) (List.mem_cons_of_mem _ k_b15d0305ca) (by decide +kernel) (by decide) rfl hl.1 rfl (Nat.le_of_ble_eq_true rfl) d_Euclid_cancelFirst_91) I (fun σ4 H locs hp I => ?_)
          obtain ⟨f7, rfl, -, f8⟩ := hp
          have h6 := pl_spare h5 f7
          have k6 := pl_else k5 (show ui + 9 < li ∨ li + 10 ≤ ui + 9 by omega) (.inl (cI, 45, .inl f7))
          refine lv_aload_n hx hb d_Euclid_cancelFirst_94 rfl (lv_at hl 5 rfl) ?_
          refine xr_get X I fin_P ui (by omega) (pl_o h6) rfl 0 (by decide) (List.mem_cons_of_mem _ k_0d65117528) rfl rfl d_Euclid_cancelFirst_95 ?_
          refine lv_iload hx hb d_Euclid_cancelFirst_98 (lv_at hl 0 rfl) ?_
          refine xr_aald X I (ui + 1) 4 (by omega) (pl_c h6) rfl rfl (by omega) (by decide) (pl_at (by omega)) d_Euclid_cancelFirst_100 ?_
          refine lv_aload hx hb d_Euclid_cancelFirst_101 (lv_at hl 1 rfl) ?_
          refine lv_iload_n hx hb d_Euclid_cancelFirst_103 rfl (lv_at hl 3 rfl) ?_
          refine xr_callv (xr_runS (kc := 1) (kr := 2) (n := 3) (As := [.ref (ad (ui + 2 + k)), .ref (ad (ui + 9)), .int (nI lbs)]) (rest := []) X I (c_Limbs_copy (a := ui + 2 + k) (b := ui + 9) (n := lbs) (by omega) (by omega) (pl_r h6 (by omega)) (pl_s h6) hlb (by decide) hlb (by decide)) (xg k_a09a60a57c) (List.mem_cons_of_mem _ k_8d5a2f9673) (List.mem_cons_of_mem _ k_d700ff4995) (List.mem_cons_of_mem _ k_b15d0305ca) (by decide +kernel) (by decide) rfl hl.1 rfl (Nat.le_of_ble_eq_true rfl) d_Euclid_cancelFirst_104) I (fun σ4 H locs hp I => ?_)
          rw [hp] at I
          refine lv_iinc (k := 0) (v := nI (k + 1)) (lv' := [(6, .int (nI (k + 1))), (5, .ref (ad (ui + 9))), (4, .int (nI (du - dl))), (3, .int (nI lbs)), (2, .int (nI du)), (0, .ref (ad ui)), (1, .ref (ad li))]) hx hb d_Euclid_cancelFirst_107 hl rfl (nI_1 k) (by decide) rfl (fun ls hl => ?_)
          refine lv_goto hx hb d_Euclid_cancelFirst_110 rfl ?_
          refine ih (k + 1) _ _ f7 ls H locs (by omega) (pl_row h6 (show k < 7 by omega) _) (pl_else k6 (by omega) _) (fun q hq => (va_up_ne _ _ (by omega)).trans ((va_up_ne _ _ (by omega)).trans ((va_up_ne _ _ (by omega)).trans ((va_up_ne _ _ (by omega)).trans (fr3 q hq))))) (fun q hq => ?_) hl I
          by_cases q9 : q = k
          · rw [q9, va_up_self, cnF, if_pos (Nat.lt_succ_self _)]; exact lm_cpy (lm_is_eq f8 (by rw [if_pos ho]; omega))
          · rw [va_up_ne _ _ q9]; refine lm_is_eq (g3 q hq) ?_
            rw [cnF, cnF]
            by_cases h : q < k
            · rw [if_pos h, if_pos (show q < k + 1 by omega)]
            · rw [if_neg h, if_neg (show ¬ q < k + 1 by omega)]
  exact loop du 0 σ Fu su ls _ _ (by omega) hU hL pl_fr10_rf (fun q hq => by rw [cnF, if_neg (Nat.not_lt_zero _)]; exact hiu q hq) hl I
set_option maxHeartbeats 4000000 in
set_option maxRecDepth 100000 in
theorem c_Euclid_divideAll1 {l : Launch} {D : va_G} {cI cJ cZ cC cG cP : ClassId} {N : Nat} {ad : Nat → Nat} {σ : Nat → va_E} {ui du lbs : Nat} {Fu : Nat → Nat → Int32} {su g : Nat → Int32} {U qq : Nat → Int} {dv : Int} (hN : N = 193) (hui : 156 ≤ ui ∧ ui + 10 ≤ 176) (hOe : σ 155 = .inr (ciC, [.ref (ad 156), .ref (ad 166), .ref (ad 176)])) (hU : pl ad cI cG σ ui 45 du lbs Fu su) (hg : σ 176 = .inl (cI, 45, .inl g)) (hlb : lbs ≤ 45) (hl2 : 1 ≤ lbs) (hd6 : du ≤ 6) (hiu : pl_is Fu du lbs U) (hsz : pl_sz du lbs U) (hdv : lm_si g lbs dv) (hdv0 : dv ≠ 0) (hqq : ∀ q, q ≤ du → U q = dv * qq q) :
    Met l y_Euclid_divideAll v_Euclid_divideAll (xrm 2) (va_Pc [.ref (ad 155), .ref (ad ui), .int (nI 1)] (xS D classes (xT cI cJ cZ cC cG cP) N ad σ)) (va_Qv (fun σ2 => ∃ (F2 : Nat → Nat → Int32) (g2 : Nat → Int32), (∀ q, (q < ui + 2 ∨ ui + 9 ≤ q) → q ≠ 176 → σ2 q = σ q) ∧ σ2 176 = .inl (cI, 45, .inl g2) ∧ pl ad cI cG σ2 ui 45 du lbs F2 su ∧ pl_is F2 du lbs qq) (xS D classes (xT cI cJ cZ cC cG cP) N ad) (xA N ad)) 0 0 (xA N ad) := by
  refine xr_met rfl (Nat.le_of_ble_eq_true rfl) ?_
  intro p e s m args below meth c ls hx hb X hr hlk hl I
  have hl : lv_has ls 6 [(0, .ref (ad 155)), (1, .ref (ad ui)), (2, .int (nI 1))] := hl
  refine lv_aload_n hx hb d_Euclid_divideAll_0 rfl (lv_at hl 0 rfl) ?_
  refine xr_get X I fin_C 155 (by omega) hOe rfl 2 (by decide) (List.mem_cons_of_mem _ k_34a72900f7) rfl rfl d_Euclid_divideAll_1 ?_
  refine lv_aload_n hx hb d_Euclid_divideAll_4 rfl (lv_at hl 1 rfl) ?_
  refine xr_get X I fin_P ui (by omega) (pl_o hU) rfl 3 (by decide) (List.mem_cons_of_mem _ k_f41369adce) rfl rfl d_Euclid_divideAll_5 ?_
  have hu0 : lm_u g lbs ≠ 0 := lm_si_ne hdv hdv0
  refine xr_calli (xr_runS (kc := 1) (kr := 2) (n := 2) (As := [.ref (ad 176), .int (nI lbs)]) (rest := []) X I (c_Limbs_zeroBitsAtEnd (a := 176) (n := lbs) (by omega) hg hlb (by decide) hdv.1.1 hu0) (xg k_3c63172879) (List.mem_cons_of_mem _ k_6351644be4) (List.mem_cons_of_mem _ k_455511446b) (List.mem_cons_of_mem _ k_b15d0305ca) (by decide +kernel) (by decide) rfl hl.1 rfl (Nat.le_of_ble_eq_true rfl) d_Euclid_divideAll_8) I (fun r1 σ9 H locs hp I => ?_)
  obtain ⟨h9, z9, rfl, hz1, y8, hy8⟩ := hp; rw [h9] at I; clear h9
  obtain ⟨y9, hy9⟩ := lm_dv_odd hdv hz1 hy8
  have hz2 : (0 : Int) < 2 ^ z9 := Int.pow_pos (by decide)
  refine lv_istore_n (lv' := [(3, .int (nI z9)), (0, .ref (ad 155)), (1, .ref (ad ui)), (2, .int (nI 1))]) hx hb d_Euclid_divideAll_11 rfl hl (by decide) rfl (fun ls hl => ?_)
  refine lv_aload_n hx hb d_Euclid_divideAll_12 rfl (lv_at hl 1 rfl) ?_
  refine xr_get X I fin_C 155 (by omega) hOe rfl 2 (by decide) (List.mem_cons_of_mem _ k_34a72900f7) rfl rfl d_Euclid_divideAll_13 ?_
  refine lv_iload_n hx hb d_Euclid_divideAll_16 rfl (lv_at hl 0 rfl) ?_
  refine lv_aload_n hx hb d_Euclid_divideAll_17 rfl (lv_at hl 2 rfl) ?_
  refine xr_get X I fin_P ui (by omega) (pl_o hU) rfl 3 (by decide) (List.mem_cons_of_mem _ k_f41369adce) rfl rfl d_Euclid_divideAll_18 ?_
  refine xr_callv (xr_runS (kc := 0) (kr := 2) (n := 3) (As := [.ref (ad 176), .int (nI z9), .int (nI lbs)]) (rest := []) X I (c_Limbs_halve (a := 176) (t9 := z9) (n := lbs) (x := dv) (by omega) hg (by omega) hlb (by decide) (by omega) hdv) (xg k_8d9692048a) (List.mem_cons_of_mem _ k_2f65515de3) (List.mem_cons_of_mem _ k_f4f15af44f) (List.mem_cons_of_mem _ k_b15d0305ca) (by decide +kernel) (by decide) rfl hl.1 rfl (Nat.le_of_ble_eq_true rfl) d_Euclid_divideAll_21) I (fun σ9 H locs hp I => ?_)
  obtain ⟨g2, rfl, -, hg2⟩ := hp
  have hg3 : lm_is g2 lbs (2 * y9 + 1) := lm_is_eq hg2 (by rw [hy9, Int.mul_ediv_cancel_left _ (by omega)])
  obtain ⟨m9, hm1, hm2⟩ := lm_odd_limb hg3 (show 0 < lbs by omega)
  refine lv_iconst (v := nI 0) hx hb d_Euclid_divideAll_24 (by decide) ?_
  refine lv_istore (lv' := [(4, .int (nI 0)), (3, .int (nI z9)), (0, .ref (ad 155)), (1, .ref (ad ui)), (2, .int (nI 1))]) hx hb d_Euclid_divideAll_25 hl (by decide) rfl (fun ls hl => ?_)
  have loop : ∀ (q8 : Nat) (k : Nat) (σ3 : Nat → va_E) (F2 : Nat → Nat → Int32) (ls : Array Slot) (H : Heap) (locs : List Loc), k + q8 = du + 1 → pl ad cI cG σ3 ui 45 du lbs F2 su → (∀ q, (q < ui + 2 ∨ ui + 9 ≤ q) → q ≠ 176 → σ3 q = σ q) → σ3 176 = .inl (cI, 45, .inl g2) → (∀ q, q ≤ du → lm_is (F2 q) lbs (if q < k then qq q else U q)) → lv_has ls 6 [(4, .int (nI k)), (3, .int (nI z9)), (0, .ref (ad 155)), (1, .ref (ad ui)), (2, .int (nI 1))] → xI D classes N ad s.heap (σ3) H locs → W p l e (xrm 2) s m args below meth c H locs 0 0 (MQ below (va_Qv (fun σ2 => ∃ (F2 : Nat → Nat → Int32) (g2 : Nat → Int32), (∀ q, (q < ui + 2 ∨ ui + 9 ≤ q) → q ≠ 176 → σ2 q = σ q) ∧ σ2 176 = .inl (cI, 45, .inl g2) ∧ pl ad cI cG σ2 ui 45 du lbs F2 su ∧ pl_is F2 du lbs qq) (xS D classes (xT cI cJ cZ cC cG cP) N ad) (xA N ad)) args s 0 0 (xA N ad)) (F0 m 27 ls []) := by
    intro q8
    induction q8 with
    | zero =>
      intro k σ3 F2 ls H locs hk h3 fr3 k3 g3 hl I
      obtain rfl : k = du + 1 := by omega
      refine lv_iload hx hb d_Euclid_divideAll_27 (lv_at hl 0 rfl) ?_
      refine lv_aload_n hx hb d_Euclid_divideAll_29 rfl (lv_at hl 3 rfl) ?_
      refine xr_get X I fin_P ui (by omega) (pl_o h3) rfl 2 (by decide) (List.mem_cons_of_mem _ k_32cb2e953f) rfl rfl d_Euclid_divideAll_30 ?_
      refine lv_icmp_gt hx hb d_Euclid_divideAll_33 rfl (fun hc => ?_) (fun hc => ?_)
      · exact xr_vret X I hr hlk ⟨F2, g2, fr3, k3, h3, fun q hq => by have h := g3 q hq; rwa [if_pos (by omega)] at h⟩ d_Euclid_divideAll_92
      · exact absurd (nI_lt (Nat.lt_succ_self _) (by omega)) hc
    | succ q8 ih =>
      intro k σ3 F2 ls H locs hk h3 fr3 k3 g3 hl I
      refine lv_iload hx hb d_Euclid_divideAll_27 (lv_at hl 0 rfl) ?_
      refine lv_aload_n hx hb d_Euclid_divideAll_29 rfl (lv_at hl 3 rfl) ?_
      refine xr_get X I fin_P ui (by omega) (pl_o h3) rfl 2 (by decide) (List.mem_cons_of_mem _ k_32cb2e953f) rfl rfl d_Euclid_divideAll_30 ?_
      refine lv_icmp_gt hx hb d_Euclid_divideAll_33 rfl (fun hc => ?_) (fun hc => ?_)
      · exact absurd hc (nI_nlt (by omega) (by omega))
      · refine lv_aload_n hx hb d_Euclid_divideAll_36 rfl (lv_at hl 3 rfl) ?_
        refine xr_get X I fin_P ui (by omega) (pl_o h3) rfl 0 (by decide) (List.mem_cons_of_mem _ k_0d65117528) rfl rfl d_Euclid_divideAll_37 ?_
        refine lv_iload hx hb d_Euclid_divideAll_40 (lv_at hl 0 rfl) ?_
        refine xr_aald X I (ui + 1) 4 (by omega) (pl_c h3) rfl rfl (by omega) (by decide) (pl_at (by omega)) d_Euclid_divideAll_42 ?_
        refine lv_iload_n hx hb d_Euclid_divideAll_43 rfl (lv_at hl 1 rfl) ?_
        refine lv_iload_n hx hb d_Euclid_divideAll_44 rfl (lv_at hl 4 rfl) ?_
        refine lv_imul hx hb d_Euclid_divideAll_45 (xr_topi (y := nI (z9 * 1)) (pk_mul z9 1) ?_)
        refine lv_aload_n hx hb d_Euclid_divideAll_46 rfl (lv_at hl 3 rfl) ?_
        refine xr_get X I fin_P ui (by omega) (pl_o h3) rfl 3 (by decide) (List.mem_cons_of_mem _ k_f41369adce) rfl rfl d_Euclid_divideAll_47 ?_
        have gk := g3 k (by omega)
        rw [if_neg (Nat.lt_irrefl _)] at gk
        refine xr_callv (xr_runS (kc := 0) (kr := 2) (n := 3) (As := [.ref (ad (ui + 2 + k)), .int (nI (z9 * 1)), .int (nI lbs)]) (rest := []) X I (c_Limbs_halve (a := ui + 2 + k) (t9 := z9 * 1) (n := lbs) (x := U k) (by omega) (pl_r h3 (by omega)) (by omega) hlb (by decide) (by omega) ⟨gk, hsz k (by omega)⟩) (xg k_8d9692048a) (List.mem_cons_of_mem _ k_2f65515de3) (List.mem_cons_of_mem _ k_f4f15af44f) (List.mem_cons_of_mem _ k_b15d0305ca) (by decide +kernel) (by decide) rfl hl.1 rfl (Nat.le_of_ble_eq_true rfl) d_Euclid_divideAll_50) I (fun σ9 H locs hp I => ?_)
        obtain ⟨f2, rfl, -, f3⟩ := hp
        have f4 : lm_is f2 lbs ((2 * y9 + 1) * qq k) := lm_is_eq f3 (by rw [Nat.mul_one]; exact pl_div hy9 hz2 (hqq k (by omega)))
        have h4 := pl_row h3 (show k < 7 by omega) f2
        refine lv_iconst (v := nI 0) hx hb d_Euclid_divideAll_53 (by decide) ?_
        refine lv_istore (lv' := [(5, .int (nI 0)), (4, .int (nI k)), (3, .int (nI z9)), (0, .ref (ad 155)), (1, .ref (ad ui)), (2, .int (nI 1))]) hx hb d_Euclid_divideAll_54 hl (by decide) rfl (fun ls hl => ?_)
        refine lv_iload hx hb d_Euclid_divideAll_56 (lv_at hl 0 rfl) ?_
        refine lv_iload_n hx hb d_Euclid_divideAll_58 rfl (lv_at hl 5 rfl) ?_
        refine lv_icmp_ge hx hb d_Euclid_divideAll_59 rfl (fun he => ?_) (fun he => ?_)
        · exact absurd he (by decide)
        · refine lv_aload_n hx hb d_Euclid_divideAll_62 rfl (lv_at hl 4 rfl) ?_
          refine xr_get X I fin_P ui (by omega) (pl_o h4) rfl 0 (by decide) (List.mem_cons_of_mem _ k_0d65117528) rfl rfl d_Euclid_divideAll_63 ?_
          refine lv_iload hx hb d_Euclid_divideAll_66 (lv_at hl 1 rfl) ?_
          refine xr_aald X I (ui + 1) 4 (by omega) (pl_c h4) rfl rfl (by omega) (by decide) (pl_at (by omega)) d_Euclid_divideAll_68 ?_
          refine lv_aload_n hx hb d_Euclid_divideAll_69 rfl (lv_at hl 3 rfl) ?_
          refine xr_get X I fin_C 155 (by omega) ((va_up_ne _ _ (by omega)).trans ((fr3 155 (by omega) (by decide)).trans hOe)) rfl 2 (by decide) (List.mem_cons_of_mem _ k_34a72900f7) rfl rfl d_Euclid_divideAll_70 ?_
          refine lv_aload_n hx hb d_Euclid_divideAll_73 rfl (lv_at hl 4 rfl) ?_
          refine xr_get X I fin_P ui (by omega) (pl_o h4) rfl 3 (by decide) (List.mem_cons_of_mem _ k_f41369adce) rfl rfl d_Euclid_divideAll_74 ?_
          refine xr_callv (xr_runS (kc := 1) (kr := 2) (n := 3) (As := [.ref (ad (ui + 2 + k)), .ref (ad 176), .int (nI lbs)]) (rest := []) X I (c_Limbs_divideByOdd (a := ui + 2 + k) (b := 176) (n := lbs) (x := (2 * y9 + 1) * (qq k)) (y := 2 * y9 + 1) (q9 := qq k) (m9 := m9) (by omega) (by omega) (pl_r h4 (by omega)) ((va_up_ne _ _ (by omega)).trans (k3)) (by omega) (by omega) hlb (by decide) hlb (by decide) (by rw [va_up_self]; exact f4) hg3 hm1 hm2 rfl) (xg k_fabf5d9a26) (List.mem_cons_of_mem _ k_9324ebff4c) (List.mem_cons_of_mem _ k_4abddd947f) (List.mem_cons_of_mem _ k_b15d0305ca) (by decide +kernel) (by decide) rfl hl.1 rfl (Nat.le_of_ble_eq_true rfl) d_Euclid_divideAll_77) I (fun σ9 H locs hp I => ?_)
          obtain ⟨f5, rfl, -, f6⟩ := hp
          have h5 := pl_row h4 (show k < 7 by omega) f5
          refine lv_iinc (k := 0) (v := nI 1) (lv' := [(5, .int (nI 1)), (4, .int (nI k)), (3, .int (nI z9)), (0, .ref (ad 155)), (1, .ref (ad ui)), (2, .int (nI 1))]) hx hb d_Euclid_divideAll_80 hl rfl (by decide) (by decide) rfl (fun ls hl => ?_)
          refine lv_goto hx hb d_Euclid_divideAll_83 rfl ?_
          refine lv_iload hx hb d_Euclid_divideAll_56 (lv_at hl 0 rfl) ?_
          refine lv_iload_n hx hb d_Euclid_divideAll_58 rfl (lv_at hl 5 rfl) ?_
          refine lv_icmp_ge hx hb d_Euclid_divideAll_59 rfl (fun he => ?_) (fun he => ?_)
          · refine lv_iinc (k := 1) (v := nI (k + 1)) (lv' := [(4, .int (nI (k + 1))), (5, .int (nI 1)), (3, .int (nI z9)), (0, .ref (ad 155)), (1, .ref (ad ui)), (2, .int (nI 1))]) hx hb d_Euclid_divideAll_86 hl rfl (nI_1 k) (by decide) rfl (fun ls hl => ?_)
            refine lv_goto hx hb d_Euclid_divideAll_89 rfl ?_
            have hl := lv_sub hl [0, 2, 3, 4, 5] rfl
            have hl : lv_has ls 6 [(4, .int (nI (k + 1))), (3, .int (nI z9)), (0, .ref (ad 155)), (1, .ref (ad ui)), (2, .int (nI 1))] := hl
            refine ih (k + 1) _ _ ls H locs (by omega) h5 (fun q h1 h2 => (va_up_ne _ _ (by omega)).trans ((va_up_ne _ _ (by omega)).trans (fr3 q h1 h2))) ((va_up_ne _ _ (by omega)).trans ((va_up_ne _ _ (by omega)).trans (k3))) (fun q hq => ?_) hl I
            by_cases q9 : q = k
            · rw [q9, if_pos (Nat.lt_succ_self _)]; rw [va_up_self]; exact f6
            · rw [va_up_ne _ _ q9]; rw [va_up_ne _ _ q9]; have h := g3 q hq
              by_cases h2 : q < k
              · rw [if_pos h2] at h; rw [if_pos (show q < k + 1 by omega)]; exact h
              · rw [if_neg h2] at h; rw [if_neg (show ¬ q < k + 1 by omega)]; exact h
          · exact absurd (by decide) he
  exact loop (du + 1) 0 _ Fu ls _ _ (by omega) (pl_else hU (by omega) _) (fun q h1 h2 => va_up_ne _ _ h2) (va_up_self _ _ _) (fun q hq => by rw [if_neg (Nat.not_lt_zero _)]; exact hiu q hq) hl I
set_option maxHeartbeats 4000000 in
set_option maxRecDepth 100000 in
theorem c_Euclid_divideAll2 {l : Launch} {D : va_G} {cI cJ cZ cC cG cP : ClassId} {N : Nat} {ad : Nat → Nat} {σ : Nat → va_E} {ui du lbs : Nat} {Fu : Nat → Nat → Int32} {su g : Nat → Int32} {U qq : Nat → Int} {dv : Int} (hN : N = 193) (hui : 156 ≤ ui ∧ ui + 10 ≤ 176) (hOe : σ 155 = .inr (ciC, [.ref (ad 156), .ref (ad 166), .ref (ad 176)])) (hU : pl ad cI cG σ ui 45 du lbs Fu su) (hg : σ 176 = .inl (cI, 45, .inl g)) (hlb : lbs ≤ 45) (hl2 : 1 ≤ lbs) (hd6 : du ≤ 6) (hiu : pl_is Fu du lbs U) (hsz : pl_sz du lbs U) (hdv : lm_si g lbs dv) (hdv0 : dv ≠ 0) (hqq : ∀ q, q ≤ du → U q = dv * dv * qq q) :
    Met l y_Euclid_divideAll v_Euclid_divideAll (xrm 2) (va_Pc [.ref (ad 155), .ref (ad ui), .int (nI 2)] (xS D classes (xT cI cJ cZ cC cG cP) N ad σ)) (va_Qv (fun σ2 => ∃ (F2 : Nat → Nat → Int32) (g2 : Nat → Int32), (∀ q, (q < ui + 2 ∨ ui + 9 ≤ q) → q ≠ 176 → σ2 q = σ q) ∧ σ2 176 = .inl (cI, 45, .inl g2) ∧ pl ad cI cG σ2 ui 45 du lbs F2 su ∧ pl_is F2 du lbs qq) (xS D classes (xT cI cJ cZ cC cG cP) N ad) (xA N ad)) 0 0 (xA N ad) := by
  refine xr_met rfl (Nat.le_of_ble_eq_true rfl) ?_
  intro p e s m args below meth c ls hx hb X hr hlk hl I
  have hl : lv_has ls 6 [(0, .ref (ad 155)), (1, .ref (ad ui)), (2, .int (nI 2))] := hl
  refine lv_aload_n hx hb d_Euclid_divideAll_0 rfl (lv_at hl 0 rfl) ?_
  refine xr_get X I fin_C 155 (by omega) hOe rfl 2 (by decide) (List.mem_cons_of_mem _ k_34a72900f7) rfl rfl d_Euclid_divideAll_1 ?_
  refine lv_aload_n hx hb d_Euclid_divideAll_4 rfl (lv_at hl 1 rfl) ?_
  refine xr_get X I fin_P ui (by omega) (pl_o hU) rfl 3 (by decide) (List.mem_cons_of_mem _ k_f41369adce) rfl rfl d_Euclid_divideAll_5 ?_
  have hu0 : lm_u g lbs ≠ 0 := lm_si_ne hdv hdv0
  refine xr_calli (xr_runS (kc := 1) (kr := 2) (n := 2) (As := [.ref (ad 176), .int (nI lbs)]) (rest := []) X I (c_Limbs_zeroBitsAtEnd (a := 176) (n := lbs) (by omega) hg hlb (by decide) hdv.1.1 hu0) (xg k_3c63172879) (List.mem_cons_of_mem _ k_6351644be4) (List.mem_cons_of_mem _ k_455511446b) (List.mem_cons_of_mem _ k_b15d0305ca) (by decide +kernel) (by decide) rfl hl.1 rfl (Nat.le_of_ble_eq_true rfl) d_Euclid_divideAll_8) I (fun r1 σ9 H locs hp I => ?_)
  obtain ⟨h9, z9, rfl, hz1, y8, hy8⟩ := hp; rw [h9] at I; clear h9
  obtain ⟨y9, hy9⟩ := lm_dv_odd hdv hz1 hy8
  have hz2 : (0 : Int) < 2 ^ z9 := Int.pow_pos (by decide)
  refine lv_istore_n (lv' := [(3, .int (nI z9)), (0, .ref (ad 155)), (1, .ref (ad ui)), (2, .int (nI 2))]) hx hb d_Euclid_divideAll_11 rfl hl (by decide) rfl (fun ls hl => ?_)
  refine lv_aload_n hx hb d_Euclid_divideAll_12 rfl (lv_at hl 1 rfl) ?_
  refine xr_get X I fin_C 155 (by omega) hOe rfl 2 (by decide) (List.mem_cons_of_mem _ k_34a72900f7) rfl rfl d_Euclid_divideAll_13 ?_
  refine lv_iload_n hx hb d_Euclid_divideAll_16 rfl (lv_at hl 0 rfl) ?_
  refine lv_aload_n hx hb d_Euclid_divideAll_17 rfl (lv_at hl 2 rfl) ?_
  refine xr_get X I fin_P ui (by omega) (pl_o hU) rfl 3 (by decide) (List.mem_cons_of_mem _ k_f41369adce) rfl rfl d_Euclid_divideAll_18 ?_
  refine xr_callv (xr_runS (kc := 0) (kr := 2) (n := 3) (As := [.ref (ad 176), .int (nI z9), .int (nI lbs)]) (rest := []) X I (c_Limbs_halve (a := 176) (t9 := z9) (n := lbs) (x := dv) (by omega) hg (by omega) hlb (by decide) (by omega) hdv) (xg k_8d9692048a) (List.mem_cons_of_mem _ k_2f65515de3) (List.mem_cons_of_mem _ k_f4f15af44f) (List.mem_cons_of_mem _ k_b15d0305ca) (by decide +kernel) (by decide) rfl hl.1 rfl (Nat.le_of_ble_eq_true rfl) d_Euclid_divideAll_21) I (fun σ9 H locs hp I => ?_)
  obtain ⟨g2, rfl, -, hg2⟩ := hp
  have hg3 : lm_is g2 lbs (2 * y9 + 1) := lm_is_eq hg2 (by rw [hy9, Int.mul_ediv_cancel_left _ (by omega)])
  obtain ⟨m9, hm1, hm2⟩ := lm_odd_limb hg3 (show 0 < lbs by omega)
  refine lv_iconst (v := nI 0) hx hb d_Euclid_divideAll_24 (by decide) ?_
  refine lv_istore (lv' := [(4, .int (nI 0)), (3, .int (nI z9)), (0, .ref (ad 155)), (1, .ref (ad ui)), (2, .int (nI 2))]) hx hb d_Euclid_divideAll_25 hl (by decide) rfl (fun ls hl => ?_)
  have loop : ∀ (q8 : Nat) (k : Nat) (σ3 : Nat → va_E) (F2 : Nat → Nat → Int32) (ls : Array Slot) (H : Heap) (locs : List Loc), k + q8 = du + 1 → pl ad cI cG σ3 ui 45 du lbs F2 su → (∀ q, (q < ui + 2 ∨ ui + 9 ≤ q) → q ≠ 176 → σ3 q = σ q) → σ3 176 = .inl (cI, 45, .inl g2) → (∀ q, q ≤ du → lm_is (F2 q) lbs (if q < k then qq q else U q)) → lv_has ls 6 [(4, .int (nI k)), (3, .int (nI z9)), (0, .ref (ad 155)), (1, .ref (ad ui)), (2, .int (nI 2))] → xI D classes N ad s.heap (σ3) H locs → W p l e (xrm 2) s m args below meth c H locs 0 0 (MQ below (va_Qv (fun σ2 => ∃ (F2 : Nat → Nat → Int32) (g2 : Nat → Int32), (∀ q, (q < ui + 2 ∨ ui + 9 ≤ q) → q ≠ 176 → σ2 q = σ q) ∧ σ2 176 = .inl (cI, 45, .inl g2) ∧ pl ad cI cG σ2 ui 45 du lbs F2 su ∧ pl_is F2 du lbs qq) (xS D classes (xT cI cJ cZ cC cG cP) N ad) (xA N ad)) args s 0 0 (xA N ad)) (F0 m 27 ls []) := by
    intro q8
    induction q8 with
    | zero =>
      intro k σ3 F2 ls H locs hk h3 fr3 k3 g3 hl I
      obtain rfl : k = du + 1 := by omega
      refine lv_iload hx hb d_Euclid_divideAll_27 (lv_at hl 0 rfl) ?_
      refine lv_aload_n hx hb d_Euclid_divideAll_29 rfl (lv_at hl 3 rfl) ?_
      refine xr_get X I fin_P ui (by omega) (pl_o h3) rfl 2 (by decide) (List.mem_cons_of_mem _ k_32cb2e953f) rfl rfl d_Euclid_divideAll_30 ?_
      refine lv_icmp_gt hx hb d_Euclid_divideAll_33 rfl (fun hc => ?_) (fun hc => ?_)
      · exact xr_vret X I hr hlk ⟨F2, g2, fr3, k3, h3, fun q hq => by have h := g3 q hq; rwa [if_pos (by omega)] at h⟩ d_Euclid_divideAll_92
      · exact absurd (nI_lt (Nat.lt_succ_self _) (by omega)) hc
    | succ q8 ih =>
      intro k σ3 F2 ls H locs hk h3 fr3 k3 g3 hl I
      refine lv_iload hx hb d_Euclid_divideAll_27 (lv_at hl 0 rfl) ?_
      refine lv_aload_n hx hb d_Euclid_divideAll_29 rfl (lv_at hl 3 rfl) ?_
      refine xr_get X I fin_P ui (by omega) (pl_o h3) rfl 2 (by decide) (List.mem_cons_of_mem _ k_32cb2e953f) rfl rfl d_Euclid_divideAll_30 ?_
      refine lv_icmp_gt hx hb d_Euclid_divideAll_33 rfl (fun hc => ?_) (fun hc => ?_)
      · exact absurd hc (nI_nlt (by omega) (by omega))
      · refine lv_aload_n hx hb d_Euclid_divideAll_36 rfl (lv_at hl 3 rfl) ?_
        refine xr_get X I fin_P ui (by omega) (pl_o h3) rfl 0 (by decide) (List.mem_cons_of_mem _ k_0d65117528) rfl rfl d_Euclid_divideAll_37 ?_
        refine lv_iload hx hb d_Euclid_divideAll_40 (lv_at hl 0 rfl) ?_
        refine xr_aald X I (ui + 1) 4 (by omega) (pl_c h3) rfl rfl (by omega) (by decide) (pl_at (by omega)) d_Euclid_divideAll_42 ?_
        refine lv_iload_n hx hb d_Euclid_divideAll_43 rfl (lv_at hl 1 rfl) ?_
        refine lv_iload_n hx hb d_Euclid_divideAll_44 rfl (lv_at hl 4 rfl) ?_
        refine lv_imul hx hb d_Euclid_divideAll_45 (xr_topi (y := nI (z9 * 2)) (pk_mul z9 2) ?_)
        refine lv_aload_n hx hb d_Euclid_divideAll_46 rfl (lv_at hl 3 rfl) ?_
        refine xr_get X I fin_P ui (by omega) (pl_o h3) rfl 3 (by decide) (List.mem_cons_of_mem _ k_f41369adce) rfl rfl d_Euclid_divideAll_47 ?_
        have gk := g3 k (by omega)
        rw [if_neg (Nat.lt_irrefl _)] at gk
        refine xr_callv (xr_runS (kc := 0) (kr := 2) (n := 3) (As := [.ref (ad (ui + 2 + k)), .int (nI (z9 * 2)), .int (nI lbs)]) (rest := []) X I (c_Limbs_halve (a := ui + 2 + k) (t9 := z9 * 2) (n := lbs) (x := U k) (by omega) (pl_r h3 (by omega)) (by omega) hlb (by decide) (by omega) ⟨gk, hsz k (by omega)⟩) (xg k_8d9692048a) (List.mem_cons_of_mem _ k_2f65515de3) (List.mem_cons_of_mem _ k_f4f15af44f) (List.mem_cons_of_mem _ k_b15d0305ca) (by decide +kernel) (by decide) rfl hl.1 rfl (Nat.le_of_ble_eq_true rfl) d_Euclid_divideAll_50) I (fun σ9 H locs hp I => ?_)
        obtain ⟨f2, rfl, -, f3⟩ := hp
        have f4 : lm_is f2 lbs ((2 * y9 + 1) * ((2 * y9 + 1) * qq k)) := lm_is_eq f3 (by rw [Nat.mul_comm, Nat.two_mul, Int.pow_add]; exact pl_div2 hy9 hz2 (hqq k (by omega)))
        have h4 := pl_row h3 (show k < 7 by omega) f2
        refine lv_iconst (v := nI 0) hx hb d_Euclid_divideAll_53 (by decide) ?_
        refine lv_istore (lv' := [(5, .int (nI 0)), (4, .int (nI k)), (3, .int (nI z9)), (0, .ref (ad 155)), (1, .ref (ad ui)), (2, .int (nI 2))]) hx hb d_Euclid_divideAll_54 hl (by decide) rfl (fun ls hl => ?_)
        refine lv_iload hx hb d_Euclid_divideAll_56 (lv_at hl 0 rfl) ?_
        refine lv_iload_n hx hb d_Euclid_divideAll_58 rfl (lv_at hl 5 rfl) ?_
        refine lv_icmp_ge hx hb d_Euclid_divideAll_59 rfl (fun he => ?_) (fun he => ?_)
        · exact absurd he (by decide)
        · refine lv_aload_n hx hb d_Euclid_divideAll_62 rfl (lv_at hl 4 rfl) ?_
          refine xr_get X I fin_P ui (by omega) (pl_o h4) rfl 0 (by decide) (List.mem_cons_of_mem _ k_0d65117528) rfl rfl d_Euclid_divideAll_63 ?_
          refine lv_iload hx hb d_Euclid_divideAll_66 (lv_at hl 1 rfl) ?_
          refine xr_aald X I (ui + 1) 4 (by omega) (pl_c h4) rfl rfl (by omega) (by decide) (pl_at (by omega)) d_Euclid_divideAll_68 ?_
          refine lv_aload_n hx hb d_Euclid_divideAll_69 rfl (lv_at hl 3 rfl) ?_
          refine xr_get X I fin_C 155 (by omega) ((va_up_ne _ _ (by omega)).trans ((fr3 155 (by omega) (by decide)).trans hOe)) rfl 2 (by decide) (List.mem_cons_of_mem _ k_34a72900f7) rfl rfl d_Euclid_divideAll_70 ?_
          refine lv_aload_n hx hb d_Euclid_divideAll_73 rfl (lv_at hl 4 rfl) ?_
          refine xr_get X I fin_P ui (by omega) (pl_o h4) rfl 3 (by decide) (List.mem_cons_of_mem _ k_f41369adce) rfl rfl d_Euclid_divideAll_74 ?_
          refine xr_callv (xr_runS (kc := 1) (kr := 2) (n := 3) (As := [.ref (ad (ui + 2 + k)), .ref (ad 176), .int (nI lbs)]) (rest := []) X I (c_Limbs_divideByOdd (a := ui + 2 + k) (b := 176) (n := lbs) (x := (2 * y9 + 1) * ((2 * y9 + 1) * qq k)) (y := 2 * y9 + 1) (q9 := (2 * y9 + 1) * qq k) (m9 := m9) (by omega) (by omega) (pl_r h4 (by omega)) ((va_up_ne _ _ (by omega)).trans (k3)) (by omega) (by omega) hlb (by decide) hlb (by decide) (by rw [va_up_self]; exact f4) hg3 hm1 hm2 rfl) (xg k_fabf5d9a26) (List.mem_cons_of_mem _ k_9324ebff4c) (List.mem_cons_of_mem _ k_4abddd947f) (List.mem_cons_of_mem _ k_b15d0305ca) (by decide +kernel) (by decide) rfl hl.1 rfl (Nat.le_of_ble_eq_true rfl) d_Euclid_divideAll_77) I (fun σ9 H locs hp I => ?_)
          obtain ⟨f5, rfl, -, f6⟩ := hp
          have h5 := pl_row h4 (show k < 7 by omega) f5
          refine lv_iinc (k := 0) (v := nI 1) (lv' := [(5, .int (nI 1)), (4, .int (nI k)), (3, .int (nI z9)), (0, .ref (ad 155)), (1, .ref (ad ui)), (2, .int (nI 2))]) hx hb d_Euclid_divideAll_80 hl rfl (by decide) (by decide) rfl (fun ls hl => ?_)
          refine lv_goto hx hb d_Euclid_divideAll_83 rfl ?_
          refine lv_iload hx hb d_Euclid_divideAll_56 (lv_at hl 0 rfl) ?_
          refine lv_iload_n hx hb d_Euclid_divideAll_58 rfl (lv_at hl 5 rfl) ?_
          refine lv_icmp_ge hx hb d_Euclid_divideAll_59 rfl (fun he => ?_) (fun he => ?_)
          · exact absurd he (by decide)
          · refine lv_aload_n hx hb d_Euclid_divideAll_62 rfl (lv_at hl 4 rfl) ?_
            refine xr_get X I fin_P ui (by omega) (pl_o h5) rfl 0 (by decide) (List.mem_cons_of_mem _ k_0d65117528) rfl rfl d_Euclid_divideAll_63 ?_
            refine lv_iload hx hb d_Euclid_divideAll_66 (lv_at hl 1 rfl) ?_
            refine xr_aald X I (ui + 1) 4 (by omega) (pl_c h5) rfl rfl (by omega) (by decide) (pl_at (by omega)) d_Euclid_divideAll_68 ?_
            refine lv_aload_n hx hb d_Euclid_divideAll_69 rfl (lv_at hl 3 rfl) ?_
            refine xr_get X I fin_C 155 (by omega) ((va_up_ne _ _ (by omega)).trans ((va_up_ne _ _ (by omega)).trans ((fr3 155 (by omega) (by decide)).trans hOe))) rfl 2 (by decide) (List.mem_cons_of_mem _ k_34a72900f7) rfl rfl d_Euclid_divideAll_70 ?_
            refine lv_aload_n hx hb d_Euclid_divideAll_73 rfl (lv_at hl 4 rfl) ?_
            refine xr_get X I fin_P ui (by omega) (pl_o h5) rfl 3 (by decide) (List.mem_cons_of_mem _ k_f41369adce) rfl rfl d_Euclid_divideAll_74 ?_
            refine xr_callv (xr_runS (kc := 1) (kr := 2) (n := 3) (As := [.ref (ad (ui + 2 + k)), .ref (ad 176), .int (nI lbs)]) (rest := []) X I (c_Limbs_divideByOdd (a := ui + 2 + k) (b := 176) (n := lbs) (x := (2 * y9 + 1) * (qq k)) (y := 2 * y9 + 1) (q9 := qq k) (m9 := m9) (by omega) (by omega) (pl_r h5 (by omega)) ((va_up_ne _ _ (by omega)).trans ((va_up_ne _ _ (by omega)).trans (k3))) (by omega) (by omega) hlb (by decide) hlb (by decide) (by rw [va_up_self]; exact f6) hg3 hm1 hm2 rfl) (xg k_fabf5d9a26) (List.mem_cons_of_mem _ k_9324ebff4c) (List.mem_cons_of_mem _ k_4abddd947f) (List.mem_cons_of_mem _ k_b15d0305ca) (by decide +kernel) (by decide) rfl hl.1 rfl (Nat.le_of_ble_eq_true rfl) d_Euclid_divideAll_77) I (fun σ9 H locs hp I => ?_)
            obtain ⟨f7, rfl, -, f8⟩ := hp
            have h6 := pl_row h5 (show k < 7 by omega) f7
            refine lv_iinc (k := 0) (v := nI 2) (lv' := [(5, .int (nI 2)), (4, .int (nI k)), (3, .int (nI z9)), (0, .ref (ad 155)), (1, .ref (ad ui)), (2, .int (nI 2))]) hx hb d_Euclid_divideAll_80 hl rfl (by decide) (by decide) rfl (fun ls hl => ?_)
            refine lv_goto hx hb d_Euclid_divideAll_83 rfl ?_
            refine lv_iload hx hb d_Euclid_divideAll_56 (lv_at hl 0 rfl) ?_
            refine lv_iload_n hx hb d_Euclid_divideAll_58 rfl (lv_at hl 5 rfl) ?_
            refine lv_icmp_ge hx hb d_Euclid_divideAll_59 rfl (fun he => ?_) (fun he => ?_)
            · refine lv_iinc (k := 1) (v := nI (k + 1)) (lv' := [(4, .int (nI (k + 1))), (5, .int (nI 2)), (3, .int (nI z9)), (0, .ref (ad 155)), (1, .ref (ad ui)), (2, .int (nI 2))]) hx hb d_Euclid_divideAll_86 hl rfl (nI_1 k) (by decide) rfl (fun ls hl => ?_)
              refine lv_goto hx hb d_Euclid_divideAll_89 rfl ?_
              have hl := lv_sub hl [0, 2, 3, 4, 5] rfl
              have hl : lv_has ls 6 [(4, .int (nI (k + 1))), (3, .int (nI z9)), (0, .ref (ad 155)), (1, .ref (ad ui)), (2, .int (nI 2))] := hl
              refine ih (k + 1) _ _ ls H locs (by omega) h6 (fun q h1 h2 => (va_up_ne _ _ (by omega)).trans ((va_up_ne _ _ (by omega)).trans ((va_up_ne _ _ (by omega)).trans (fr3 q h1 h2)))) ((va_up_ne _ _ (by omega)).trans ((va_up_ne _ _ (by omega)).trans ((va_up_ne _ _ (by omega)).trans (k3)))) (fun q hq => ?_) hl I
              by_cases q9 : q = k
              · rw [q9, if_pos (Nat.lt_succ_self _)]; rw [va_up_self]; exact f8
              · rw [va_up_ne _ _ q9]; rw [va_up_ne _ _ q9]; rw [va_up_ne _ _ q9]; have h := g3 q hq
                by_cases h2 : q < k
                · rw [if_pos h2] at h; rw [if_pos (show q < k + 1 by omega)]; exact h
                · rw [if_neg h2] at h; rw [if_neg (show ¬ q < k + 1 by omega)]; exact h
            · exact absurd (by decide) he
  exact loop (du + 1) 0 _ Fu ls _ _ (by omega) (pl_else hU (by omega) _) (fun q h1 h2 => va_up_ne _ _ h2) (va_up_self _ _ _) (fun q hq => by rw [if_neg (Nat.not_lt_zero _)]; exact hiu q hq) hl I
set_option maxHeartbeats 4000000 in
set_option maxRecDepth 100000 in
theorem c_Euclid_reduce {l : Launch} {D : va_G} {cI cJ cZ cC cG cP : ClassId} {N : Nat} {ad : Nat → Nat} {σ : Nat → va_E} {ui li du dl lbs : Nat} {Fu Fl : Nat → Nat → Int32} {su sl : Nat → Int32} {U L : Nat → Int} (hN : N = 193) (hui : 156 ≤ ui ∧ ui + 10 ≤ 176) (hli : 156 ≤ li ∧ li + 10 ≤ 176) (hij : ui + 10 ≤ li ∨ li + 10 ≤ ui) (hU : pl ad cI cG σ ui 45 du lbs Fu su) (hL : pl ad cI cG σ li 45 dl lbs Fl sl) (hlb : lbs ≤ 45) (hl2 : 1 ≤ lbs) (hiu : pl_is Fu du lbs U) (hil : pl_is Fl dl lbs L) {qq : Nat → Int} {g : Nat → Int32} (hOe : σ 155 = .inr (ciC, [.ref (ad 156), .ref (ad 166), .ref (ad 176)])) (hg : σ 176 = .inl (cI, 45, .inl g)) (hdu : 2 ≤ du) (hd6 : du ≤ 6) (hdl : dl + 1 = du) (hlead : -(1073741824 ^ lbs) ≤ 2 * U du ∧ 2 * U du < 1073741824 ^ lbs) (hU0 : U du ≠ 0) (hszr : pl_sz (du - 2) lbs (rdF U L du dl)) (hqq : ∀ q, q ≤ du - 2 → (rdF U L du dl) q = U du * U du * qq q) :
    Met l y_Euclid_reduce v_Euclid_reduce (xrm 3) (va_Pc [.ref (ad 155), .ref (ad ui), .ref (ad li)] (xS D classes (xT cI cJ cZ cC cG cP) N ad σ)) (va_Qv (fun σ2 => ∃ (F2 : Nat → Nat → Int32) (s2 g2 : Nat → Int32), (∀ q, (q < ui ∨ ui + 10 ≤ q) → q ≠ 176 → σ2 q = σ q) ∧ σ2 176 = .inl (cI, 45, .inl g2) ∧ pl ad cI cG σ2 ui 45 (du - 2) lbs F2 s2 ∧ pl_is F2 (du - 2) lbs qq) (xS D classes (xT cI cJ cZ cC cG cP) N ad) (xA N ad)) 0 0 (xA N ad) := by
  refine xr_met rfl (Nat.le_of_ble_eq_true rfl) ?_
  intro p e s m args below meth c ls hx hb X hr hlk hl I
  have hl : lv_has ls 4 [(0, .ref (ad 155)), (1, .ref (ad ui)), (2, .ref (ad li))] := hl
  refine lv_aload_n hx hb d_Euclid_reduce_0 rfl (lv_at hl 0 rfl) ?_
  refine xr_get X I fin_C 155 (by omega) hOe rfl 2 (by decide) (List.mem_cons_of_mem _ k_34a72900f7) rfl rfl d_Euclid_reduce_1 ?_
  refine lv_aload_n hx hb d_Euclid_reduce_4 rfl (lv_at hl 1 rfl) ?_
  refine xr_get X I fin_P ui (by omega) (pl_o hU) rfl 0 (by decide) (List.mem_cons_of_mem _ k_0d65117528) rfl rfl d_Euclid_reduce_5 ?_
  refine lv_aload_n hx hb d_Euclid_reduce_8 rfl (lv_at hl 1 rfl) ?_
  refine xr_get X I fin_P ui (by omega) (pl_o hU) rfl 2 (by decide) (List.mem_cons_of_mem _ k_32cb2e953f) rfl rfl d_Euclid_reduce_9 ?_
  refine xr_aald X I (ui + 1) 4 (by omega) (pl_c hU) rfl rfl (by omega) (by decide) (pl_at (by omega)) d_Euclid_reduce_12 ?_
  refine lv_aload_n hx hb d_Euclid_reduce_13 rfl (lv_at hl 1 rfl) ?_
  refine xr_get X I fin_P ui (by omega) (pl_o hU) rfl 3 (by decide) (List.mem_cons_of_mem _ k_f41369adce) rfl rfl d_Euclid_reduce_14 ?_
  refine xr_callv (xr_runS (kc := 1) (kr := 3) (n := 3) (As := [.ref (ad 176), .ref (ad (ui + 2 + du)), .int (nI lbs)]) (rest := []) X I (c_Limbs_copy (a := 176) (b := ui + 2 + du) (n := lbs) (by omega) (by omega) hg (pl_r hU (by omega)) hlb (by decide) hlb (by decide)) (xg k_a09a60a57c) (List.mem_cons_of_mem _ k_8d5a2f9673) (List.mem_cons_of_mem _ k_d700ff4995) (List.mem_cons_of_mem _ k_b15d0305ca) (by decide +kernel) (by decide) rfl hl.1 rfl (Nat.le_of_ble_eq_true rfl) d_Euclid_reduce_17) I (fun σ9 H locs hp I => ?_)
  obtain ⟨g1, hg1⟩ : ∃ g1, g1 = va_cpy (Fu du) g 0 0 lbs := ⟨_, rfl⟩
  rw [hp, ← hg1] at I
  have hgi : lm_si g1 lbs (U du) := ⟨by rw [hg1]; exact lm_cpy (hiu du (Nat.le_refl _)), hlead⟩
  have h1 := pl_else hU (show 176 < ui ∨ ui + 10 ≤ 176 by omega) (.inl (cI, 45, .inl g1))
  have l1 := pl_else hL (show 176 < li ∨ li + 10 ≤ 176 by omega) (.inl (cI, 45, .inl g1))
  refine lv_aload_n hx hb d_Euclid_reduce_20 rfl (lv_at hl 1 rfl) ?_
  refine lv_aload_n hx hb d_Euclid_reduce_21 rfl (lv_at hl 2 rfl) ?_
  refine xr_callv (xr_runS (kc := 2) (kr := 3) (n := 2) (As := [.ref (ad ui), .ref (ad li)]) (rest := []) X I (c_Euclid_cancelFirst (ui := ui) (li := li) hN hui hli hij h1 l1 hlb hl2 hiu hil (by omega) hd6 (by omega)) (xg k_26fbd32fae) (List.mem_cons_of_mem _ k_3d8d451266) (List.mem_cons_of_mem _ k_793cd8bd4a) (List.mem_cons_of_mem _ k_29b988b263) (by decide +kernel) (by decide) rfl hl.1 rfl (Nat.le_of_ble_eq_true rfl) d_Euclid_reduce_22) I (fun σ2 H locs hp I => ?_)
  obtain ⟨F2, s2, fa, h2, i2⟩ := hp
  have l2 := pl_fr_else l1 fa (by omega)
  refine lv_aload_n hx hb d_Euclid_reduce_25 rfl (lv_at hl 1 rfl) ?_
  refine lv_aload_n hx hb d_Euclid_reduce_26 rfl (lv_at hl 2 rfl) ?_
  refine xr_callv (xr_runS (kc := 2) (kr := 3) (n := 2) (As := [.ref (ad ui), .ref (ad li)]) (rest := []) X I (c_Euclid_cancelFirst (ui := ui) (li := li) (du := du - 1) hN hui hli hij h2 l2 hlb hl2 i2 hil (by omega) (by omega) (by omega)) (xg k_26fbd32fae) (List.mem_cons_of_mem _ k_3d8d451266) (List.mem_cons_of_mem _ k_793cd8bd4a) (List.mem_cons_of_mem _ k_29b988b263) (by decide +kernel) (by decide) rfl hl.1 rfl (Nat.le_of_ble_eq_true rfl) d_Euclid_reduce_27) I (fun σ3 H locs hp I => ?_)
  obtain ⟨F3, s3, fb, h3, i3⟩ := hp
  rw [show du - 1 - 1 = du - 2 by omega] at h3 i3
  have f3 : ∀ q, q < ui ∨ ui + 10 ≤ q → q ≠ 176 → σ3 q = σ q := fun q hq h6 => (fb q (by omega)).trans ((fa q (by omega)).trans (va_up_ne _ _ h6))
  have k3 : σ3 176 = .inl (cI, 45, .inl g1) := (fb 176 (by omega)).trans ((fa 176 (by omega)).trans (va_up_self _ _ _))
  obtain ⟨W9, hW9⟩ : ∃ W9, W9 = cnF (cnF U L du dl du) L (du - 1) dl (du - 1) := ⟨_, rfl⟩
  rw [← hW9] at i3
  have hrd : ∀ q, rdF U L du dl q = ngF W9 (du - 1) q := fun q => by rw [hW9]; rfl
  refine lv_iconst (v := nI 0) hx hb d_Euclid_reduce_30 (by decide) ?_
  refine lv_istore_n (lv' := [(3, .int (nI 0)), (0, .ref (ad 155)), (1, .ref (ad ui)), (2, .ref (ad li))]) hx hb d_Euclid_reduce_31 rfl hl (by decide) rfl (fun ls hl => ?_)
  have loop : ∀ (q8 : Nat) (k : Nat) (σ4 : Nat → va_E) (F4 : Nat → Nat → Int32) (s4 : Nat → Int32) (ls : Array Slot) (H : Heap) (locs : List Loc), k + q8 = du - 2 + 1 → pl ad cI cG σ4 ui 45 (du - 2) lbs F4 s4 → (∀ q, q < ui ∨ ui + 10 ≤ q → q ≠ 176 → σ4 q = σ q) → σ4 176 = .inl (cI, 45, .inl g1) → (∀ q, q ≤ du - 2 → lm_is (F4 q) lbs (ngF W9 k q)) → lv_has ls 4 [(3, .int (nI k)), (0, .ref (ad 155)), (1, .ref (ad ui)), (2, .ref (ad li))] → xI D classes N ad s.heap (σ4) H locs → W p l e (xrm 3) s m args below meth c H locs 0 0 (MQ below (va_Qv (fun σ2 => ∃ (F2 : Nat → Nat → Int32) (s2 g2 : Nat → Int32), (∀ q, (q < ui ∨ ui + 10 ≤ q) → q ≠ 176 → σ2 q = σ q) ∧ σ2 176 = .inl (cI, 45, .inl g2) ∧ pl ad cI cG σ2 ui 45 (du - 2) lbs F2 s2 ∧ pl_is F2 (du - 2) lbs qq) (xS D classes (xT cI cJ cZ cC cG cP) N ad) (xA N ad)) args s 0 0 (xA N ad)) (F0 m 32 ls []) := by
    intro q8
    induction q8 with
    | zero =>
      intro k σ4 F4 s4 ls H locs hk h4 f4 k4 i4 hl I
      obtain rfl : k = du - 2 + 1 := by omega
      refine lv_iload_n hx hb d_Euclid_reduce_32 rfl (lv_at hl 0 rfl) ?_
      refine lv_aload_n hx hb d_Euclid_reduce_33 rfl (lv_at hl 2 rfl) ?_
      refine xr_get X I fin_P ui (by omega) (pl_o h4) rfl 2 (by decide) (List.mem_cons_of_mem _ k_32cb2e953f) rfl rfl d_Euclid_reduce_34 ?_
      refine lv_icmp_gt hx hb d_Euclid_reduce_37 rfl (fun hc => ?_) (fun hc => ?_)
      · refine lv_aload_n hx hb d_Euclid_reduce_84 rfl (lv_at hl 1 rfl) ?_
        refine lv_aload_n hx hb d_Euclid_reduce_85 rfl (lv_at hl 2 rfl) ?_
        refine lv_iconst (v := nI 2) hx hb d_Euclid_reduce_86 (by decide) ?_
        have i5 : pl_is F4 (du - 2) lbs (rdF U L du dl) := fun q hq => lm_is_eq (i4 q hq) (by rw [hrd q, ngF, ngF, if_pos (by omega), if_pos (by omega)])
        refine xr_callv (xr_runV (kc := 2) (kr := 3) (n := 2) (As := [.ref (ad ui), .int (nI 2)]) (rest := []) X I (by omega) ((f4 155 (by omega) (by decide)).trans hOe) rfl (c_Euclid_divideAll2 (ui := ui) (du := du - 2) (U := rdF U L du dl) (qq := qq) (dv := U du) hN hui ((f4 155 (by omega) (by decide)).trans hOe) h4 k4 hlb hl2 (by omega) i5 hszr hgi hU0 hqq) (xg k_20a341c590) (List.mem_cons_of_mem _ k_f0501db3dc) (List.mem_cons_of_mem _ k_71784da9a1) (List.mem_cons_of_mem _ k_9e7bed079e) (List.mem_cons_of_mem _ k_29b988b263) (by decide +kernel) (by decide) rfl hl.1 rfl (Nat.le_of_ble_eq_true rfl) d_Euclid_reduce_87) I (fun σ5 H locs hp I => ?_)
        obtain ⟨F5, g5, f5, k5, h5, i6⟩ := hp
        exact xr_vret X I hr hlk ⟨F5, s4, g5, fun q h1 h2 => (f5 q (by omega) h2).trans (f4 q h1 h2), k5, h5, i6⟩ d_Euclid_reduce_90
      · exact absurd (nI_lt (Nat.lt_succ_self _) (by omega)) hc
    | succ q8 ih =>
      intro k σ4 F4 s4 ls H locs hk h4 f4 k4 i4 hl I
      refine lv_iload_n hx hb d_Euclid_reduce_32 rfl (lv_at hl 0 rfl) ?_
      refine lv_aload_n hx hb d_Euclid_reduce_33 rfl (lv_at hl 2 rfl) ?_
      refine xr_get X I fin_P ui (by omega) (pl_o h4) rfl 2 (by decide) (List.mem_cons_of_mem _ k_32cb2e953f) rfl rfl d_Euclid_reduce_34 ?_
      refine lv_icmp_gt hx hb d_Euclid_reduce_37 rfl (fun hc => ?_) (fun hc => ?_)
      · exact absurd hc (nI_nlt (by omega) (by omega))
      · refine lv_aload_n hx hb d_Euclid_reduce_40 rfl (lv_at hl 2 rfl) ?_
        refine xr_get X I fin_P ui (by omega) (pl_o h4) rfl 1 (by decide) (List.mem_cons_of_mem _ k_82087acf87) rfl rfl d_Euclid_reduce_41 ?_
        refine lv_aload_n hx hb d_Euclid_reduce_44 rfl (lv_at hl 2 rfl) ?_
        refine xr_get X I fin_P ui (by omega) (pl_o h4) rfl 0 (by decide) (List.mem_cons_of_mem _ k_0d65117528) rfl rfl d_Euclid_reduce_45 ?_
        refine lv_iload_n hx hb d_Euclid_reduce_48 rfl (lv_at hl 0 rfl) ?_
        refine xr_aald X I (ui + 1) 4 (by omega) (pl_c h4) rfl rfl (by omega) (by decide) (pl_at (by omega)) d_Euclid_reduce_49 ?_
        refine lv_aload_n hx hb d_Euclid_reduce_50 rfl (lv_at hl 2 rfl) ?_
        refine xr_get X I fin_P ui (by omega) (pl_o h4) rfl 3 (by decide) (List.mem_cons_of_mem _ k_f41369adce) rfl rfl d_Euclid_reduce_51 ?_
        refine xr_callv (xr_runS (kc := 1) (kr := 3) (n := 3) (As := [.ref (ad (ui + 9)), .ref (ad (ui + 2 + k)), .int (nI lbs)]) (rest := []) X I (c_Limbs_copy (a := ui + 9) (b := ui + 2 + k) (n := lbs) (by omega) (by omega) (pl_s h4) (pl_r h4 (by omega)) hlb (by decide) hlb (by decide)) (xg k_a09a60a57c) (List.mem_cons_of_mem _ k_8d5a2f9673) (List.mem_cons_of_mem _ k_d700ff4995) (List.mem_cons_of_mem _ k_b15d0305ca) (by decide +kernel) (by decide) rfl hl.1 rfl (Nat.le_of_ble_eq_true rfl) d_Euclid_reduce_54) I (fun σ9 H locs hp I => ?_)
        rw [hp] at I
        have h5 := pl_spare h4 (va_cpy (F4 k) s4 0 0 lbs)
        refine lv_aload_n hx hb d_Euclid_reduce_57 rfl (lv_at hl 2 rfl) ?_
        refine xr_get X I fin_P ui (by omega) (pl_o h5) rfl 0 (by decide) (List.mem_cons_of_mem _ k_0d65117528) rfl rfl d_Euclid_reduce_58 ?_
        refine lv_iload_n hx hb d_Euclid_reduce_61 rfl (lv_at hl 0 rfl) ?_
        refine xr_aald X I (ui + 1) 4 (by omega) (pl_c h5) rfl rfl (by omega) (by decide) (pl_at (by omega)) d_Euclid_reduce_62 ?_
        refine lv_aload_n hx hb d_Euclid_reduce_63 rfl (lv_at hl 2 rfl) ?_
        refine xr_get X I fin_P ui (by omega) (pl_o h5) rfl 1 (by decide) (List.mem_cons_of_mem _ k_82087acf87) rfl rfl d_Euclid_reduce_64 ?_
        refine lv_ldc2 (v := (-2)) hx hb X.1.2.2.2.1 (X.1.2.2.2.2 _ (List.mem_cons_of_mem _ k_181b3cb3aa)) d_Euclid_reduce_67 ?_
        refine lv_iconst (v := nI 0) hx hb d_Euclid_reduce_70 (by decide) ?_
        refine lv_aload_n hx hb d_Euclid_reduce_71 rfl (lv_at hl 2 rfl) ?_
        refine xr_get X I fin_P ui (by omega) (pl_o h5) rfl 3 (by decide) (List.mem_cons_of_mem _ k_f41369adce) rfl rfl d_Euclid_reduce_72 ?_
        have gk := i4 k (by omega)
        rw [ngF, if_neg (Nat.lt_irrefl _)] at gk
        refine xr_callv (xr_runS (kc := 0) (kr := 3) (n := 5) (As := [.ref (ad (ui + 2 + k)), .ref (ad (ui + 9)), .long ((-2)), .int (nI 0), .int (nI lbs)]) (rest := []) X I (c_Limbs_addTimes (a := ui + 2 + k) (b := ui + 9) (off := 0) (n := lbs) (d := (-2 : Int64)) (by omega) (by omega) (pl_r h5 (by omega)) (pl_s h5) (by omega) (by decide) (by omega) hlb (by decide) hlb (by decide) gk (lm_cpy gk)) (xg k_c80bea473c) (List.mem_cons_of_mem _ k_55cf2de2da) (List.mem_cons_of_mem _ k_0ef42f4896) (List.mem_cons_of_mem _ k_b15d0305ca) (by decide +kernel) (by decide) rfl hl.1 rfl (Nat.le_of_ble_eq_true rfl) d_Euclid_reduce_75) I (fun σ9 H locs hp I => ?_)
        obtain ⟨f7, rfl, -, f8⟩ := hp
        rw [show (-2 : Int64).toInt = -2 by decide, Int.pow_zero] at f8
        refine lv_iinc (k := 0) (v := nI (k + 1)) (lv' := [(3, .int (nI (k + 1))), (0, .ref (ad 155)), (1, .ref (ad ui)), (2, .ref (ad li))]) hx hb d_Euclid_reduce_78 hl rfl (nI_1 k) (by decide) rfl (fun ls hl => ?_)
        refine lv_goto hx hb d_Euclid_reduce_81 rfl ?_
        refine ih (k + 1) _ _ _ ls H locs (by omega) (pl_row h5 (show k < 7 by omega) f7) (fun q h1 h2 => (va_up_ne _ _ (by omega)).trans ((va_up_ne _ _ (by omega)).trans (f4 q h1 h2))) ((va_up_ne _ _ (by omega)).trans ((va_up_ne _ _ (by omega)).trans k4)) (fun q hq => ?_) hl I
        by_cases q9 : q = k
        · rw [q9, va_up_self]; exact lm_is_eq f8 (by rw [ngF, if_pos (Nat.lt_succ_self _)]; omega)
        · rw [va_up_ne _ _ q9]; refine lm_is_eq (i4 q hq) ?_
          rw [ngF, ngF]
          by_cases h : q < k
          · rw [if_pos h, if_pos (show q < k + 1 by omega)]
          · rw [if_neg h, if_neg (show ¬ q < k + 1 by omega)]
  exact loop (du - 2 + 1) 0 σ3 F3 s3 ls _ _ (by omega) h3 f3 k3 (fun q hq => by rw [ngF, if_neg (Nat.not_lt_zero _)]; exact i3 q hq) hl I
