/-! SpectrumDesk$Border: advance, timesLinear, grow (written by wip/gen) -/
abbrev b_Border_advance : ByteArray := prog_2_method_4_code
abbrev y_Border_advance : MethodName := ⟨"SpectrumDesk$Border", "advance", "([I[[II)V"⟩
abbrev v_Border_advance : List Cond := Cond.code y_Border_advance b_Border_advance 7 none :: AW
theorem d_Border_advance_0 : decode b_Border_advance 0 = .ok (.aload_n 1, 1) := by decide +kernel
theorem d_Border_advance_1 : decode b_Border_advance 1 = .ok (.arraylength, 1) := by decide +kernel
theorem d_Border_advance_2 : decode b_Border_advance 2 = .ok (.istore 4, 2) := by decide +kernel
theorem d_Border_advance_4 : decode b_Border_advance 4 = .ok (.iconst 0, 1) := by decide +kernel
theorem d_Border_advance_5 : decode b_Border_advance 5 = .ok (.istore 5, 2) := by decide +kernel
theorem d_Border_advance_7 : decode b_Border_advance 7 = .ok (.iload 5, 2) := by decide +kernel
theorem d_Border_advance_9 : decode b_Border_advance 9 = .ok (.iload_n 3, 1) := by decide +kernel
theorem d_Border_advance_10 : decode b_Border_advance 10 = .ok (.if_icmp .ge (84), 3) := by decide +kernel
theorem d_Border_advance_13 : decode b_Border_advance 13 = .ok (.aload_n 0, 1) := by decide +kernel
theorem d_Border_advance_14 : decode b_Border_advance 14 = .ok (.getfield 18, 3) := by decide +kernel
theorem d_Border_advance_17 : decode b_Border_advance 17 = .ok (.iload 5, 2) := by decide +kernel
theorem d_Border_advance_19 : decode b_Border_advance 19 = .ok (.aaload, 1) := by decide +kernel
theorem d_Border_advance_20 : decode b_Border_advance 20 = .ok (.iconst 0, 1) := by decide +kernel
theorem d_Border_advance_21 : decode b_Border_advance 21 = .ok (.invokestatic 49, 3) := by decide +kernel
theorem d_Border_advance_24 : decode b_Border_advance 24 = .ok (.iconst 0, 1) := by decide +kernel
theorem d_Border_advance_25 : decode b_Border_advance 25 = .ok (.istore 6, 2) := by decide +kernel
theorem d_Border_advance_27 : decode b_Border_advance 27 = .ok (.iload 6, 2) := by decide +kernel
theorem d_Border_advance_29 : decode b_Border_advance 29 = .ok (.iload_n 3, 1) := by decide +kernel
theorem d_Border_advance_30 : decode b_Border_advance 30 = .ok (.if_icmp .ge (37), 3) := by decide +kernel
theorem d_Border_advance_33 : decode b_Border_advance 33 = .ok (.aload_n 0, 1) := by decide +kernel
theorem d_Border_advance_34 : decode b_Border_advance 34 = .ok (.getfield 18, 3) := by decide +kernel
theorem d_Border_advance_37 : decode b_Border_advance 37 = .ok (.iload 5, 2) := by decide +kernel
theorem d_Border_advance_39 : decode b_Border_advance 39 = .ok (.aaload, 1) := by decide +kernel
theorem d_Border_advance_40 : decode b_Border_advance 40 = .ok (.aload_n 0, 1) := by decide +kernel
theorem d_Border_advance_41 : decode b_Border_advance 41 = .ok (.getfield 13, 3) := by decide +kernel
theorem d_Border_advance_44 : decode b_Border_advance 44 = .ok (.iload 6, 2) := by decide +kernel
theorem d_Border_advance_46 : decode b_Border_advance 46 = .ok (.aaload, 1) := by decide +kernel
theorem d_Border_advance_47 : decode b_Border_advance 47 = .ok (.aload_n 2, 1) := by decide +kernel
theorem d_Border_advance_48 : decode b_Border_advance 48 = .ok (.iload 5, 2) := by decide +kernel
theorem d_Border_advance_50 : decode b_Border_advance 50 = .ok (.aaload, 1) := by decide +kernel
theorem d_Border_advance_51 : decode b_Border_advance 51 = .ok (.iload 6, 2) := by decide +kernel
theorem d_Border_advance_53 : decode b_Border_advance 53 = .ok (.iaload, 1) := by decide +kernel
theorem d_Border_advance_54 : decode b_Border_advance 54 = .ok (.i2l, 1) := by decide +kernel
theorem d_Border_advance_55 : decode b_Border_advance 55 = .ok (.iconst 0, 1) := by decide +kernel
theorem d_Border_advance_56 : decode b_Border_advance 56 = .ok (.iload 4, 2) := by decide +kernel
theorem d_Border_advance_58 : decode b_Border_advance 58 = .ok (.invokestatic 41, 3) := by decide +kernel
theorem d_Border_advance_61 : decode b_Border_advance 61 = .ok (.iinc 6 (1), 3) := by decide +kernel
theorem d_Border_advance_64 : decode b_Border_advance 64 = .ok (.goto (-37), 3) := by decide +kernel
theorem d_Border_advance_67 : decode b_Border_advance 67 = .ok (.aload_n 0, 1) := by decide +kernel
theorem d_Border_advance_68 : decode b_Border_advance 68 = .ok (.getfield 18, 3) := by decide +kernel
theorem d_Border_advance_71 : decode b_Border_advance 71 = .ok (.iload 5, 2) := by decide +kernel
theorem d_Border_advance_73 : decode b_Border_advance 73 = .ok (.aaload, 1) := by decide +kernel
theorem d_Border_advance_74 : decode b_Border_advance 74 = .ok (.aload_n 1, 1) := by decide +kernel
theorem d_Border_advance_75 : decode b_Border_advance 75 = .ok (.aload_n 2, 1) := by decide +kernel
theorem d_Border_advance_76 : decode b_Border_advance 76 = .ok (.iload 5, 2) := by decide +kernel
theorem d_Border_advance_78 : decode b_Border_advance 78 = .ok (.aaload, 1) := by decide +kernel
theorem d_Border_advance_79 : decode b_Border_advance 79 = .ok (.iload_n 3, 1) := by decide +kernel
theorem d_Border_advance_80 : decode b_Border_advance 80 = .ok (.iaload, 1) := by decide +kernel
theorem d_Border_advance_81 : decode b_Border_advance 81 = .ok (.i2l, 1) := by decide +kernel
theorem d_Border_advance_82 : decode b_Border_advance 82 = .ok (.iconst 0, 1) := by decide +kernel
theorem d_Border_advance_83 : decode b_Border_advance 83 = .ok (.iload 4, 2) := by decide +kernel
theorem d_Border_advance_85 : decode b_Border_advance 85 = .ok (.invokestatic 41, 3) := by decide +kernel
theorem d_Border_advance_88 : decode b_Border_advance 88 = .ok (.iinc 5 (1), 3) := by decide +kernel
theorem d_Border_advance_91 : decode b_Border_advance 91 = .ok (.goto (-84), 3) := by decide +kernel
theorem d_Border_advance_94 : decode b_Border_advance 94 = .ok (.iconst 0, 1) := by decide +kernel
theorem d_Border_advance_95 : decode b_Border_advance 95 = .ok (.istore 5, 2) := by decide +kernel
theorem d_Border_advance_97 : decode b_Border_advance 97 = .ok (.iload 5, 2) := by decide +kernel
theorem d_Border_advance_99 : decode b_Border_advance 99 = .ok (.iload_n 3, 1) := by decide +kernel
theorem d_Border_advance_100 : decode b_Border_advance 100 = .ok (.if_icmp .ge (28), 3) := by decide +kernel
theorem d_Border_advance_103 : decode b_Border_advance 103 = .ok (.aload_n 0, 1) := by decide +kernel
theorem d_Border_advance_104 : decode b_Border_advance 104 = .ok (.getfield 13, 3) := by decide +kernel
theorem d_Border_advance_107 : decode b_Border_advance 107 = .ok (.iload 5, 2) := by decide +kernel
theorem d_Border_advance_109 : decode b_Border_advance 109 = .ok (.aaload, 1) := by decide +kernel
theorem d_Border_advance_110 : decode b_Border_advance 110 = .ok (.aload_n 0, 1) := by decide +kernel
theorem d_Border_advance_111 : decode b_Border_advance 111 = .ok (.getfield 18, 3) := by decide +kernel
theorem d_Border_advance_114 : decode b_Border_advance 114 = .ok (.iload 5, 2) := by decide +kernel
theorem d_Border_advance_116 : decode b_Border_advance 116 = .ok (.aaload, 1) := by decide +kernel
theorem d_Border_advance_117 : decode b_Border_advance 117 = .ok (.iload 4, 2) := by decide +kernel
theorem d_Border_advance_119 : decode b_Border_advance 119 = .ok (.invokestatic 54, 3) := by decide +kernel
theorem d_Border_advance_122 : decode b_Border_advance 122 = .ok (.iinc 5 (1), 3) := by decide +kernel
theorem d_Border_advance_125 : decode b_Border_advance 125 = .ok (.goto (-28), 3) := by decide +kernel
theorem d_Border_advance_128 : decode b_Border_advance 128 = .ok (.return_, 1) := by decide +kernel
abbrev b_Border_timesLinear : ByteArray := prog_2_method_3_code
abbrev y_Border_timesLinear : MethodName := ⟨"SpectrumDesk$Border", "timesLinear", "(LSpectrumDesk$Polynomial;LSpectrumDesk$Polynomial;I)V"⟩
abbrev v_Border_timesLinear : List Cond := Cond.code y_Border_timesLinear b_Border_timesLinear 4 none :: AW
theorem d_Border_timesLinear_0 : decode b_Border_timesLinear 0 = .ok (.aload_n 0, 1) := by decide +kernel
theorem d_Border_timesLinear_1 : decode b_Border_timesLinear 1 = .ok (.getfield 35, 3) := by decide +kernel
theorem d_Border_timesLinear_4 : decode b_Border_timesLinear 4 = .ok (.iconst 0, 1) := by decide +kernel
theorem d_Border_timesLinear_5 : decode b_Border_timesLinear 5 = .ok (.aaload, 1) := by decide +kernel
theorem d_Border_timesLinear_6 : decode b_Border_timesLinear 6 = .ok (.iconst 0, 1) := by decide +kernel
theorem d_Border_timesLinear_7 : decode b_Border_timesLinear 7 = .ok (.invokestatic 49, 3) := by decide +kernel
theorem d_Border_timesLinear_10 : decode b_Border_timesLinear 10 = .ok (.iconst 0, 1) := by decide +kernel
theorem d_Border_timesLinear_11 : decode b_Border_timesLinear 11 = .ok (.istore_n 3, 1) := by decide +kernel
theorem d_Border_timesLinear_12 : decode b_Border_timesLinear 12 = .ok (.iload_n 3, 1) := by decide +kernel
theorem d_Border_timesLinear_13 : decode b_Border_timesLinear 13 = .ok (.aload_n 1, 1) := by decide +kernel
theorem d_Border_timesLinear_14 : decode b_Border_timesLinear 14 = .ok (.getfield 21, 3) := by decide +kernel
theorem d_Border_timesLinear_17 : decode b_Border_timesLinear 17 = .ok (.if_icmp .gt (30), 3) := by decide +kernel
theorem d_Border_timesLinear_20 : decode b_Border_timesLinear 20 = .ok (.aload_n 0, 1) := by decide +kernel
theorem d_Border_timesLinear_21 : decode b_Border_timesLinear 21 = .ok (.getfield 35, 3) := by decide +kernel
theorem d_Border_timesLinear_24 : decode b_Border_timesLinear 24 = .ok (.iload_n 3, 1) := by decide +kernel
theorem d_Border_timesLinear_25 : decode b_Border_timesLinear 25 = .ok (.iconst 1, 1) := by decide +kernel
theorem d_Border_timesLinear_26 : decode b_Border_timesLinear 26 = .ok (.iadd, 1) := by decide +kernel
theorem d_Border_timesLinear_27 : decode b_Border_timesLinear 27 = .ok (.aaload, 1) := by decide +kernel
theorem d_Border_timesLinear_28 : decode b_Border_timesLinear 28 = .ok (.aload_n 1, 1) := by decide +kernel
theorem d_Border_timesLinear_29 : decode b_Border_timesLinear 29 = .ok (.getfield 35, 3) := by decide +kernel
theorem d_Border_timesLinear_32 : decode b_Border_timesLinear 32 = .ok (.iload_n 3, 1) := by decide +kernel
theorem d_Border_timesLinear_33 : decode b_Border_timesLinear 33 = .ok (.aaload, 1) := by decide +kernel
theorem d_Border_timesLinear_34 : decode b_Border_timesLinear 34 = .ok (.aload_n 0, 1) := by decide +kernel
theorem d_Border_timesLinear_35 : decode b_Border_timesLinear 35 = .ok (.getfield 38, 3) := by decide +kernel
theorem d_Border_timesLinear_38 : decode b_Border_timesLinear 38 = .ok (.invokestatic 54, 3) := by decide +kernel
theorem d_Border_timesLinear_41 : decode b_Border_timesLinear 41 = .ok (.iinc 3 (1), 3) := by decide +kernel
theorem d_Border_timesLinear_44 : decode b_Border_timesLinear 44 = .ok (.goto (-32), 3) := by decide +kernel
theorem d_Border_timesLinear_47 : decode b_Border_timesLinear 47 = .ok (.iconst 0, 1) := by decide +kernel
theorem d_Border_timesLinear_48 : decode b_Border_timesLinear 48 = .ok (.istore_n 3, 1) := by decide +kernel
theorem d_Border_timesLinear_49 : decode b_Border_timesLinear 49 = .ok (.iload_n 3, 1) := by decide +kernel
theorem d_Border_timesLinear_50 : decode b_Border_timesLinear 50 = .ok (.aload_n 1, 1) := by decide +kernel
theorem d_Border_timesLinear_51 : decode b_Border_timesLinear 51 = .ok (.getfield 21, 3) := by decide +kernel
theorem d_Border_timesLinear_54 : decode b_Border_timesLinear 54 = .ok (.if_icmp .gt (32), 3) := by decide +kernel
theorem d_Border_timesLinear_57 : decode b_Border_timesLinear 57 = .ok (.aload_n 0, 1) := by decide +kernel
theorem d_Border_timesLinear_58 : decode b_Border_timesLinear 58 = .ok (.getfield 35, 3) := by decide +kernel
theorem d_Border_timesLinear_61 : decode b_Border_timesLinear 61 = .ok (.iload_n 3, 1) := by decide +kernel
theorem d_Border_timesLinear_62 : decode b_Border_timesLinear 62 = .ok (.aaload, 1) := by decide +kernel
theorem d_Border_timesLinear_63 : decode b_Border_timesLinear 63 = .ok (.aload_n 1, 1) := by decide +kernel
theorem d_Border_timesLinear_64 : decode b_Border_timesLinear 64 = .ok (.getfield 35, 3) := by decide +kernel
theorem d_Border_timesLinear_67 : decode b_Border_timesLinear 67 = .ok (.iload_n 3, 1) := by decide +kernel
theorem d_Border_timesLinear_68 : decode b_Border_timesLinear 68 = .ok (.aaload, 1) := by decide +kernel
theorem d_Border_timesLinear_69 : decode b_Border_timesLinear 69 = .ok (.iload_n 2, 1) := by decide +kernel
theorem d_Border_timesLinear_70 : decode b_Border_timesLinear 70 = .ok (.ineg, 1) := by decide +kernel
theorem d_Border_timesLinear_71 : decode b_Border_timesLinear 71 = .ok (.i2l, 1) := by decide +kernel
theorem d_Border_timesLinear_72 : decode b_Border_timesLinear 72 = .ok (.iconst 0, 1) := by decide +kernel
theorem d_Border_timesLinear_73 : decode b_Border_timesLinear 73 = .ok (.aload_n 0, 1) := by decide +kernel
theorem d_Border_timesLinear_74 : decode b_Border_timesLinear 74 = .ok (.getfield 38, 3) := by decide +kernel
theorem d_Border_timesLinear_77 : decode b_Border_timesLinear 77 = .ok (.invokestatic 41, 3) := by decide +kernel
theorem d_Border_timesLinear_80 : decode b_Border_timesLinear 80 = .ok (.iinc 3 (1), 3) := by decide +kernel
theorem d_Border_timesLinear_83 : decode b_Border_timesLinear 83 = .ok (.goto (-34), 3) := by decide +kernel
theorem d_Border_timesLinear_86 : decode b_Border_timesLinear 86 = .ok (.return_, 1) := by decide +kernel
abbrev b_Border_grow : ByteArray := prog_2_method_2_code
abbrev y_Border_grow : MethodName := ⟨"SpectrumDesk$Border", "grow", "(LSpectrumDesk$Polynomial;LSpectrumDesk$Polynomial;[[I)V"⟩
abbrev v_Border_grow : List Cond := Cond.code y_Border_grow b_Border_grow 7 none :: AW
theorem d_Border_grow_0 : decode b_Border_grow 0 = .ok (.aload_n 2, 1) := by decide +kernel
theorem d_Border_grow_1 : decode b_Border_grow 1 = .ok (.getfield 21, 3) := by decide +kernel
theorem d_Border_grow_4 : decode b_Border_grow 4 = .ok (.istore 4, 2) := by decide +kernel
theorem d_Border_grow_6 : decode b_Border_grow 6 = .ok (.aload_n 1, 1) := by decide +kernel
theorem d_Border_grow_7 : decode b_Border_grow 7 = .ok (.iload 4, 2) := by decide +kernel
theorem d_Border_grow_9 : decode b_Border_grow 9 = .ok (.iconst 1, 1) := by decide +kernel
theorem d_Border_grow_10 : decode b_Border_grow 10 = .ok (.iadd, 1) := by decide +kernel
theorem d_Border_grow_11 : decode b_Border_grow 11 = .ok (.putfield 21, 3) := by decide +kernel
theorem d_Border_grow_14 : decode b_Border_grow 14 = .ok (.aload_n 1, 1) := by decide +kernel
theorem d_Border_grow_15 : decode b_Border_grow 15 = .ok (.aload_n 2, 1) := by decide +kernel
theorem d_Border_grow_16 : decode b_Border_grow 16 = .ok (.aload_n 3, 1) := by decide +kernel
theorem d_Border_grow_17 : decode b_Border_grow 17 = .ok (.iload 4, 2) := by decide +kernel
theorem d_Border_grow_19 : decode b_Border_grow 19 = .ok (.aaload, 1) := by decide +kernel
theorem d_Border_grow_20 : decode b_Border_grow 20 = .ok (.iload 4, 2) := by decide +kernel
theorem d_Border_grow_22 : decode b_Border_grow 22 = .ok (.iaload, 1) := by decide +kernel
theorem d_Border_grow_23 : decode b_Border_grow 23 = .ok (.invokestatic 27, 3) := by decide +kernel
theorem d_Border_grow_26 : decode b_Border_grow 26 = .ok (.iconst 0, 1) := by decide +kernel
theorem d_Border_grow_27 : decode b_Border_grow 27 = .ok (.istore 5, 2) := by decide +kernel
theorem d_Border_grow_29 : decode b_Border_grow 29 = .ok (.iload 5, 2) := by decide +kernel
theorem d_Border_grow_31 : decode b_Border_grow 31 = .ok (.iload 4, 2) := by decide +kernel
theorem d_Border_grow_33 : decode b_Border_grow 33 = .ok (.if_icmp .ge (26), 3) := by decide +kernel
theorem d_Border_grow_36 : decode b_Border_grow 36 = .ok (.aload_n 0, 1) := by decide +kernel
theorem d_Border_grow_37 : decode b_Border_grow 37 = .ok (.getfield 13, 3) := by decide +kernel
theorem d_Border_grow_40 : decode b_Border_grow 40 = .ok (.iload 5, 2) := by decide +kernel
theorem d_Border_grow_42 : decode b_Border_grow 42 = .ok (.aaload, 1) := by decide +kernel
theorem d_Border_grow_43 : decode b_Border_grow 43 = .ok (.aload_n 3, 1) := by decide +kernel
theorem d_Border_grow_44 : decode b_Border_grow 44 = .ok (.iload 5, 2) := by decide +kernel
theorem d_Border_grow_46 : decode b_Border_grow 46 = .ok (.aaload, 1) := by decide +kernel
theorem d_Border_grow_47 : decode b_Border_grow 47 = .ok (.iload 4, 2) := by decide +kernel
theorem d_Border_grow_49 : decode b_Border_grow 49 = .ok (.iaload, 1) := by decide +kernel
theorem d_Border_grow_50 : decode b_Border_grow 50 = .ok (.invokestatic 31, 3) := by decide +kernel
theorem d_Border_grow_53 : decode b_Border_grow 53 = .ok (.iinc 5 (1), 3) := by decide +kernel
theorem d_Border_grow_56 : decode b_Border_grow 56 = .ok (.goto (-27), 3) := by decide +kernel
theorem d_Border_grow_59 : decode b_Border_grow 59 = .ok (.iload 4, 2) := by decide +kernel
theorem d_Border_grow_61 : decode b_Border_grow 61 = .ok (.iconst 1, 1) := by decide +kernel
theorem d_Border_grow_62 : decode b_Border_grow 62 = .ok (.isub, 1) := by decide +kernel
theorem d_Border_grow_63 : decode b_Border_grow 63 = .ok (.istore 5, 2) := by decide +kernel
theorem d_Border_grow_65 : decode b_Border_grow 65 = .ok (.iload 5, 2) := by decide +kernel
theorem d_Border_grow_67 : decode b_Border_grow 67 = .ok (.ifCond .lt (70), 3) := by decide +kernel
theorem d_Border_grow_70 : decode b_Border_grow 70 = .ok (.iconst 0, 1) := by decide +kernel
theorem d_Border_grow_71 : decode b_Border_grow 71 = .ok (.istore 6, 2) := by decide +kernel
theorem d_Border_grow_73 : decode b_Border_grow 73 = .ok (.iload 6, 2) := by decide +kernel
theorem d_Border_grow_75 : decode b_Border_grow 75 = .ok (.iload 4, 2) := by decide +kernel
theorem d_Border_grow_77 : decode b_Border_grow 77 = .ok (.if_icmp .ge (40), 3) := by decide +kernel
theorem d_Border_grow_80 : decode b_Border_grow 80 = .ok (.aload_n 1, 1) := by decide +kernel
theorem d_Border_grow_81 : decode b_Border_grow 81 = .ok (.getfield 35, 3) := by decide +kernel
theorem d_Border_grow_84 : decode b_Border_grow 84 = .ok (.iload 5, 2) := by decide +kernel
theorem d_Border_grow_86 : decode b_Border_grow 86 = .ok (.aaload, 1) := by decide +kernel
theorem d_Border_grow_87 : decode b_Border_grow 87 = .ok (.aload_n 0, 1) := by decide +kernel
theorem d_Border_grow_88 : decode b_Border_grow 88 = .ok (.getfield 13, 3) := by decide +kernel
theorem d_Border_grow_91 : decode b_Border_grow 91 = .ok (.iload 6, 2) := by decide +kernel
theorem d_Border_grow_93 : decode b_Border_grow 93 = .ok (.aaload, 1) := by decide +kernel
theorem d_Border_grow_94 : decode b_Border_grow 94 = .ok (.aload_n 3, 1) := by decide +kernel
theorem d_Border_grow_95 : decode b_Border_grow 95 = .ok (.iload 6, 2) := by decide +kernel
theorem d_Border_grow_97 : decode b_Border_grow 97 = .ok (.aaload, 1) := by decide +kernel
theorem d_Border_grow_98 : decode b_Border_grow 98 = .ok (.iload 4, 2) := by decide +kernel
theorem d_Border_grow_100 : decode b_Border_grow 100 = .ok (.iaload, 1) := by decide +kernel
theorem d_Border_grow_101 : decode b_Border_grow 101 = .ok (.ineg, 1) := by decide +kernel
theorem d_Border_grow_102 : decode b_Border_grow 102 = .ok (.i2l, 1) := by decide +kernel
theorem d_Border_grow_103 : decode b_Border_grow 103 = .ok (.iconst 0, 1) := by decide +kernel
theorem d_Border_grow_104 : decode b_Border_grow 104 = .ok (.aload_n 1, 1) := by decide +kernel
theorem d_Border_grow_105 : decode b_Border_grow 105 = .ok (.getfield 38, 3) := by decide +kernel
theorem d_Border_grow_108 : decode b_Border_grow 108 = .ok (.invokestatic 41, 3) := by decide +kernel
theorem d_Border_grow_111 : decode b_Border_grow 111 = .ok (.iinc 6 (1), 3) := by decide +kernel
theorem d_Border_grow_114 : decode b_Border_grow 114 = .ok (.goto (-41), 3) := by decide +kernel
theorem d_Border_grow_117 : decode b_Border_grow 117 = .ok (.aload_n 0, 1) := by decide +kernel
theorem d_Border_grow_118 : decode b_Border_grow 118 = .ok (.aload_n 2, 1) := by decide +kernel
theorem d_Border_grow_119 : decode b_Border_grow 119 = .ok (.getfield 35, 3) := by decide +kernel
theorem d_Border_grow_122 : decode b_Border_grow 122 = .ok (.iload 5, 2) := by decide +kernel
theorem d_Border_grow_124 : decode b_Border_grow 124 = .ok (.aaload, 1) := by decide +kernel
theorem d_Border_grow_125 : decode b_Border_grow 125 = .ok (.aload_n 3, 1) := by decide +kernel
theorem d_Border_grow_126 : decode b_Border_grow 126 = .ok (.iload 4, 2) := by decide +kernel
theorem d_Border_grow_128 : decode b_Border_grow 128 = .ok (.invokevirtual 45, 3) := by decide +kernel
theorem d_Border_grow_131 : decode b_Border_grow 131 = .ok (.iinc 5 (-1), 3) := by decide +kernel
theorem d_Border_grow_134 : decode b_Border_grow 134 = .ok (.goto (-69), 3) := by decide +kernel
theorem d_Border_grow_137 : decode b_Border_grow 137 = .ok (.return_, 1) := by decide +kernel
theorem k_6eb4050acd : (Jvm.Cond.fieldLink "SpectrumDesk$Border" (13 : Nat) "SpectrumDesk$Border" "vector" "[[I") ∈ AW := aw_1 (List.mem_of_getElem? (i := 108) (by decide +kernel)) (by decide +kernel)
theorem k_89af759078 : (Jvm.Cond.fieldLink "SpectrumDesk$Border" (18 : Nat) "SpectrumDesk$Border" "next" "[[I") ∈ AW := aw_1 (List.mem_of_getElem? (i := 109) (by decide +kernel)) (by decide +kernel)
theorem k_92285c1c1c : (Jvm.Cond.methodLink "SpectrumDesk$Border" (54 : Nat) ({ cls := "SpectrumDesk$Limbs", name := "copy", desc := "([I[II)V" } : Jvm.MethodName)) ∈ AW := aw_2 (List.mem_of_getElem? (i := 42) (by decide +kernel)) (by decide +kernel)
theorem k_983b62c4a1 : (Jvm.Cond.methodLink "SpectrumDesk$Border" (49 : Nat) ({ cls := "java/util/Arrays", name := "fill", desc := "([II)V" } : Jvm.MethodName)) ∈ AW := aw_2 (List.mem_of_getElem? (i := 41) (by decide +kernel)) (by decide +kernel)
theorem k_7ef36b97e2 : (Jvm.Cond.methodLink "SpectrumDesk$Border" (41 : Nat) ({ cls := "SpectrumDesk$Limbs", name := "addTimes", desc := "([I[IJII)V" } : Jvm.MethodName)) ∈ AW := aw_2 (List.mem_of_getElem? (i := 48) (by decide +kernel)) (by decide +kernel)
theorem k_d059b4b8f5 : (Jvm.Cond.fieldLink "SpectrumDesk$Border" (35 : Nat) "SpectrumDesk$Polynomial" "c" "[[I") ∈ AW := aw_1 (List.mem_of_getElem? (i := 73) (by decide +kernel)) (by decide +kernel)
theorem k_215ecfa524 : (Jvm.Cond.fieldLink "SpectrumDesk$Border" (21 : Nat) "SpectrumDesk$Polynomial" "degree" "I") ∈ AW := aw_1 (List.mem_of_getElem? (i := 77) (by decide +kernel)) (by decide +kernel)
theorem k_b6c617dfbc : (Jvm.Cond.fieldLink "SpectrumDesk$Border" (38 : Nat) "SpectrumDesk$Polynomial" "limbs" "I") ∈ AW := aw_1 (List.mem_of_getElem? (i := 82) (by decide +kernel)) (by decide +kernel)
theorem k_716470c260 : (Jvm.Cond.methodLink "SpectrumDesk$Border" (27 : Nat) ({ cls := "SpectrumDesk$Border", name := "timesLinear", desc := "(LSpectrumDesk$Polynomial;LSpectrumDesk$Polynomial;I)V" } : Jvm.MethodName)) ∈ AW := aw_2 (List.mem_of_getElem? (i := 38) (by decide +kernel)) (by decide +kernel)
theorem k_2dbb202315 : (Jvm.Cond.static ({ cls := "SpectrumDesk$Border", name := "timesLinear", desc := "(LSpectrumDesk$Polynomial;LSpectrumDesk$Polynomial;I)V" } : Jvm.MethodName)) ∈ AW := aw_2 (List.mem_of_getElem? (i := 39) (by decide +kernel)) (by decide +kernel)
theorem k_d3d54dd4b0 : (Jvm.Cond.initialized "SpectrumDesk$Border") ∈ AW := aw_1 (List.mem_of_getElem? (i := 7) (by decide +kernel)) (by decide +kernel)
theorem k_383c10af70 : (Jvm.Cond.methodLink "SpectrumDesk$Border" (45 : Nat) ({ cls := "SpectrumDesk$Border", name := "advance", desc := "([I[[II)V" } : Jvm.MethodName)) ∈ AW := aw_2 (List.mem_of_getElem? (i := 53) (by decide +kernel)) (by decide +kernel)
theorem k_2dc1b7bb3a : (Jvm.Cond.instanceMethod ({ cls := "SpectrumDesk$Border", name := "advance", desc := "([I[[II)V" } : Jvm.MethodName)) ∈ AW := aw_2 (List.mem_of_getElem? (i := 55) (by decide +kernel)) (by decide +kernel)
theorem k_153903cec0 : (Jvm.Cond.selects "SpectrumDesk$Border" ({ cls := "SpectrumDesk$Border", name := "advance", desc := "([I[[II)V" } : Jvm.MethodName) ({ cls := "SpectrumDesk$Border", name := "advance", desc := "([I[[II)V" } : Jvm.MethodName)) ∈ AW := aw_p (by decide +kernel) (by decide +kernel)
theorem k_bdd6f9e760 : (Jvm.Cond.methodLink "SpectrumDesk$Border" (31 : Nat) ({ cls := "SpectrumDesk$Limbs", name := "assign", desc := "([II)V" } : Jvm.MethodName)) ∈ AW := aw_2 (List.mem_of_getElem? (i := 52) (by decide +kernel)) (by decide +kernel)
theorem k_e133681707 : (Jvm.Cond.static ({ cls := "SpectrumDesk$Limbs", name := "assign", desc := "([II)V" } : Jvm.MethodName)) ∈ AW := aw_1 (List.mem_of_getElem? (i := 95) (by decide +kernel)) (by decide +kernel)
theorem k_8e49b2218d : (Jvm.Cond.code ({ cls := "SpectrumDesk$Border", name := "advance", desc := "([I[[II)V" } : Jvm.MethodName) prog_2_method_4_code (7 : Nat) (Option.none : Option Jvm.ClassFile.FieldType)) ∈ AW := aw_2 (List.mem_of_getElem? (i := 56) (by decide +kernel)) (by decide +kernel)
theorem k_8dd55af03c : (Jvm.Cond.code ({ cls := "SpectrumDesk$Border", name := "timesLinear", desc := "(LSpectrumDesk$Polynomial;LSpectrumDesk$Polynomial;I)V" } : Jvm.MethodName) prog_2_method_3_code (4 : Nat) (Option.none : Option Jvm.ClassFile.FieldType)) ∈ AW := aw_2 (List.mem_of_getElem? (i := 40) (by decide +kernel)) (by decide +kernel)
theorem k_40725100b0 : (Jvm.Cond.code ({ cls := "SpectrumDesk$Border", name := "grow", desc := "(LSpectrumDesk$Polynomial;LSpectrumDesk$Polynomial;[[I)V" } : Jvm.MethodName) prog_2_method_2_code (7 : Nat) (Option.none : Option Jvm.ClassFile.FieldType)) ∈ AW := aw_2 (List.mem_of_getElem? (i := 37) (by decide +kernel)) (by decide +kernel)
set_option maxHeartbeats 4000000 in
set_option maxRecDepth 100000 in
theorem c_Border_advance {l : Launch} {D : va_G} {cI cJ cZ cC cG cP : ClassId} {N : Nat} {ad : Nat → Nat} {σ : Nat → va_E} {b k : Nat} {A Vf Xf : Nat → Nat → Int32} {g : Nat → Int32} {v9 : Nat → Int} {cv : Int} (hN : N = 193) (hO : σ 140 = .inr (ciB, [.ref (ad 141), .ref (ad 148)])) (hA : mat ad cI cG σ 1 2 A) (hV : mat ad cI cG σ 141 142 Vf) (hX : mat ad cI cG σ 148 149 Xf) (hb9 : b < 140) (hg : σ b = .inl (cI, 6, .inl g)) (hk6 : k < 6) (hAb : ∀ i j, i < 6 → j < 6 → -1000000 ≤ (A i j).toInt ∧ (A i j).toInt ≤ 1000000) (hcv : lm_is g 6 cv) (hvv : ∀ j, j < k → lm_is (Vf j) 6 (v9 j)) :
    Met l y_Border_advance v_Border_advance (xrm 2) (va_Pc [.ref (ad 140), .ref (ad b), .ref (ad 1), .int (nI k)] (xS D classes (xT cI cJ cZ cC cG cP) N ad σ)) (va_Qv (fun σ2 => ∃ V' X' : Nat → Nat → Int32, (∀ q, q < 141 ∨ 155 ≤ q → σ2 q = σ q) ∧ mat ad cI cG σ2 141 142 V' ∧ mat ad cI cG σ2 148 149 X' ∧ ∀ i, i < k → lm_is (V' i) 6 (dot (fun j => (A i j).toInt) v9 k + (A i k).toInt * cv)) (xS D classes (xT cI cJ cZ cC cG cP) N ad) (xA N ad)) 0 0 (xA N ad) := by
  refine xr_met rfl (Nat.le_of_ble_eq_true rfl) ?_
  intro p e s m args below meth c ls hx hb X hr hlk hl I
  have hl : lv_has ls 7 [(0, .ref (ad 140)), (1, .ref (ad b)), (2, .ref (ad 1)), (3, .int (nI k))] := hl
  refine lv_aload_n hx hb d_Border_advance_0 rfl (lv_at hl 1 rfl) ?_
  refine xr_alen X I b 0 (by omega) hg rfl d_Border_advance_1 ?_
  refine lv_istore (lv' := [(4, .int (nI 6)), (0, .ref (ad 140)), (1, .ref (ad b)), (2, .ref (ad 1)), (3, .int (nI k))]) hx hb d_Border_advance_2 hl (by decide) rfl (fun ls hl => ?_)
  refine lv_iconst (v := nI 0) hx hb d_Border_advance_4 (by decide) ?_
  refine lv_istore (lv' := [(5, .int (nI 0)), (4, .int (nI 6)), (0, .ref (ad 140)), (1, .ref (ad b)), (2, .ref (ad 1)), (3, .int (nI k))]) hx hb d_Border_advance_5 hl (by decide) rfl (fun ls hl => ?_)
  have second : ∀ (X3 : Nat → Nat → Int32) (c3 : ∀ i2, i2 < k → lm_is (X3 i2) 6 (dot (fun j => (A i2 j).toInt) v9 k + (A i2 k).toInt * cv)) (f : Nat) (i : Nat) (σ3 : Nat → va_E) (V3 : Nat → Nat → Int32) (ls : Array Slot) (H : Heap) (locs : List Loc), i + f = k → (∀ q, q < 141 ∨ 155 ≤ q → σ3 q = σ q) → mat ad cI cG σ3 141 142 V3 → mat ad cI cG σ3 148 149 X3 → (∀ i2, i2 < i → lm_is (V3 i2) 6 (dot (fun j => (A i2 j).toInt) v9 k + (A i2 k).toInt * cv)) → lv_has ls 7 [(5, .int (nI i)), (4, .int (nI 6)), (0, .ref (ad 140)), (1, .ref (ad b)), (2, .ref (ad 1)), (3, .int (nI k))] → xI D classes N ad s.heap (σ3) H locs → W p l e (xrm 2) s m args below meth c H locs 0 0 (MQ below (va_Qv (fun σ2 => ∃ V' X' : Nat → Nat → Int32, (∀ q, q < 141 ∨ 155 ≤ q → σ2 q = σ q) ∧ mat ad cI cG σ2 141 142 V' ∧ mat ad cI cG σ2 148 149 X' ∧ ∀ i, i < k → lm_is (V' i) 6 (dot (fun j => (A i j).toInt) v9 k + (A i k).toInt * cv)) (xS D classes (xT cI cJ cZ cC cG cP) N ad) (xA N ad)) args s 0 0 (xA N ad)) (F0 m 97 ls []) := by
    intro X3 c3 f
    induction f with
    | zero =>
      intro i σ3 V3 ls H locs hk c0 c1 c2 c4 hl I
      obtain rfl : i = k := by omega
      refine lv_iload hx hb d_Border_advance_97 (lv_at hl 0 rfl) ?_
      refine lv_iload_n hx hb d_Border_advance_99 rfl (lv_at hl 5 rfl) ?_
      refine lv_icmp_ge hx hb d_Border_advance_100 rfl (fun hc => ?_) (fun hc => ?_)
      · exact xr_vret X I hr hlk ⟨V3, X3, c0, c1, c2, c4⟩ d_Border_advance_128
      · exact absurd (nI_le (Nat.le_refl _) (by omega)) hc
    | succ f ih =>
      intro i σ3 V3 ls H locs hk c0 c1 c2 c4 hl I
      refine lv_iload hx hb d_Border_advance_97 (lv_at hl 0 rfl) ?_
      refine lv_iload_n hx hb d_Border_advance_99 rfl (lv_at hl 5 rfl) ?_
      refine lv_icmp_ge hx hb d_Border_advance_100 rfl (fun hc => ?_) (fun hc => ?_)
      · exact absurd hc (nI_ge (by omega) (by omega))
      · refine lv_aload_n hx hb d_Border_advance_103 rfl (lv_at hl 2 rfl) ?_
        refine xr_get X I fin_B 140 (by omega) ((c0 140 (by omega)).trans hO) rfl 0 (by decide) (List.mem_cons_of_mem _ k_6eb4050acd) rfl rfl d_Border_advance_104 ?_
        refine lv_iload hx hb d_Border_advance_107 (lv_at hl 0 rfl) ?_
        refine xr_aald X I 141 4 (by omega) (c1).1 rfl rfl (by omega) (by decide) (mx_at (by omega)) d_Border_advance_109 ?_
        refine lv_aload_n hx hb d_Border_advance_110 rfl (lv_at hl 2 rfl) ?_
        refine xr_get X I fin_B 140 (by omega) ((c0 140 (by omega)).trans hO) rfl 1 (by decide) (List.mem_cons_of_mem _ k_89af759078) rfl rfl d_Border_advance_111 ?_
        refine lv_iload hx hb d_Border_advance_114 (lv_at hl 0 rfl) ?_
        refine xr_aald X I 148 4 (by omega) (c2).1 rfl rfl (by omega) (by decide) (mx_at (by omega)) d_Border_advance_116 ?_
        refine lv_iload hx hb d_Border_advance_117 (lv_at hl 1 rfl) ?_
        refine xr_callv (xr_runS (kc := 1) (kr := 2) (n := 3) (As := [.ref (ad (142 + i)), .ref (ad (149 + i)), .int (nI 6)]) (rest := []) X I (c_Limbs_copy (σ := σ3) (a := 142 + i) (b := 149 + i) (n := 6) (by omega) (by omega) (c1.2 i (by omega)) (c2.2 i (by omega)) (by decide) (by decide) (by decide) (by decide)) (xg k_a09a60a57c) (List.mem_cons_of_mem _ k_92285c1c1c) (List.mem_cons_of_mem _ k_d700ff4995) (List.mem_cons_of_mem _ k_b15d0305ca) (by decide +kernel) (by decide) rfl hl.1 rfl (Nat.le_of_ble_eq_true rfl) d_Border_advance_119) I (fun σ9 H locs hp I => ?_)
        rw [hp] at I
        refine lv_iinc (k := 0) (v := nI (i + 1)) (lv' := [(5, .int (nI (i + 1))), (4, .int (nI 6)), (0, .ref (ad 140)), (1, .ref (ad b)), (2, .ref (ad 1)), (3, .int (nI k))]) hx hb d_Border_advance_122 hl rfl (nI_1 i) (by decide) rfl (fun ls hl => ?_)
        refine lv_goto hx hb d_Border_advance_125 rfl ?_
        refine ih (i + 1) _ _ ls H locs (by omega) (fun q hq => (va_up_ne _ _ (by omega)).trans (c0 q hq)) (mat_row c1 (by omega) (by omega) _) (mat_same c2 (va_up_ne _ _ (by omega)) (fun q h1 h2 => va_up_ne _ _ (by omega))) (fun a ha => ?_) hl I
        by_cases e9 : a = i
        · rw [e9, va_up_self]; exact lm_cpy (c3 i (by omega))
        · rw [va_up_ne _ _ e9]; exact c4 a (by omega)
  have first : ∀ (f : Nat) (i : Nat) (σ2 : Nat → va_E) (X2 : Nat → Nat → Int32) (ls : Array Slot) (H : Heap) (locs : List Loc), i + f = k → (∀ q, q < 149 ∨ 155 ≤ q → σ2 q = σ q) → mat ad cI cG σ2 148 149 X2 → (∀ i2, i2 < i → lm_is (X2 i2) 6 (dot (fun j => (A i2 j).toInt) v9 k + (A i2 k).toInt * cv)) → lv_has ls 7 [(5, .int (nI i)), (4, .int (nI 6)), (0, .ref (ad 140)), (1, .ref (ad b)), (2, .ref (ad 1)), (3, .int (nI k))] → xI D classes N ad s.heap (σ2) H locs → W p l e (xrm 2) s m args below meth c H locs 0 0 (MQ below (va_Qv (fun σ2 => ∃ V' X' : Nat → Nat → Int32, (∀ q, q < 141 ∨ 155 ≤ q → σ2 q = σ q) ∧ mat ad cI cG σ2 141 142 V' ∧ mat ad cI cG σ2 148 149 X' ∧ ∀ i, i < k → lm_is (V' i) 6 (dot (fun j => (A i j).toInt) v9 k + (A i k).toInt * cv)) (xS D classes (xT cI cJ cZ cC cG cP) N ad) (xA N ad)) args s 0 0 (xA N ad)) (F0 m 7 ls []) := by
    intro f
    induction f with
    | zero =>
      intro i σ2 X2 ls H locs hk b0 b1 b2 hl I
      obtain rfl : i = k := by omega
      refine lv_iload hx hb d_Border_advance_7 (lv_at hl 0 rfl) ?_
      refine lv_iload_n hx hb d_Border_advance_9 rfl (lv_at hl 5 rfl) ?_
      refine lv_icmp_ge hx hb d_Border_advance_10 rfl (fun hc => ?_) (fun hc => ?_)
      · refine lv_iconst (v := nI 0) hx hb d_Border_advance_94 (by decide) ?_
        refine lv_istore (lv' := [(5, .int (nI 0)), (4, .int (nI 6)), (0, .ref (ad 140)), (1, .ref (ad b)), (2, .ref (ad 1)), (3, .int (nI i))]) hx hb d_Border_advance_95 hl (by decide) rfl (fun ls hl => ?_)
        exact second X2 b2 i 0 σ2 Vf ls H locs (by omega) (fun q hq => b0 q (by omega)) (mat_same hV (b0 141 (by omega)) (fun q h1 h2 => b0 q (by omega))) b1 (fun a ha => absurd ha (Nat.not_lt_zero _)) hl I
      · exact absurd (nI_le (Nat.le_refl _) (by omega)) hc
    | succ f ih =>
      intro i σ2 X2 ls H locs hk b0 b1 b2 hl I
      refine lv_iload hx hb d_Border_advance_7 (lv_at hl 0 rfl) ?_
      refine lv_iload_n hx hb d_Border_advance_9 rfl (lv_at hl 5 rfl) ?_
      refine lv_icmp_ge hx hb d_Border_advance_10 rfl (fun hc => ?_) (fun hc => ?_)
      · exact absurd hc (nI_ge (by omega) (by omega))
      · refine lv_aload_n hx hb d_Border_advance_13 rfl (lv_at hl 2 rfl) ?_
        refine xr_get X I fin_B 140 (by omega) ((b0 140 (by omega)).trans hO) rfl 1 (by decide) (List.mem_cons_of_mem _ k_89af759078) rfl rfl d_Border_advance_14 ?_
        refine lv_iload hx hb d_Border_advance_17 (lv_at hl 0 rfl) ?_
        refine xr_aald X I 148 4 (by omega) (b1).1 rfl rfl (by omega) (by decide) (mx_at (by omega)) d_Border_advance_19 ?_
        refine lv_iconst (v := nI 0) hx hb d_Border_advance_20 (by decide) ?_
        refine xr_callv (xr_runS (kc := 0) (kr := 2) (n := 2) (As := [.ref (ad (149 + i)), .int (nI 0)]) (rest := []) X I (c_Arrays_fill2 (σ := σ2) (a := 149 + i) (v := nI 0) (by omega) (b1.2 i (by omega)) (by decide)) (xg k_fe7515a6f7) (List.mem_cons_of_mem _ k_983b62c4a1) (List.mem_cons_of_mem _ k_09018f8637) (List.mem_cons_of_mem _ k_9b51368402) (by decide +kernel) (by decide) rfl hl.1 rfl (Nat.le_of_ble_eq_true rfl) d_Border_advance_21) I (fun σ9 H locs hp I => ?_)
        obtain ⟨f2, rfl, f3, -⟩ := hp
        refine lv_iconst (v := nI 0) hx hb d_Border_advance_24 (by decide) ?_
        refine lv_istore (lv' := [(6, .int (nI 0)), (5, .int (nI i)), (4, .int (nI 6)), (0, .ref (ad 140)), (1, .ref (ad b)), (2, .ref (ad 1)), (3, .int (nI k))]) hx hb d_Border_advance_25 hl (by decide) rfl (fun ls hl => ?_)
        have inner : ∀ (r9 : Nat) (j : Nat) (σ4 : Nat → va_E) (X4 : Nat → Nat → Int32) (ls : Array Slot) (H : Heap) (locs : List Loc), j + r9 = k → (∀ q, q < 149 ∨ 155 ≤ q → σ4 q = σ q) → mat ad cI cG σ4 148 149 X4 → (∀ i2, i2 < i → lm_is (X4 i2) 6 (dot (fun j => (A i2 j).toInt) v9 k + (A i2 k).toInt * cv)) → lm_is (X4 i) 6 (dot (fun j => (A i j).toInt) v9 j) → lv_has ls 7 [(6, .int (nI j)), (5, .int (nI i)), (4, .int (nI 6)), (0, .ref (ad 140)), (1, .ref (ad b)), (2, .ref (ad 1)), (3, .int (nI k))] → xI D classes N ad s.heap (σ4) H locs → W p l e (xrm 2) s m args below meth c H locs 0 0 (MQ below (va_Qv (fun σ2 => ∃ V' X' : Nat → Nat → Int32, (∀ q, q < 141 ∨ 155 ≤ q → σ2 q = σ q) ∧ mat ad cI cG σ2 141 142 V' ∧ mat ad cI cG σ2 148 149 X' ∧ ∀ i, i < k → lm_is (V' i) 6 (dot (fun j => (A i j).toInt) v9 k + (A i k).toInt * cv)) (xS D classes (xT cI cJ cZ cC cG cP) N ad) (xA N ad)) args s 0 0 (xA N ad)) (F0 m 27 ls []) := by
          intro r9
          induction r9 with
          | zero =>
            intro j σ4 X4 ls H locs hj d0 d1 d2 d3 hl I
            obtain rfl : j = k := by omega
            refine lv_iload hx hb d_Border_advance_27 (lv_at hl 0 rfl) ?_
            refine lv_iload_n hx hb d_Border_advance_29 rfl (lv_at hl 6 rfl) ?_
            refine lv_icmp_ge hx hb d_Border_advance_30 rfl (fun hc => ?_) (fun hc => ?_)
            · refine lv_aload_n hx hb d_Border_advance_67 rfl (lv_at hl 3 rfl) ?_
              refine xr_get X I fin_B 140 (by omega) ((d0 140 (by omega)).trans hO) rfl 1 (by decide) (List.mem_cons_of_mem _ k_89af759078) rfl rfl d_Border_advance_68 ?_
              refine lv_iload hx hb d_Border_advance_71 (lv_at hl 1 rfl) ?_
              refine xr_aald X I 148 4 (by omega) (d1).1 rfl rfl (by omega) (by decide) (mx_at (by omega)) d_Border_advance_73 ?_
              refine lv_aload_n hx hb d_Border_advance_74 rfl (lv_at hl 4 rfl) ?_
              refine lv_aload_n hx hb d_Border_advance_75 rfl (lv_at hl 5 rfl) ?_
              refine lv_iload hx hb d_Border_advance_76 (lv_at hl 1 rfl) ?_
              refine xr_aald X I 1 4 (by omega) ((mat_same hA (d0 1 (by omega)) (fun q h1 h2 => d0 q (by omega)))).1 rfl rfl (by omega) (by decide) (mx_at (by omega)) d_Border_advance_78 ?_
              refine lv_iload_n hx hb d_Border_advance_79 rfl (lv_at hl 6 rfl) ?_
              refine xr_iald X I (2 + i) 0 (by omega) (((mat_same hA (d0 1 (by omega)) (fun q h1 h2 => d0 q (by omega)))).2 _ (by omega)) rfl (by omega) (by decide) d_Border_advance_80 ?_
              refine lv_i2l hx hb d_Border_advance_81 rfl ?_
              refine lv_iconst (v := nI 0) hx hb d_Border_advance_82 (by decide) ?_
              refine lv_iload hx hb d_Border_advance_83 (lv_at hl 2 rfl) ?_
              have hd9 := hAb i j (by omega) (by omega)
              refine xr_callv (xr_runS (kc := 0) (kr := 2) (n := 5) (As := [.ref (ad (149 + i)), .ref (ad b), .long ((A i j).toInt64), .int (nI 0), .int (nI 6)]) (rest := []) X I (c_Limbs_addTimes (σ := σ4) (a := 149 + i) (b := b) (off := 0) (n := 6) (by omega) (by omega) (d1.2 i (by omega)) ((d0 b (by omega)).trans hg) (by omega) (by rw [q_i2l]; omega) (by decide) (by decide) (by decide) (by decide) (by decide) d3 hcv) (xg k_c80bea473c) (List.mem_cons_of_mem _ k_7ef36b97e2) (List.mem_cons_of_mem _ k_0ef42f4896) (List.mem_cons_of_mem _ k_b15d0305ca) (by decide +kernel) (by decide) rfl hl.1 rfl (Nat.le_of_ble_eq_true rfl) d_Border_advance_85) I (fun σ9 H locs hp I => ?_)
              obtain ⟨f5, rfl, -, f6⟩ := hp
              rw [q_i2l, Int.pow_zero, Int.mul_one] at f6
              refine lv_iinc (k := 1) (v := nI (i + 1)) (lv' := [(5, .int (nI (i + 1))), (6, .int (nI j)), (4, .int (nI 6)), (0, .ref (ad 140)), (1, .ref (ad b)), (2, .ref (ad 1)), (3, .int (nI j))]) hx hb d_Border_advance_88 hl rfl (nI_1 i) (by decide) rfl (fun ls hl => ?_)
              refine lv_goto hx hb d_Border_advance_91 rfl ?_
              have hl := lv_sub hl [0, 2, 3, 4, 5, 6] rfl
              have hl : lv_has ls 7 [(5, .int (nI (i + 1))), (4, .int (nI 6)), (0, .ref (ad 140)), (1, .ref (ad b)), (2, .ref (ad 1)), (3, .int (nI j))] := hl
              refine ih (i + 1) _ _ ls H locs (by omega) (fun q hq => (va_up_ne _ _ (by omega)).trans (d0 q hq)) (mat_row d1 (by omega) (by omega) _) (fun a ha => ?_) hl I
              by_cases e9 : a = i
              · rw [e9, va_up_self]; exact f6
              · rw [va_up_ne _ _ e9]; exact d2 a (by omega)
            · exact absurd (nI_le (Nat.le_refl _) (by omega)) hc
          | succ r9 jh =>
            intro j σ4 X4 ls H locs hj d0 d1 d2 d3 hl I
            refine lv_iload hx hb d_Border_advance_27 (lv_at hl 0 rfl) ?_
            refine lv_iload_n hx hb d_Border_advance_29 rfl (lv_at hl 6 rfl) ?_
            refine lv_icmp_ge hx hb d_Border_advance_30 rfl (fun hc => ?_) (fun hc => ?_)
            · exact absurd hc (nI_ge (by omega) (by omega))
            · refine lv_aload_n hx hb d_Border_advance_33 rfl (lv_at hl 3 rfl) ?_
              refine xr_get X I fin_B 140 (by omega) ((d0 140 (by omega)).trans hO) rfl 1 (by decide) (List.mem_cons_of_mem _ k_89af759078) rfl rfl d_Border_advance_34 ?_
              refine lv_iload hx hb d_Border_advance_37 (lv_at hl 1 rfl) ?_
              refine xr_aald X I 148 4 (by omega) (d1).1 rfl rfl (by omega) (by decide) (mx_at (by omega)) d_Border_advance_39 ?_
              refine lv_aload_n hx hb d_Border_advance_40 rfl (lv_at hl 3 rfl) ?_
              refine xr_get X I fin_B 140 (by omega) ((d0 140 (by omega)).trans hO) rfl 0 (by decide) (List.mem_cons_of_mem _ k_6eb4050acd) rfl rfl d_Border_advance_41 ?_
              refine lv_iload hx hb d_Border_advance_44 (lv_at hl 0 rfl) ?_
              refine xr_aald X I 141 4 (by omega) ((mat_same hV (d0 141 (by omega)) (fun q h1 h2 => d0 q (by omega)))).1 rfl rfl (by omega) (by decide) (mx_at (by omega)) d_Border_advance_46 ?_
              refine lv_aload_n hx hb d_Border_advance_47 rfl (lv_at hl 5 rfl) ?_
              refine lv_iload hx hb d_Border_advance_48 (lv_at hl 1 rfl) ?_
              refine xr_aald X I 1 4 (by omega) ((mat_same hA (d0 1 (by omega)) (fun q h1 h2 => d0 q (by omega)))).1 rfl rfl (by omega) (by decide) (mx_at (by omega)) d_Border_advance_50 ?_
              refine lv_iload hx hb d_Border_advance_51 (lv_at hl 0 rfl) ?_
              refine xr_iald X I (2 + i) 0 (by omega) (((mat_same hA (d0 1 (by omega)) (fun q h1 h2 => d0 q (by omega)))).2 _ (by omega)) rfl (by omega) (by decide) d_Border_advance_53 ?_
              refine lv_i2l hx hb d_Border_advance_54 rfl ?_
              refine lv_iconst (v := nI 0) hx hb d_Border_advance_55 (by decide) ?_
              refine lv_iload hx hb d_Border_advance_56 (lv_at hl 2 rfl) ?_
              have hd9 := hAb i j (by omega) (by omega)
              refine xr_callv (xr_runS (kc := 0) (kr := 2) (n := 5) (As := [.ref (ad (149 + i)), .ref (ad (142 + j)), .long ((A i j).toInt64), .int (nI 0), .int (nI 6)]) (rest := []) X I (c_Limbs_addTimes (σ := σ4) (a := 149 + i) (b := 142 + j) (off := 0) (n := 6) (by omega) (by omega) (d1.2 i (by omega)) ((d0 (142 + j) (by omega)).trans (hV.2 j (by omega))) (by omega) (by rw [q_i2l]; omega) (by decide) (by decide) (by decide) (by decide) (by decide) d3 (hvv j (by omega))) (xg k_c80bea473c) (List.mem_cons_of_mem _ k_7ef36b97e2) (List.mem_cons_of_mem _ k_0ef42f4896) (List.mem_cons_of_mem _ k_b15d0305ca) (by decide +kernel) (by decide) rfl hl.1 rfl (Nat.le_of_ble_eq_true rfl) d_Border_advance_58) I (fun σ9 H locs hp I => ?_)
              obtain ⟨f5, rfl, -, f6⟩ := hp
              rw [q_i2l, Int.pow_zero, Int.mul_one] at f6
              refine lv_iinc (k := 0) (v := nI (j + 1)) (lv' := [(6, .int (nI (j + 1))), (5, .int (nI i)), (4, .int (nI 6)), (0, .ref (ad 140)), (1, .ref (ad b)), (2, .ref (ad 1)), (3, .int (nI k))]) hx hb d_Border_advance_61 hl rfl (nI_1 j) (by decide) rfl (fun ls hl => ?_)
              refine lv_goto hx hb d_Border_advance_64 rfl ?_
              refine jh (j + 1) _ _ ls H locs (by omega) (fun q hq => (va_up_ne _ _ (by omega)).trans (d0 q hq)) (mat_row d1 (by omega) (by omega) _) (fun a ha => ?_) ?_ hl I
              · rw [va_up_ne _ _ (by omega)]; exact d2 a ha
              · rw [va_up_self]; exact f6
        exact inner k 0 _ _ ls H locs (by omega) (fun q hq => (va_up_ne _ _ (by omega)).trans (b0 q hq)) (mat_row b1 (by omega) (by omega) f2) (fun a ha => by rw [va_up_ne _ _ (by omega)]; exact b2 a ha) (by rw [va_up_self]; exact lm_is_zero f3) hl I
  exact first k 0 σ Xf ls _ _ (by omega) (fun _ _ => rfl) hX (fun a ha => absurd ha (Nat.not_lt_zero _)) hl I
set_option maxHeartbeats 4000000 in
set_option maxRecDepth 100000 in
theorem c_Border_timesLinear {l : Launch} {D : va_G} {cI cJ cZ cC cG cP : ClassId} {N : Nat} {ad : Nat → Nat} {σ : Nat → va_E} {gi oi dg k : Nat} {co : Int32} {Fg Fo : Nat → Nat → Int32} {sg9 so : Nat → Int32} {p0 : Nat → Int} (hNi : gi + 10 ≤ N) (hNo : oi + 10 ≤ N) (hij : gi + 10 ≤ oi ∨ oi + 10 ≤ gi) (hG : pl ad cI cG σ gi 6 dg 6 Fg sg9) (hO : pl ad cI cG σ oi 6 k 6 Fo so) (hk5 : k ≤ 5) (his : pl_is Fo k 6 p0) (hco : -1000000 ≤ co.toInt ∧ co.toInt ≤ 1000000) :
    Met l y_Border_timesLinear v_Border_timesLinear (xrm 2) (va_Pc [.ref (ad gi), .ref (ad oi), .int co] (xS D classes (xT cI cJ cZ cC cG cP) N ad σ)) (va_Qv (fun σ2 => ∃ F' : Nat → Nat → Int32, pl_fr σ σ2 gi ∧ pl ad cI cG σ2 gi 6 dg 6 F' sg9 ∧ ∀ i, i ≤ k + 1 → lm_is (F' i) 6 (tlF p0 co.toInt k i)) (xS D classes (xT cI cJ cZ cC cG cP) N ad) (xA N ad)) 0 0 (xA N ad) := by
  refine xr_met rfl (Nat.le_of_ble_eq_true rfl) ?_
  intro p e s m args below meth c ls hx hb X hr hlk hl I
  have hl : lv_has ls 4 [(0, .ref (ad gi)), (1, .ref (ad oi)), (2, .int co)] := hl
  refine lv_aload_n hx hb d_Border_timesLinear_0 rfl (lv_at hl 0 rfl) ?_
  refine xr_get X I fin_P gi (by omega) (pl_o hG) rfl 0 (by decide) (List.mem_cons_of_mem _ k_d059b4b8f5) rfl rfl d_Border_timesLinear_1 ?_
  refine lv_iconst (v := nI 0) hx hb d_Border_timesLinear_4 (by decide) ?_
  refine xr_aald X I (gi + 1) 4 (by omega) (pl_c hG) rfl rfl (by omega) (by decide) (pl_at (by omega)) d_Border_timesLinear_5 ?_
  refine lv_iconst (v := nI 0) hx hb d_Border_timesLinear_6 (by decide) ?_
  refine xr_callv (xr_runS (kc := 0) (kr := 2) (n := 2) (As := [.ref (ad (gi + 2 + 0)), .int (nI 0)]) (rest := []) X I (c_Arrays_fill2 (σ := σ) (a := gi + 2 + 0) (v := nI 0) (by omega) (pl_r hG (by decide)) (by decide)) (xg k_fe7515a6f7) (List.mem_cons_of_mem _ k_983b62c4a1) (List.mem_cons_of_mem _ k_09018f8637) (List.mem_cons_of_mem _ k_9b51368402) (by decide +kernel) (by decide) rfl hl.1 rfl (Nat.le_of_ble_eq_true rfl) d_Border_timesLinear_7) I (fun σ9 H locs hp I => ?_)
  obtain ⟨f1, rfl, f2, -⟩ := hp
  refine lv_iconst (v := nI 0) hx hb d_Border_timesLinear_10 (by decide) ?_
  refine lv_istore_n (lv' := [(3, .int (nI 0)), (0, .ref (ad gi)), (1, .ref (ad oi)), (2, .int co)]) hx hb d_Border_timesLinear_11 rfl hl (by decide) rfl (fun ls hl => ?_)
  have second : ∀ (f : Nat) (i : Nat) (σ2 : Nat → va_E) (F2 : Nat → Nat → Int32) (ls : Array Slot) (H : Heap) (locs : List Loc), i + f = k + 1 → pl_fr σ σ2 gi → pl ad cI cG σ2 gi 6 dg 6 F2 sg9 → (∀ q, q ≤ k + 1 → lm_is (F2 q) 6 ((if q = 0 then 0 else p0 (q - 1)) + (if q < i then -co.toInt * p0 q else 0))) → lv_has ls 4 [(3, .int (nI i)), (0, .ref (ad gi)), (1, .ref (ad oi)), (2, .int co)] → xI D classes N ad s.heap (σ2) H locs → W p l e (xrm 2) s m args below meth c H locs 0 0 (MQ below (va_Qv (fun σ2 => ∃ F' : Nat → Nat → Int32, pl_fr σ σ2 gi ∧ pl ad cI cG σ2 gi 6 dg 6 F' sg9 ∧ ∀ i, i ≤ k + 1 → lm_is (F' i) 6 (tlF p0 co.toInt k i)) (xS D classes (xT cI cJ cZ cC cG cP) N ad) (xA N ad)) args s 0 0 (xA N ad)) (F0 m 49 ls []) := by
    intro f
    induction f with
    | zero =>
      intro i σ2 F2 ls H locs hk b0 b1 b2 hl I
      obtain rfl : i = k + 1 := by omega
      refine lv_iload_n hx hb d_Border_timesLinear_49 rfl (lv_at hl 0 rfl) ?_
      refine lv_aload_n hx hb d_Border_timesLinear_50 rfl (lv_at hl 2 rfl) ?_
      refine xr_get X I fin_P oi (by omega) (pl_o (pl_same hO (fun q h1 h2 => b0 q (by omega)))) rfl 2 (by decide) (List.mem_cons_of_mem _ k_215ecfa524) rfl rfl d_Border_timesLinear_51 ?_
      refine lv_icmp_gt hx hb d_Border_timesLinear_54 rfl (fun hc => ?_) (fun hc => ?_)
      · refine xr_vret X I hr hlk ⟨F2, b0, b1, fun q hq => lm_is_eq (b2 q hq) ?_⟩ d_Border_timesLinear_86
        rw [tlF]
        by_cases h : q < k + 1
        · rw [if_pos h, if_pos (show q ≤ k by omega)]
        · rw [if_neg h, if_neg (show ¬ q ≤ k by omega)]
      · exact absurd (nI_lt (Nat.lt_succ_self _) (by omega)) hc
    | succ f ih =>
      intro i σ2 F2 ls H locs hk b0 b1 b2 hl I
      refine lv_iload_n hx hb d_Border_timesLinear_49 rfl (lv_at hl 0 rfl) ?_
      refine lv_aload_n hx hb d_Border_timesLinear_50 rfl (lv_at hl 2 rfl) ?_
      refine xr_get X I fin_P oi (by omega) (pl_o (pl_same hO (fun q h1 h2 => b0 q (by omega)))) rfl 2 (by decide) (List.mem_cons_of_mem _ k_215ecfa524) rfl rfl d_Border_timesLinear_51 ?_
      refine lv_icmp_gt hx hb d_Border_timesLinear_54 rfl (fun hc => ?_) (fun hc => ?_)
      · exact absurd hc (nI_nlt (by omega) (by omega))
      · refine lv_aload_n hx hb d_Border_timesLinear_57 rfl (lv_at hl 1 rfl) ?_
        refine xr_get X I fin_P gi (by omega) (pl_o b1) rfl 0 (by decide) (List.mem_cons_of_mem _ k_d059b4b8f5) rfl rfl d_Border_timesLinear_58 ?_
        refine lv_iload_n hx hb d_Border_timesLinear_61 rfl (lv_at hl 0 rfl) ?_
        refine xr_aald X I (gi + 1) 4 (by omega) (pl_c b1) rfl rfl (by omega) (by decide) (pl_at (by omega)) d_Border_timesLinear_62 ?_
        refine lv_aload_n hx hb d_Border_timesLinear_63 rfl (lv_at hl 2 rfl) ?_
        refine xr_get X I fin_P oi (by omega) (pl_o (pl_same hO (fun q h1 h2 => b0 q (by omega)))) rfl 0 (by decide) (List.mem_cons_of_mem _ k_d059b4b8f5) rfl rfl d_Border_timesLinear_64 ?_
        refine lv_iload_n hx hb d_Border_timesLinear_67 rfl (lv_at hl 0 rfl) ?_
        refine xr_aald X I (oi + 1) 4 (by omega) (pl_c (pl_same hO (fun q h1 h2 => b0 q (by omega)))) rfl rfl (by omega) (by decide) (pl_at (by omega)) d_Border_timesLinear_68 ?_
        refine lv_iload_n hx hb d_Border_timesLinear_69 rfl (lv_at hl 3 rfl) ?_
        refine lv_ineg hx hb d_Border_timesLinear_70 ?_
        refine lv_i2l hx hb d_Border_timesLinear_71 rfl ?_
        refine lv_iconst (v := nI 0) hx hb d_Border_timesLinear_72 (by decide) ?_
        refine lv_aload_n hx hb d_Border_timesLinear_73 rfl (lv_at hl 1 rfl) ?_
        refine xr_get X I fin_P gi (by omega) (pl_o b1) rfl 3 (by decide) (List.mem_cons_of_mem _ k_b6c617dfbc) rfl rfl d_Border_timesLinear_74 ?_
        have hn9 := q_neg32 hco.1 hco.2
        refine xr_callv (xr_runS (kc := 0) (kr := 2) (n := 5) (As := [.ref (ad (gi + 2 + i)), .ref (ad (oi + 2 + i)), .long ((-co).toInt64), .int (nI 0), .int (nI 6)]) (rest := []) X I (c_Limbs_addTimes (σ := σ2) (a := gi + 2 + i) (b := oi + 2 + i) (off := 0) (n := 6) (by omega) (by omega) (pl_r b1 (by omega)) (pl_r (pl_same hO (fun q h1 h2 => b0 q (by omega))) (by omega)) (by omega) (by rw [hn9]; omega) (by decide) (by decide) (by decide) (by decide) (by decide) (b2 i (by omega)) (his i (by omega))) (xg k_c80bea473c) (List.mem_cons_of_mem _ k_7ef36b97e2) (List.mem_cons_of_mem _ k_0ef42f4896) (List.mem_cons_of_mem _ k_b15d0305ca) (by decide +kernel) (by decide) rfl hl.1 rfl (Nat.le_of_ble_eq_true rfl) d_Border_timesLinear_77) I (fun σ9 H locs hp I => ?_)
        obtain ⟨f5, rfl, -, f6⟩ := hp
        rw [hn9, Int.pow_zero, Int.mul_one] at f6
        refine lv_iinc (k := 0) (v := nI (i + 1)) (lv' := [(3, .int (nI (i + 1))), (0, .ref (ad gi)), (1, .ref (ad oi)), (2, .int co)]) hx hb d_Border_timesLinear_80 hl rfl (nI_1 i) (by decide) rfl (fun ls hl => ?_)
        refine lv_goto hx hb d_Border_timesLinear_83 rfl ?_
        refine ih (i + 1) _ _ ls H locs (by omega) (pl_fr_up b0 (by omega)) (pl_row b1 (by omega) f5) (fun q hq => ?_) hl I
        by_cases e9 : q = i
        · rw [e9, va_up_self, if_pos (Nat.lt_succ_self _)]; rw [if_neg (Nat.lt_irrefl _)] at f6; exact lm_is_eq f6 (by omega)
        · rw [va_up_ne _ _ e9]; refine lm_is_eq (b2 q hq) ?_
          by_cases h : q < i
          · rw [if_pos h, if_pos (show q < i + 1 by omega)]
          · rw [if_neg h, if_neg (show ¬ q < i + 1 by omega)]
  have first : ∀ (f : Nat) (i : Nat) (σ2 : Nat → va_E) (F2 : Nat → Nat → Int32) (ls : Array Slot) (H : Heap) (locs : List Loc), i + f = k + 1 → pl_fr σ σ2 gi → pl ad cI cG σ2 gi 6 dg 6 F2 sg9 → (∀ q, q ≤ i → lm_is (F2 q) 6 (if q = 0 then 0 else p0 (q - 1))) → lv_has ls 4 [(3, .int (nI i)), (0, .ref (ad gi)), (1, .ref (ad oi)), (2, .int co)] → xI D classes N ad s.heap (σ2) H locs → W p l e (xrm 2) s m args below meth c H locs 0 0 (MQ below (va_Qv (fun σ2 => ∃ F' : Nat → Nat → Int32, pl_fr σ σ2 gi ∧ pl ad cI cG σ2 gi 6 dg 6 F' sg9 ∧ ∀ i, i ≤ k + 1 → lm_is (F' i) 6 (tlF p0 co.toInt k i)) (xS D classes (xT cI cJ cZ cC cG cP) N ad) (xA N ad)) args s 0 0 (xA N ad)) (F0 m 12 ls []) := by
    intro f
    induction f with
    | zero =>
      intro i σ2 F2 ls H locs hk b0 b1 b2 hl I
      obtain rfl : i = k + 1 := by omega
      refine lv_iload_n hx hb d_Border_timesLinear_12 rfl (lv_at hl 0 rfl) ?_
      refine lv_aload_n hx hb d_Border_timesLinear_13 rfl (lv_at hl 2 rfl) ?_
      refine xr_get X I fin_P oi (by omega) (pl_o (pl_same hO (fun q h1 h2 => b0 q (by omega)))) rfl 2 (by decide) (List.mem_cons_of_mem _ k_215ecfa524) rfl rfl d_Border_timesLinear_14 ?_
      refine lv_icmp_gt hx hb d_Border_timesLinear_17 rfl (fun hc => ?_) (fun hc => ?_)
      · refine lv_iconst (v := nI 0) hx hb d_Border_timesLinear_47 (by decide) ?_
        refine lv_istore_n (lv' := [(3, .int (nI 0)), (0, .ref (ad gi)), (1, .ref (ad oi)), (2, .int co)]) hx hb d_Border_timesLinear_48 rfl hl (by decide) rfl (fun ls hl => ?_)
        exact second (k + 1) 0 σ2 F2 ls H locs (by omega) b0 b1 (fun q hq => lm_is_eq (b2 q (by omega)) (by rw [if_neg (Nat.not_lt_zero _)]; omega)) hl I
      · exact absurd (nI_lt (Nat.lt_succ_self _) (by omega)) hc
    | succ f ih =>
      intro i σ2 F2 ls H locs hk b0 b1 b2 hl I
      refine lv_iload_n hx hb d_Border_timesLinear_12 rfl (lv_at hl 0 rfl) ?_
      refine lv_aload_n hx hb d_Border_timesLinear_13 rfl (lv_at hl 2 rfl) ?_
      refine xr_get X I fin_P oi (by omega) (pl_o (pl_same hO (fun q h1 h2 => b0 q (by omega)))) rfl 2 (by decide) (List.mem_cons_of_mem _ k_215ecfa524) rfl rfl d_Border_timesLinear_14 ?_
      refine lv_icmp_gt hx hb d_Border_timesLinear_17 rfl (fun hc => ?_) (fun hc => ?_)
      · exact absurd hc (nI_nlt (by omega) (by omega))
      · refine lv_aload_n hx hb d_Border_timesLinear_20 rfl (lv_at hl 1 rfl) ?_
        refine xr_get X I fin_P gi (by omega) (pl_o b1) rfl 0 (by decide) (List.mem_cons_of_mem _ k_d059b4b8f5) rfl rfl d_Border_timesLinear_21 ?_
        refine lv_iload_n hx hb d_Border_timesLinear_24 rfl (lv_at hl 0 rfl) ?_
        refine lv_iconst (v := nI 1) hx hb d_Border_timesLinear_25 (by decide) ?_
        refine lv_iadd hx hb d_Border_timesLinear_26 (xr_topi (y := nI (i + 1)) (nI_add i 1) ?_)
        refine xr_aald X I (gi + 1) 4 (by omega) (pl_c b1) rfl rfl (by omega) (by decide) (pl_at (by omega)) d_Border_timesLinear_27 ?_
        refine lv_aload_n hx hb d_Border_timesLinear_28 rfl (lv_at hl 2 rfl) ?_
        refine xr_get X I fin_P oi (by omega) (pl_o (pl_same hO (fun q h1 h2 => b0 q (by omega)))) rfl 0 (by decide) (List.mem_cons_of_mem _ k_d059b4b8f5) rfl rfl d_Border_timesLinear_29 ?_
        refine lv_iload_n hx hb d_Border_timesLinear_32 rfl (lv_at hl 0 rfl) ?_
        refine xr_aald X I (oi + 1) 4 (by omega) (pl_c (pl_same hO (fun q h1 h2 => b0 q (by omega)))) rfl rfl (by omega) (by decide) (pl_at (by omega)) d_Border_timesLinear_33 ?_
        refine lv_aload_n hx hb d_Border_timesLinear_34 rfl (lv_at hl 1 rfl) ?_
        refine xr_get X I fin_P gi (by omega) (pl_o b1) rfl 3 (by decide) (List.mem_cons_of_mem _ k_b6c617dfbc) rfl rfl d_Border_timesLinear_35 ?_
        refine xr_callv (xr_runS (kc := 1) (kr := 2) (n := 3) (As := [.ref (ad (gi + 2 + (i + 1))), .ref (ad (oi + 2 + i)), .int (nI 6)]) (rest := []) X I (c_Limbs_copy (σ := σ2) (a := gi + 2 + (i + 1)) (b := oi + 2 + i) (n := 6) (by omega) (by omega) (pl_r b1 (by omega)) (pl_r (pl_same hO (fun q h1 h2 => b0 q (by omega))) (by omega)) (by decide) (by decide) (by decide) (by decide)) (xg k_a09a60a57c) (List.mem_cons_of_mem _ k_92285c1c1c) (List.mem_cons_of_mem _ k_d700ff4995) (List.mem_cons_of_mem _ k_b15d0305ca) (by decide +kernel) (by decide) rfl hl.1 rfl (Nat.le_of_ble_eq_true rfl) d_Border_timesLinear_38) I (fun σ9 H locs hp I => ?_)
        rw [hp] at I
        refine lv_iinc (k := 0) (v := nI (i + 1)) (lv' := [(3, .int (nI (i + 1))), (0, .ref (ad gi)), (1, .ref (ad oi)), (2, .int co)]) hx hb d_Border_timesLinear_41 hl rfl (nI_1 i) (by decide) rfl (fun ls hl => ?_)
        refine lv_goto hx hb d_Border_timesLinear_44 rfl ?_
        refine ih (i + 1) _ _ ls H locs (by omega) (pl_fr_up b0 (by omega)) (pl_row b1 (by omega) _) (fun q hq => ?_) hl I
        by_cases e9 : q = i + 1
        · rw [e9, va_up_self, if_neg (by omega), Nat.add_sub_cancel]; exact lm_cpy (his i (by omega))
        · rw [va_up_ne _ _ e9]; exact b2 q (by omega)
  exact first (k + 1) 0 _ _ ls _ _ (by omega) (pl_fr_up pl_fr_rf (by omega)) (pl_row hG (by decide) f1) (fun q hq => by obtain rfl : q = 0 := (by omega); rw [va_up_self, if_pos rfl]; exact lm_is_zero f2) hl I
set_option maxHeartbeats 4000000 in
set_option maxRecDepth 100000 in
theorem c_Border_grow {l : Launch} {D : va_G} {cI cJ cZ cC cG cP : ClassId} {N : Nat} {ad : Nat → Nat} {σ : Nat → va_E} {gi oi dg k : Nat} {A Vf Xf Fg Fo : Nat → Nat → Int32} {sg9 so : Nat → Int32} {p0 : Nat → Int} (hN : N = 193) (hOb : σ 140 = .inr (ciB, [.ref (ad 141), .ref (ad 148)])) (hA : mat ad cI cG σ 1 2 A) (hV : mat ad cI cG σ 141 142 Vf) (hX : mat ad cI cG σ 148 149 Xf) (hgi : 18 ≤ gi ∧ gi + 10 ≤ 140) (hoi : 18 ≤ oi ∧ oi + 10 ≤ 140) (hij : gi + 10 ≤ oi ∨ oi + 10 ≤ gi) (hG : pl ad cI cG σ gi 6 dg 6 Fg sg9) (hO : pl ad cI cG σ oi 6 k 6 Fo so) (hk5 : k ≤ 5) (his : pl_is Fo k 6 p0) (hAb : ∀ i j, i < 6 → j < 6 → -1000000 ≤ (A i j).toInt ∧ (A i j).toInt ≤ 1000000) :
    Met l y_Border_grow v_Border_grow (xrm 3) (va_Pc [.ref (ad 140), .ref (ad gi), .ref (ad oi), .ref (ad 1)] (xS D classes (xT cI cJ cZ cC cG cP) N ad σ)) (va_Qv (fun σ2 => ∃ F' V' X' : Nat → Nat → Int32, (∀ q, (q < gi ∨ gi + 10 ≤ q) → (q < 141 ∨ 155 ≤ q) → σ2 q = σ q) ∧ pl ad cI cG σ2 gi 6 (k + 1) 6 F' sg9 ∧ pl_is F' (k + 1) 6 (grF (fun i j => (A i j).toInt) p0 k) ∧ mat ad cI cG σ2 141 142 V' ∧ mat ad cI cG σ2 148 149 X') (xS D classes (xT cI cJ cZ cC cG cP) N ad) (xA N ad)) 0 0 (xA N ad) := by
  refine xr_met rfl (Nat.le_of_ble_eq_true rfl) ?_
  intro p e s m args below meth c ls hx hb X hr hlk hl I
  have hl : lv_has ls 7 [(0, .ref (ad 140)), (1, .ref (ad gi)), (2, .ref (ad oi)), (3, .ref (ad 1))] := hl
  refine lv_aload_n hx hb d_Border_grow_0 rfl (lv_at hl 2 rfl) ?_
  refine xr_get X I fin_P oi (by omega) (pl_o hO) rfl 2 (by decide) (List.mem_cons_of_mem _ k_215ecfa524) rfl rfl d_Border_grow_1 ?_
  refine lv_istore (lv' := [(4, .int (nI k)), (0, .ref (ad 140)), (1, .ref (ad gi)), (2, .ref (ad oi)), (3, .ref (ad 1))]) hx hb d_Border_grow_4 hl (by decide) rfl (fun ls hl => ?_)
  refine lv_aload_n hx hb d_Border_grow_6 rfl (lv_at hl 2 rfl) ?_
  refine lv_iload hx hb d_Border_grow_7 (lv_at hl 0 rfl) ?_
  refine lv_iconst (v := nI 1) hx hb d_Border_grow_9 (by decide) ?_
  refine lv_iadd hx hb d_Border_grow_10 (xr_topi (y := nI (k + 1)) (nI_add k 1) ?_)
  refine xr_put (ty := .int) X I fin_P t_P t_P_ok n_P gi (by omega) (pl_o hG) rfl 2 (by decide) (List.mem_cons_of_mem _ k_215ecfa524) rfl rfl (by decide +kernel) rfl rfl (Nat.le_of_ble_eq_true rfl) d_Border_grow_11 (fun H locs I => ?_)
  have I : xI D classes N ad s.heap (va_up σ gi (.inr (ciP, [.ref (ad (gi + 1)), .ref (ad (gi + 9)), .int (nI (k + 1)), .int (nI 6)]))) H locs := I
  have g1 := pl_fields hG (k + 1) 6
  have f1 : (∀ q, (q < gi ∨ gi + 10 ≤ q) → (q < 141 ∨ 155 ≤ q) → (va_up σ gi (.inr (ciP, [.ref (ad (gi + 1)), .ref (ad (gi + 9)), .int (nI (k + 1)), .int (nI 6)]))) q = σ q) := fun q h1 h2 => va_up_ne _ _ (by omega)
  have o1 := pl_else hO (show gi < oi ∨ oi + 10 ≤ gi by omega) (.inr (ciP, [.ref (ad (gi + 1)), .ref (ad (gi + 9)), .int (nI (k + 1)), .int (nI 6)]))
  have a1 := mat_same hA (f1 1 (by omega) (by omega)) (fun q h1 h2 => f1 q (by omega) (by omega))
  refine lv_aload_n hx hb d_Border_grow_14 rfl (lv_at hl 2 rfl) ?_
  refine lv_aload_n hx hb d_Border_grow_15 rfl (lv_at hl 3 rfl) ?_
  refine lv_aload_n hx hb d_Border_grow_16 rfl (lv_at hl 4 rfl) ?_
  refine lv_iload hx hb d_Border_grow_17 (lv_at hl 0 rfl) ?_
  refine xr_aald X I 1 4 (by omega) (a1).1 rfl rfl (by omega) (by decide) (mx_at (by omega)) d_Border_grow_19 ?_
  refine lv_iload hx hb d_Border_grow_20 (lv_at hl 0 rfl) ?_
  refine xr_iald X I (2 + k) 0 (by omega) ((a1).2 _ (by omega)) rfl (by omega) (by decide) d_Border_grow_22 ?_
  have hco := hAb k k (by omega) (by omega)
  refine xr_callv (xr_runS (kc := 2) (kr := 3) (n := 3) (As := [.ref (ad gi), .ref (ad oi), .int (A k k)]) (rest := []) X I (c_Border_timesLinear (gi := gi) (oi := oi) (by omega) (by omega) hij g1 o1 hk5 his hco) (xg k_8dd55af03c) (List.mem_cons_of_mem _ k_716470c260) (List.mem_cons_of_mem _ k_2dbb202315) (List.mem_cons_of_mem _ k_d3d54dd4b0) (by decide +kernel) (by decide) rfl hl.1 rfl (Nat.le_of_ble_eq_true rfl) d_Border_grow_23) I (fun σ1 H locs hp I => ?_)
  obtain ⟨F1, f2, g2, t2⟩ := hp
  have f3 : (∀ q, (q < gi ∨ gi + 10 ≤ q) → (q < 141 ∨ 155 ≤ q) → σ1 q = σ q) := fun q h1 h2 => (f2 q (by omega)).trans (f1 q h1 h2)
  have f3b : ∀ q, q < gi ∨ gi + 10 ≤ q → σ1 q = σ q := fun q hq => (f2 q (by omega)).trans (va_up_ne _ _ (by omega))
  clear f1 f2 g1 o1 a1
  refine lv_iconst (v := nI 0) hx hb d_Border_grow_26 (by decide) ?_
  refine lv_istore (lv' := [(5, .int (nI 0)), (4, .int (nI k)), (0, .ref (ad 140)), (1, .ref (ad gi)), (2, .ref (ad oi)), (3, .ref (ad 1))]) hx hb d_Border_grow_27 hl (by decide) rfl (fun ls hl => ?_)
  have down : ∀ (r9 : Nat) (σ3 : Nat → va_E) (F3 V3 X3 : Nat → Nat → Int32) (ls : Array Slot) (H : Heap) (locs : List Loc), r9 ≤ k → (∀ q, (q < gi ∨ gi + 10 ≤ q) → (q < 141 ∨ 155 ≤ q) → σ3 q = σ q) → pl ad cI cG σ3 gi 6 (k + 1) 6 F3 sg9 → (∀ q, q ≤ k + 1 → lm_is (F3 q) 6 (if r9 ≤ q ∧ q < k then (grF (fun i j => (A i j).toInt) p0 k) q else (tlF p0 (A k k).toInt k) q)) → mat ad cI cG σ3 141 142 V3 → mat ad cI cG σ3 148 149 X3 → (∀ j, j < k → lm_is (V3 j) 6 ((bvF (fun i j => (A i j).toInt) p0 k (k - r9)) j)) → lv_has ls 7 [(5, .int (nP r9)), (4, .int (nI k)), (0, .ref (ad 140)), (1, .ref (ad gi)), (2, .ref (ad oi)), (3, .ref (ad 1))] → xI D classes N ad s.heap (σ3) H locs → W p l e (xrm 3) s m args below meth c H locs 0 0 (MQ below (va_Qv (fun σ2 => ∃ F' V' X' : Nat → Nat → Int32, (∀ q, (q < gi ∨ gi + 10 ≤ q) → (q < 141 ∨ 155 ≤ q) → σ2 q = σ q) ∧ pl ad cI cG σ2 gi 6 (k + 1) 6 F' sg9 ∧ pl_is F' (k + 1) 6 (grF (fun i j => (A i j).toInt) p0 k) ∧ mat ad cI cG σ2 141 142 V' ∧ mat ad cI cG σ2 148 149 X') (xS D classes (xT cI cJ cZ cC cG cP) N ad) (xA N ad)) args s 0 0 (xA N ad)) (F0 m 65 ls []) := by
    intro r9
    induction r9 with
    | zero =>
      intro σ3 F3 V3 X3 ls H locs hk c0 c1 c2 c3 c4 c5 hl I
      refine lv_iload hx hb d_Border_grow_65 (lv_at hl 0 rfl) ?_
      refine lv_if_lt hx hb d_Border_grow_67 rfl (fun hc => ?_) (fun hc => ?_)
      · refine xr_vret X I hr hlk ⟨F3, V3, X3, c0, c1, fun q hq => lm_is_eq (c2 q hq) ?_, c3, c4⟩ d_Border_grow_137
        by_cases h : 0 ≤ q ∧ q < k
        · rw [if_pos h]
        · rw [if_neg h, grF, if_neg (by omega)]
      · exact absurd nP_0 hc
    | succ r9 ih =>
      intro σ3 F3 V3 X3 ls H locs hk c0 c1 c2 c3 c4 c5 hl I
      refine lv_iload hx hb d_Border_grow_65 (lv_at hl 0 rfl) ?_
      refine xr_topi (y := nI r9) (nP_succ r9) ?_
      refine lv_if_lt hx hb d_Border_grow_67 rfl (fun hc => ?_) (fun hc => ?_)
      · exact absurd hc (nI_pos (by omega))
      · refine lv_iconst (v := nI 0) hx hb d_Border_grow_70 (by decide) ?_
        refine lv_istore (lv' := [(6, .int (nI 0)), (5, .int (nP (r9 + 1))), (4, .int (nI k)), (0, .ref (ad 140)), (1, .ref (ad gi)), (2, .ref (ad oi)), (3, .ref (ad 1))]) hx hb d_Border_grow_71 hl (by decide) rfl (fun ls hl => ?_)
        have inner : ∀ (q9 : Nat) (j : Nat) (σ4 : Nat → va_E) (F4 : Nat → Nat → Int32) (ls : Array Slot) (H : Heap) (locs : List Loc), j + q9 = k → (∀ q, (q < gi ∨ gi + 10 ≤ q) → (q < 141 ∨ 155 ≤ q) → σ4 q = σ q) → pl ad cI cG σ4 gi 6 (k + 1) 6 F4 sg9 → (∀ q, q ≤ k + 1 → q ≠ r9 → lm_is (F4 q) 6 (if r9 + 1 ≤ q ∧ q < k then (grF (fun i j => (A i j).toInt) p0 k) q else (tlF p0 (A k k).toInt k) q)) → lm_is (F4 r9) 6 ((tlF p0 (A k k).toInt k) r9 - dot (fun j => (A j k).toInt) (bvF (fun i j => (A i j).toInt) p0 k (k - (r9 + 1))) j) → mat ad cI cG σ4 141 142 V3 → mat ad cI cG σ4 148 149 X3 → lv_has ls 7 [(6, .int (nI j)), (5, .int (nP (r9 + 1))), (4, .int (nI k)), (0, .ref (ad 140)), (1, .ref (ad gi)), (2, .ref (ad oi)), (3, .ref (ad 1))] → xI D classes N ad s.heap (σ4) H locs → W p l e (xrm 3) s m args below meth c H locs 0 0 (MQ below (va_Qv (fun σ2 => ∃ F' V' X' : Nat → Nat → Int32, (∀ q, (q < gi ∨ gi + 10 ≤ q) → (q < 141 ∨ 155 ≤ q) → σ2 q = σ q) ∧ pl ad cI cG σ2 gi 6 (k + 1) 6 F' sg9 ∧ pl_is F' (k + 1) 6 (grF (fun i j => (A i j).toInt) p0 k) ∧ mat ad cI cG σ2 141 142 V' ∧ mat ad cI cG σ2 148 149 X') (xS D classes (xT cI cJ cZ cC cG cP) N ad) (xA N ad)) args s 0 0 (xA N ad)) (F0 m 73 ls []) := by
          intro q9
          induction q9 with
          | zero =>
            intro j σ4 F4 ls H locs hj d0 d1 d2 d3 d4 d5 hl I
            obtain rfl : k = j := by omega
            refine lv_iload hx hb d_Border_grow_73 (lv_at hl 0 rfl) ?_
            refine lv_iload hx hb d_Border_grow_75 (lv_at hl 2 rfl) ?_
            refine lv_icmp_ge hx hb d_Border_grow_77 rfl (fun hc => ?_) (fun hc => ?_)
            · refine lv_aload_n hx hb d_Border_grow_117 rfl (lv_at hl 3 rfl) ?_
              refine lv_aload_n hx hb d_Border_grow_118 rfl (lv_at hl 5 rfl) ?_
              refine xr_get X I fin_P oi (by omega) (pl_o (pl_same hO (fun q h1 h2 => d0 q (by omega) (by omega)))) rfl 0 (by decide) (List.mem_cons_of_mem _ k_d059b4b8f5) rfl rfl d_Border_grow_119 ?_
              refine lv_iload hx hb d_Border_grow_122 (lv_at hl 1 rfl) ?_
              refine xr_topi (y := nI r9) (nP_succ r9) ?_
              refine xr_aald X I (oi + 1) 4 (by omega) (pl_c (pl_same hO (fun q h1 h2 => d0 q (by omega) (by omega)))) rfl rfl (by omega) (by decide) (pl_at (by omega)) d_Border_grow_124 ?_
              refine lv_aload_n hx hb d_Border_grow_125 rfl (lv_at hl 6 rfl) ?_
              refine lv_iload hx hb d_Border_grow_126 (lv_at hl 2 rfl) ?_
              refine xr_callv (xr_runV (kc := 2) (kr := 3) (n := 3) (As := [.ref (ad (oi + 2 + r9)), .ref (ad 1), .int (nI k)]) (rest := []) X I (by omega) ((d0 140 (by omega) (by omega)).trans hOb) rfl (c_Border_advance (b := oi + 2 + r9) (k := k) (v9 := (bvF (fun i j => (A i j).toInt) p0 k (k - (r9 + 1)))) hN ((d0 140 (by omega) (by omega)).trans hOb) (mat_same hA (d0 1 (by omega) (by omega)) (fun q h1 h2 => d0 q (by omega) (by omega))) d4 d5 (by omega) (pl_r (pl_same hO (fun q h1 h2 => d0 q (by omega) (by omega))) (by omega)) (by omega) hAb (his r9 (by omega)) c5) (xg k_8e49b2218d) (List.mem_cons_of_mem _ k_383c10af70) (List.mem_cons_of_mem _ k_2dc1b7bb3a) (List.mem_cons_of_mem _ k_153903cec0) (List.mem_cons_of_mem _ k_d3d54dd4b0) (by decide +kernel) (by decide) rfl hl.1 rfl (Nat.le_of_ble_eq_true rfl) d_Border_grow_128) I (fun σ9 H locs hp I => ?_)
              obtain ⟨V5, X5, e0, e1, e2, e3⟩ := hp
              refine lv_iinc (k := 1) (v := nP r9) (lv' := [(5, .int (nP r9)), (6, .int (nI k)), (4, .int (nI k)), (0, .ref (ad 140)), (1, .ref (ad gi)), (2, .ref (ad oi)), (3, .ref (ad 1))]) hx hb d_Border_grow_131 hl rfl (nP_dec r9) (by decide) rfl (fun ls hl => ?_)
              refine lv_goto hx hb d_Border_grow_134 rfl ?_
              have hl := lv_sub hl [0, 2, 3, 4, 5, 6] rfl
              have hl : lv_has ls 7 [(5, .int (nP r9)), (4, .int (nI k)), (0, .ref (ad 140)), (1, .ref (ad gi)), (2, .ref (ad oi)), (3, .ref (ad 1))] := hl
              refine ih σ9 F4 V5 X5 ls H locs (by omega) (fun q h1 h2 => (e0 q (by omega)).trans (d0 q h1 h2)) (pl_same d1 (fun q h1 h2 => e0 q (by omega))) (fun q hq => ?_) e1 e2 (fun q hq => ?_) hl I
              · by_cases e9 : q = r9
                · rw [e9, if_pos ⟨Nat.le_refl _, by omega⟩, grF, if_pos (by omega), show k - 1 - r9 = k - (r9 + 1) by omega]; exact d3
                · refine lm_is_eq (d2 q hq e9) ?_
                  by_cases h : r9 + 1 ≤ q ∧ q < k
                  · rw [if_pos h, if_pos (by omega)]
                  · rw [if_neg h, if_neg (by omega)]
              · rw [show k - r9 = (k - (r9 + 1)) + 1 by omega, bvF, show k - 1 - (k - (r9 + 1)) = r9 by omega]; exact e3 q hq
            · exact absurd (nI_le (Nat.le_refl _) (by omega)) hc
          | succ q9 jh =>
            intro j σ4 F4 ls H locs hj d0 d1 d2 d3 d4 d5 hl I
            refine lv_iload hx hb d_Border_grow_73 (lv_at hl 0 rfl) ?_
            refine lv_iload hx hb d_Border_grow_75 (lv_at hl 2 rfl) ?_
            refine lv_icmp_ge hx hb d_Border_grow_77 rfl (fun hc => ?_) (fun hc => ?_)
            · exact absurd hc (nI_ge (by omega) (by omega))
            · refine lv_aload_n hx hb d_Border_grow_80 rfl (lv_at hl 4 rfl) ?_
              refine xr_get X I fin_P gi (by omega) (pl_o d1) rfl 0 (by decide) (List.mem_cons_of_mem _ k_d059b4b8f5) rfl rfl d_Border_grow_81 ?_
              refine lv_iload hx hb d_Border_grow_84 (lv_at hl 1 rfl) ?_
              refine xr_topi (y := nI r9) (nP_succ r9) ?_
              refine xr_aald X I (gi + 1) 4 (by omega) (pl_c d1) rfl rfl (by omega) (by decide) (pl_at (by omega)) d_Border_grow_86 ?_
              refine lv_aload_n hx hb d_Border_grow_87 rfl (lv_at hl 3 rfl) ?_
              refine xr_get X I fin_B 140 (by omega) ((d0 140 (by omega) (by omega)).trans hOb) rfl 0 (by decide) (List.mem_cons_of_mem _ k_6eb4050acd) rfl rfl d_Border_grow_88 ?_
              refine lv_iload hx hb d_Border_grow_91 (lv_at hl 0 rfl) ?_
              refine xr_aald X I 141 4 (by omega) (d4).1 rfl rfl (by omega) (by decide) (mx_at (by omega)) d_Border_grow_93 ?_
              refine lv_aload_n hx hb d_Border_grow_94 rfl (lv_at hl 6 rfl) ?_
              refine lv_iload hx hb d_Border_grow_95 (lv_at hl 0 rfl) ?_
              refine xr_aald X I 1 4 (by omega) ((mat_same hA (d0 1 (by omega) (by omega)) (fun q h1 h2 => d0 q (by omega) (by omega)))).1 rfl rfl (by omega) (by decide) (mx_at (by omega)) d_Border_grow_97 ?_
              refine lv_iload hx hb d_Border_grow_98 (lv_at hl 2 rfl) ?_
              refine xr_iald X I (2 + j) 0 (by omega) (((mat_same hA (d0 1 (by omega) (by omega)) (fun q h1 h2 => d0 q (by omega) (by omega)))).2 _ (by omega)) rfl (by omega) (by decide) d_Border_grow_100 ?_
              refine lv_ineg hx hb d_Border_grow_101 ?_
              refine lv_i2l hx hb d_Border_grow_102 rfl ?_
              refine lv_iconst (v := nI 0) hx hb d_Border_grow_103 (by decide) ?_
              refine lv_aload_n hx hb d_Border_grow_104 rfl (lv_at hl 4 rfl) ?_
              refine xr_get X I fin_P gi (by omega) (pl_o d1) rfl 3 (by decide) (List.mem_cons_of_mem _ k_b6c617dfbc) rfl rfl d_Border_grow_105 ?_
              have hd9 := hAb j k (by omega) (by omega)
              have hn9 := q_neg32 hd9.1 hd9.2
              refine xr_callv (xr_runS (kc := 0) (kr := 3) (n := 5) (As := [.ref (ad (gi + 2 + r9)), .ref (ad (142 + j)), .long ((-(A j k)).toInt64), .int (nI 0), .int (nI 6)]) (rest := []) X I (c_Limbs_addTimes (σ := σ4) (a := gi + 2 + r9) (b := 142 + j) (off := 0) (n := 6) (by omega) (by omega) (pl_r d1 (by omega)) (d4.2 j (by omega)) (by omega) (by rw [hn9]; omega) (by decide) (by decide) (by decide) (by decide) (by decide) d3 (c5 j (by omega))) (xg k_c80bea473c) (List.mem_cons_of_mem _ k_7ef36b97e2) (List.mem_cons_of_mem _ k_0ef42f4896) (List.mem_cons_of_mem _ k_b15d0305ca) (by decide +kernel) (by decide) rfl hl.1 rfl (Nat.le_of_ble_eq_true rfl) d_Border_grow_108) I (fun σ9 H locs hp I => ?_)
              obtain ⟨f5, rfl, -, f6⟩ := hp
              rw [hn9, Int.pow_zero, Int.mul_one] at f6
              refine lv_iinc (k := 0) (v := nI (j + 1)) (lv' := [(6, .int (nI (j + 1))), (5, .int (nP (r9 + 1))), (4, .int (nI k)), (0, .ref (ad 140)), (1, .ref (ad gi)), (2, .ref (ad oi)), (3, .ref (ad 1))]) hx hb d_Border_grow_111 hl rfl (nI_1 j) (by decide) rfl (fun ls hl => ?_)
              refine lv_goto hx hb d_Border_grow_114 rfl ?_
              refine jh (j + 1) _ _ ls H locs (by omega) (fun q h1 h2 => (va_up_ne _ _ (by omega)).trans (d0 q h1 h2)) (pl_row d1 (by omega) f5) (fun q hq hne => ?_) ?_ (mat_same d4 (va_up_ne _ _ (by omega)) (fun q h1 h2 => va_up_ne _ _ (by omega))) (mat_same d5 (va_up_ne _ _ (by omega)) (fun q h1 h2 => va_up_ne _ _ (by omega))) hl I
              · rw [va_up_ne _ _ hne]; exact d2 q hq hne
              · rw [va_up_self]; exact lm_is_eq f6 (by rw [dot, Int.neg_mul]; omega)
        refine inner k 0 σ3 F3 ls H locs (by omega) c0 c1 (fun q hq _ => c2 q hq) ?_ c3 c4 hl I
        have h := c2 r9 (by omega)
        rw [if_neg (by omega)] at h
        exact lm_is_eq h (by rw [dot]; omega)
  have vec : ∀ (f : Nat) (j : Nat) (σ2 : Nat → va_E) (V2 : Nat → Nat → Int32) (ls : Array Slot) (H : Heap) (locs : List Loc), j + f = k → (∀ q, (q < gi ∨ gi + 10 ≤ q) → (q < 141 ∨ 155 ≤ q) → σ2 q = σ q) → pl ad cI cG σ2 gi 6 (k + 1) 6 F1 sg9 → mat ad cI cG σ2 141 142 V2 → (∀ q, q < j → lm_is (V2 q) 6 ((bvF (fun i j => (A i j).toInt) p0 k 0) q)) → (∀ q, 148 ≤ q ∧ q < 155 → σ2 q = σ q) → lv_has ls 7 [(5, .int (nI j)), (4, .int (nI k)), (0, .ref (ad 140)), (1, .ref (ad gi)), (2, .ref (ad oi)), (3, .ref (ad 1))] → xI D classes N ad s.heap (σ2) H locs → W p l e (xrm 3) s m args below meth c H locs 0 0 (MQ below (va_Qv (fun σ2 => ∃ F' V' X' : Nat → Nat → Int32, (∀ q, (q < gi ∨ gi + 10 ≤ q) → (q < 141 ∨ 155 ≤ q) → σ2 q = σ q) ∧ pl ad cI cG σ2 gi 6 (k + 1) 6 F' sg9 ∧ pl_is F' (k + 1) 6 (grF (fun i j => (A i j).toInt) p0 k) ∧ mat ad cI cG σ2 141 142 V' ∧ mat ad cI cG σ2 148 149 X') (xS D classes (xT cI cJ cZ cC cG cP) N ad) (xA N ad)) args s 0 0 (xA N ad)) (F0 m 29 ls []) := by
    intro f
    induction f with
    | zero =>
      intro j σ2 V2 ls H locs hk b0 b1 b2 b3 b4 hl I
      obtain rfl : k = j := by omega
      refine lv_iload hx hb d_Border_grow_29 (lv_at hl 0 rfl) ?_
      refine lv_iload hx hb d_Border_grow_31 (lv_at hl 1 rfl) ?_
      refine lv_icmp_ge hx hb d_Border_grow_33 rfl (fun hc => ?_) (fun hc => ?_)
      · refine lv_iload hx hb d_Border_grow_59 (lv_at hl 1 rfl) ?_
        refine lv_iconst (v := nI 1) hx hb d_Border_grow_61 (by decide) ?_
        refine lv_isub hx hb d_Border_grow_62 (xr_topi (y := nP k) rfl ?_)
        refine lv_istore (lv' := [(5, .int (nP k)), (4, .int (nI k)), (0, .ref (ad 140)), (1, .ref (ad gi)), (2, .ref (ad oi)), (3, .ref (ad 1))]) hx hb d_Border_grow_63 hl (by decide) rfl (fun ls hl => ?_)
        refine down k σ2 F1 V2 Xf ls H locs (Nat.le_refl _) b0 b1 (fun q hq => ?_) b2 (mat_same hX (b4 148 (by omega)) (fun q h1 h2 => b4 q (by omega))) (fun q hq => by rw [Nat.sub_self]; exact b3 q hq) hl I
        rw [if_neg (by omega)]; exact t2 q hq
      · exact absurd (nI_le (Nat.le_refl _) (by omega)) hc
    | succ f ih =>
      intro j σ2 V2 ls H locs hk b0 b1 b2 b3 b4 hl I
      refine lv_iload hx hb d_Border_grow_29 (lv_at hl 0 rfl) ?_
      refine lv_iload hx hb d_Border_grow_31 (lv_at hl 1 rfl) ?_
      refine lv_icmp_ge hx hb d_Border_grow_33 rfl (fun hc => ?_) (fun hc => ?_)
      · exact absurd hc (nI_ge (by omega) (by omega))
      · refine lv_aload_n hx hb d_Border_grow_36 rfl (lv_at hl 2 rfl) ?_
        refine xr_get X I fin_B 140 (by omega) ((b0 140 (by omega) (by omega)).trans hOb) rfl 0 (by decide) (List.mem_cons_of_mem _ k_6eb4050acd) rfl rfl d_Border_grow_37 ?_
        refine lv_iload hx hb d_Border_grow_40 (lv_at hl 0 rfl) ?_
        refine xr_aald X I 141 4 (by omega) (b2).1 rfl rfl (by omega) (by decide) (mx_at (by omega)) d_Border_grow_42 ?_
        refine lv_aload_n hx hb d_Border_grow_43 rfl (lv_at hl 5 rfl) ?_
        refine lv_iload hx hb d_Border_grow_44 (lv_at hl 0 rfl) ?_
        refine xr_aald X I 1 4 (by omega) ((mat_same hA (b0 1 (by omega) (by omega)) (fun q h1 h2 => b0 q (by omega) (by omega)))).1 rfl rfl (by omega) (by decide) (mx_at (by omega)) d_Border_grow_46 ?_
        refine lv_iload hx hb d_Border_grow_47 (lv_at hl 1 rfl) ?_
        refine xr_iald X I (2 + j) 0 (by omega) (((mat_same hA (b0 1 (by omega) (by omega)) (fun q h1 h2 => b0 q (by omega) (by omega)))).2 _ (by omega)) rfl (by omega) (by decide) d_Border_grow_49 ?_
        have hd9 := hAb j k (by omega) (by omega)
        refine xr_callv (xr_runS (kc := 1) (kr := 3) (n := 2) (As := [.ref (ad (142 + j)), .int (A j k)]) (rest := []) X I (c_Limbs_assign (σ := σ2) (a := 142 + j) (by omega) (b2.2 j (by omega)) (by decide) (by decide) (by omega)) (xg k_987c15d378) (List.mem_cons_of_mem _ k_bdd6f9e760) (List.mem_cons_of_mem _ k_e133681707) (List.mem_cons_of_mem _ k_b15d0305ca) (by decide +kernel) (by decide) rfl hl.1 rfl (Nat.le_of_ble_eq_true rfl) d_Border_grow_50) I (fun σ9 H locs hp I => ?_)
        obtain ⟨f5, rfl, -, f6⟩ := hp
        refine lv_iinc (k := 0) (v := nI (j + 1)) (lv' := [(5, .int (nI (j + 1))), (4, .int (nI k)), (0, .ref (ad 140)), (1, .ref (ad gi)), (2, .ref (ad oi)), (3, .ref (ad 1))]) hx hb d_Border_grow_53 hl rfl (nI_1 j) (by decide) rfl (fun ls hl => ?_)
        refine lv_goto hx hb d_Border_grow_56 rfl ?_
        refine ih (j + 1) _ _ ls H locs (by omega) (fun q h1 h2 => (va_up_ne _ _ (by omega)).trans (b0 q h1 h2)) (pl_else b1 (by omega) _) (mat_row b2 (by omega) (by omega) f5) (fun q hq => ?_) (fun q hq => (va_up_ne _ _ (by omega)).trans (b4 q hq)) hl I
        by_cases e9 : q = j
        · rw [e9, va_up_self]; exact f6
        · rw [va_up_ne _ _ e9]; exact b3 q (by omega)
  exact vec k 0 σ1 Vf ls _ _ (by omega) f3 g2 (mat_same hV (f3b 141 (by omega)) (fun q h1 h2 => f3b q (by omega))) (fun q hq => absurd hq (Nat.not_lt_zero _)) (fun q hq => f3b q (by omega)) hl I
