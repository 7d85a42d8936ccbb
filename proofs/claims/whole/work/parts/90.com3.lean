/-! the reference: data, characteristic (written by wip/gen) -/
abbrev b_SpectrumDeskModel_data : ByteArray := prog_10_method_27_code
abbrev y_SpectrumDeskModel_data : MethodName := ⟨"SpectrumDeskModel", "data", "(IIIIII)I"⟩
abbrev v_SpectrumDeskModel_data : List Cond := Cond.code y_SpectrumDeskModel_data b_SpectrumDeskModel_data 10 (some .int) :: AW
theorem d_SpectrumDeskModel_data_0 : decode b_SpectrumDeskModel_data 0 = .ok (.aload_n 0, 1) := by decide +kernel
theorem d_SpectrumDeskModel_data_1 : decode b_SpectrumDeskModel_data 1 = .ok (.iconst 0, 1) := by decide +kernel
theorem d_SpectrumDeskModel_data_2 : decode b_SpectrumDeskModel_data 2 = .ok (.putfield 79, 3) := by decide +kernel
theorem d_SpectrumDeskModel_data_5 : decode b_SpectrumDeskModel_data 5 = .ok (.aload_n 0, 1) := by decide +kernel
theorem d_SpectrumDeskModel_data_6 : decode b_SpectrumDeskModel_data 6 = .ok (.getfield 82, 3) := by decide +kernel
theorem d_SpectrumDeskModel_data_9 : decode b_SpectrumDeskModel_data 9 = .ok (.bipush (100), 2) := by decide +kernel
theorem d_SpectrumDeskModel_data_11 : decode b_SpectrumDeskModel_data 11 = .ok (.if_icmp .ge (7), 3) := by decide +kernel
theorem d_SpectrumDeskModel_data_14 : decode b_SpectrumDeskModel_data 14 = .ok (.iconst 1, 1) := by decide +kernel
theorem d_SpectrumDeskModel_data_15 : decode b_SpectrumDeskModel_data 15 = .ok (.goto (4), 3) := by decide +kernel
theorem d_SpectrumDeskModel_data_18 : decode b_SpectrumDeskModel_data 18 = .ok (.iconst 0, 1) := by decide +kernel
theorem d_SpectrumDeskModel_data_19 : decode b_SpectrumDeskModel_data 19 = .ok (.istore 7, 2) := by decide +kernel
theorem d_SpectrumDeskModel_data_21 : decode b_SpectrumDeskModel_data 21 = .ok (.iconst 0, 1) := by decide +kernel
theorem d_SpectrumDeskModel_data_22 : decode b_SpectrumDeskModel_data 22 = .ok (.istore 8, 2) := by decide +kernel
theorem d_SpectrumDeskModel_data_24 : decode b_SpectrumDeskModel_data 24 = .ok (.iload 8, 2) := by decide +kernel
theorem d_SpectrumDeskModel_data_26 : decode b_SpectrumDeskModel_data 26 = .ok (.aload_n 0, 1) := by decide +kernel
theorem d_SpectrumDeskModel_data_27 : decode b_SpectrumDeskModel_data 27 = .ok (.getfield 63, 3) := by decide +kernel
theorem d_SpectrumDeskModel_data_30 : decode b_SpectrumDeskModel_data 30 = .ok (.if_icmp .ge (114), 3) := by decide +kernel
theorem d_SpectrumDeskModel_data_33 : decode b_SpectrumDeskModel_data 33 = .ok (.iload 8, 2) := by decide +kernel
theorem d_SpectrumDeskModel_data_35 : decode b_SpectrumDeskModel_data 35 = .ok (.ifCond .ne (7), 3) := by decide +kernel
theorem d_SpectrumDeskModel_data_38 : decode b_SpectrumDeskModel_data 38 = .ok (.iload_n 1, 1) := by decide +kernel
theorem d_SpectrumDeskModel_data_39 : decode b_SpectrumDeskModel_data 39 = .ok (.goto (47), 3) := by decide +kernel
theorem d_SpectrumDeskModel_data_42 : decode b_SpectrumDeskModel_data 42 = .ok (.iload 8, 2) := by decide +kernel
theorem d_SpectrumDeskModel_data_44 : decode b_SpectrumDeskModel_data 44 = .ok (.iconst 1, 1) := by decide +kernel
theorem d_SpectrumDeskModel_data_45 : decode b_SpectrumDeskModel_data 45 = .ok (.if_icmp .ne (7), 3) := by decide +kernel
theorem d_SpectrumDeskModel_data_48 : decode b_SpectrumDeskModel_data 48 = .ok (.iload_n 2, 1) := by decide +kernel
theorem d_SpectrumDeskModel_data_49 : decode b_SpectrumDeskModel_data 49 = .ok (.goto (37), 3) := by decide +kernel
theorem d_SpectrumDeskModel_data_52 : decode b_SpectrumDeskModel_data 52 = .ok (.iload 8, 2) := by decide +kernel
theorem d_SpectrumDeskModel_data_54 : decode b_SpectrumDeskModel_data 54 = .ok (.iconst 2, 1) := by decide +kernel
theorem d_SpectrumDeskModel_data_55 : decode b_SpectrumDeskModel_data 55 = .ok (.if_icmp .ne (7), 3) := by decide +kernel
theorem d_SpectrumDeskModel_data_58 : decode b_SpectrumDeskModel_data 58 = .ok (.iload_n 3, 1) := by decide +kernel
theorem d_SpectrumDeskModel_data_59 : decode b_SpectrumDeskModel_data 59 = .ok (.goto (27), 3) := by decide +kernel
theorem d_SpectrumDeskModel_data_62 : decode b_SpectrumDeskModel_data 62 = .ok (.iload 8, 2) := by decide +kernel
theorem d_SpectrumDeskModel_data_64 : decode b_SpectrumDeskModel_data 64 = .ok (.iconst 3, 1) := by decide +kernel
theorem d_SpectrumDeskModel_data_65 : decode b_SpectrumDeskModel_data 65 = .ok (.if_icmp .ne (8), 3) := by decide +kernel
theorem d_SpectrumDeskModel_data_68 : decode b_SpectrumDeskModel_data 68 = .ok (.iload 4, 2) := by decide +kernel
theorem d_SpectrumDeskModel_data_70 : decode b_SpectrumDeskModel_data 70 = .ok (.goto (16), 3) := by decide +kernel
theorem d_SpectrumDeskModel_data_73 : decode b_SpectrumDeskModel_data 73 = .ok (.iload 8, 2) := by decide +kernel
theorem d_SpectrumDeskModel_data_75 : decode b_SpectrumDeskModel_data 75 = .ok (.iconst 4, 1) := by decide +kernel
theorem d_SpectrumDeskModel_data_76 : decode b_SpectrumDeskModel_data 76 = .ok (.if_icmp .ne (8), 3) := by decide +kernel
theorem d_SpectrumDeskModel_data_79 : decode b_SpectrumDeskModel_data 79 = .ok (.iload 5, 2) := by decide +kernel
theorem d_SpectrumDeskModel_data_81 : decode b_SpectrumDeskModel_data 81 = .ok (.goto (5), 3) := by decide +kernel
theorem d_SpectrumDeskModel_data_84 : decode b_SpectrumDeskModel_data 84 = .ok (.iload 6, 2) := by decide +kernel
theorem d_SpectrumDeskModel_data_86 : decode b_SpectrumDeskModel_data 86 = .ok (.istore 9, 2) := by decide +kernel
theorem d_SpectrumDeskModel_data_88 : decode b_SpectrumDeskModel_data 88 = .ok (.iload 7, 2) := by decide +kernel
theorem d_SpectrumDeskModel_data_90 : decode b_SpectrumDeskModel_data 90 = .ok (.ifCond .eq (23), 3) := by decide +kernel
theorem d_SpectrumDeskModel_data_93 : decode b_SpectrumDeskModel_data 93 = .ok (.iload 9, 2) := by decide +kernel
theorem d_SpectrumDeskModel_data_95 : decode b_SpectrumDeskModel_data 95 = .ok (.sipush (-1000), 3) := by decide +kernel
theorem d_SpectrumDeskModel_data_98 : decode b_SpectrumDeskModel_data 98 = .ok (.if_icmp .lt (15), 3) := by decide +kernel
theorem d_SpectrumDeskModel_data_101 : decode b_SpectrumDeskModel_data 101 = .ok (.iload 9, 2) := by decide +kernel
theorem d_SpectrumDeskModel_data_103 : decode b_SpectrumDeskModel_data 103 = .ok (.sipush (1000), 3) := by decide +kernel
theorem d_SpectrumDeskModel_data_106 : decode b_SpectrumDeskModel_data 106 = .ok (.if_icmp .gt (7), 3) := by decide +kernel
theorem d_SpectrumDeskModel_data_109 : decode b_SpectrumDeskModel_data 109 = .ok (.iconst 1, 1) := by decide +kernel
theorem d_SpectrumDeskModel_data_110 : decode b_SpectrumDeskModel_data 110 = .ok (.goto (4), 3) := by decide +kernel
theorem d_SpectrumDeskModel_data_113 : decode b_SpectrumDeskModel_data 113 = .ok (.iconst 0, 1) := by decide +kernel
theorem d_SpectrumDeskModel_data_114 : decode b_SpectrumDeskModel_data 114 = .ok (.istore 7, 2) := by decide +kernel
theorem d_SpectrumDeskModel_data_116 : decode b_SpectrumDeskModel_data 116 = .ok (.iload 7, 2) := by decide +kernel
theorem d_SpectrumDeskModel_data_118 : decode b_SpectrumDeskModel_data 118 = .ok (.ifCond .eq (20), 3) := by decide +kernel
theorem d_SpectrumDeskModel_data_121 : decode b_SpectrumDeskModel_data 121 = .ok (.aload_n 0, 1) := by decide +kernel
theorem d_SpectrumDeskModel_data_122 : decode b_SpectrumDeskModel_data 122 = .ok (.getfield 70, 3) := by decide +kernel
theorem d_SpectrumDeskModel_data_125 : decode b_SpectrumDeskModel_data 125 = .ok (.bipush (6), 2) := by decide +kernel
theorem d_SpectrumDeskModel_data_127 : decode b_SpectrumDeskModel_data 127 = .ok (.aload_n 0, 1) := by decide +kernel
theorem d_SpectrumDeskModel_data_128 : decode b_SpectrumDeskModel_data 128 = .ok (.getfield 82, 3) := by decide +kernel
theorem d_SpectrumDeskModel_data_131 : decode b_SpectrumDeskModel_data 131 = .ok (.imul, 1) := by decide +kernel
theorem d_SpectrumDeskModel_data_132 : decode b_SpectrumDeskModel_data 132 = .ok (.iload 8, 2) := by decide +kernel
theorem d_SpectrumDeskModel_data_134 : decode b_SpectrumDeskModel_data 134 = .ok (.iadd, 1) := by decide +kernel
theorem d_SpectrumDeskModel_data_135 : decode b_SpectrumDeskModel_data 135 = .ok (.iload 9, 2) := by decide +kernel
theorem d_SpectrumDeskModel_data_137 : decode b_SpectrumDeskModel_data 137 = .ok (.iastore, 1) := by decide +kernel
theorem d_SpectrumDeskModel_data_138 : decode b_SpectrumDeskModel_data 138 = .ok (.iinc 8 (1), 3) := by decide +kernel
theorem d_SpectrumDeskModel_data_141 : decode b_SpectrumDeskModel_data 141 = .ok (.goto (-117), 3) := by decide +kernel
theorem d_SpectrumDeskModel_data_144 : decode b_SpectrumDeskModel_data 144 = .ok (.aload_n 0, 1) := by decide +kernel
theorem d_SpectrumDeskModel_data_145 : decode b_SpectrumDeskModel_data 145 = .ok (.iload 7, 2) := by decide +kernel
theorem d_SpectrumDeskModel_data_147 : decode b_SpectrumDeskModel_data 147 = .ok (.ifCond .eq (12), 3) := by decide +kernel
theorem d_SpectrumDeskModel_data_150 : decode b_SpectrumDeskModel_data 150 = .ok (.aload_n 0, 1) := by decide +kernel
theorem d_SpectrumDeskModel_data_151 : decode b_SpectrumDeskModel_data 151 = .ok (.getfield 82, 3) := by decide +kernel
theorem d_SpectrumDeskModel_data_154 : decode b_SpectrumDeskModel_data 154 = .ok (.iconst 1, 1) := by decide +kernel
theorem d_SpectrumDeskModel_data_155 : decode b_SpectrumDeskModel_data 155 = .ok (.iadd, 1) := by decide +kernel
theorem d_SpectrumDeskModel_data_156 : decode b_SpectrumDeskModel_data 156 = .ok (.goto (7), 3) := by decide +kernel
theorem d_SpectrumDeskModel_data_159 : decode b_SpectrumDeskModel_data 159 = .ok (.aload_n 0, 1) := by decide +kernel
theorem d_SpectrumDeskModel_data_160 : decode b_SpectrumDeskModel_data 160 = .ok (.getfield 82, 3) := by decide +kernel
theorem d_SpectrumDeskModel_data_163 : decode b_SpectrumDeskModel_data 163 = .ok (.putfield 82, 3) := by decide +kernel
theorem d_SpectrumDeskModel_data_166 : decode b_SpectrumDeskModel_data 166 = .ok (.iload 7, 2) := by decide +kernel
theorem d_SpectrumDeskModel_data_168 : decode b_SpectrumDeskModel_data 168 = .ok (.ifCond .eq (10), 3) := by decide +kernel
theorem d_SpectrumDeskModel_data_171 : decode b_SpectrumDeskModel_data 171 = .ok (.aload_n 0, 1) := by decide +kernel
theorem d_SpectrumDeskModel_data_172 : decode b_SpectrumDeskModel_data 172 = .ok (.getfield 82, 3) := by decide +kernel
theorem d_SpectrumDeskModel_data_175 : decode b_SpectrumDeskModel_data 175 = .ok (.goto (4), 3) := by decide +kernel
theorem d_SpectrumDeskModel_data_178 : decode b_SpectrumDeskModel_data 178 = .ok (.iconst (-1), 1) := by decide +kernel
theorem d_SpectrumDeskModel_data_179 : decode b_SpectrumDeskModel_data 179 = .ok (.ireturn, 1) := by decide +kernel
abbrev b_SpectrumDeskModel_characteristic : ByteArray := prog_10_method_35_code
abbrev y_SpectrumDeskModel_characteristic : MethodName := ⟨"SpectrumDeskModel", "characteristic", "(I)I"⟩
abbrev v_SpectrumDeskModel_characteristic : List Cond := Cond.code y_SpectrumDeskModel_characteristic b_SpectrumDeskModel_characteristic 4 (some .int) :: AW
theorem d_SpectrumDeskModel_characteristic_0 : decode b_SpectrumDeskModel_characteristic 0 = .ok (.aload_n 0, 1) := by decide +kernel
theorem d_SpectrumDeskModel_characteristic_1 : decode b_SpectrumDeskModel_characteristic 1 = .ok (.iconst 0, 1) := by decide +kernel
theorem d_SpectrumDeskModel_characteristic_2 : decode b_SpectrumDeskModel_characteristic 2 = .ok (.putfield 79, 3) := by decide +kernel
theorem d_SpectrumDeskModel_characteristic_5 : decode b_SpectrumDeskModel_characteristic 5 = .ok (.iload_n 1, 1) := by decide +kernel
theorem d_SpectrumDeskModel_characteristic_6 : decode b_SpectrumDeskModel_characteristic 6 = .ok (.ifCond .lt (11), 3) := by decide +kernel
theorem d_SpectrumDeskModel_characteristic_9 : decode b_SpectrumDeskModel_characteristic 9 = .ok (.iload_n 1, 1) := by decide +kernel
theorem d_SpectrumDeskModel_characteristic_10 : decode b_SpectrumDeskModel_characteristic 10 = .ok (.aload_n 0, 1) := by decide +kernel
theorem d_SpectrumDeskModel_characteristic_11 : decode b_SpectrumDeskModel_characteristic 11 = .ok (.getfield 63, 3) := by decide +kernel
theorem d_SpectrumDeskModel_characteristic_14 : decode b_SpectrumDeskModel_characteristic 14 = .ok (.if_icmp .le (5), 3) := by decide +kernel
theorem d_SpectrumDeskModel_characteristic_17 : decode b_SpectrumDeskModel_characteristic 17 = .ok (.iconst (-1), 1) := by decide +kernel
theorem d_SpectrumDeskModel_characteristic_18 : decode b_SpectrumDeskModel_characteristic 18 = .ok (.ireturn, 1) := by decide +kernel
theorem d_SpectrumDeskModel_characteristic_19 : decode b_SpectrumDeskModel_characteristic 19 = .ok (.aload_n 0, 1) := by decide +kernel
theorem d_SpectrumDeskModel_characteristic_20 : decode b_SpectrumDeskModel_characteristic 20 = .ok (.aload_n 0, 1) := by decide +kernel
theorem d_SpectrumDeskModel_characteristic_21 : decode b_SpectrumDeskModel_characteristic 21 = .ok (.getfield 63, 3) := by decide +kernel
theorem d_SpectrumDeskModel_characteristic_24 : decode b_SpectrumDeskModel_characteristic 24 = .ok (.iconst 0, 1) := by decide +kernel
theorem d_SpectrumDeskModel_characteristic_25 : decode b_SpectrumDeskModel_characteristic 25 = .ok (.invokevirtual 121, 3) := by decide +kernel
theorem d_SpectrumDeskModel_characteristic_28 : decode b_SpectrumDeskModel_characteristic 28 = .ok (.aload_n 0, 1) := by decide +kernel
theorem d_SpectrumDeskModel_characteristic_29 : decode b_SpectrumDeskModel_characteristic 29 = .ok (.iconst 0, 1) := by decide +kernel
theorem d_SpectrumDeskModel_characteristic_30 : decode b_SpectrumDeskModel_characteristic 30 = .ok (.putfield 124, 3) := by decide +kernel
theorem d_SpectrumDeskModel_characteristic_33 : decode b_SpectrumDeskModel_characteristic 33 = .ok (.aload_n 0, 1) := by decide +kernel
theorem d_SpectrumDeskModel_characteristic_34 : decode b_SpectrumDeskModel_characteristic 34 = .ok (.iconst 0, 1) := by decide +kernel
theorem d_SpectrumDeskModel_characteristic_35 : decode b_SpectrumDeskModel_characteristic 35 = .ok (.iload_n 1, 1) := by decide +kernel
theorem d_SpectrumDeskModel_characteristic_36 : decode b_SpectrumDeskModel_characteristic 36 = .ok (.iadd, 1) := by decide +kernel
theorem d_SpectrumDeskModel_characteristic_37 : decode b_SpectrumDeskModel_characteristic 37 = .ok (.invokevirtual 52, 3) := by decide +kernel
theorem d_SpectrumDeskModel_characteristic_40 : decode b_SpectrumDeskModel_characteristic 40 = .ok (.ifCond .ge (16), 3) := by decide +kernel
theorem d_SpectrumDeskModel_characteristic_43 : decode b_SpectrumDeskModel_characteristic 43 = .ok (.aload_n 0, 1) := by decide +kernel
theorem d_SpectrumDeskModel_characteristic_44 : decode b_SpectrumDeskModel_characteristic 44 = .ok (.getfield 73, 3) := by decide +kernel
theorem d_SpectrumDeskModel_characteristic_47 : decode b_SpectrumDeskModel_characteristic 47 = .ok (.iconst 0, 1) := by decide +kernel
theorem d_SpectrumDeskModel_characteristic_48 : decode b_SpectrumDeskModel_characteristic 48 = .ok (.bipush (45), 2) := by decide +kernel
theorem d_SpectrumDeskModel_characteristic_50 : decode b_SpectrumDeskModel_characteristic 50 = .ok (.iastore, 1) := by decide +kernel
theorem d_SpectrumDeskModel_characteristic_51 : decode b_SpectrumDeskModel_characteristic 51 = .ok (.aload_n 0, 1) := by decide +kernel
theorem d_SpectrumDeskModel_characteristic_52 : decode b_SpectrumDeskModel_characteristic 52 = .ok (.iconst 1, 1) := by decide +kernel
theorem d_SpectrumDeskModel_characteristic_53 : decode b_SpectrumDeskModel_characteristic 53 = .ok (.putfield 124, 3) := by decide +kernel
theorem d_SpectrumDeskModel_characteristic_56 : decode b_SpectrumDeskModel_characteristic 56 = .ok (.aload_n 0, 1) := by decide +kernel
theorem d_SpectrumDeskModel_characteristic_57 : decode b_SpectrumDeskModel_characteristic 57 = .ok (.bipush (104), 2) := by decide +kernel
theorem d_SpectrumDeskModel_characteristic_59 : decode b_SpectrumDeskModel_characteristic 59 = .ok (.iconst 0, 1) := by decide +kernel
theorem d_SpectrumDeskModel_characteristic_60 : decode b_SpectrumDeskModel_characteristic 60 = .ok (.iload_n 1, 1) := by decide +kernel
theorem d_SpectrumDeskModel_characteristic_61 : decode b_SpectrumDeskModel_characteristic 61 = .ok (.iadd, 1) := by decide +kernel
theorem d_SpectrumDeskModel_characteristic_62 : decode b_SpectrumDeskModel_characteristic 62 = .ok (.invokevirtual 49, 3) := by decide +kernel
theorem d_SpectrumDeskModel_characteristic_65 : decode b_SpectrumDeskModel_characteristic 65 = .ok (.iconst 0, 1) := by decide +kernel
theorem d_SpectrumDeskModel_characteristic_66 : decode b_SpectrumDeskModel_characteristic 66 = .ok (.istore_n 2, 1) := by decide +kernel
theorem d_SpectrumDeskModel_characteristic_67 : decode b_SpectrumDeskModel_characteristic 67 = .ok (.aload_n 0, 1) := by decide +kernel
theorem d_SpectrumDeskModel_characteristic_68 : decode b_SpectrumDeskModel_characteristic 68 = .ok (.getfield 76, 3) := by decide +kernel
theorem d_SpectrumDeskModel_characteristic_71 : decode b_SpectrumDeskModel_characteristic 71 = .ok (.iload_n 2, 1) := by decide +kernel
theorem d_SpectrumDeskModel_characteristic_72 : decode b_SpectrumDeskModel_characteristic 72 = .ok (.aload_n 0, 1) := by decide +kernel
theorem d_SpectrumDeskModel_characteristic_73 : decode b_SpectrumDeskModel_characteristic 73 = .ok (.bipush (104), 2) := by decide +kernel
theorem d_SpectrumDeskModel_characteristic_75 : decode b_SpectrumDeskModel_characteristic 75 = .ok (.invokevirtual 127, 3) := by decide +kernel
theorem d_SpectrumDeskModel_characteristic_78 : decode b_SpectrumDeskModel_characteristic 78 = .ok (.iastore, 1) := by decide +kernel
theorem d_SpectrumDeskModel_characteristic_79 : decode b_SpectrumDeskModel_characteristic 79 = .ok (.iinc 2 (1), 3) := by decide +kernel
theorem d_SpectrumDeskModel_characteristic_82 : decode b_SpectrumDeskModel_characteristic 82 = .ok (.aload_n 0, 1) := by decide +kernel
theorem d_SpectrumDeskModel_characteristic_83 : decode b_SpectrumDeskModel_characteristic 83 = .ok (.bipush (104), 2) := by decide +kernel
theorem d_SpectrumDeskModel_characteristic_85 : decode b_SpectrumDeskModel_characteristic 85 = .ok (.invokevirtual 52, 3) := by decide +kernel
theorem d_SpectrumDeskModel_characteristic_88 : decode b_SpectrumDeskModel_characteristic 88 = .ok (.ifCond .ne (-21), 3) := by decide +kernel
theorem d_SpectrumDeskModel_characteristic_91 : decode b_SpectrumDeskModel_characteristic 91 = .ok (.iload_n 2, 1) := by decide +kernel
theorem d_SpectrumDeskModel_characteristic_92 : decode b_SpectrumDeskModel_characteristic 92 = .ok (.iconst 1, 1) := by decide +kernel
theorem d_SpectrumDeskModel_characteristic_93 : decode b_SpectrumDeskModel_characteristic 93 = .ok (.isub, 1) := by decide +kernel
theorem d_SpectrumDeskModel_characteristic_94 : decode b_SpectrumDeskModel_characteristic 94 = .ok (.istore_n 3, 1) := by decide +kernel
theorem d_SpectrumDeskModel_characteristic_95 : decode b_SpectrumDeskModel_characteristic 95 = .ok (.iload_n 3, 1) := by decide +kernel
theorem d_SpectrumDeskModel_characteristic_96 : decode b_SpectrumDeskModel_characteristic 96 = .ok (.ifCond .lt (37), 3) := by decide +kernel
theorem d_SpectrumDeskModel_characteristic_99 : decode b_SpectrumDeskModel_characteristic 99 = .ok (.aload_n 0, 1) := by decide +kernel
theorem d_SpectrumDeskModel_characteristic_100 : decode b_SpectrumDeskModel_characteristic 100 = .ok (.getfield 73, 3) := by decide +kernel
theorem d_SpectrumDeskModel_characteristic_103 : decode b_SpectrumDeskModel_characteristic 103 = .ok (.aload_n 0, 1) := by decide +kernel
theorem d_SpectrumDeskModel_characteristic_104 : decode b_SpectrumDeskModel_characteristic 104 = .ok (.getfield 124, 3) := by decide +kernel
theorem d_SpectrumDeskModel_characteristic_107 : decode b_SpectrumDeskModel_characteristic 107 = .ok (.bipush (48), 2) := by decide +kernel
theorem d_SpectrumDeskModel_characteristic_109 : decode b_SpectrumDeskModel_characteristic 109 = .ok (.aload_n 0, 1) := by decide +kernel
theorem d_SpectrumDeskModel_characteristic_110 : decode b_SpectrumDeskModel_characteristic 110 = .ok (.getfield 76, 3) := by decide +kernel
theorem d_SpectrumDeskModel_characteristic_113 : decode b_SpectrumDeskModel_characteristic 113 = .ok (.iload_n 3, 1) := by decide +kernel
theorem d_SpectrumDeskModel_characteristic_114 : decode b_SpectrumDeskModel_characteristic 114 = .ok (.iaload, 1) := by decide +kernel
theorem d_SpectrumDeskModel_characteristic_115 : decode b_SpectrumDeskModel_characteristic 115 = .ok (.iadd, 1) := by decide +kernel
theorem d_SpectrumDeskModel_characteristic_116 : decode b_SpectrumDeskModel_characteristic 116 = .ok (.iastore, 1) := by decide +kernel
theorem d_SpectrumDeskModel_characteristic_117 : decode b_SpectrumDeskModel_characteristic 117 = .ok (.aload_n 0, 1) := by decide +kernel
theorem d_SpectrumDeskModel_characteristic_118 : decode b_SpectrumDeskModel_characteristic 118 = .ok (.dup, 1) := by decide +kernel
theorem d_SpectrumDeskModel_characteristic_119 : decode b_SpectrumDeskModel_characteristic 119 = .ok (.getfield 124, 3) := by decide +kernel
theorem d_SpectrumDeskModel_characteristic_122 : decode b_SpectrumDeskModel_characteristic 122 = .ok (.iconst 1, 1) := by decide +kernel
theorem d_SpectrumDeskModel_characteristic_123 : decode b_SpectrumDeskModel_characteristic 123 = .ok (.iadd, 1) := by decide +kernel
theorem d_SpectrumDeskModel_characteristic_124 : decode b_SpectrumDeskModel_characteristic 124 = .ok (.putfield 124, 3) := by decide +kernel
theorem d_SpectrumDeskModel_characteristic_127 : decode b_SpectrumDeskModel_characteristic 127 = .ok (.iinc 3 (-1), 3) := by decide +kernel
theorem d_SpectrumDeskModel_characteristic_130 : decode b_SpectrumDeskModel_characteristic 130 = .ok (.goto (-35), 3) := by decide +kernel
theorem d_SpectrumDeskModel_characteristic_133 : decode b_SpectrumDeskModel_characteristic 133 = .ok (.aload_n 0, 1) := by decide +kernel
theorem d_SpectrumDeskModel_characteristic_134 : decode b_SpectrumDeskModel_characteristic 134 = .ok (.getfield 124, 3) := by decide +kernel
theorem d_SpectrumDeskModel_characteristic_137 : decode b_SpectrumDeskModel_characteristic 137 = .ok (.ireturn, 1) := by decide +kernel
theorem k_ce250721c2 : (Jvm.Cond.fieldLink "SpectrumDeskModel" (76 : Nat) "SpectrumDeskModel" "digits" "[I") ∈ AW := aw_4 (List.mem_of_getElem? (i := 191) (by decide +kernel)) (by decide +kernel)
theorem k_af51a8f7da : (Jvm.Cond.methodLink "SpectrumDeskModel" (127 : Nat) ({ cls := "SpectrumDeskModel", name := "bigTenth", desc := "(I)I" } : Jvm.MethodName)) ∈ AW := aw_5 (List.mem_of_getElem? (i := 89) (by decide +kernel)) (by decide +kernel)
theorem k_4990bde266 : (Jvm.Cond.instanceMethod ({ cls := "SpectrumDeskModel", name := "bigTenth", desc := "(I)I" } : Jvm.MethodName)) ∈ AW := aw_5 (List.mem_of_getElem? (i := 91) (by decide +kernel)) (by decide +kernel)
theorem k_ab72a48a16 : (Jvm.Cond.selects "SpectrumDeskModel" ({ cls := "SpectrumDeskModel", name := "bigTenth", desc := "(I)I" } : Jvm.MethodName) ({ cls := "SpectrumDeskModel", name := "bigTenth", desc := "(I)I" } : Jvm.MethodName)) ∈ AW := aw_p (by decide +kernel) (by decide +kernel)
theorem k_6a5d3af771 : (Jvm.Cond.code ({ cls := "SpectrumDeskModel", name := "data", desc := "(IIIIII)I" } : Jvm.MethodName) prog_10_method_27_code (10 : Nat) (Option.some Jvm.ClassFile.FieldType.int)) ∈ AW := aw_5 (List.mem_of_getElem? (i := 15) (by decide +kernel)) (by decide +kernel)
theorem k_d1beb13a82 : (Jvm.Cond.code ({ cls := "SpectrumDeskModel", name := "characteristic", desc := "(I)I" } : Jvm.MethodName) prog_10_method_35_code (4 : Nat) (Option.some Jvm.ClassFile.FieldType.int)) ∈ AW := aw_5 (List.mem_of_getElem? (i := 31) (by decide +kernel)) (by decide +kernel)
set_option maxHeartbeats 4000000 in
set_option maxRecDepth 100000 in
theorem c_SpectrumDeskModel_data {l : Launch} {D : va_G} {cI cJ cZ cC cG cP : ClassId} {ad : Nat → Nat} {σ σb : Nat → va_E} {th : Int32} {n : Nat} {A9 : Nat → Int32} {rw : Nat} {Dt : Nat → Int32} {ps : Nat} {Pr : Nat → Int32} (hS : mS ad cI cZ σb th n A9 rw Dt ps Pr σ) {a1 a2 a3 a4 a5 a6 : Int32} (h3 : n ≤ 6) (hrw : rw ≤ 100) :
    Met l y_SpectrumDeskModel_data v_SpectrumDeskModel_data (xrm 0) (va_Pc [.ref (ad 183), .int a1, .int a2, .int a3, .int a4, .int a5, .int a6] (xS D classes (xT cI cJ cZ cC cG cP) 193 ad σ)) (va_Qi (fun r σ2 => ∃ D' : Nat → Int32, (∀ q, q < 6 * rw → D' q = Dt q) ∧ (((rw < 100 ∧ ∀ k, k < n → in1000 ((v6 a1 a2 a3 a4 a5 a6) k)) ∧ (∀ k, k < n → D' (6 * rw + k) = (v6 a1 a2 a3 a4 a5 a6) k) ∧ r = nI (rw + 1) ∧ mS ad cI cZ σb (nI 0) n A9 ((rw + 1)) D' ps Pr σ2) ∨ (¬ (rw < 100 ∧ ∀ k, k < n → in1000 ((v6 a1 a2 a3 a4 a5 a6) k)) ∧ r = -1 ∧ mS ad cI cZ σb (nI 0) n A9 rw D' ps Pr σ2))) (xS D classes (xT cI cJ cZ cC cG cP) 193 ad) (xA 193 ad)) 0 0 (xA 193 ad) := by
  obtain ⟨s0, G, Dg, P, L, M, Z, le, eq, rfl, h187, h188, h189, h190, h191, hfb, hB⟩ := hS
  refine xr_met rfl (Nat.le_of_ble_eq_true rfl) ?_
  intro p e s m args below meth c ls hx hb X hr hlk hl I
  have hl : lv_has ls 10 [(0, .ref (ad 183)), (1, .int a1), (2, .int a2), (3, .int a3), (4, .int a4), (5, .int a5), (6, .int a6)] := hl
  refine lv_aload_n hx hb d_SpectrumDeskModel_data_0 rfl (lv_at hl 0 rfl) ?_
  refine lv_iconst (v := nI 0) hx hb d_SpectrumDeskModel_data_1 (by decide) ?_
  refine xr_put (ty := .int) X I fin_M t_M t_M_ok n_M 183 (by decide) (r183 ..) rfl 4 (by decide) (List.mem_cons_of_mem _ k_90bbbe5d04) rfl rfl (by decide +kernel) rfl rfl (Nat.le_of_ble_eq_true rfl) d_SpectrumDeskModel_data_2 (fun H locs I => ?_)
  rw [rw3_F] at I
  have I : xI D classes 193 ad s.heap (rw3 s0 ciM cI cZ (mfs ad (nI 0) (nI n) (nI rw) (nI ps) le eq) P L M) H locs := I
  refine lv_aload_n hx hb d_SpectrumDeskModel_data_5 rfl (lv_at hl 0 rfl) ?_
  refine xr_get X I fin_M 183 (by decide) (r183 ..) rfl 8 (by decide) (List.mem_cons_of_mem _ k_cd82b0b714) rfl rfl d_SpectrumDeskModel_data_6 ?_
  refine lv_bipush (v := nI 100) hx hb d_SpectrumDeskModel_data_9 (by decide) ?_
  have bad : ∀ (j : Nat) (k : Nat) (s2 : Nat → va_E) (D2 : Nat → Int32) (ls : Array Slot) (H : Heap) (locs : List Loc), k + j = n → (s2 189 = .inl (cI, 600, .inl D2)) → (∀ q, q ≠ 189 → s2 q = s0 q) → (∀ q, q < 6 * rw → D2 q = Dt q) → ¬ (rw < 100 ∧ ∀ k, k < n → in1000 ((v6 a1 a2 a3 a4 a5 a6) k)) → lv_has ls 10 [(8, .int (nI k)), (7, .int (nI 0)), (0, .ref (ad 183)), (1, .int a1), (2, .int a2), (3, .int a3), (4, .int a4), (5, .int a5), (6, .int a6)] → xI D classes 193 ad s.heap (rw3 s2 ciM cI cZ (mfs ad (nI 0) (nI n) (nI rw) (nI ps) le eq) P L M) H locs → W p l e (xrm 0) s m args below meth c H locs 0 0 (MQ below (va_Qi (fun r σ2 => ∃ D' : Nat → Int32, (∀ q, q < 6 * rw → D' q = Dt q) ∧ (((rw < 100 ∧ ∀ k, k < n → in1000 ((v6 a1 a2 a3 a4 a5 a6) k)) ∧ (∀ k, k < n → D' (6 * rw + k) = (v6 a1 a2 a3 a4 a5 a6) k) ∧ r = nI (rw + 1) ∧ mS ad cI cZ σb (nI 0) n A9 ((rw + 1)) D' ps Pr σ2) ∨ (¬ (rw < 100 ∧ ∀ k, k < n → in1000 ((v6 a1 a2 a3 a4 a5 a6) k)) ∧ r = -1 ∧ mS ad cI cZ σb (nI 0) n A9 rw D' ps Pr σ2))) (xS D classes (xT cI cJ cZ cC cG cP) 193 ad) (xA 193 ad)) args s 0 0 (xA 193 ad)) (F0 m 24 ls []) := by
    intro j
    induction j with
    | zero =>
      intro k s2 D2 ls H locs hk e1 e2 e3 hbad hl I
      obtain rfl : n = k := by omega
      refine lv_iload hx hb d_SpectrumDeskModel_data_24 (lv_at hl 0 rfl) ?_
      refine lv_aload_n hx hb d_SpectrumDeskModel_data_26 rfl (lv_at hl 2 rfl) ?_
      refine xr_get X I fin_M 183 (by decide) (r183 ..) rfl 5 (by decide) (List.mem_cons_of_mem _ k_b1a46e2c09) rfl rfl d_SpectrumDeskModel_data_27 ?_
      refine lv_icmp_ge hx hb d_SpectrumDeskModel_data_30 rfl (fun hc => ?_) (fun hc => ?_)
      · refine lv_aload_n hx hb d_SpectrumDeskModel_data_144 rfl (lv_at hl 2 rfl) ?_
        refine lv_iload hx hb d_SpectrumDeskModel_data_145 (lv_at hl 1 rfl) ?_
        refine lv_if_eq hx hb d_SpectrumDeskModel_data_147 rfl (fun hd => ?_) (fun hd => ?_)
        · refine lv_aload_n hx hb d_SpectrumDeskModel_data_159 rfl (lv_at hl 2 rfl) ?_
          refine xr_get X I fin_M 183 (by decide) (r183 ..) rfl 8 (by decide) (List.mem_cons_of_mem _ k_cd82b0b714) rfl rfl d_SpectrumDeskModel_data_160 ?_
          refine xr_put (ty := .int) X I fin_M t_M t_M_ok n_M 183 (by decide) (r183 ..) rfl 8 (by decide) (List.mem_cons_of_mem _ k_cd82b0b714) rfl rfl (by decide +kernel) rfl rfl (Nat.le_of_ble_eq_true rfl) d_SpectrumDeskModel_data_163 (fun H locs I => ?_)
          rw [rw3_F] at I
          have I : xI D classes 193 ad s.heap (rw3 s2 ciM cI cZ (mfs ad (nI 0) (nI n) (nI rw) (nI ps) le eq) P L M) H locs := I
          refine lv_iload hx hb d_SpectrumDeskModel_data_166 (lv_at hl 1 rfl) ?_
          refine lv_if_eq hx hb d_SpectrumDeskModel_data_168 rfl (fun hf => ?_) (fun hf => ?_)
          · refine lv_iconst (v := (-1)) hx hb d_SpectrumDeskModel_data_178 (by decide) ?_
            exact xr_iret X I hr hlk ⟨D2, e3, Or.inr ⟨hbad, rfl, ⟨s2, G, Dg, P, L, M, Z, le, eq, rfl, ((e2 _ (by decide)).trans h187), ((e2 _ (by decide)).trans h188), e1, ((e2 _ (by decide)).trans h190), ((e2 _ (by decide)).trans h191), (fun q hq => (e2 q (by omega)).trans (hfb q hq)), hB⟩⟩⟩ d_SpectrumDeskModel_data_179
          · exact absurd rfl hf
        · exact absurd rfl hd
      · exact absurd (nI_le (Nat.le_refl _) (by omega)) hc
    | succ j ih =>
      intro k s2 D2 ls H locs hk e1 e2 e3 hbad hl I
      refine lv_iload hx hb d_SpectrumDeskModel_data_24 (lv_at hl 0 rfl) ?_
      refine lv_aload_n hx hb d_SpectrumDeskModel_data_26 rfl (lv_at hl 2 rfl) ?_
      refine xr_get X I fin_M 183 (by decide) (r183 ..) rfl 5 (by decide) (List.mem_cons_of_mem _ k_b1a46e2c09) rfl rfl d_SpectrumDeskModel_data_27 ?_
      refine lv_icmp_ge hx hb d_SpectrumDeskModel_data_30 rfl (fun hc => ?_) (fun hc => ?_)
      · exact absurd hc (nI_ge (by omega) (by omega))
      · refine lv_iload hx hb d_SpectrumDeskModel_data_33 (lv_at hl 0 rfl) ?_
        refine lv_if_ne hx hb d_SpectrumDeskModel_data_35 rfl (fun hc => ?_) (fun hc => ?_)
        · have n0 : ¬ k = 0 := fun h => hc (by rw [h]; rfl)
          refine lv_iload hx hb d_SpectrumDeskModel_data_42 (lv_at hl 0 rfl) ?_
          refine lv_iconst (v := nI 1) hx hb d_SpectrumDeskModel_data_44 (by decide) ?_
          refine lv_icmp_ne hx hb d_SpectrumDeskModel_data_45 rfl (fun hc => ?_) (fun hc => ?_)
          · have n1 : ¬ k = 1 := fun h => hc (by rw [h])
            refine lv_iload hx hb d_SpectrumDeskModel_data_52 (lv_at hl 0 rfl) ?_
            refine lv_iconst (v := nI 2) hx hb d_SpectrumDeskModel_data_54 (by decide) ?_
            refine lv_icmp_ne hx hb d_SpectrumDeskModel_data_55 rfl (fun hc => ?_) (fun hc => ?_)
            · have n2 : ¬ k = 2 := fun h => hc (by rw [h])
              refine lv_iload hx hb d_SpectrumDeskModel_data_62 (lv_at hl 0 rfl) ?_
              refine lv_iconst (v := nI 3) hx hb d_SpectrumDeskModel_data_64 (by decide) ?_
              refine lv_icmp_ne hx hb d_SpectrumDeskModel_data_65 rfl (fun hc => ?_) (fun hc => ?_)
              · have n3 : ¬ k = 3 := fun h => hc (by rw [h])
                refine lv_iload hx hb d_SpectrumDeskModel_data_73 (lv_at hl 0 rfl) ?_
                refine lv_iconst (v := nI 4) hx hb d_SpectrumDeskModel_data_75 (by decide) ?_
                refine lv_icmp_ne hx hb d_SpectrumDeskModel_data_76 rfl (fun hc => ?_) (fun hc => ?_)
                · have n4 : ¬ k = 4 := fun h => hc (by rw [h])
                  refine lv_iload hx hb d_SpectrumDeskModel_data_84 (lv_at hl 8 rfl) ?_
                  refine xr_topi (y := (v6 a1 a2 a3 a4 a5 a6) k) (by simp [v6, n0, n1, n2, n3, n4]) ?_
                  refine lv_istore (lv' := [(9, .int ((v6 a1 a2 a3 a4 a5 a6) k)), (8, .int (nI k)), (7, .int (nI 0)), (0, .ref (ad 183)), (1, .int a1), (2, .int a2), (3, .int a3), (4, .int a4), (5, .int a5), (6, .int a6)]) hx hb d_SpectrumDeskModel_data_86 hl (by decide) rfl (fun ls hl => ?_)
                  refine lv_iload hx hb d_SpectrumDeskModel_data_88 (lv_at hl 2 rfl) ?_
                  refine lv_if_eq hx hb d_SpectrumDeskModel_data_90 rfl (fun hd => ?_) (fun hd => ?_)
                  · refine lv_iconst (v := nI 0) hx hb d_SpectrumDeskModel_data_113 (by decide) ?_
                    refine lv_istore (lv' := [(7, .int (nI 0)), (9, .int ((v6 a1 a2 a3 a4 a5 a6) k)), (8, .int (nI k)), (0, .ref (ad 183)), (1, .int a1), (2, .int a2), (3, .int a3), (4, .int a4), (5, .int a5), (6, .int a6)]) hx hb d_SpectrumDeskModel_data_114 hl (by decide) rfl (fun ls hl => ?_)
                    refine lv_iload hx hb d_SpectrumDeskModel_data_116 (lv_at hl 0 rfl) ?_
                    refine lv_if_eq hx hb d_SpectrumDeskModel_data_118 rfl (fun hf => ?_) (fun hf => ?_)
                    · refine lv_iinc (k := 2) (v := nI (k + 1)) (lv' := [(8, .int (nI (k + 1))), (7, .int (nI 0)), (9, .int ((v6 a1 a2 a3 a4 a5 a6) k)), (0, .ref (ad 183)), (1, .int a1), (2, .int a2), (3, .int a3), (4, .int a4), (5, .int a5), (6, .int a6)]) hx hb d_SpectrumDeskModel_data_138 hl rfl (nI_1 k) (by decide) rfl (fun ls hl => ?_)
                      refine lv_goto hx hb d_SpectrumDeskModel_data_141 rfl ?_
                      have hl := lv_sub hl [0, 1, 3, 4, 5, 6, 7, 8, 9] rfl
                      have hl : lv_has ls 10 [(8, .int (nI (k + 1))), (7, .int (nI 0)), (0, .ref (ad 183)), (1, .int a1), (2, .int a2), (3, .int a3), (4, .int a4), (5, .int a5), (6, .int a6)] := hl
                      exact ih (k + 1) s2 D2 ls H locs (by omega) e1 e2 e3 hbad hl I
                    · exact absurd rfl hf
                  · exact absurd rfl hd
                · have q4 : k = 4 := (nI_eq (by omega) (by decide)).mp hc
                  refine lv_iload hx hb d_SpectrumDeskModel_data_79 (lv_at hl 7 rfl) ?_
                  refine lv_goto hx hb d_SpectrumDeskModel_data_81 rfl ?_
                  refine xr_topi (y := (v6 a1 a2 a3 a4 a5 a6) k) (by simp [v6, q4]) ?_
                  refine lv_istore (lv' := [(9, .int ((v6 a1 a2 a3 a4 a5 a6) k)), (8, .int (nI k)), (7, .int (nI 0)), (0, .ref (ad 183)), (1, .int a1), (2, .int a2), (3, .int a3), (4, .int a4), (5, .int a5), (6, .int a6)]) hx hb d_SpectrumDeskModel_data_86 hl (by decide) rfl (fun ls hl => ?_)
                  refine lv_iload hx hb d_SpectrumDeskModel_data_88 (lv_at hl 2 rfl) ?_
                  refine lv_if_eq hx hb d_SpectrumDeskModel_data_90 rfl (fun hd => ?_) (fun hd => ?_)
                  · refine lv_iconst (v := nI 0) hx hb d_SpectrumDeskModel_data_113 (by decide) ?_
                    refine lv_istore (lv' := [(7, .int (nI 0)), (9, .int ((v6 a1 a2 a3 a4 a5 a6) k)), (8, .int (nI k)), (0, .ref (ad 183)), (1, .int a1), (2, .int a2), (3, .int a3), (4, .int a4), (5, .int a5), (6, .int a6)]) hx hb d_SpectrumDeskModel_data_114 hl (by decide) rfl (fun ls hl => ?_)
                    refine lv_iload hx hb d_SpectrumDeskModel_data_116 (lv_at hl 0 rfl) ?_
                    refine lv_if_eq hx hb d_SpectrumDeskModel_data_118 rfl (fun hf => ?_) (fun hf => ?_)
                    · refine lv_iinc (k := 2) (v := nI (k + 1)) (lv' := [(8, .int (nI (k + 1))), (7, .int (nI 0)), (9, .int ((v6 a1 a2 a3 a4 a5 a6) k)), (0, .ref (ad 183)), (1, .int a1), (2, .int a2), (3, .int a3), (4, .int a4), (5, .int a5), (6, .int a6)]) hx hb d_SpectrumDeskModel_data_138 hl rfl (nI_1 k) (by decide) rfl (fun ls hl => ?_)
                      refine lv_goto hx hb d_SpectrumDeskModel_data_141 rfl ?_
                      have hl := lv_sub hl [0, 1, 3, 4, 5, 6, 7, 8, 9] rfl
                      have hl : lv_has ls 10 [(8, .int (nI (k + 1))), (7, .int (nI 0)), (0, .ref (ad 183)), (1, .int a1), (2, .int a2), (3, .int a3), (4, .int a4), (5, .int a5), (6, .int a6)] := hl
                      exact ih (k + 1) s2 D2 ls H locs (by omega) e1 e2 e3 hbad hl I
                    · exact absurd rfl hf
                  · exact absurd rfl hd
              · have q3 : k = 3 := (nI_eq (by omega) (by decide)).mp hc
                refine lv_iload hx hb d_SpectrumDeskModel_data_68 (lv_at hl 6 rfl) ?_
                refine lv_goto hx hb d_SpectrumDeskModel_data_70 rfl ?_
                refine xr_topi (y := (v6 a1 a2 a3 a4 a5 a6) k) (by simp [v6, q3]) ?_
                refine lv_istore (lv' := [(9, .int ((v6 a1 a2 a3 a4 a5 a6) k)), (8, .int (nI k)), (7, .int (nI 0)), (0, .ref (ad 183)), (1, .int a1), (2, .int a2), (3, .int a3), (4, .int a4), (5, .int a5), (6, .int a6)]) hx hb d_SpectrumDeskModel_data_86 hl (by decide) rfl (fun ls hl => ?_)
                refine lv_iload hx hb d_SpectrumDeskModel_data_88 (lv_at hl 2 rfl) ?_
                refine lv_if_eq hx hb d_SpectrumDeskModel_data_90 rfl (fun hd => ?_) (fun hd => ?_)
                · refine lv_iconst (v := nI 0) hx hb d_SpectrumDeskModel_data_113 (by decide) ?_
                  refine lv_istore (lv' := [(7, .int (nI 0)), (9, .int ((v6 a1 a2 a3 a4 a5 a6) k)), (8, .int (nI k)), (0, .ref (ad 183)), (1, .int a1), (2, .int a2), (3, .int a3), (4, .int a4), (5, .int a5), (6, .int a6)]) hx hb d_SpectrumDeskModel_data_114 hl (by decide) rfl (fun ls hl => ?_)
                  refine lv_iload hx hb d_SpectrumDeskModel_data_116 (lv_at hl 0 rfl) ?_
                  refine lv_if_eq hx hb d_SpectrumDeskModel_data_118 rfl (fun hf => ?_) (fun hf => ?_)
                  · refine lv_iinc (k := 2) (v := nI (k + 1)) (lv' := [(8, .int (nI (k + 1))), (7, .int (nI 0)), (9, .int ((v6 a1 a2 a3 a4 a5 a6) k)), (0, .ref (ad 183)), (1, .int a1), (2, .int a2), (3, .int a3), (4, .int a4), (5, .int a5), (6, .int a6)]) hx hb d_SpectrumDeskModel_data_138 hl rfl (nI_1 k) (by decide) rfl (fun ls hl => ?_)
                    refine lv_goto hx hb d_SpectrumDeskModel_data_141 rfl ?_
                    have hl := lv_sub hl [0, 1, 3, 4, 5, 6, 7, 8, 9] rfl
                    have hl : lv_has ls 10 [(8, .int (nI (k + 1))), (7, .int (nI 0)), (0, .ref (ad 183)), (1, .int a1), (2, .int a2), (3, .int a3), (4, .int a4), (5, .int a5), (6, .int a6)] := hl
                    exact ih (k + 1) s2 D2 ls H locs (by omega) e1 e2 e3 hbad hl I
                  · exact absurd rfl hf
                · exact absurd rfl hd
            · have q2 : k = 2 := (nI_eq (by omega) (by decide)).mp hc
              refine lv_iload_n hx hb d_SpectrumDeskModel_data_58 rfl (lv_at hl 5 rfl) ?_
              refine lv_goto hx hb d_SpectrumDeskModel_data_59 rfl ?_
              refine xr_topi (y := (v6 a1 a2 a3 a4 a5 a6) k) (by simp [v6, q2]) ?_
              refine lv_istore (lv' := [(9, .int ((v6 a1 a2 a3 a4 a5 a6) k)), (8, .int (nI k)), (7, .int (nI 0)), (0, .ref (ad 183)), (1, .int a1), (2, .int a2), (3, .int a3), (4, .int a4), (5, .int a5), (6, .int a6)]) hx hb d_SpectrumDeskModel_data_86 hl (by decide) rfl (fun ls hl => ?_)
              refine lv_iload hx hb d_SpectrumDeskModel_data_88 (lv_at hl 2 rfl) ?_
              refine lv_if_eq hx hb d_SpectrumDeskModel_data_90 rfl (fun hd => ?_) (fun hd => ?_)
              · refine lv_iconst (v := nI 0) hx hb d_SpectrumDeskModel_data_113 (by decide) ?_
                refine lv_istore (lv' := [(7, .int (nI 0)), (9, .int ((v6 a1 a2 a3 a4 a5 a6) k)), (8, .int (nI k)), (0, .ref (ad 183)), (1, .int a1), (2, .int a2), (3, .int a3), (4, .int a4), (5, .int a5), (6, .int a6)]) hx hb d_SpectrumDeskModel_data_114 hl (by decide) rfl (fun ls hl => ?_)
                refine lv_iload hx hb d_SpectrumDeskModel_data_116 (lv_at hl 0 rfl) ?_
                refine lv_if_eq hx hb d_SpectrumDeskModel_data_118 rfl (fun hf => ?_) (fun hf => ?_)
                · refine lv_iinc (k := 2) (v := nI (k + 1)) (lv' := [(8, .int (nI (k + 1))), (7, .int (nI 0)), (9, .int ((v6 a1 a2 a3 a4 a5 a6) k)), (0, .ref (ad 183)), (1, .int a1), (2, .int a2), (3, .int a3), (4, .int a4), (5, .int a5), (6, .int a6)]) hx hb d_SpectrumDeskModel_data_138 hl rfl (nI_1 k) (by decide) rfl (fun ls hl => ?_)
                  refine lv_goto hx hb d_SpectrumDeskModel_data_141 rfl ?_
                  have hl := lv_sub hl [0, 1, 3, 4, 5, 6, 7, 8, 9] rfl
                  have hl : lv_has ls 10 [(8, .int (nI (k + 1))), (7, .int (nI 0)), (0, .ref (ad 183)), (1, .int a1), (2, .int a2), (3, .int a3), (4, .int a4), (5, .int a5), (6, .int a6)] := hl
                  exact ih (k + 1) s2 D2 ls H locs (by omega) e1 e2 e3 hbad hl I
                · exact absurd rfl hf
              · exact absurd rfl hd
          · have q1 : k = 1 := (nI_eq (by omega) (by decide)).mp hc
            refine lv_iload_n hx hb d_SpectrumDeskModel_data_48 rfl (lv_at hl 4 rfl) ?_
            refine lv_goto hx hb d_SpectrumDeskModel_data_49 rfl ?_
            refine xr_topi (y := (v6 a1 a2 a3 a4 a5 a6) k) (by simp [v6, q1]) ?_
            refine lv_istore (lv' := [(9, .int ((v6 a1 a2 a3 a4 a5 a6) k)), (8, .int (nI k)), (7, .int (nI 0)), (0, .ref (ad 183)), (1, .int a1), (2, .int a2), (3, .int a3), (4, .int a4), (5, .int a5), (6, .int a6)]) hx hb d_SpectrumDeskModel_data_86 hl (by decide) rfl (fun ls hl => ?_)
            refine lv_iload hx hb d_SpectrumDeskModel_data_88 (lv_at hl 2 rfl) ?_
            refine lv_if_eq hx hb d_SpectrumDeskModel_data_90 rfl (fun hd => ?_) (fun hd => ?_)
            · refine lv_iconst (v := nI 0) hx hb d_SpectrumDeskModel_data_113 (by decide) ?_
              refine lv_istore (lv' := [(7, .int (nI 0)), (9, .int ((v6 a1 a2 a3 a4 a5 a6) k)), (8, .int (nI k)), (0, .ref (ad 183)), (1, .int a1), (2, .int a2), (3, .int a3), (4, .int a4), (5, .int a5), (6, .int a6)]) hx hb d_SpectrumDeskModel_data_114 hl (by decide) rfl (fun ls hl => ?_)
              refine lv_iload hx hb d_SpectrumDeskModel_data_116 (lv_at hl 0 rfl) ?_
              refine lv_if_eq hx hb d_SpectrumDeskModel_data_118 rfl (fun hf => ?_) (fun hf => ?_)
              · refine lv_iinc (k := 2) (v := nI (k + 1)) (lv' := [(8, .int (nI (k + 1))), (7, .int (nI 0)), (9, .int ((v6 a1 a2 a3 a4 a5 a6) k)), (0, .ref (ad 183)), (1, .int a1), (2, .int a2), (3, .int a3), (4, .int a4), (5, .int a5), (6, .int a6)]) hx hb d_SpectrumDeskModel_data_138 hl rfl (nI_1 k) (by decide) rfl (fun ls hl => ?_)
                refine lv_goto hx hb d_SpectrumDeskModel_data_141 rfl ?_
                have hl := lv_sub hl [0, 1, 3, 4, 5, 6, 7, 8, 9] rfl
                have hl : lv_has ls 10 [(8, .int (nI (k + 1))), (7, .int (nI 0)), (0, .ref (ad 183)), (1, .int a1), (2, .int a2), (3, .int a3), (4, .int a4), (5, .int a5), (6, .int a6)] := hl
                exact ih (k + 1) s2 D2 ls H locs (by omega) e1 e2 e3 hbad hl I
              · exact absurd rfl hf
            · exact absurd rfl hd
        · have q0 : k = 0 := (nI_eq (b := 0) (by omega) (by decide)).mp hc
          refine lv_iload_n hx hb d_SpectrumDeskModel_data_38 rfl (lv_at hl 3 rfl) ?_
          refine lv_goto hx hb d_SpectrumDeskModel_data_39 rfl ?_
          refine xr_topi (y := (v6 a1 a2 a3 a4 a5 a6) k) (by simp [v6, q0]) ?_
          refine lv_istore (lv' := [(9, .int ((v6 a1 a2 a3 a4 a5 a6) k)), (8, .int (nI k)), (7, .int (nI 0)), (0, .ref (ad 183)), (1, .int a1), (2, .int a2), (3, .int a3), (4, .int a4), (5, .int a5), (6, .int a6)]) hx hb d_SpectrumDeskModel_data_86 hl (by decide) rfl (fun ls hl => ?_)
          refine lv_iload hx hb d_SpectrumDeskModel_data_88 (lv_at hl 2 rfl) ?_
          refine lv_if_eq hx hb d_SpectrumDeskModel_data_90 rfl (fun hd => ?_) (fun hd => ?_)
          · refine lv_iconst (v := nI 0) hx hb d_SpectrumDeskModel_data_113 (by decide) ?_
            refine lv_istore (lv' := [(7, .int (nI 0)), (9, .int ((v6 a1 a2 a3 a4 a5 a6) k)), (8, .int (nI k)), (0, .ref (ad 183)), (1, .int a1), (2, .int a2), (3, .int a3), (4, .int a4), (5, .int a5), (6, .int a6)]) hx hb d_SpectrumDeskModel_data_114 hl (by decide) rfl (fun ls hl => ?_)
            refine lv_iload hx hb d_SpectrumDeskModel_data_116 (lv_at hl 0 rfl) ?_
            refine lv_if_eq hx hb d_SpectrumDeskModel_data_118 rfl (fun hf => ?_) (fun hf => ?_)
            · refine lv_iinc (k := 2) (v := nI (k + 1)) (lv' := [(8, .int (nI (k + 1))), (7, .int (nI 0)), (9, .int ((v6 a1 a2 a3 a4 a5 a6) k)), (0, .ref (ad 183)), (1, .int a1), (2, .int a2), (3, .int a3), (4, .int a4), (5, .int a5), (6, .int a6)]) hx hb d_SpectrumDeskModel_data_138 hl rfl (nI_1 k) (by decide) rfl (fun ls hl => ?_)
              refine lv_goto hx hb d_SpectrumDeskModel_data_141 rfl ?_
              have hl := lv_sub hl [0, 1, 3, 4, 5, 6, 7, 8, 9] rfl
              have hl : lv_has ls 10 [(8, .int (nI (k + 1))), (7, .int (nI 0)), (0, .ref (ad 183)), (1, .int a1), (2, .int a2), (3, .int a3), (4, .int a4), (5, .int a5), (6, .int a6)] := hl
              exact ih (k + 1) s2 D2 ls H locs (by omega) e1 e2 e3 hbad hl I
            · exact absurd rfl hf
          · exact absurd rfl hd
  have good : ∀ (j : Nat) (k : Nat) (s2 : Nat → va_E) (D2 : Nat → Int32) (ls : Array Slot) (H : Heap) (locs : List Loc), rw < 100 → k + j = n → (s2 189 = .inl (cI, 600, .inl D2)) → (∀ q, q ≠ 189 → s2 q = s0 q) → (∀ q, q < 6 * rw → D2 q = Dt q) → (∀ q, q < k → in1000 ((v6 a1 a2 a3 a4 a5 a6) q)) → (∀ q, q < k → D2 (6 * rw + q) = (v6 a1 a2 a3 a4 a5 a6) q) → lv_has ls 10 [(8, .int (nI k)), (7, .int (nI 1)), (0, .ref (ad 183)), (1, .int a1), (2, .int a2), (3, .int a3), (4, .int a4), (5, .int a5), (6, .int a6)] → xI D classes 193 ad s.heap (rw3 s2 ciM cI cZ (mfs ad (nI 0) (nI n) (nI rw) (nI ps) le eq) P L M) H locs → W p l e (xrm 0) s m args below meth c H locs 0 0 (MQ below (va_Qi (fun r σ2 => ∃ D' : Nat → Int32, (∀ q, q < 6 * rw → D' q = Dt q) ∧ (((rw < 100 ∧ ∀ k, k < n → in1000 ((v6 a1 a2 a3 a4 a5 a6) k)) ∧ (∀ k, k < n → D' (6 * rw + k) = (v6 a1 a2 a3 a4 a5 a6) k) ∧ r = nI (rw + 1) ∧ mS ad cI cZ σb (nI 0) n A9 ((rw + 1)) D' ps Pr σ2) ∨ (¬ (rw < 100 ∧ ∀ k, k < n → in1000 ((v6 a1 a2 a3 a4 a5 a6) k)) ∧ r = -1 ∧ mS ad cI cZ σb (nI 0) n A9 rw D' ps Pr σ2))) (xS D classes (xT cI cJ cZ cC cG cP) 193 ad) (xA 193 ad)) args s 0 0 (xA 193 ad)) (F0 m 24 ls []) := by
    intro j
    induction j with
    | zero =>
      intro k s2 D2 ls H locs hr9 hk e1 e2 e3 hall hall2 hl I
      obtain rfl : n = k := by omega
      refine lv_iload hx hb d_SpectrumDeskModel_data_24 (lv_at hl 0 rfl) ?_
      refine lv_aload_n hx hb d_SpectrumDeskModel_data_26 rfl (lv_at hl 2 rfl) ?_
      refine xr_get X I fin_M 183 (by decide) (r183 ..) rfl 5 (by decide) (List.mem_cons_of_mem _ k_b1a46e2c09) rfl rfl d_SpectrumDeskModel_data_27 ?_
      refine lv_icmp_ge hx hb d_SpectrumDeskModel_data_30 rfl (fun hc => ?_) (fun hc => ?_)
      · refine lv_aload_n hx hb d_SpectrumDeskModel_data_144 rfl (lv_at hl 2 rfl) ?_
        refine lv_iload hx hb d_SpectrumDeskModel_data_145 (lv_at hl 1 rfl) ?_
        refine lv_if_eq hx hb d_SpectrumDeskModel_data_147 rfl (fun hd => ?_) (fun hd => ?_)
        · exact absurd hd (by decide)
        · refine lv_aload_n hx hb d_SpectrumDeskModel_data_150 rfl (lv_at hl 2 rfl) ?_
          refine xr_get X I fin_M 183 (by decide) (r183 ..) rfl 8 (by decide) (List.mem_cons_of_mem _ k_cd82b0b714) rfl rfl d_SpectrumDeskModel_data_151 ?_
          refine lv_iconst (v := nI 1) hx hb d_SpectrumDeskModel_data_154 (by decide) ?_
          refine lv_iadd hx hb d_SpectrumDeskModel_data_155 (xr_topi (y := nI (rw + 1)) (nI_add rw 1) ?_)
          refine lv_goto hx hb d_SpectrumDeskModel_data_156 rfl ?_
          refine xr_put (ty := .int) X I fin_M t_M t_M_ok n_M 183 (by decide) (r183 ..) rfl 8 (by decide) (List.mem_cons_of_mem _ k_cd82b0b714) rfl rfl (by decide +kernel) rfl rfl (Nat.le_of_ble_eq_true rfl) d_SpectrumDeskModel_data_163 (fun H locs I => ?_)
          rw [rw3_F] at I
          have I : xI D classes 193 ad s.heap (rw3 s2 ciM cI cZ (mfs ad (nI 0) (nI n) (nI (rw + 1)) (nI ps) le eq) P L M) H locs := I
          refine lv_iload hx hb d_SpectrumDeskModel_data_166 (lv_at hl 1 rfl) ?_
          refine lv_if_eq hx hb d_SpectrumDeskModel_data_168 rfl (fun hf => ?_) (fun hf => ?_)
          · exact absurd hf (by decide)
          · refine lv_aload_n hx hb d_SpectrumDeskModel_data_171 rfl (lv_at hl 2 rfl) ?_
            refine xr_get X I fin_M 183 (by decide) (r183 ..) rfl 8 (by decide) (List.mem_cons_of_mem _ k_cd82b0b714) rfl rfl d_SpectrumDeskModel_data_172 ?_
            refine lv_goto hx hb d_SpectrumDeskModel_data_175 rfl ?_
            exact xr_iret X I hr hlk ⟨D2, e3, Or.inl ⟨⟨hr9, fun k hk => hall k (by omega)⟩, fun k hk => (hall2 k (by omega)), rfl, ⟨s2, G, Dg, P, L, M, Z, le, eq, rfl, ((e2 _ (by decide)).trans h187), ((e2 _ (by decide)).trans h188), e1, ((e2 _ (by decide)).trans h190), ((e2 _ (by decide)).trans h191), (fun q hq => (e2 q (by omega)).trans (hfb q hq)), hB⟩⟩⟩ d_SpectrumDeskModel_data_179
      · exact absurd (nI_le (Nat.le_refl _) (by omega)) hc
    | succ j ih =>
      intro k s2 D2 ls H locs hr9 hk e1 e2 e3 hall hall2 hl I
      refine lv_iload hx hb d_SpectrumDeskModel_data_24 (lv_at hl 0 rfl) ?_
      refine lv_aload_n hx hb d_SpectrumDeskModel_data_26 rfl (lv_at hl 2 rfl) ?_
      refine xr_get X I fin_M 183 (by decide) (r183 ..) rfl 5 (by decide) (List.mem_cons_of_mem _ k_b1a46e2c09) rfl rfl d_SpectrumDeskModel_data_27 ?_
      refine lv_icmp_ge hx hb d_SpectrumDeskModel_data_30 rfl (fun hc => ?_) (fun hc => ?_)
      · exact absurd hc (nI_ge (by omega) (by omega))
      · refine lv_iload hx hb d_SpectrumDeskModel_data_33 (lv_at hl 0 rfl) ?_
        refine lv_if_ne hx hb d_SpectrumDeskModel_data_35 rfl (fun hc => ?_) (fun hc => ?_)
        · have n0 : ¬ k = 0 := fun h => hc (by rw [h]; rfl)
          refine lv_iload hx hb d_SpectrumDeskModel_data_42 (lv_at hl 0 rfl) ?_
          refine lv_iconst (v := nI 1) hx hb d_SpectrumDeskModel_data_44 (by decide) ?_
          refine lv_icmp_ne hx hb d_SpectrumDeskModel_data_45 rfl (fun hc => ?_) (fun hc => ?_)
          · have n1 : ¬ k = 1 := fun h => hc (by rw [h])
            refine lv_iload hx hb d_SpectrumDeskModel_data_52 (lv_at hl 0 rfl) ?_
            refine lv_iconst (v := nI 2) hx hb d_SpectrumDeskModel_data_54 (by decide) ?_
            refine lv_icmp_ne hx hb d_SpectrumDeskModel_data_55 rfl (fun hc => ?_) (fun hc => ?_)
            · have n2 : ¬ k = 2 := fun h => hc (by rw [h])
              refine lv_iload hx hb d_SpectrumDeskModel_data_62 (lv_at hl 0 rfl) ?_
              refine lv_iconst (v := nI 3) hx hb d_SpectrumDeskModel_data_64 (by decide) ?_
              refine lv_icmp_ne hx hb d_SpectrumDeskModel_data_65 rfl (fun hc => ?_) (fun hc => ?_)
              · have n3 : ¬ k = 3 := fun h => hc (by rw [h])
                refine lv_iload hx hb d_SpectrumDeskModel_data_73 (lv_at hl 0 rfl) ?_
                refine lv_iconst (v := nI 4) hx hb d_SpectrumDeskModel_data_75 (by decide) ?_
                refine lv_icmp_ne hx hb d_SpectrumDeskModel_data_76 rfl (fun hc => ?_) (fun hc => ?_)
                · have n4 : ¬ k = 4 := fun h => hc (by rw [h])
                  refine lv_iload hx hb d_SpectrumDeskModel_data_84 (lv_at hl 8 rfl) ?_
                  refine xr_topi (y := (v6 a1 a2 a3 a4 a5 a6) k) (by simp [v6, n0, n1, n2, n3, n4]) ?_
                  refine lv_istore (lv' := [(9, .int ((v6 a1 a2 a3 a4 a5 a6) k)), (8, .int (nI k)), (7, .int (nI 1)), (0, .ref (ad 183)), (1, .int a1), (2, .int a2), (3, .int a3), (4, .int a4), (5, .int a5), (6, .int a6)]) hx hb d_SpectrumDeskModel_data_86 hl (by decide) rfl (fun ls hl => ?_)
                  refine lv_iload hx hb d_SpectrumDeskModel_data_88 (lv_at hl 2 rfl) ?_
                  refine lv_if_eq hx hb d_SpectrumDeskModel_data_90 rfl (fun hd => ?_) (fun hd => ?_)
                  · exact absurd hd (by decide)
                  · refine lv_iload hx hb d_SpectrumDeskModel_data_93 (lv_at hl 0 rfl) ?_
                    refine lv_sipush (v := (-1000)) hx hb d_SpectrumDeskModel_data_95 (by decide) ?_
                    refine lv_icmp_lt hx hb d_SpectrumDeskModel_data_98 rfl (fun hg => ?_) (fun hg => ?_)
                    · have hbad : ¬ (rw < 100 ∧ ∀ k, k < n → in1000 ((v6 a1 a2 a3 a4 a5 a6) k)) := fun h => (h.2 k (by omega)).1 hg
                      refine lv_iconst (v := nI 0) hx hb d_SpectrumDeskModel_data_113 (by decide) ?_
                      refine lv_istore (lv' := [(7, .int (nI 0)), (9, .int ((v6 a1 a2 a3 a4 a5 a6) k)), (8, .int (nI k)), (0, .ref (ad 183)), (1, .int a1), (2, .int a2), (3, .int a3), (4, .int a4), (5, .int a5), (6, .int a6)]) hx hb d_SpectrumDeskModel_data_114 hl (by decide) rfl (fun ls hl => ?_)
                      refine lv_iload hx hb d_SpectrumDeskModel_data_116 (lv_at hl 0 rfl) ?_
                      refine lv_if_eq hx hb d_SpectrumDeskModel_data_118 rfl (fun hf => ?_) (fun hf => ?_)
                      · refine lv_iinc (k := 2) (v := nI (k + 1)) (lv' := [(8, .int (nI (k + 1))), (7, .int (nI 0)), (9, .int ((v6 a1 a2 a3 a4 a5 a6) k)), (0, .ref (ad 183)), (1, .int a1), (2, .int a2), (3, .int a3), (4, .int a4), (5, .int a5), (6, .int a6)]) hx hb d_SpectrumDeskModel_data_138 hl rfl (nI_1 k) (by decide) rfl (fun ls hl => ?_)
                        refine lv_goto hx hb d_SpectrumDeskModel_data_141 rfl ?_
                        have hl := lv_sub hl [0, 1, 3, 4, 5, 6, 7, 8, 9] rfl
                        have hl : lv_has ls 10 [(8, .int (nI (k + 1))), (7, .int (nI 0)), (0, .ref (ad 183)), (1, .int a1), (2, .int a2), (3, .int a3), (4, .int a4), (5, .int a5), (6, .int a6)] := hl
                        exact bad j (k + 1) s2 D2 ls H locs (by omega) e1 e2 e3 hbad hl I
                      · exact absurd rfl hf
                    · refine lv_iload hx hb d_SpectrumDeskModel_data_101 (lv_at hl 0 rfl) ?_
                      refine lv_sipush (v := nI 1000) hx hb d_SpectrumDeskModel_data_103 (by decide) ?_
                      refine lv_icmp_gt hx hb d_SpectrumDeskModel_data_106 rfl (fun hh => ?_) (fun hh => ?_)
                      · have hbad : ¬ (rw < 100 ∧ ∀ k, k < n → in1000 ((v6 a1 a2 a3 a4 a5 a6) k)) := fun h => (h.2 k (by omega)).2 hh
                        refine lv_iconst (v := nI 0) hx hb d_SpectrumDeskModel_data_113 (by decide) ?_
                        refine lv_istore (lv' := [(7, .int (nI 0)), (9, .int ((v6 a1 a2 a3 a4 a5 a6) k)), (8, .int (nI k)), (0, .ref (ad 183)), (1, .int a1), (2, .int a2), (3, .int a3), (4, .int a4), (5, .int a5), (6, .int a6)]) hx hb d_SpectrumDeskModel_data_114 hl (by decide) rfl (fun ls hl => ?_)
                        refine lv_iload hx hb d_SpectrumDeskModel_data_116 (lv_at hl 0 rfl) ?_
                        refine lv_if_eq hx hb d_SpectrumDeskModel_data_118 rfl (fun hf => ?_) (fun hf => ?_)
                        · refine lv_iinc (k := 2) (v := nI (k + 1)) (lv' := [(8, .int (nI (k + 1))), (7, .int (nI 0)), (9, .int ((v6 a1 a2 a3 a4 a5 a6) k)), (0, .ref (ad 183)), (1, .int a1), (2, .int a2), (3, .int a3), (4, .int a4), (5, .int a5), (6, .int a6)]) hx hb d_SpectrumDeskModel_data_138 hl rfl (nI_1 k) (by decide) rfl (fun ls hl => ?_)
                          refine lv_goto hx hb d_SpectrumDeskModel_data_141 rfl ?_
                          have hl := lv_sub hl [0, 1, 3, 4, 5, 6, 7, 8, 9] rfl
                          have hl : lv_has ls 10 [(8, .int (nI (k + 1))), (7, .int (nI 0)), (0, .ref (ad 183)), (1, .int a1), (2, .int a2), (3, .int a3), (4, .int a4), (5, .int a5), (6, .int a6)] := hl
                          exact bad j (k + 1) s2 D2 ls H locs (by omega) e1 e2 e3 hbad hl I
                        · exact absurd rfl hf
                      · refine lv_iconst (v := nI 1) hx hb d_SpectrumDeskModel_data_109 (by decide) ?_
                        refine lv_goto hx hb d_SpectrumDeskModel_data_110 rfl ?_
                        refine lv_istore (lv' := [(7, .int (nI 1)), (9, .int ((v6 a1 a2 a3 a4 a5 a6) k)), (8, .int (nI k)), (0, .ref (ad 183)), (1, .int a1), (2, .int a2), (3, .int a3), (4, .int a4), (5, .int a5), (6, .int a6)]) hx hb d_SpectrumDeskModel_data_114 hl (by decide) rfl (fun ls hl => ?_)
                        refine lv_iload hx hb d_SpectrumDeskModel_data_116 (lv_at hl 0 rfl) ?_
                        refine lv_if_eq hx hb d_SpectrumDeskModel_data_118 rfl (fun hf => ?_) (fun hf => ?_)
                        · exact absurd hf (by decide)
                        · refine lv_aload_n hx hb d_SpectrumDeskModel_data_121 rfl (lv_at hl 3 rfl) ?_
                          refine xr_get X I fin_M 183 (by decide) (r183 ..) rfl 7 (by decide) (List.mem_cons_of_mem _ k_5ae17e30db) rfl rfl d_SpectrumDeskModel_data_122 ?_
                          refine lv_bipush (v := nI 6) hx hb d_SpectrumDeskModel_data_125 (by decide) ?_
                          refine lv_aload_n hx hb d_SpectrumDeskModel_data_127 rfl (lv_at hl 3 rfl) ?_
                          refine xr_get X I fin_M 183 (by decide) (r183 ..) rfl 8 (by decide) (List.mem_cons_of_mem _ k_cd82b0b714) rfl rfl d_SpectrumDeskModel_data_128 ?_
                          refine lv_imul hx hb d_SpectrumDeskModel_data_131 (xr_topi (y := nI (6 * rw)) (pk_mul 6 rw) ?_)
                          refine lv_iload hx hb d_SpectrumDeskModel_data_132 (lv_at hl 2 rfl) ?_
                          refine lv_iadd hx hb d_SpectrumDeskModel_data_134 (xr_topi (y := nI ((6 * rw) + k)) (nI_add (6 * rw) k) ?_)
                          refine lv_iload hx hb d_SpectrumDeskModel_data_135 (lv_at hl 1 rfl) ?_
                          refine xr_iast X I 189 0 (by decide) ((r_o (by decide)).trans e1) rfl (by omega) (by decide) d_SpectrumDeskModel_data_137 (fun H locs I => ?_)
                          rw [rw3_o (by decide)] at I
                          refine lv_iinc (k := 2) (v := nI (k + 1)) (lv' := [(8, .int (nI (k + 1))), (7, .int (nI 1)), (9, .int ((v6 a1 a2 a3 a4 a5 a6) k)), (0, .ref (ad 183)), (1, .int a1), (2, .int a2), (3, .int a3), (4, .int a4), (5, .int a5), (6, .int a6)]) hx hb d_SpectrumDeskModel_data_138 hl rfl (nI_1 k) (by decide) rfl (fun ls hl => ?_)
                          refine lv_goto hx hb d_SpectrumDeskModel_data_141 rfl ?_
                          have hl := lv_sub hl [0, 1, 3, 4, 5, 6, 7, 8, 9] rfl
                          have hl : lv_has ls 10 [(8, .int (nI (k + 1))), (7, .int (nI 1)), (0, .ref (ad 183)), (1, .int a1), (2, .int a2), (3, .int a3), (4, .int a4), (5, .int a5), (6, .int a6)] := hl
                          refine ih (k + 1) _ _ ls H locs hr9 (by omega) (va_up_self _ _ _) (fun q hq => (va_up_ne _ _ hq).trans (e2 q hq)) (fun q hq => (upd_n (by omega)).trans (e3 q hq)) (fun q hq => ?_) (fun q hq => ?_) hl I
                          · rcases Nat.lt_or_ge q k with h | h
                            · exact hall q h
                            · obtain rfl : q = k := by omega
                              exact ⟨hg, hh⟩
                          · rcases Nat.lt_or_ge q k with h | h
                            · rw [upd_n (by omega)]; exact hall2 q h
                            · obtain rfl : q = k := by omega
                              exact upd_s
                · have q4 : k = 4 := (nI_eq (by omega) (by decide)).mp hc
                  refine lv_iload hx hb d_SpectrumDeskModel_data_79 (lv_at hl 7 rfl) ?_
                  refine lv_goto hx hb d_SpectrumDeskModel_data_81 rfl ?_
                  refine xr_topi (y := (v6 a1 a2 a3 a4 a5 a6) k) (by simp [v6, q4]) ?_
                  refine lv_istore (lv' := [(9, .int ((v6 a1 a2 a3 a4 a5 a6) k)), (8, .int (nI k)), (7, .int (nI 1)), (0, .ref (ad 183)), (1, .int a1), (2, .int a2), (3, .int a3), (4, .int a4), (5, .int a5), (6, .int a6)]) hx hb d_SpectrumDeskModel_data_86 hl (by decide) rfl (fun ls hl => ?_)
                  refine lv_iload hx hb d_SpectrumDeskModel_data_88 (lv_at hl 2 rfl) ?_
                  refine lv_if_eq hx hb d_SpectrumDeskModel_data_90 rfl (fun hd => ?_) (fun hd => ?_)
                  · exact absurd hd (by decide)
                  · refine lv_iload hx hb d_SpectrumDeskModel_data_93 (lv_at hl 0 rfl) ?_
                    refine lv_sipush (v := (-1000)) hx hb d_SpectrumDeskModel_data_95 (by decide) ?_
                    refine lv_icmp_lt hx hb d_SpectrumDeskModel_data_98 rfl (fun hg => ?_) (fun hg => ?_)
                    · have hbad : ¬ (rw < 100 ∧ ∀ k, k < n → in1000 ((v6 a1 a2 a3 a4 a5 a6) k)) := fun h => (h.2 k (by omega)).1 hg
                      refine lv_iconst (v := nI 0) hx hb d_SpectrumDeskModel_data_113 (by decide) ?_
                      refine lv_istore (lv' := [(7, .int (nI 0)), (9, .int ((v6 a1 a2 a3 a4 a5 a6) k)), (8, .int (nI k)), (0, .ref (ad 183)), (1, .int a1), (2, .int a2), (3, .int a3), (4, .int a4), (5, .int a5), (6, .int a6)]) hx hb d_SpectrumDeskModel_data_114 hl (by decide) rfl (fun ls hl => ?_)
                      refine lv_iload hx hb d_SpectrumDeskModel_data_116 (lv_at hl 0 rfl) ?_
                      refine lv_if_eq hx hb d_SpectrumDeskModel_data_118 rfl (fun hf => ?_) (fun hf => ?_)
                      · refine lv_iinc (k := 2) (v := nI (k + 1)) (lv' := [(8, .int (nI (k + 1))), (7, .int (nI 0)), (9, .int ((v6 a1 a2 a3 a4 a5 a6) k)), (0, .ref (ad 183)), (1, .int a1), (2, .int a2), (3, .int a3), (4, .int a4), (5, .int a5), (6, .int a6)]) hx hb d_SpectrumDeskModel_data_138 hl rfl (nI_1 k) (by decide) rfl (fun ls hl => ?_)
                        refine lv_goto hx hb d_SpectrumDeskModel_data_141 rfl ?_
                        have hl := lv_sub hl [0, 1, 3, 4, 5, 6, 7, 8, 9] rfl
                        have hl : lv_has ls 10 [(8, .int (nI (k + 1))), (7, .int (nI 0)), (0, .ref (ad 183)), (1, .int a1), (2, .int a2), (3, .int a3), (4, .int a4), (5, .int a5), (6, .int a6)] := hl
                        exact bad j (k + 1) s2 D2 ls H locs (by omega) e1 e2 e3 hbad hl I
                      · exact absurd rfl hf
                    · refine lv_iload hx hb d_SpectrumDeskModel_data_101 (lv_at hl 0 rfl) ?_
                      refine lv_sipush (v := nI 1000) hx hb d_SpectrumDeskModel_data_103 (by decide) ?_
                      refine lv_icmp_gt hx hb d_SpectrumDeskModel_data_106 rfl (fun hh => ?_) (fun hh => ?_)
                      · have hbad : ¬ (rw < 100 ∧ ∀ k, k < n → in1000 ((v6 a1 a2 a3 a4 a5 a6) k)) := fun h => (h.2 k (by omega)).2 hh
                        refine lv_iconst (v := nI 0) hx hb d_SpectrumDeskModel_data_113 (by decide) ?_
                        refine lv_istore (lv' := [(7, .int (nI 0)), (9, .int ((v6 a1 a2 a3 a4 a5 a6) k)), (8, .int (nI k)), (0, .ref (ad 183)), (1, .int a1), (2, .int a2), (3, .int a3), (4, .int a4), (5, .int a5), (6, .int a6)]) hx hb d_SpectrumDeskModel_data_114 hl (by decide) rfl (fun ls hl => ?_)
                        refine lv_iload hx hb d_SpectrumDeskModel_data_116 (lv_at hl 0 rfl) ?_
                        refine lv_if_eq hx hb d_SpectrumDeskModel_data_118 rfl (fun hf => ?_) (fun hf => ?_)
                        · refine lv_iinc (k := 2) (v := nI (k + 1)) (lv' := [(8, .int (nI (k + 1))), (7, .int (nI 0)), (9, .int ((v6 a1 a2 a3 a4 a5 a6) k)), (0, .ref (ad 183)), (1, .int a1), (2, .int a2), (3, .int a3), (4, .int a4), (5, .int a5), (6, .int a6)]) hx hb d_SpectrumDeskModel_data_138 hl rfl (nI_1 k) (by decide) rfl (fun ls hl => ?_)
                          refine lv_goto hx hb d_SpectrumDeskModel_data_141 rfl ?_
                          have hl := lv_sub hl [0, 1, 3, 4, 5, 6, 7, 8, 9] rfl
                          have hl : lv_has ls 10 [(8, .int (nI (k + 1))), (7, .int (nI 0)), (0, .ref (ad 183)), (1, .int a1), (2, .int a2), (3, .int a3), (4, .int a4), (5, .int a5), (6, .int a6)] := hl
                          exact bad j (k + 1) s2 D2 ls H locs (by omega) e1 e2 e3 hbad hl I
                        · exact absurd rfl hf
                      · refine lv_iconst (v := nI 1) hx hb d_SpectrumDeskModel_data_109 (by decide) ?_
                        refine lv_goto hx hb d_SpectrumDeskModel_data_110 rfl ?_
                        refine lv_istore (lv' := [(7, .int (nI 1)), (9, .int ((v6 a1 a2 a3 a4 a5 a6) k)), (8, .int (nI k)), (0, .ref (ad 183)), (1, .int a1), (2, .int a2), (3, .int a3), (4, .int a4), (5, .int a5), (6, .int a6)]) hx hb d_SpectrumDeskModel_data_114 hl (by decide) rfl (fun ls hl => ?_)
                        refine lv_iload hx hb d_SpectrumDeskModel_data_116 (lv_at hl 0 rfl) ?_
                        refine lv_if_eq hx hb d_SpectrumDeskModel_data_118 rfl (fun hf => ?_) (fun hf => ?_)
                        · exact absurd hf (by decide)
                        · refine lv_aload_n hx hb d_SpectrumDeskModel_data_121 rfl (lv_at hl 3 rfl) ?_
                          refine xr_get X I fin_M 183 (by decide) (r183 ..) rfl 7 (by decide) (List.mem_cons_of_mem _ k_5ae17e30db) rfl rfl d_SpectrumDeskModel_data_122 ?_
                          refine lv_bipush (v := nI 6) hx hb d_SpectrumDeskModel_data_125 (by decide) ?_
                          refine lv_aload_n hx hb d_SpectrumDeskModel_data_127 rfl (lv_at hl 3 rfl) ?_
                          refine xr_get X I fin_M 183 (by decide) (r183 ..) rfl 8 (by decide) (List.mem_cons_of_mem _ k_cd82b0b714) rfl rfl d_SpectrumDeskModel_data_128 ?_
                          refine lv_imul hx hb d_SpectrumDeskModel_data_131 (xr_topi (y := nI (6 * rw)) (pk_mul 6 rw) ?_)
                          refine lv_iload hx hb d_SpectrumDeskModel_data_132 (lv_at hl 2 rfl) ?_
                          refine lv_iadd hx hb d_SpectrumDeskModel_data_134 (xr_topi (y := nI ((6 * rw) + k)) (nI_add (6 * rw) k) ?_)
                          refine lv_iload hx hb d_SpectrumDeskModel_data_135 (lv_at hl 1 rfl) ?_
                          refine xr_iast X I 189 0 (by decide) ((r_o (by decide)).trans e1) rfl (by omega) (by decide) d_SpectrumDeskModel_data_137 (fun H locs I => ?_)
                          rw [rw3_o (by decide)] at I
                          refine lv_iinc (k := 2) (v := nI (k + 1)) (lv' := [(8, .int (nI (k + 1))), (7, .int (nI 1)), (9, .int ((v6 a1 a2 a3 a4 a5 a6) k)), (0, .ref (ad 183)), (1, .int a1), (2, .int a2), (3, .int a3), (4, .int a4), (5, .int a5), (6, .int a6)]) hx hb d_SpectrumDeskModel_data_138 hl rfl (nI_1 k) (by decide) rfl (fun ls hl => ?_)
                          refine lv_goto hx hb d_SpectrumDeskModel_data_141 rfl ?_
                          have hl := lv_sub hl [0, 1, 3, 4, 5, 6, 7, 8, 9] rfl
                          have hl : lv_has ls 10 [(8, .int (nI (k + 1))), (7, .int (nI 1)), (0, .ref (ad 183)), (1, .int a1), (2, .int a2), (3, .int a3), (4, .int a4), (5, .int a5), (6, .int a6)] := hl
                          refine ih (k + 1) _ _ ls H locs hr9 (by omega) (va_up_self _ _ _) (fun q hq => (va_up_ne _ _ hq).trans (e2 q hq)) (fun q hq => (upd_n (by omega)).trans (e3 q hq)) (fun q hq => ?_) (fun q hq => ?_) hl I
                          · rcases Nat.lt_or_ge q k with h | h
                            · exact hall q h
                            · obtain rfl : q = k := by omega
                              exact ⟨hg, hh⟩
                          · rcases Nat.lt_or_ge q k with h | h
                            · rw [upd_n (by omega)]; exact hall2 q h
                            · obtain rfl : q = k := by omega
                              exact upd_s
              · have q3 : k = 3 := (nI_eq (by omega) (by decide)).mp hc
                refine lv_iload hx hb d_SpectrumDeskModel_data_68 (lv_at hl 6 rfl) ?_
                refine lv_goto hx hb d_SpectrumDeskModel_data_70 rfl ?_
                refine xr_topi (y := (v6 a1 a2 a3 a4 a5 a6) k) (by simp [v6, q3]) ?_
                refine lv_istore (lv' := [(9, .int ((v6 a1 a2 a3 a4 a5 a6) k)), (8, .int (nI k)), (7, .int (nI 1)), (0, .ref (ad 183)), (1, .int a1), (2, .int a2), (3, .int a3), (4, .int a4), (5, .int a5), (6, .int a6)]) hx hb d_SpectrumDeskModel_data_86 hl (by decide) rfl (fun ls hl => ?_)
                refine lv_iload hx hb d_SpectrumDeskModel_data_88 (lv_at hl 2 rfl) ?_
                refine lv_if_eq hx hb d_SpectrumDeskModel_data_90 rfl (fun hd => ?_) (fun hd => ?_)
                · exact absurd hd (by decide)
                · refine lv_iload hx hb d_SpectrumDeskModel_data_93 (lv_at hl 0 rfl) ?_
                  refine lv_sipush (v := (-1000)) hx hb d_SpectrumDeskModel_data_95 (by decide) ?_
                  refine lv_icmp_lt hx hb d_SpectrumDeskModel_data_98 rfl (fun hg => ?_) (fun hg => ?_)
                  · have hbad : ¬ (rw < 100 ∧ ∀ k, k < n → in1000 ((v6 a1 a2 a3 a4 a5 a6) k)) := fun h => (h.2 k (by omega)).1 hg
                    refine lv_iconst (v := nI 0) hx hb d_SpectrumDeskModel_data_113 (by decide) ?_
                    refine lv_istore (lv' := [(7, .int (nI 0)), (9, .int ((v6 a1 a2 a3 a4 a5 a6) k)), (8, .int (nI k)), (0, .ref (ad 183)), (1, .int a1), (2, .int a2), (3, .int a3), (4, .int a4), (5, .int a5), (6, .int a6)]) hx hb d_SpectrumDeskModel_data_114 hl (by decide) rfl (fun ls hl => ?_)
                    refine lv_iload hx hb d_SpectrumDeskModel_data_116 (lv_at hl 0 rfl) ?_
                    refine lv_if_eq hx hb d_SpectrumDeskModel_data_118 rfl (fun hf => ?_) (fun hf => ?_)
                    · refine lv_iinc (k := 2) (v := nI (k + 1)) (lv' := [(8, .int (nI (k + 1))), (7, .int (nI 0)), (9, .int ((v6 a1 a2 a3 a4 a5 a6) k)), (0, .ref (ad 183)), (1, .int a1), (2, .int a2), (3, .int a3), (4, .int a4), (5, .int a5), (6, .int a6)]) hx hb d_SpectrumDeskModel_data_138 hl rfl (nI_1 k) (by decide) rfl (fun ls hl => ?_)
                      refine lv_goto hx hb d_SpectrumDeskModel_data_141 rfl ?_
                      have hl := lv_sub hl [0, 1, 3, 4, 5, 6, 7, 8, 9] rfl
                      have hl : lv_has ls 10 [(8, .int (nI (k + 1))), (7, .int (nI 0)), (0, .ref (ad 183)), (1, .int a1), (2, .int a2), (3, .int a3), (4, .int a4), (5, .int a5), (6, .int a6)] := hl
                      exact bad j (k + 1) s2 D2 ls H locs (by omega) e1 e2 e3 hbad hl I
                    · exact absurd rfl hf
                  · refine lv_iload hx hb d_SpectrumDeskModel_data_101 (lv_at hl 0 rfl) ?_
                    refine lv_sipush (v := nI 1000) hx hb d_SpectrumDeskModel_data_103 (by decide) ?_
                    refine lv_icmp_gt hx hb d_SpectrumDeskModel_data_106 rfl (fun hh => ?_) (fun hh => ?_)
                    · have hbad : ¬ (rw < 100 ∧ ∀ k, k < n → in1000 ((v6 a1 a2 a3 a4 a5 a6) k)) := fun h => (h.2 k (by omega)).2 hh
                      refine lv_iconst (v := nI 0) hx hb d_SpectrumDeskModel_data_113 (by decide) ?_
                      refine lv_istore (lv' := [(7, .int (nI 0)), (9, .int ((v6 a1 a2 a3 a4 a5 a6) k)), (8, .int (nI k)), (0, .ref (ad 183)), (1, .int a1), (2, .int a2), (3, .int a3), (4, .int a4), (5, .int a5), (6, .int a6)]) hx hb d_SpectrumDeskModel_data_114 hl (by decide) rfl (fun ls hl => ?_)
                      refine lv_iload hx hb d_SpectrumDeskModel_data_116 (lv_at hl 0 rfl) ?_
                      refine lv_if_eq hx hb d_SpectrumDeskModel_data_118 rfl (fun hf => ?_) (fun hf => ?_)
                      · refine lv_iinc (k := 2) (v := nI (k + 1)) (lv' := [(8, .int (nI (k + 1))), (7, .int (nI 0)), (9, .int ((v6 a1 a2 a3 a4 a5 a6) k)), (0, .ref (ad 183)), (1, .int a1), (2, .int a2), (3, .int a3), (4, .int a4), (5, .int a5), (6, .int a6)]) hx hb d_SpectrumDeskModel_data_138 hl rfl (nI_1 k) (by decide) rfl (fun ls hl => ?_)
                        refine lv_goto hx hb d_SpectrumDeskModel_data_141 rfl ?_
                        have hl := lv_sub hl [0, 1, 3, 4, 5, 6, 7, 8, 9] rfl
                        have hl : lv_has ls 10 [(8, .int (nI (k + 1))), (7, .int (nI 0)), (0, .ref (ad 183)), (1, .int a1), (2, .int a2), (3, .int a3), (4, .int a4), (5, .int a5), (6, .int a6)] := hl
                        exact bad j (k + 1) s2 D2 ls H locs (by omega) e1 e2 e3 hbad hl I
                      · exact absurd rfl hf
                    · refine lv_iconst (v := nI 1) hx hb d_SpectrumDeskModel_data_109 (by decide) ?_
                      refine lv_goto hx hb d_SpectrumDeskModel_data_110 rfl ?_
                      refine lv_istore (lv' := [(7, .int (nI 1)), (9, .int ((v6 a1 a2 a3 a4 a5 a6) k)), (8, .int (nI k)), (0, .ref (ad 183)), (1, .int a1), (2, .int a2), (3, .int a3), (4, .int a4), (5, .int a5), (6, .int a6)]) hx hb d_SpectrumDeskModel_data_114 hl (by decide) rfl (fun ls hl => ?_)
                      refine lv_iload hx hb d_SpectrumDeskModel_data_116 (lv_at hl 0 rfl) ?_
                      refine lv_if_eq hx hb d_SpectrumDeskModel_data_118 rfl (fun hf => ?_) (fun hf => ?_)
                      · exact absurd hf (by decide)
                      · refine lv_aload_n hx hb d_SpectrumDeskModel_data_121 rfl (lv_at hl 3 rfl) ?_
                        refine xr_get X I fin_M 183 (by decide) (r183 ..) rfl 7 (by decide) (List.mem_cons_of_mem _ k_5ae17e30db) rfl rfl d_SpectrumDeskModel_data_122 ?_
                        refine lv_bipush (v := nI 6) hx hb d_SpectrumDeskModel_data_125 (by decide) ?_
                        refine lv_aload_n hx hb d_SpectrumDeskModel_data_127 rfl (lv_at hl 3 rfl) ?_
                        refine xr_get X I fin_M 183 (by decide) (r183 ..) rfl 8 (by decide) (List.mem_cons_of_mem _ k_cd82b0b714) rfl rfl d_SpectrumDeskModel_data_128 ?_
                        refine lv_imul hx hb d_SpectrumDeskModel_data_131 (xr_topi (y := nI (6 * rw)) (pk_mul 6 rw) ?_)
                        refine lv_iload hx hb d_SpectrumDeskModel_data_132 (lv_at hl 2 rfl) ?_
                        refine lv_iadd hx hb d_SpectrumDeskModel_data_134 (xr_topi (y := nI ((6 * rw) + k)) (nI_add (6 * rw) k) ?_)
                        refine lv_iload hx hb d_SpectrumDeskModel_data_135 (lv_at hl 1 rfl) ?_
                        refine xr_iast X I 189 0 (by decide) ((r_o (by decide)).trans e1) rfl (by omega) (by decide) d_SpectrumDeskModel_data_137 (fun H locs I => ?_)
                        rw [rw3_o (by decide)] at I
                        refine lv_iinc (k := 2) (v := nI (k + 1)) (lv' := [(8, .int (nI (k + 1))), (7, .int (nI 1)), (9, .int ((v6 a1 a2 a3 a4 a5 a6) k)), (0, .ref (ad 183)), (1, .int a1), (2, .int a2), (3, .int a3), (4, .int a4), (5, .int a5), (6, .int a6)]) hx hb d_SpectrumDeskModel_data_138 hl rfl (nI_1 k) (by decide) rfl (fun ls hl => ?_)
                        refine lv_goto hx hb d_SpectrumDeskModel_data_141 rfl ?_
                        have hl := lv_sub hl [0, 1, 3, 4, 5, 6, 7, 8, 9] rfl
                        have hl : lv_has ls 10 [(8, .int (nI (k + 1))), (7, .int (nI 1)), (0, .ref (ad 183)), (1, .int a1), (2, .int a2), (3, .int a3), (4, .int a4), (5, .int a5), (6, .int a6)] := hl
                        refine ih (k + 1) _ _ ls H locs hr9 (by omega) (va_up_self _ _ _) (fun q hq => (va_up_ne _ _ hq).trans (e2 q hq)) (fun q hq => (upd_n (by omega)).trans (e3 q hq)) (fun q hq => ?_) (fun q hq => ?_) hl I
                        · rcases Nat.lt_or_ge q k with h | h
                          · exact hall q h
                          · obtain rfl : q = k := by omega
                            exact ⟨hg, hh⟩
                        · rcases Nat.lt_or_ge q k with h | h
                          · rw [upd_n (by omega)]; exact hall2 q h
                          · obtain rfl : q = k := by omega
                            exact upd_s
            · have q2 : k = 2 := (nI_eq (by omega) (by decide)).mp hc
              refine lv_iload_n hx hb d_SpectrumDeskModel_data_58 rfl (lv_at hl 5 rfl) ?_
              refine lv_goto hx hb d_SpectrumDeskModel_data_59 rfl ?_
              refine xr_topi (y := (v6 a1 a2 a3 a4 a5 a6) k) (by simp [v6, q2]) ?_
              refine lv_istore (lv' := [(9, .int ((v6 a1 a2 a3 a4 a5 a6) k)), (8, .int (nI k)), (7, .int (nI 1)), (0, .ref (ad 183)), (1, .int a1), (2, .int a2), (3, .int a3), (4, .int a4), (5, .int a5), (6, .int a6)]) hx hb d_SpectrumDeskModel_data_86 hl (by decide) rfl (fun ls hl => ?_)
              refine lv_iload hx hb d_SpectrumDeskModel_data_88 (lv_at hl 2 rfl) ?_
              refine lv_if_eq hx hb d_SpectrumDeskModel_data_90 rfl (fun hd => ?_) (fun hd => ?_)
              · exact absurd hd (by decide)
              · refine lv_iload hx hb d_SpectrumDeskModel_data_93 (lv_at hl 0 rfl) ?_
                refine lv_sipush (v := (-1000)) hx hb d_SpectrumDeskModel_data_95 (by decide) ?_
                refine lv_icmp_lt hx hb d_SpectrumDeskModel_data_98 rfl (fun hg => ?_) (fun hg => ?_)
                · have hbad : ¬ (rw < 100 ∧ ∀ k, k < n → in1000 ((v6 a1 a2 a3 a4 a5 a6) k)) := fun h => (h.2 k (by omega)).1 hg
                  refine lv_iconst (v := nI 0) hx hb d_SpectrumDeskModel_data_113 (by decide) ?_
                  refine lv_istore (lv' := [(7, .int (nI 0)), (9, .int ((v6 a1 a2 a3 a4 a5 a6) k)), (8, .int (nI k)), (0, .ref (ad 183)), (1, .int a1), (2, .int a2), (3, .int a3), (4, .int a4), (5, .int a5), (6, .int a6)]) hx hb d_SpectrumDeskModel_data_114 hl (by decide) rfl (fun ls hl => ?_)
                  refine lv_iload hx hb d_SpectrumDeskModel_data_116 (lv_at hl 0 rfl) ?_
                  refine lv_if_eq hx hb d_SpectrumDeskModel_data_118 rfl (fun hf => ?_) (fun hf => ?_)
                  · refine lv_iinc (k := 2) (v := nI (k + 1)) (lv' := [(8, .int (nI (k + 1))), (7, .int (nI 0)), (9, .int ((v6 a1 a2 a3 a4 a5 a6) k)), (0, .ref (ad 183)), (1, .int a1), (2, .int a2), (3, .int a3), (4, .int a4), (5, .int a5), (6, .int a6)]) hx hb d_SpectrumDeskModel_data_138 hl rfl (nI_1 k) (by decide) rfl (fun ls hl => ?_)
                    refine lv_goto hx hb d_SpectrumDeskModel_data_141 rfl ?_
                    have hl := lv_sub hl [0, 1, 3, 4, 5, 6, 7, 8, 9] rfl
                    have hl : lv_has ls 10 [(8, .int (nI (k + 1))), (7, .int (nI 0)), (0, .ref (ad 183)), (1, .int a1), (2, .int a2), (3, .int a3), (4, .int a4), (5, .int a5), (6, .int a6)] := hl
                    exact bad j (k + 1) s2 D2 ls H locs (by omega) e1 e2 e3 hbad hl I
                  · exact absurd rfl hf
                · refine lv_iload hx hb d_SpectrumDeskModel_data_101 (lv_at hl 0 rfl) ?_
                  refine lv_sipush (v := nI 1000) hx hb d_SpectrumDeskModel_data_103 (by decide) ?_
                  refine lv_icmp_gt hx hb d_SpectrumDeskModel_data_106 rfl (fun hh => ?_) (fun hh => ?_)
                  · have hbad : ¬ (rw < 100 ∧ ∀ k, k < n → in1000 ((v6 a1 a2 a3 a4 a5 a6) k)) := fun h => (h.2 k (by omega)).2 hh
                    refine lv_iconst (v := nI 0) hx hb d_SpectrumDeskModel_data_113 (by decide) ?_
                    refine lv_istore (lv' := [(7, .int (nI 0)), (9, .int ((v6 a1 a2 a3 a4 a5 a6) k)), (8, .int (nI k)), (0, .ref (ad 183)), (1, .int a1), (2, .int a2), (3, .int a3), (4, .int a4), (5, .int a5), (6, .int a6)]) hx hb d_SpectrumDeskModel_data_114 hl (by decide) rfl (fun ls hl => ?_)
                    refine lv_iload hx hb d_SpectrumDeskModel_data_116 (lv_at hl 0 rfl) ?_
                    refine lv_if_eq hx hb d_SpectrumDeskModel_data_118 rfl (fun hf => ?_) (fun hf => ?_)
                    · refine lv_iinc (k := 2) (v := nI (k + 1)) (lv' := [(8, .int (nI (k + 1))), (7, .int (nI 0)), (9, .int ((v6 a1 a2 a3 a4 a5 a6) k)), (0, .ref (ad 183)), (1, .int a1), (2, .int a2), (3, .int a3), (4, .int a4), (5, .int a5), (6, .int a6)]) hx hb d_SpectrumDeskModel_data_138 hl rfl (nI_1 k) (by decide) rfl (fun ls hl => ?_)
                      refine lv_goto hx hb d_SpectrumDeskModel_data_141 rfl ?_
                      have hl := lv_sub hl [0, 1, 3, 4, 5, 6, 7, 8, 9] rfl
                      have hl : lv_has ls 10 [(8, .int (nI (k + 1))), (7, .int (nI 0)), (0, .ref (ad 183)), (1, .int a1), (2, .int a2), (3, .int a3), (4, .int a4), (5, .int a5), (6, .int a6)] := hl
                      exact bad j (k + 1) s2 D2 ls H locs (by omega) e1 e2 e3 hbad hl I
                    · exact absurd rfl hf
                  · refine lv_iconst (v := nI 1) hx hb d_SpectrumDeskModel_data_109 (by decide) ?_
                    refine lv_goto hx hb d_SpectrumDeskModel_data_110 rfl ?_
                    refine lv_istore (lv' := [(7, .int (nI 1)), (9, .int ((v6 a1 a2 a3 a4 a5 a6) k)), (8, .int (nI k)), (0, .ref (ad 183)), (1, .int a1), (2, .int a2), (3, .int a3), (4, .int a4), (5, .int a5), (6, .int a6)]) hx hb d_SpectrumDeskModel_data_114 hl (by decide) rfl (fun ls hl => ?_)
                    refine lv_iload hx hb d_SpectrumDeskModel_data_116 (lv_at hl 0 rfl) ?_
                    refine lv_if_eq hx hb d_SpectrumDeskModel_data_118 rfl (fun hf => ?_) (fun hf => ?_)
                    · exact absurd hf (by decide)
                    · refine lv_aload_n hx hb d_SpectrumDeskModel_data_121 rfl (lv_at hl 3 rfl) ?_
                      refine xr_get X I fin_M 183 (by decide) (r183 ..) rfl 7 (by decide) (List.mem_cons_of_mem _ k_5ae17e30db) rfl rfl d_SpectrumDeskModel_data_122 ?_
                      refine lv_bipush (v := nI 6) hx hb d_SpectrumDeskModel_data_125 (by decide) ?_
                      refine lv_aload_n hx hb d_SpectrumDeskModel_data_127 rfl (lv_at hl 3 rfl) ?_
                      refine xr_get X I fin_M 183 (by decide) (r183 ..) rfl 8 (by decide) (List.mem_cons_of_mem _ k_cd82b0b714) rfl rfl d_SpectrumDeskModel_data_128 ?_
                      refine lv_imul hx hb d_SpectrumDeskModel_data_131 (xr_topi (y := nI (6 * rw)) (pk_mul 6 rw) ?_)
                      refine lv_iload hx hb d_SpectrumDeskModel_data_132 (lv_at hl 2 rfl) ?_
                      refine lv_iadd hx hb d_SpectrumDeskModel_data_134 (xr_topi (y := nI ((6 * rw) + k)) (nI_add (6 * rw) k) ?_)
                      refine lv_iload hx hb d_SpectrumDeskModel_data_135 (lv_at hl 1 rfl) ?_
                      refine xr_iast X I 189 0 (by decide) ((r_o (by decide)).trans e1) rfl (by omega) (by decide) d_SpectrumDeskModel_data_137 (fun H locs I => ?_)
                      rw [rw3_o (by decide)] at I
                      refine lv_iinc (k := 2) (v := nI (k + 1)) (lv' := [(8, .int (nI (k + 1))), (7, .int (nI 1)), (9, .int ((v6 a1 a2 a3 a4 a5 a6) k)), (0, .ref (ad 183)), (1, .int a1), (2, .int a2), (3, .int a3), (4, .int a4), (5, .int a5), (6, .int a6)]) hx hb d_SpectrumDeskModel_data_138 hl rfl (nI_1 k) (by decide) rfl (fun ls hl => ?_)
                      refine lv_goto hx hb d_SpectrumDeskModel_data_141 rfl ?_
                      have hl := lv_sub hl [0, 1, 3, 4, 5, 6, 7, 8, 9] rfl
                      have hl : lv_has ls 10 [(8, .int (nI (k + 1))), (7, .int (nI 1)), (0, .ref (ad 183)), (1, .int a1), (2, .int a2), (3, .int a3), (4, .int a4), (5, .int a5), (6, .int a6)] := hl
                      refine ih (k + 1) _ _ ls H locs hr9 (by omega) (va_up_self _ _ _) (fun q hq => (va_up_ne _ _ hq).trans (e2 q hq)) (fun q hq => (upd_n (by omega)).trans (e3 q hq)) (fun q hq => ?_) (fun q hq => ?_) hl I
                      · rcases Nat.lt_or_ge q k with h | h
                        · exact hall q h
                        · obtain rfl : q = k := by omega
                          exact ⟨hg, hh⟩
                      · rcases Nat.lt_or_ge q k with h | h
                        · rw [upd_n (by omega)]; exact hall2 q h
                        · obtain rfl : q = k := by omega
                          exact upd_s
          · have q1 : k = 1 := (nI_eq (by omega) (by decide)).mp hc
            refine lv_iload_n hx hb d_SpectrumDeskModel_data_48 rfl (lv_at hl 4 rfl) ?_
            refine lv_goto hx hb d_SpectrumDeskModel_data_49 rfl ?_
            refine xr_topi (y := (v6 a1 a2 a3 a4 a5 a6) k) (by simp [v6, q1]) ?_
            refine lv_istore (lv' := [(9, .int ((v6 a1 a2 a3 a4 a5 a6) k)), (8, .int (nI k)), (7, .int (nI 1)), (0, .ref (ad 183)), (1, .int a1), (2, .int a2), (3, .int a3), (4, .int a4), (5, .int a5), (6, .int a6)]) hx hb d_SpectrumDeskModel_data_86 hl (by decide) rfl (fun ls hl => ?_)
            refine lv_iload hx hb d_SpectrumDeskModel_data_88 (lv_at hl 2 rfl) ?_
            refine lv_if_eq hx hb d_SpectrumDeskModel_data_90 rfl (fun hd => ?_) (fun hd => ?_)
            · exact absurd hd (by decide)
            · refine lv_iload hx hb d_SpectrumDeskModel_data_93 (lv_at hl 0 rfl) ?_
              refine lv_sipush (v := (-1000)) hx hb d_SpectrumDeskModel_data_95 (by decide) ?_
              refine lv_icmp_lt hx hb d_SpectrumDeskModel_data_98 rfl (fun hg => ?_) (fun hg => ?_)
              · have hbad : ¬ (rw < 100 ∧ ∀ k, k < n → in1000 ((v6 a1 a2 a3 a4 a5 a6) k)) := fun h => (h.2 k (by omega)).1 hg
                refine lv_iconst (v := nI 0) hx hb d_SpectrumDeskModel_data_113 (by decide) ?_
                refine lv_istore (lv' := [(7, .int (nI 0)), (9, .int ((v6 a1 a2 a3 a4 a5 a6) k)), (8, .int (nI k)), (0, .ref (ad 183)), (1, .int a1), (2, .int a2), (3, .int a3), (4, .int a4), (5, .int a5), (6, .int a6)]) hx hb d_SpectrumDeskModel_data_114 hl (by decide) rfl (fun ls hl => ?_)
                refine lv_iload hx hb d_SpectrumDeskModel_data_116 (lv_at hl 0 rfl) ?_
                refine lv_if_eq hx hb d_SpectrumDeskModel_data_118 rfl (fun hf => ?_) (fun hf => ?_)
                · refine lv_iinc (k := 2) (v := nI (k + 1)) (lv' := [(8, .int (nI (k + 1))), (7, .int (nI 0)), (9, .int ((v6 a1 a2 a3 a4 a5 a6) k)), (0, .ref (ad 183)), (1, .int a1), (2, .int a2), (3, .int a3), (4, .int a4), (5, .int a5), (6, .int a6)]) hx hb d_SpectrumDeskModel_data_138 hl rfl (nI_1 k) (by decide) rfl (fun ls hl => ?_)
                  refine lv_goto hx hb d_SpectrumDeskModel_data_141 rfl ?_
                  have hl := lv_sub hl [0, 1, 3, 4, 5, 6, 7, 8, 9] rfl
                  have hl : lv_has ls 10 [(8, .int (nI (k + 1))), (7, .int (nI 0)), (0, .ref (ad 183)), (1, .int a1), (2, .int a2), (3, .int a3), (4, .int a4), (5, .int a5), (6, .int a6)] := hl
                  exact bad j (k + 1) s2 D2 ls H locs (by omega) e1 e2 e3 hbad hl I
                · exact absurd rfl hf
              · refine lv_iload hx hb d_SpectrumDeskModel_data_101 (lv_at hl 0 rfl) ?_
                refine lv_sipush (v := nI 1000) hx hb d_SpectrumDeskModel_data_103 (by decide) ?_
                refine lv_icmp_gt hx hb d_SpectrumDeskModel_data_106 rfl (fun hh => ?_) (fun hh => ?_)
                · have hbad : ¬ (rw < 100 ∧ ∀ k, k < n → in1000 ((v6 a1 a2 a3 a4 a5 a6) k)) := fun h => (h.2 k (by omega)).2 hh
                  refine lv_iconst (v := nI 0) hx hb d_SpectrumDeskModel_data_113 (by decide) ?_
                  refine lv_istore (lv' := [(7, .int (nI 0)), (9, .int ((v6 a1 a2 a3 a4 a5 a6) k)), (8, .int (nI k)), (0, .ref (ad 183)), (1, .int a1), (2, .int a2), (3, .int a3), (4, .int a4), (5, .int a5), (6, .int a6)]) hx hb d_SpectrumDeskModel_data_114 hl (by decide) rfl (fun ls hl => ?_)
                  refine lv_iload hx hb d_SpectrumDeskModel_data_116 (lv_at hl 0 rfl) ?_
                  refine lv_if_eq hx hb d_SpectrumDeskModel_data_118 rfl (fun hf => ?_) (fun hf => ?_)
                  · refine lv_iinc (k := 2) (v := nI (k + 1)) (lv' := [(8, .int (nI (k + 1))), (7, .int (nI 0)), (9, .int ((v6 a1 a2 a3 a4 a5 a6) k)), (0, .ref (ad 183)), (1, .int a1), (2, .int a2), (3, .int a3), (4, .int a4), (5, .int a5), (6, .int a6)]) hx hb d_SpectrumDeskModel_data_138 hl rfl (nI_1 k) (by decide) rfl (fun ls hl => ?_)
                    refine lv_goto hx hb d_SpectrumDeskModel_data_141 rfl ?_
                    have hl := lv_sub hl [0, 1, 3, 4, 5, 6, 7, 8, 9] rfl
                    have hl : lv_has ls 10 [(8, .int (nI (k + 1))), (7, .int (nI 0)), (0, .ref (ad 183)), (1, .int a1), (2, .int a2), (3, .int a3), (4, .int a4), (5, .int a5), (6, .int a6)] := hl
                    exact bad j (k + 1) s2 D2 ls H locs (by omega) e1 e2 e3 hbad hl I
                  · exact absurd rfl hf
                · refine lv_iconst (v := nI 1) hx hb d_SpectrumDeskModel_data_109 (by decide) ?_
                  refine lv_goto hx hb d_SpectrumDeskModel_data_110 rfl ?_
                  refine lv_istore (lv' := [(7, .int (nI 1)), (9, .int ((v6 a1 a2 a3 a4 a5 a6) k)), (8, .int (nI k)), (0, .ref (ad 183)), (1, .int a1), (2, .int a2), (3, .int a3), (4, .int a4), (5, .int a5), (6, .int a6)]) hx hb d_SpectrumDeskModel_data_114 hl (by decide) rfl (fun ls hl => ?_)
                  refine lv_iload hx hb d_SpectrumDeskModel_data_116 (lv_at hl 0 rfl) ?_
                  refine lv_if_eq hx hb d_SpectrumDeskModel_data_118 rfl (fun hf => ?_) (fun hf => ?_)
                  · exact absurd hf (by decide)
                  · refine lv_aload_n hx hb d_SpectrumDeskModel_data_121 rfl (lv_at hl 3 rfl) ?_
                    refine xr_get X I fin_M 183 (by decide) (r183 ..) rfl 7 (by decide) (List.mem_cons_of_mem _ k_5ae17e30db) rfl rfl d_SpectrumDeskModel_data_122 ?_
                    refine lv_bipush (v := nI 6) hx hb d_SpectrumDeskModel_data_125 (by decide) ?_
                    refine lv_aload_n hx hb d_SpectrumDeskModel_data_127 rfl (lv_at hl 3 rfl) ?_
                    refine xr_get X I fin_M 183 (by decide) (r183 ..) rfl 8 (by decide) (List.mem_cons_of_mem _ k_cd82b0b714) rfl rfl d_SpectrumDeskModel_data_128 ?_
                    refine lv_imul hx hb d_SpectrumDeskModel_data_131 (xr_topi (y := nI (6 * rw)) (pk_mul 6 rw) ?_)
                    refine lv_iload hx hb d_SpectrumDeskModel_data_132 (lv_at hl 2 rfl) ?_
                    refine lv_iadd hx hb d_SpectrumDeskModel_data_134 (xr_topi (y := nI ((6 * rw) + k)) (nI_add (6 * rw) k) ?_)
                    refine lv_iload hx hb d_SpectrumDeskModel_data_135 (lv_at hl 1 rfl) ?_
                    refine xr_iast X I 189 0 (by decide) ((r_o (by decide)).trans e1) rfl (by omega) (by decide) d_SpectrumDeskModel_data_137 (fun H locs I => ?_)
                    rw [rw3_o (by decide)] at I
                    refine lv_iinc (k := 2) (v := nI (k + 1)) (lv' := [(8, .int (nI (k + 1))), (7, .int (nI 1)), (9, .int ((v6 a1 a2 a3 a4 a5 a6) k)), (0, .ref (ad 183)), (1, .int a1), (2, .int a2), (3, .int a3), (4, .int a4), (5, .int a5), (6, .int a6)]) hx hb d_SpectrumDeskModel_data_138 hl rfl (nI_1 k) (by decide) rfl (fun ls hl => ?_)
                    refine lv_goto hx hb d_SpectrumDeskModel_data_141 rfl ?_
                    have hl := lv_sub hl [0, 1, 3, 4, 5, 6, 7, 8, 9] rfl
                    have hl : lv_has ls 10 [(8, .int (nI (k + 1))), (7, .int (nI 1)), (0, .ref (ad 183)), (1, .int a1), (2, .int a2), (3, .int a3), (4, .int a4), (5, .int a5), (6, .int a6)] := hl
                    refine ih (k + 1) _ _ ls H locs hr9 (by omega) (va_up_self _ _ _) (fun q hq => (va_up_ne _ _ hq).trans (e2 q hq)) (fun q hq => (upd_n (by omega)).trans (e3 q hq)) (fun q hq => ?_) (fun q hq => ?_) hl I
                    · rcases Nat.lt_or_ge q k with h | h
                      · exact hall q h
                      · obtain rfl : q = k := by omega
                        exact ⟨hg, hh⟩
                    · rcases Nat.lt_or_ge q k with h | h
                      · rw [upd_n (by omega)]; exact hall2 q h
                      · obtain rfl : q = k := by omega
                        exact upd_s
        · have q0 : k = 0 := (nI_eq (b := 0) (by omega) (by decide)).mp hc
          refine lv_iload_n hx hb d_SpectrumDeskModel_data_38 rfl (lv_at hl 3 rfl) ?_
          refine lv_goto hx hb d_SpectrumDeskModel_data_39 rfl ?_
          refine xr_topi (y := (v6 a1 a2 a3 a4 a5 a6) k) (by simp [v6, q0]) ?_
          refine lv_istore (lv' := [(9, .int ((v6 a1 a2 a3 a4 a5 a6) k)), (8, .int (nI k)), (7, .int (nI 1)), (0, .ref (ad 183)), (1, .int a1), (2, .int a2), (3, .int a3), (4, .int a4), (5, .int a5), (6, .int a6)]) hx hb d_SpectrumDeskModel_data_86 hl (by decide) rfl (fun ls hl => ?_)
          refine lv_iload hx hb d_SpectrumDeskModel_data_88 (lv_at hl 2 rfl) ?_
          refine lv_if_eq hx hb d_SpectrumDeskModel_data_90 rfl (fun hd => ?_) (fun hd => ?_)
          · exact absurd hd (by decide)
          · refine lv_iload hx hb d_SpectrumDeskModel_data_93 (lv_at hl 0 rfl) ?_
            refine lv_sipush (v := (-1000)) hx hb d_SpectrumDeskModel_data_95 (by decide) ?_
            refine lv_icmp_lt hx hb d_SpectrumDeskModel_data_98 rfl (fun hg => ?_) (fun hg => ?_)
            · have hbad : ¬ (rw < 100 ∧ ∀ k, k < n → in1000 ((v6 a1 a2 a3 a4 a5 a6) k)) := fun h => (h.2 k (by omega)).1 hg
              refine lv_iconst (v := nI 0) hx hb d_SpectrumDeskModel_data_113 (by decide) ?_
              refine lv_istore (lv' := [(7, .int (nI 0)), (9, .int ((v6 a1 a2 a3 a4 a5 a6) k)), (8, .int (nI k)), (0, .ref (ad 183)), (1, .int a1), (2, .int a2), (3, .int a3), (4, .int a4), (5, .int a5), (6, .int a6)]) hx hb d_SpectrumDeskModel_data_114 hl (by decide) rfl (fun ls hl => ?_)
              refine lv_iload hx hb d_SpectrumDeskModel_data_116 (lv_at hl 0 rfl) ?_
              refine lv_if_eq hx hb d_SpectrumDeskModel_data_118 rfl (fun hf => ?_) (fun hf => ?_)
              · refine lv_iinc (k := 2) (v := nI (k + 1)) (lv' := [(8, .int (nI (k + 1))), (7, .int (nI 0)), (9, .int ((v6 a1 a2 a3 a4 a5 a6) k)), (0, .ref (ad 183)), (1, .int a1), (2, .int a2), (3, .int a3), (4, .int a4), (5, .int a5), (6, .int a6)]) hx hb d_SpectrumDeskModel_data_138 hl rfl (nI_1 k) (by decide) rfl (fun ls hl => ?_)
                refine lv_goto hx hb d_SpectrumDeskModel_data_141 rfl ?_
                have hl := lv_sub hl [0, 1, 3, 4, 5, 6, 7, 8, 9] rfl
                have hl : lv_has ls 10 [(8, .int (nI (k + 1))), (7, .int (nI 0)), (0, .ref (ad 183)), (1, .int a1), (2, .int a2), (3, .int a3), (4, .int a4), (5, .int a5), (6, .int a6)] := hl
                exact bad j (k + 1) s2 D2 ls H locs (by omega) e1 e2 e3 hbad hl I
              · exact absurd rfl hf
            · refine lv_iload hx hb d_SpectrumDeskModel_data_101 (lv_at hl 0 rfl) ?_
              refine lv_sipush (v := nI 1000) hx hb d_SpectrumDeskModel_data_103 (by decide) ?_
              refine lv_icmp_gt hx hb d_SpectrumDeskModel_data_106 rfl (fun hh => ?_) (fun hh => ?_)
              · have hbad : ¬ (rw < 100 ∧ ∀ k, k < n → in1000 ((v6 a1 a2 a3 a4 a5 a6) k)) := fun h => (h.2 k (by omega)).2 hh
                refine lv_iconst (v := nI 0) hx hb d_SpectrumDeskModel_data_113 (by decide) ?_
                refine lv_istore (lv' := [(7, .int (nI 0)), (9, .int ((v6 a1 a2 a3 a4 a5 a6) k)), (8, .int (nI k)), (0, .ref (ad 183)), (1, .int a1), (2, .int a2), (3, .int a3), (4, .int a4), (5, .int a5), (6, .int a6)]) hx hb d_SpectrumDeskModel_data_114 hl (by decide) rfl (fun ls hl => ?_)
                refine lv_iload hx hb d_SpectrumDeskModel_data_116 (lv_at hl 0 rfl) ?_
                refine lv_if_eq hx hb d_SpectrumDeskModel_data_118 rfl (fun hf => ?_) (fun hf => ?_)
                · refine lv_iinc (k := 2) (v := nI (k + 1)) (lv' := [(8, .int (nI (k + 1))), (7, .int (nI 0)), (9, .int ((v6 a1 a2 a3 a4 a5 a6) k)), (0, .ref (ad 183)), (1, .int a1), (2, .int a2), (3, .int a3), (4, .int a4), (5, .int a5), (6, .int a6)]) hx hb d_SpectrumDeskModel_data_138 hl rfl (nI_1 k) (by decide) rfl (fun ls hl => ?_)
                  refine lv_goto hx hb d_SpectrumDeskModel_data_141 rfl ?_
                  have hl := lv_sub hl [0, 1, 3, 4, 5, 6, 7, 8, 9] rfl
                  have hl : lv_has ls 10 [(8, .int (nI (k + 1))), (7, .int (nI 0)), (0, .ref (ad 183)), (1, .int a1), (2, .int a2), (3, .int a3), (4, .int a4), (5, .int a5), (6, .int a6)] := hl
                  exact bad j (k + 1) s2 D2 ls H locs (by omega) e1 e2 e3 hbad hl I
                · exact absurd rfl hf
              · refine lv_iconst (v := nI 1) hx hb d_SpectrumDeskModel_data_109 (by decide) ?_
                refine lv_goto hx hb d_SpectrumDeskModel_data_110 rfl ?_
                refine lv_istore (lv' := [(7, .int (nI 1)), (9, .int ((v6 a1 a2 a3 a4 a5 a6) k)), (8, .int (nI k)), (0, .ref (ad 183)), (1, .int a1), (2, .int a2), (3, .int a3), (4, .int a4), (5, .int a5), (6, .int a6)]) hx hb d_SpectrumDeskModel_data_114 hl (by decide) rfl (fun ls hl => ?_)
                refine lv_iload hx hb d_SpectrumDeskModel_data_116 (lv_at hl 0 rfl) ?_
                refine lv_if_eq hx hb d_SpectrumDeskModel_data_118 rfl (fun hf => ?_) (fun hf => ?_)
                · exact absurd hf (by decide)
                · refine lv_aload_n hx hb d_SpectrumDeskModel_data_121 rfl (lv_at hl 3 rfl) ?_
                  refine xr_get X I fin_M 183 (by decide) (r183 ..) rfl 7 (by decide) (List.mem_cons_of_mem _ k_5ae17e30db) rfl rfl d_SpectrumDeskModel_data_122 ?_
                  refine lv_bipush (v := nI 6) hx hb d_SpectrumDeskModel_data_125 (by decide) ?_
                  refine lv_aload_n hx hb d_SpectrumDeskModel_data_127 rfl (lv_at hl 3 rfl) ?_
                  refine xr_get X I fin_M 183 (by decide) (r183 ..) rfl 8 (by decide) (List.mem_cons_of_mem _ k_cd82b0b714) rfl rfl d_SpectrumDeskModel_data_128 ?_
                  refine lv_imul hx hb d_SpectrumDeskModel_data_131 (xr_topi (y := nI (6 * rw)) (pk_mul 6 rw) ?_)
                  refine lv_iload hx hb d_SpectrumDeskModel_data_132 (lv_at hl 2 rfl) ?_
                  refine lv_iadd hx hb d_SpectrumDeskModel_data_134 (xr_topi (y := nI ((6 * rw) + k)) (nI_add (6 * rw) k) ?_)
                  refine lv_iload hx hb d_SpectrumDeskModel_data_135 (lv_at hl 1 rfl) ?_
                  refine xr_iast X I 189 0 (by decide) ((r_o (by decide)).trans e1) rfl (by omega) (by decide) d_SpectrumDeskModel_data_137 (fun H locs I => ?_)
                  rw [rw3_o (by decide)] at I
                  refine lv_iinc (k := 2) (v := nI (k + 1)) (lv' := [(8, .int (nI (k + 1))), (7, .int (nI 1)), (9, .int ((v6 a1 a2 a3 a4 a5 a6) k)), (0, .ref (ad 183)), (1, .int a1), (2, .int a2), (3, .int a3), (4, .int a4), (5, .int a5), (6, .int a6)]) hx hb d_SpectrumDeskModel_data_138 hl rfl (nI_1 k) (by decide) rfl (fun ls hl => ?_)
                  refine lv_goto hx hb d_SpectrumDeskModel_data_141 rfl ?_
                  have hl := lv_sub hl [0, 1, 3, 4, 5, 6, 7, 8, 9] rfl
                  have hl : lv_has ls 10 [(8, .int (nI (k + 1))), (7, .int (nI 1)), (0, .ref (ad 183)), (1, .int a1), (2, .int a2), (3, .int a3), (4, .int a4), (5, .int a5), (6, .int a6)] := hl
                  refine ih (k + 1) _ _ ls H locs hr9 (by omega) (va_up_self _ _ _) (fun q hq => (va_up_ne _ _ hq).trans (e2 q hq)) (fun q hq => (upd_n (by omega)).trans (e3 q hq)) (fun q hq => ?_) (fun q hq => ?_) hl I
                  · rcases Nat.lt_or_ge q k with h | h
                    · exact hall q h
                    · obtain rfl : q = k := by omega
                      exact ⟨hg, hh⟩
                  · rcases Nat.lt_or_ge q k with h | h
                    · rw [upd_n (by omega)]; exact hall2 q h
                    · obtain rfl : q = k := by omega
                      exact upd_s
  refine lv_icmp_ge hx hb d_SpectrumDeskModel_data_11 rfl (fun hc => ?_) (fun hc => ?_)
  · have hbad : ¬ (rw < 100 ∧ ∀ k, k < n → in1000 ((v6 a1 a2 a3 a4 a5 a6) k)) := fun h => absurd (nI_lt h.1 (by decide)) (Int32.not_lt.mpr hc)
    refine lv_iconst (v := nI 0) hx hb d_SpectrumDeskModel_data_18 (by decide) ?_
    refine lv_istore (lv' := [(7, .int (nI 0)), (0, .ref (ad 183)), (1, .int a1), (2, .int a2), (3, .int a3), (4, .int a4), (5, .int a5), (6, .int a6)]) hx hb d_SpectrumDeskModel_data_19 hl (by decide) rfl (fun ls hl => ?_)
    refine lv_iconst (v := nI 0) hx hb d_SpectrumDeskModel_data_21 (by decide) ?_
    refine lv_istore (lv' := [(8, .int (nI 0)), (7, .int (nI 0)), (0, .ref (ad 183)), (1, .int a1), (2, .int a2), (3, .int a3), (4, .int a4), (5, .int a5), (6, .int a6)]) hx hb d_SpectrumDeskModel_data_22 hl (by decide) rfl (fun ls hl => ?_)
    exact bad n 0 s0 Dt ls _ _ (by omega) h189 (fun _ _ => rfl) (fun _ _ => rfl) hbad hl I
  · have hr9 : rw < 100 := by rcases Nat.lt_or_ge rw 100 with h | h; exact h; exact absurd (nI_le h (by omega)) hc
    refine lv_iconst (v := nI 1) hx hb d_SpectrumDeskModel_data_14 (by decide) ?_
    refine lv_goto hx hb d_SpectrumDeskModel_data_15 rfl ?_
    refine lv_istore (lv' := [(7, .int (nI 1)), (0, .ref (ad 183)), (1, .int a1), (2, .int a2), (3, .int a3), (4, .int a4), (5, .int a5), (6, .int a6)]) hx hb d_SpectrumDeskModel_data_19 hl (by decide) rfl (fun ls hl => ?_)
    refine lv_iconst (v := nI 0) hx hb d_SpectrumDeskModel_data_21 (by decide) ?_
    refine lv_istore (lv' := [(8, .int (nI 0)), (7, .int (nI 1)), (0, .ref (ad 183)), (1, .int a1), (2, .int a2), (3, .int a3), (4, .int a4), (5, .int a5), (6, .int a6)]) hx hb d_SpectrumDeskModel_data_22 hl (by decide) rfl (fun ls hl => ?_)
    exact good n 0 s0 Dt ls _ _ hr9 (by omega) h189 (fun _ _ => rfl) (fun _ _ => rfl) (fun q hq => absurd hq (Nat.not_lt_zero _)) (fun q hq => absurd hq (Nat.not_lt_zero _)) hl I
set_option maxHeartbeats 4000000 in
set_option maxRecDepth 100000 in
theorem c_SpectrumDeskModel_characteristic_bad {l : Launch} {D : va_G} {cI cJ cZ cC cG cP : ClassId} {ad : Nat → Nat} {σ σb : Nat → va_E} {th : Int32} {n : Nat} {A9 : Nat → Int32} {rw : Nat} {Dt : Nat → Int32} {ps : Nat} {Pr : Nat → Int32} (hS : mS ad cI cZ σb th n A9 rw Dt ps Pr σ) {k9 : Int32} (h1 : k9 < 0 ∨ nI n < k9) :
    Met l y_SpectrumDeskModel_characteristic v_SpectrumDeskModel_characteristic (xrm 0) (va_Pc [.ref (ad 183), .int k9] (xS D classes (xT cI cJ cZ cC cG cP) 193 ad σ)) (va_Qi (fun r σ2 => r = -1 ∧ mS ad cI cZ σb (nI 0) n A9 rw Dt ps Pr σ2) (xS D classes (xT cI cJ cZ cC cG cP) 193 ad) (xA 193 ad)) 0 0 (xA 193 ad) := by
  obtain ⟨s0, G, Dg, P, L, M, Z, le, eq, rfl, h187, h188, h189, h190, h191, hfb, hB⟩ := hS
  refine xr_met rfl (Nat.le_of_ble_eq_true rfl) ?_
  intro p e s m args below meth c ls hx hb X hr hlk hl I
  have hl : lv_has ls 4 [(0, .ref (ad 183)), (1, .int k9)] := hl
  refine lv_aload_n hx hb d_SpectrumDeskModel_characteristic_0 rfl (lv_at hl 0 rfl) ?_
  refine lv_iconst (v := nI 0) hx hb d_SpectrumDeskModel_characteristic_1 (by decide) ?_
  refine xr_put (ty := .int) X I fin_M t_M t_M_ok n_M 183 (by decide) (r183 ..) rfl 4 (by decide) (List.mem_cons_of_mem _ k_90bbbe5d04) rfl rfl (by decide +kernel) rfl rfl (Nat.le_of_ble_eq_true rfl) d_SpectrumDeskModel_characteristic_2 (fun H locs I => ?_)
  rw [rw3_F] at I
  have I : xI D classes 193 ad s.heap (rw3 s0 ciM cI cZ (mfs ad (nI 0) (nI n) (nI rw) (nI ps) le eq) P L M) H locs := I
  refine lv_iload_n hx hb d_SpectrumDeskModel_characteristic_5 rfl (lv_at hl 1 rfl) ?_
  refine lv_if_lt hx hb d_SpectrumDeskModel_characteristic_6 rfl (fun hc => ?_) (fun hc => ?_)
  · refine lv_iconst (v := (-1)) hx hb d_SpectrumDeskModel_characteristic_17 (by decide) ?_
    exact xr_iret X I hr hlk ⟨rfl, ⟨s0, G, Dg, P, L, M, Z, le, eq, rfl, h187, h188, h189, h190, h191, hfb, hB⟩⟩ d_SpectrumDeskModel_characteristic_18
  · refine lv_iload_n hx hb d_SpectrumDeskModel_characteristic_9 rfl (lv_at hl 1 rfl) ?_
    refine lv_aload_n hx hb d_SpectrumDeskModel_characteristic_10 rfl (lv_at hl 0 rfl) ?_
    refine xr_get X I fin_M 183 (by decide) (r183 ..) rfl 5 (by decide) (List.mem_cons_of_mem _ k_b1a46e2c09) rfl rfl d_SpectrumDeskModel_characteristic_11 ?_
    refine lv_icmp_le hx hb d_SpectrumDeskModel_characteristic_14 rfl (fun hd => ?_) (fun hd => ?_)
    · exact absurd h1 (fun h => h.elim hc (fun h => q_le_lt hd h))
    · refine lv_iconst (v := (-1)) hx hb d_SpectrumDeskModel_characteristic_17 (by decide) ?_
      exact xr_iret X I hr hlk ⟨rfl, ⟨s0, G, Dg, P, L, M, Z, le, eq, rfl, h187, h188, h189, h190, h191, hfb, hB⟩⟩ d_SpectrumDeskModel_characteristic_18
set_option maxHeartbeats 4000000 in
set_option maxRecDepth 100000 in
theorem c_SpectrumDeskModel_characteristic_ok {l : Launch} {D : va_G} {cI cJ cZ cC cG cP : ClassId} {ad : Nat → Nat} {σ σb : Nat → va_E} {th : Int32} {n : Nat} {A9 : Nat → Int32} {rw : Nat} {Dt : Nat → Int32} {ps : Nat} {Pr : Nat → Int32} (hS : mS ad cI cZ σb th n A9 rw Dt ps Pr σ) {k9 : Nat} {pp : Nat → Int} (hpp : (chF (fun i j => (A9 (6 * i + j)).toInt) n (2 ^ n)) = pp) (h3 : n ≤ 6) (hAb : ∀ i j, i < 6 → j < 6 → bd 1000000 ((A9 (6 * i + j)).toInt)) (h1 : k9 ≤ n) :
    Met l y_SpectrumDeskModel_characteristic v_SpectrumDeskModel_characteristic (xrm 5) (va_Pc [.ref (ad 183), .int (nI k9)] (xS D classes (xT cI cJ cZ cC cG cP) 193 ad σ)) (va_Qi (fun r σ2 => ∃ (n9 : Nat) (Q' : Nat → Int32), dl (pp k9).natAbs n9 ∧ (pp k9 < 0 → Q' 0 = nI 45) ∧ (∀ j, j < n9 → Q' ((if pp k9 < 0 then 1 else 0) + j) = nI (48 + (pp k9).natAbs / 10 ^ (n9 - 1 - j) % 10)) ∧ r = nI ((if pp k9 < 0 then 1 else 0) + n9) ∧ mS ad cI cZ σb (nI 0) n A9 rw Dt (((if pp k9 < 0 then 1 else 0) + n9)) Q' σ2) (xS D classes (xT cI cJ cZ cC cG cP) 193 ad) (xA 193 ad)) 0 0 (xA 193 ad) := by
  obtain ⟨s0, G, Dg, P, L, M, Z, le, eq, rfl, h187, h188, h189, h190, h191, hfb, hB⟩ := hS
  refine xr_met rfl (Nat.le_of_ble_eq_true rfl) ?_
  intro p e s m args below meth c ls hx hb X hr hlk hl I
  have hl : lv_has ls 4 [(0, .ref (ad 183)), (1, .int (nI k9))] := hl
  have p6 : 2 ^ n ≤ 64 := Nat.pow_le_pow_right (by decide) h3 (n := 2)
  have hv : (pp k9).natAbs < 10 ^ 50 := by have h := chF_sm (k := n) (e := k9) hAb p6; rw [hpp] at h; exact dl_50 h
  refine lv_aload_n hx hb d_SpectrumDeskModel_characteristic_0 rfl (lv_at hl 0 rfl) ?_
  refine lv_iconst (v := nI 0) hx hb d_SpectrumDeskModel_characteristic_1 (by decide) ?_
  refine xr_put (ty := .int) X I fin_M t_M t_M_ok n_M 183 (by decide) (r183 ..) rfl 4 (by decide) (List.mem_cons_of_mem _ k_90bbbe5d04) rfl rfl (by decide +kernel) rfl rfl (Nat.le_of_ble_eq_true rfl) d_SpectrumDeskModel_characteristic_2 (fun H locs I => ?_)
  rw [rw3_F] at I
  have I : xI D classes 193 ad s.heap (rw3 s0 ciM cI cZ (mfs ad (nI 0) (nI n) (nI rw) (nI ps) le eq) P L M) H locs := I
  refine lv_iload_n hx hb d_SpectrumDeskModel_characteristic_5 rfl (lv_at hl 1 rfl) ?_
  refine lv_if_lt hx hb d_SpectrumDeskModel_characteristic_6 rfl (fun hc => ?_) (fun hc => ?_)
  · exact absurd hc (nI_pos (by omega))
  · refine lv_iload_n hx hb d_SpectrumDeskModel_characteristic_9 rfl (lv_at hl 1 rfl) ?_
    refine lv_aload_n hx hb d_SpectrumDeskModel_characteristic_10 rfl (lv_at hl 0 rfl) ?_
    refine xr_get X I fin_M 183 (by decide) (r183 ..) rfl 5 (by decide) (List.mem_cons_of_mem _ k_b1a46e2c09) rfl rfl d_SpectrumDeskModel_characteristic_11 ?_
    refine lv_icmp_le hx hb d_SpectrumDeskModel_characteristic_14 rfl (fun hc => ?_) (fun hc => ?_)
    · refine lv_aload_n hx hb d_SpectrumDeskModel_characteristic_19 rfl (lv_at hl 0 rfl) ?_
      refine lv_aload_n hx hb d_SpectrumDeskModel_characteristic_20 rfl (lv_at hl 0 rfl) ?_
      refine xr_get X I fin_M 183 (by decide) (r183 ..) rfl 5 (by decide) (List.mem_cons_of_mem _ k_b1a46e2c09) rfl rfl d_SpectrumDeskModel_characteristic_21 ?_
      refine lv_iconst (v := nI 0) hx hb d_SpectrumDeskModel_characteristic_24 (by decide) ?_
      refine xr_callv (xr_runV (kc := 4) (kr := 5) (n := 2) (As := [.int (nI n), .int (nI 0)]) (rest := []) X I (by decide) (r183 ..) rfl (c_SpectrumDeskModel_characterize (k9 := n) h187 hB h3 h188 hAb) (xg k_65cc42cfc5) (List.mem_cons_of_mem _ k_b1bcd2b30f) (List.mem_cons_of_mem _ k_fa61ed523e) (List.mem_cons_of_mem _ k_f9f61292df) (List.mem_cons_of_mem _ k_30fa15c9ac) (by decide +kernel) (by decide) rfl hl.1 rfl (Nat.le_of_ble_eq_true rfl) d_SpectrumDeskModel_characteristic_25) I (fun σ9 H locs hp I => ?_)
      obtain ⟨Pc, Lc, Mc, Zc, rfl, hBc, hZc, hZo⟩ := hp
      obtain ⟨s1, es1⟩ : ∃ s1, s1 = va_up s0 187 (.inl (cI, 5, .inl (upd G 0 (nI n)))) := ⟨_, rfl⟩
      rw [← es1] at I
      have g187 : s1 187 = .inl (cI, 5, .inl (upd G 0 (nI n))) := by rw [es1]; exact va_up_self _ _ _
      have gs1 : ∀ q, q ≠ 187 → s1 q = s0 q := fun q hq => by rw [es1]; exact va_up_ne _ _ hq
      clear es1
      have hx9 : Zc k9 = pp k9 := by rw [hZc k9 h1, hpp]
      have print : ∀ (n9 z9 : Nat) (Dg3 P3 L3 M3 : Nat → Int32) (X3 : Nat → Int) (i2 : RB P3 L3 M3 X3) (i6 : dl (pp k9).natAbs n9) (i9 : z9 = (if pp k9 < 0 then 1 else 0)) (ia : ∀ j, j < n9 → Dg3 j = nI ((pp k9).natAbs / 10 ^ j % 10)) (ib : n9 ≤ 60) (r9 : Nat) (s3 : Nat → va_E) (Q3 : Nat → Int32) (ls : Array Slot) (H : Heap) (locs : List Loc), r9 ≤ n9 → (s3 190 = .inl (cI, 400, .inl Q3)) → (s3 191 = .inl (cI, 400, .inl Dg3)) → (∀ q, q ≠ 190 → q ≠ 191 → s3 q = s1 q) → (pp k9 < 0 → Q3 0 = nI 45) → (∀ j, j < n9 - r9 → Q3 (z9 + j) = nI (48 + (pp k9).natAbs / 10 ^ (n9 - 1 - j) % 10)) → lv_has ls 4 [(3, .int (nP r9)), (2, .int (nI n9)), (0, .ref (ad 183)), (1, .int (nI k9))] → xI D classes 193 ad s.heap (rw3 s3 ciM cI cZ (mfs ad (nI 0) (nI n) (nI rw) (nI (z9 + (n9 - r9))) le eq) P3 L3 M3) H locs → W p l e (xrm 5) s m args below meth c H locs 0 0 (MQ below (va_Qi (fun r σ2 => ∃ (n9 : Nat) (Q' : Nat → Int32), dl (pp k9).natAbs n9 ∧ (pp k9 < 0 → Q' 0 = nI 45) ∧ (∀ j, j < n9 → Q' ((if pp k9 < 0 then 1 else 0) + j) = nI (48 + (pp k9).natAbs / 10 ^ (n9 - 1 - j) % 10)) ∧ r = nI ((if pp k9 < 0 then 1 else 0) + n9) ∧ mS ad cI cZ σb (nI 0) n A9 rw Dt (((if pp k9 < 0 then 1 else 0) + n9)) Q' σ2) (xS D classes (xT cI cJ cZ cC cG cP) 193 ad) (xA 193 ad)) args s 0 0 (xA 193 ad)) (F0 m 95 ls []) := by
        intro n9 z9 Dg3 P3 L3 M3 X3 i2 i6 i9 ia ib r9
        induction r9 with
        | zero =>
          intro s3 Q3 ls H locs hk i3 i4 i5 i7 i8 hl I
          refine lv_iload_n hx hb d_SpectrumDeskModel_characteristic_95 rfl (lv_at hl 0 rfl) ?_
          refine lv_if_lt hx hb d_SpectrumDeskModel_characteristic_96 rfl (fun hc => ?_) (fun hc => ?_)
          · refine lv_aload_n hx hb d_SpectrumDeskModel_characteristic_133 rfl (lv_at hl 2 rfl) ?_
            refine xr_get X I fin_M 183 (by decide) (r183 ..) rfl 10 (by decide) (List.mem_cons_of_mem _ k_8988dcbdf9) rfl rfl d_SpectrumDeskModel_characteristic_134 ?_
            exact xr_iret X I hr hlk ⟨n9, Q3, i6, i7, fun j hj => by rw [← i9]; exact i8 j (by omega), by rw [← i9, Nat.sub_zero], by rw [← i9]; exact ⟨s3, (upd G 0 (nI n)), Dg3, P3, L3, M3, X3, le, eq, rfl, ((i5 _ (by decide) (by decide)).trans g187), ((i5 _ (by decide) (by decide)).trans ((gs1 _ (by decide)).trans h188)), ((i5 _ (by decide) (by decide)).trans ((gs1 _ (by decide)).trans h189)), i3, i4, (fun q hq => (i5 q (by omega) (by omega)).trans ((gs1 q (by omega)).trans (hfb q hq))), i2⟩⟩ d_SpectrumDeskModel_characteristic_137
          · exact absurd nP_0 hc
        | succ r9 jh =>
          intro s3 Q3 ls H locs hk i3 i4 i5 i7 i8 hl I
          have iz : z9 ≤ 1 := by rw [i9]; split <;> decide
          refine lv_iload_n hx hb d_SpectrumDeskModel_characteristic_95 rfl (lv_at hl 0 rfl) ?_
          refine xr_topi (y := nI r9) (nP_succ r9) ?_
          refine lv_if_lt hx hb d_SpectrumDeskModel_characteristic_96 rfl (fun hc => ?_) (fun hc => ?_)
          · exact absurd hc (nI_pos (by omega))
          · refine lv_aload_n hx hb d_SpectrumDeskModel_characteristic_99 rfl (lv_at hl 2 rfl) ?_
            refine xr_get X I fin_M 183 (by decide) (r183 ..) rfl 9 (by decide) (List.mem_cons_of_mem _ k_dd379f4769) rfl rfl d_SpectrumDeskModel_characteristic_100 ?_
            refine lv_aload_n hx hb d_SpectrumDeskModel_characteristic_103 rfl (lv_at hl 2 rfl) ?_
            refine xr_get X I fin_M 183 (by decide) (r183 ..) rfl 10 (by decide) (List.mem_cons_of_mem _ k_8988dcbdf9) rfl rfl d_SpectrumDeskModel_characteristic_104 ?_
            refine lv_bipush (v := nI 48) hx hb d_SpectrumDeskModel_characteristic_107 (by decide) ?_
            refine lv_aload_n hx hb d_SpectrumDeskModel_characteristic_109 rfl (lv_at hl 2 rfl) ?_
            refine xr_get X I fin_M 183 (by decide) (r183 ..) rfl 11 (by decide) (List.mem_cons_of_mem _ k_ce250721c2) rfl rfl d_SpectrumDeskModel_characteristic_110 ?_
            refine lv_iload_n hx hb d_SpectrumDeskModel_characteristic_113 rfl (lv_at hl 0 rfl) ?_
            refine xr_topi (y := nI r9) (nP_succ r9) ?_
            refine xr_iald X I 191 0 (by decide) ((r_o (by decide)).trans i4) rfl (by omega) (by decide) d_SpectrumDeskModel_characteristic_114 ?_
            refine xr_topi (y := nI ((pp k9).natAbs / 10 ^ r9 % 10)) (ia r9 (by omega)) ?_
            refine lv_iadd hx hb d_SpectrumDeskModel_characteristic_115 (xr_topi (y := nI (48 + ((pp k9).natAbs / 10 ^ r9 % 10))) (nI_add 48 ((pp k9).natAbs / 10 ^ r9 % 10)) ?_)
            refine xr_iast X I 190 0 (by decide) ((r_o (by decide)).trans i3) rfl (by omega) (by decide) d_SpectrumDeskModel_characteristic_116 (fun H locs I => ?_)
            rw [rw3_o (by decide)] at I
            refine lv_aload_n hx hb d_SpectrumDeskModel_characteristic_117 rfl (lv_at hl 2 rfl) ?_
            refine lv_dup hx hb d_SpectrumDeskModel_characteristic_118 rfl ?_
            refine xr_get X I fin_M 183 (by decide) (r183 ..) rfl 10 (by decide) (List.mem_cons_of_mem _ k_8988dcbdf9) rfl rfl d_SpectrumDeskModel_characteristic_119 ?_
            refine lv_iconst (v := nI 1) hx hb d_SpectrumDeskModel_characteristic_122 (by decide) ?_
            refine lv_iadd hx hb d_SpectrumDeskModel_characteristic_123 (xr_topi (y := nI (z9 + (n9 - r9))) (by rw [nI_add]; congr 1; omega) ?_)
            refine xr_put (ty := .int) X I fin_M t_M t_M_ok n_M 183 (by decide) (r183 ..) rfl 10 (by decide) (List.mem_cons_of_mem _ k_8988dcbdf9) rfl rfl (by decide +kernel) rfl rfl (Nat.le_of_ble_eq_true rfl) d_SpectrumDeskModel_characteristic_124 (fun H locs I => ?_)
            rw [rw3_F] at I
            have I : xI D classes 193 ad s.heap (rw3 (va_up s3 190 (.inl (cI, 400, .inl (upd Q3 (z9 + (n9 - (r9 + 1))) (nI (48 + ((pp k9).natAbs / 10 ^ r9 % 10))))))) ciM cI cZ (mfs ad (nI 0) (nI n) (nI rw) (nI (z9 + (n9 - r9))) le eq) P3 L3 M3) H locs := I
            refine lv_iinc (k := 0) (v := nP r9) (lv' := [(3, .int (nP r9)), (2, .int (nI n9)), (0, .ref (ad 183)), (1, .int (nI k9))]) hx hb d_SpectrumDeskModel_characteristic_127 hl rfl (nP_dec r9) (by decide) rfl (fun ls hl => ?_)
            refine lv_goto hx hb d_SpectrumDeskModel_characteristic_130 rfl ?_
            refine jh _ (upd Q3 (z9 + (n9 - (r9 + 1))) (nI (48 + (pp k9).natAbs / 10 ^ r9 % 10))) ls H locs (by omega) (va_up_self _ _ _) ((va_up_ne _ _ (by decide)).trans i4) (fun q h1 h2 => (va_up_ne _ _ h1).trans (i5 q h1 h2)) (fun h => ?_) (fun j hj => ?_) hl I
            · rw [upd_n (by rw [i9, if_pos h]; omega)]; exact i7 h
            · by_cases h : j = n9 - (r9 + 1)
              · rw [h, upd_s, show n9 - 1 - (n9 - (r9 + 1)) = r9 by omega]
              · rw [upd_n (by omega)]; exact i8 j (by omega)
      have digs : ∀ (z9 : Nat) (QA : Nat → Int32) (hz9 : z9 = (if pp k9 < 0 then 1 else 0)) (hqa : pp k9 < 0 → QA 0 = nI 45) (f : Nat) (n9 : Nat) (s2 : Nat → va_E) (Dg2 P2 L2 M2 : Nat → Int32) (X2 : Nat → Int) (ls : Array Slot) (H : Heap) (locs : List Loc), n9 + f = 51 → RB P2 L2 M2 X2 → (s2 190 = .inl (cI, 400, .inl QA)) → (s2 191 = .inl (cI, 400, .inl Dg2)) → (∀ q, q ≠ 190 → q ≠ 191 → s2 q = s1 q) → (n9 = 0 ∨ 10 ^ n9 ≤ (pp k9).natAbs) → (X2 104).natAbs = (pp k9).natAbs / 10 ^ n9 → (∀ j, j < n9 → Dg2 j = nI ((pp k9).natAbs / 10 ^ j % 10)) → lv_has ls 4 [(2, .int (nI n9)), (0, .ref (ad 183)), (1, .int (nI k9))] → xI D classes 193 ad s.heap (rw3 s2 ciM cI cZ (mfs ad (nI 0) (nI n) (nI rw) (nI z9) le eq) P2 L2 M2) H locs → W p l e (xrm 5) s m args below meth c H locs 0 0 (MQ below (va_Qi (fun r σ2 => ∃ (n9 : Nat) (Q' : Nat → Int32), dl (pp k9).natAbs n9 ∧ (pp k9 < 0 → Q' 0 = nI 45) ∧ (∀ j, j < n9 → Q' ((if pp k9 < 0 then 1 else 0) + j) = nI (48 + (pp k9).natAbs / 10 ^ (n9 - 1 - j) % 10)) ∧ r = nI ((if pp k9 < 0 then 1 else 0) + n9) ∧ mS ad cI cZ σb (nI 0) n A9 rw Dt (((if pp k9 < 0 then 1 else 0) + n9)) Q' σ2) (xS D classes (xT cI cJ cZ cC cG cP) 193 ad) (xA 193 ad)) args s 0 0 (xA 193 ad)) (F0 m 67 ls []) := by
        intro z9 QA hz9 hqa f
        induction f with
        | zero =>
          intro n9 s2 Dg2 P2 L2 M2 X2 ls H locs hk j2 j3 j4 j5 j6 j7 j9 hl I
          exact absurd hk (dl_fuel hv j6)
        | succ f ih =>
          intro n9 s2 Dg2 P2 L2 M2 X2 ls H locs hk j2 j3 j4 j5 j6 j7 j9 hl I
          have hk9 : n9 ≤ 50 := dl_small hv j6
          obtain ⟨n2, m1, m2, m3, m4, m5⟩ := j2 104 (by decide)
          refine lv_aload_n hx hb d_SpectrumDeskModel_characteristic_67 rfl (lv_at hl 1 rfl) ?_
          refine xr_get X I fin_M 183 (by decide) (r183 ..) rfl 11 (by decide) (List.mem_cons_of_mem _ k_ce250721c2) rfl rfl d_SpectrumDeskModel_characteristic_68 ?_
          refine lv_iload_n hx hb d_SpectrumDeskModel_characteristic_71 rfl (lv_at hl 0 rfl) ?_
          refine lv_aload_n hx hb d_SpectrumDeskModel_characteristic_72 rfl (lv_at hl 1 rfl) ?_
          refine lv_bipush (v := nI 104) hx hb d_SpectrumDeskModel_characteristic_73 (by decide) ?_
          refine xr_calli (xr_runV (kc := 1) (kr := 5) (n := 1) (As := [.int (nI 104)]) (rest := [.int (nI n9), .ref (ad 191)]) X I (by decide) (r183 ..) rfl (c_SpectrumDeskModel_bigTenth (w := 104) (n := n2) mfs_ok (by decide) m1 m2 m3) (xg k_1735d08270) (List.mem_cons_of_mem _ k_af51a8f7da) (List.mem_cons_of_mem _ k_4990bde266) (List.mem_cons_of_mem _ k_ab72a48a16) (List.mem_cons_of_mem _ k_30fa15c9ac) (by decide +kernel) (by decide) rfl hl.1 rfl (Nat.le_of_ble_eq_true rfl) d_SpectrumDeskModel_characteristic_75) I (fun r1 σ9 H locs hp I => ?_)
          obtain ⟨P4, n4, hr1, rfl, t1, t2, t3, t4, t5⟩ := hp
          obtain ⟨x4, u1, u2⟩ := RB_tenth j2 (by decide) m1 m2 m3 m5 t1 t2 t3 t4 t5
          have hd1 : r1 = nI ((pp k9).natAbs / 10 ^ n9 % 10) := by rw [hr1, ← j7]; exact congrArg nI (by rcases m5 with ⟨_, h⟩ | ⟨_, h⟩ <;> (have hq := (rg_range m3).1; omega))
          refine xr_topi (y := nI ((pp k9).natAbs / 10 ^ n9 % 10)) hd1 ?_
          refine xr_iast X I 191 0 (by decide) ((r_o (by decide)).trans j4) rfl (by omega) (by decide) d_SpectrumDeskModel_characteristic_78 (fun H locs I => ?_)
          rw [rw3_o (by decide)] at I
          refine lv_iinc (k := 0) (v := nI (n9 + 1)) (lv' := [(2, .int (nI (n9 + 1))), (0, .ref (ad 183)), (1, .int (nI k9))]) hx hb d_SpectrumDeskModel_characteristic_79 hl rfl (nI_1 n9) (by decide) rfl (fun ls hl => ?_)
          refine lv_aload_n hx hb d_SpectrumDeskModel_characteristic_82 rfl (lv_at hl 1 rfl) ?_
          refine lv_bipush (v := nI 104) hx hb d_SpectrumDeskModel_characteristic_83 (by decide) ?_
          refine xr_calli (xr_runV (kc := 0) (kr := 5) (n := 1) (As := [.int (nI 104)]) (rest := []) X I (by decide) (r183 ..) rfl (c_SpectrumDeskModel_bigSign (w := 104) mfs_ok (by decide) (u1 104 (by decide))) (xg k_e13fc765ad) (List.mem_cons_of_mem _ k_6487c7a510) (List.mem_cons_of_mem _ k_b18f58b667) (List.mem_cons_of_mem _ k_0ad4753b22) (List.mem_cons_of_mem _ k_30fa15c9ac) (by decide +kernel) (by decide) rfl hl.1 rfl (Nat.le_of_ble_eq_true rfl) d_SpectrumDeskModel_characteristic_85) I (fun r2 σ9 H locs hp I => ?_)
          obtain ⟨rfl, rfl⟩ := hp
          refine xr_topi (y := sg x4) (by rw [va_up_self]) ?_
          have u3 : x4.natAbs = (pp k9).natAbs / 10 ^ (n9 + 1) := by rw [u2, j7, Nat.div_div_eq_div_mul, ← Nat.pow_succ]
          have ja : ∀ j, j < n9 + 1 → upd Dg2 n9 (nI ((pp k9).natAbs / 10 ^ n9 % 10)) j = nI ((pp k9).natAbs / 10 ^ j % 10) := fun j hj => by
            by_cases h : j = n9
            · rw [h, upd_s]
            · rw [upd_n h]; exact j9 j (by omega)
          refine lv_if_ne hx hb d_SpectrumDeskModel_characteristic_88 rfl (fun hd => ?_) (fun hd => ?_)
          · have hx4 : x4 ≠ 0 := fun h => hd (sg_zero.mpr h)
            refine ih (n9 + 1) _ (upd Dg2 n9 (nI ((pp k9).natAbs / 10 ^ n9 % 10))) P4 _ M2 _ ls H locs (by omega) u1 ((va_up_ne _ _ (by decide)).trans j3) (va_up_self _ _ _) (fun q h1 h2 => (va_up_ne _ _ h2).trans (j5 q h1 h2)) (Or.inr ?_) (by rw [va_up_self]; exact u3) ja hl I
            exact dl_more (by rw [← u3]; omega)
          · have hx4 : x4 = 0 := sg_zero.mp hd
            refine lv_iload_n hx hb d_SpectrumDeskModel_characteristic_91 rfl (lv_at hl 0 rfl) ?_
            refine lv_iconst (v := nI 1) hx hb d_SpectrumDeskModel_characteristic_92 (by decide) ?_
            refine lv_isub hx hb d_SpectrumDeskModel_characteristic_93 (xr_topi (y := nP (n9 + 1)) rfl ?_)
            refine lv_istore_n (lv' := [(3, .int (nP (n9 + 1))), (2, .int (nI (n9 + 1))), (0, .ref (ad 183)), (1, .int (nI k9))]) hx hb d_SpectrumDeskModel_characteristic_94 rfl hl (by decide) rfl (fun ls hl => ?_)
            exact print (n9 + 1) z9 (upd Dg2 n9 (nI ((pp k9).natAbs / 10 ^ n9 % 10))) P4 _ M2 _ u1 (dl_end j6 (by rw [← u3, hx4]; rfl)) hz9 ja (by omega) (n9 + 1) _ QA ls H locs (Nat.le_refl _) ((va_up_ne _ _ (by decide)).trans j3) (va_up_self _ _ _) (fun q h1 h2 => (va_up_ne _ _ h2).trans (j5 q h1 h2)) hqa (fun j hj => by omega) hl (by rw [Nat.sub_self, Nat.add_zero]; exact I)
      refine lv_aload_n hx hb d_SpectrumDeskModel_characteristic_28 rfl (lv_at hl 0 rfl) ?_
      refine lv_iconst (v := nI 0) hx hb d_SpectrumDeskModel_characteristic_29 (by decide) ?_
      refine xr_put (ty := .int) X I fin_M t_M t_M_ok n_M 183 (by decide) (r183 ..) rfl 10 (by decide) (List.mem_cons_of_mem _ k_8988dcbdf9) rfl rfl (by decide +kernel) rfl rfl (Nat.le_of_ble_eq_true rfl) d_SpectrumDeskModel_characteristic_30 (fun H locs I => ?_)
      rw [rw3_F] at I
      have I : xI D classes 193 ad s.heap (rw3 s1 ciM cI cZ (mfs ad (nI 0) (nI n) (nI rw) (nI 0) le eq) Pc Lc Mc) H locs := I
      refine lv_aload_n hx hb d_SpectrumDeskModel_characteristic_33 rfl (lv_at hl 0 rfl) ?_
      refine lv_iconst (v := nI 0) hx hb d_SpectrumDeskModel_characteristic_34 (by decide) ?_
      refine lv_iload_n hx hb d_SpectrumDeskModel_characteristic_35 rfl (lv_at hl 1 rfl) ?_
      refine lv_iadd hx hb d_SpectrumDeskModel_characteristic_36 (xr_topi (y := nI k9) (by rw [nI_add, Nat.zero_add]) ?_)
      refine xr_calli (xr_runV (kc := 0) (kr := 5) (n := 1) (As := [.int (nI k9)]) (rest := []) X I (by decide) (r183 ..) rfl (c_SpectrumDeskModel_bigSign (w := k9) mfs_ok (by omega) (hBc k9 (by omega))) (xg k_e13fc765ad) (List.mem_cons_of_mem _ k_6487c7a510) (List.mem_cons_of_mem _ k_b18f58b667) (List.mem_cons_of_mem _ k_0ad4753b22) (List.mem_cons_of_mem _ k_30fa15c9ac) (by decide +kernel) (by decide) rfl hl.1 rfl (Nat.le_of_ble_eq_true rfl) d_SpectrumDeskModel_characteristic_37) I (fun r1 σ9 H locs hp I => ?_)
      obtain ⟨rfl, rfl⟩ := hp
      refine xr_topi (y := sg (pp k9)) (by rw [hx9]) ?_
      refine lv_if_ge hx hb d_SpectrumDeskModel_characteristic_40 rfl (fun hd => ?_) (fun hd => ?_)
      · have hp9 : ¬ pp k9 < 0 := sg_ge0.mp hd
        refine lv_aload_n hx hb d_SpectrumDeskModel_characteristic_56 rfl (lv_at hl 0 rfl) ?_
        refine lv_bipush (v := nI 104) hx hb d_SpectrumDeskModel_characteristic_57 (by decide) ?_
        refine lv_iconst (v := nI 0) hx hb d_SpectrumDeskModel_characteristic_59 (by decide) ?_
        refine lv_iload_n hx hb d_SpectrumDeskModel_characteristic_60 rfl (lv_at hl 1 rfl) ?_
        refine lv_iadd hx hb d_SpectrumDeskModel_characteristic_61 (xr_topi (y := nI k9) (by rw [nI_add, Nat.zero_add]) ?_)
        refine xr_callv (xr_runV (kc := 0) (kr := 5) (n := 2) (As := [.int (nI 104), .int (nI k9)]) (rest := []) X I (by decide) (r183 ..) rfl (c_SpectrumDeskModel_bigCopy (w := 104) (u := k9) mfs_ok (by decide) (by omega) (by omega) (hBc k9 (by omega))) (xg k_b9c8150a19) (List.mem_cons_of_mem _ k_4f43ed96b8) (List.mem_cons_of_mem _ k_c9c9b5ab57) (List.mem_cons_of_mem _ k_5d491bf207) (List.mem_cons_of_mem _ k_30fa15c9ac) (by decide +kernel) (by decide) rfl hl.1 rfl (Nat.le_of_ble_eq_true rfl) d_SpectrumDeskModel_characteristic_62) I (fun σ9 H locs hp I => ?_)
        obtain ⟨P5, L5, M5, rfl, hf5, hx5⟩ := hp
        have hB5 := RB_up hBc hf5 hx5
        refine lv_iconst (v := nI 0) hx hb d_SpectrumDeskModel_characteristic_65 (by decide) ?_
        refine lv_istore_n (lv' := [(2, .int (nI 0)), (0, .ref (ad 183)), (1, .int (nI k9))]) hx hb d_SpectrumDeskModel_characteristic_66 rfl hl (by decide) rfl (fun ls hl => ?_)
        exact digs 0 Pr (by rw [if_neg hp9]) (fun h => absurd h hp9) 51 0 _ _ P5 L5 M5 _ ls H locs (by omega) hB5 ((gs1 _ (by decide)).trans h190) ((gs1 _ (by decide)).trans h191) (fun q _ _ => rfl) (Or.inl rfl) (by rw [va_up_self, hx9, Nat.pow_zero, Nat.div_one]) (fun j hj => absurd hj (Nat.not_lt_zero _)) hl I
      · have hp9 : pp k9 < 0 := Decidable.not_not.mp (fun h => hd (sg_ge0.mpr h))
        refine lv_aload_n hx hb d_SpectrumDeskModel_characteristic_43 rfl (lv_at hl 0 rfl) ?_
        refine xr_get X I fin_M 183 (by decide) (r183 ..) rfl 9 (by decide) (List.mem_cons_of_mem _ k_dd379f4769) rfl rfl d_SpectrumDeskModel_characteristic_44 ?_
        refine lv_iconst (v := nI 0) hx hb d_SpectrumDeskModel_characteristic_47 (by decide) ?_
        refine lv_bipush (v := nI 45) hx hb d_SpectrumDeskModel_characteristic_48 (by decide) ?_
        refine xr_iast X I 190 0 (by decide) ((r_o (by decide)).trans ((gs1 _ (by decide)).trans h190)) rfl (by omega) (by decide) d_SpectrumDeskModel_characteristic_50 (fun H locs I => ?_)
        rw [rw3_o (by decide)] at I
        refine lv_aload_n hx hb d_SpectrumDeskModel_characteristic_51 rfl (lv_at hl 0 rfl) ?_
        refine lv_iconst (v := nI 1) hx hb d_SpectrumDeskModel_characteristic_52 (by decide) ?_
        refine xr_put (ty := .int) X I fin_M t_M t_M_ok n_M 183 (by decide) (r183 ..) rfl 10 (by decide) (List.mem_cons_of_mem _ k_8988dcbdf9) rfl rfl (by decide +kernel) rfl rfl (Nat.le_of_ble_eq_true rfl) d_SpectrumDeskModel_characteristic_53 (fun H locs I => ?_)
        rw [rw3_F] at I
        have I : xI D classes 193 ad s.heap (rw3 (va_up s1 190 (.inl (cI, 400, .inl (upd Pr 0 (nI 45))))) ciM cI cZ (mfs ad (nI 0) (nI n) (nI rw) (nI 1) le eq) Pc Lc Mc) H locs := I
        refine lv_aload_n hx hb d_SpectrumDeskModel_characteristic_56 rfl (lv_at hl 0 rfl) ?_
        refine lv_bipush (v := nI 104) hx hb d_SpectrumDeskModel_characteristic_57 (by decide) ?_
        refine lv_iconst (v := nI 0) hx hb d_SpectrumDeskModel_characteristic_59 (by decide) ?_
        refine lv_iload_n hx hb d_SpectrumDeskModel_characteristic_60 rfl (lv_at hl 1 rfl) ?_
        refine lv_iadd hx hb d_SpectrumDeskModel_characteristic_61 (xr_topi (y := nI k9) (by rw [nI_add, Nat.zero_add]) ?_)
        refine xr_callv (xr_runV (kc := 0) (kr := 5) (n := 2) (As := [.int (nI 104), .int (nI k9)]) (rest := []) X I (by decide) (r183 ..) rfl (c_SpectrumDeskModel_bigCopy (w := 104) (u := k9) mfs_ok (by decide) (by omega) (by omega) (hBc k9 (by omega))) (xg k_b9c8150a19) (List.mem_cons_of_mem _ k_4f43ed96b8) (List.mem_cons_of_mem _ k_c9c9b5ab57) (List.mem_cons_of_mem _ k_5d491bf207) (List.mem_cons_of_mem _ k_30fa15c9ac) (by decide +kernel) (by decide) rfl hl.1 rfl (Nat.le_of_ble_eq_true rfl) d_SpectrumDeskModel_characteristic_62) I (fun σ9 H locs hp I => ?_)
        obtain ⟨P5, L5, M5, rfl, hf5, hx5⟩ := hp
        have hB5 := RB_up hBc hf5 hx5
        refine lv_iconst (v := nI 0) hx hb d_SpectrumDeskModel_characteristic_65 (by decide) ?_
        refine lv_istore_n (lv' := [(2, .int (nI 0)), (0, .ref (ad 183)), (1, .int (nI k9))]) hx hb d_SpectrumDeskModel_characteristic_66 rfl hl (by decide) rfl (fun ls hl => ?_)
        exact digs 1 (upd Pr 0 (nI 45)) (by rw [if_pos hp9]) (fun _ => upd_s) 51 0 _ _ P5 L5 M5 _ ls H locs (by omega) hB5 (va_up_self _ _ _) ((va_up_ne _ _ (by decide)).trans ((gs1 _ (by decide)).trans h191)) (fun q h1 _ => va_up_ne _ _ h1) (Or.inl rfl) (by rw [va_up_self, hx9, Nat.pow_zero, Nat.div_one]) (fun j hj => absurd hj (Nat.not_lt_zero _)) hl I
    · exact absurd (nI_le h1 (by omega)) hc
