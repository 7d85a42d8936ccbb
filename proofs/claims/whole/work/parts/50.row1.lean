/-! the reference: rowCopy, weigh (written by wip/gen) -/
abbrev b_SpectrumDeskModel_rowCopy : ByteArray := prog_10_method_17_code
abbrev y_SpectrumDeskModel_rowCopy : MethodName := ⟨"SpectrumDeskModel", "rowCopy", "(II)V"⟩
abbrev v_SpectrumDeskModel_rowCopy : List Cond := Cond.code y_SpectrumDeskModel_rowCopy b_SpectrumDeskModel_rowCopy 4 none :: AW
theorem d_SpectrumDeskModel_rowCopy_0 : decode b_SpectrumDeskModel_rowCopy 0 = .ok (.aload_n 0, 1) := by decide +kernel
theorem d_SpectrumDeskModel_rowCopy_1 : decode b_SpectrumDeskModel_rowCopy 1 = .ok (.getfield 46, 3) := by decide +kernel
theorem d_SpectrumDeskModel_rowCopy_4 : decode b_SpectrumDeskModel_rowCopy 4 = .ok (.iload_n 1, 1) := by decide +kernel
theorem d_SpectrumDeskModel_rowCopy_5 : decode b_SpectrumDeskModel_rowCopy 5 = .ok (.bipush (8), 2) := by decide +kernel
theorem d_SpectrumDeskModel_rowCopy_7 : decode b_SpectrumDeskModel_rowCopy 7 = .ok (.idiv, 1) := by decide +kernel
theorem d_SpectrumDeskModel_rowCopy_8 : decode b_SpectrumDeskModel_rowCopy 8 = .ok (.aload_n 0, 1) := by decide +kernel
theorem d_SpectrumDeskModel_rowCopy_9 : decode b_SpectrumDeskModel_rowCopy 9 = .ok (.getfield 46, 3) := by decide +kernel
theorem d_SpectrumDeskModel_rowCopy_12 : decode b_SpectrumDeskModel_rowCopy 12 = .ok (.iload_n 2, 1) := by decide +kernel
theorem d_SpectrumDeskModel_rowCopy_13 : decode b_SpectrumDeskModel_rowCopy 13 = .ok (.bipush (8), 2) := by decide +kernel
theorem d_SpectrumDeskModel_rowCopy_15 : decode b_SpectrumDeskModel_rowCopy 15 = .ok (.idiv, 1) := by decide +kernel
theorem d_SpectrumDeskModel_rowCopy_16 : decode b_SpectrumDeskModel_rowCopy 16 = .ok (.iaload, 1) := by decide +kernel
theorem d_SpectrumDeskModel_rowCopy_17 : decode b_SpectrumDeskModel_rowCopy 17 = .ok (.iastore, 1) := by decide +kernel
theorem d_SpectrumDeskModel_rowCopy_18 : decode b_SpectrumDeskModel_rowCopy 18 = .ok (.iconst 0, 1) := by decide +kernel
theorem d_SpectrumDeskModel_rowCopy_19 : decode b_SpectrumDeskModel_rowCopy 19 = .ok (.istore_n 3, 1) := by decide +kernel
theorem d_SpectrumDeskModel_rowCopy_20 : decode b_SpectrumDeskModel_rowCopy 20 = .ok (.iload_n 3, 1) := by decide +kernel
theorem d_SpectrumDeskModel_rowCopy_21 : decode b_SpectrumDeskModel_rowCopy 21 = .ok (.aload_n 0, 1) := by decide +kernel
theorem d_SpectrumDeskModel_rowCopy_22 : decode b_SpectrumDeskModel_rowCopy 22 = .ok (.getfield 46, 3) := by decide +kernel
theorem d_SpectrumDeskModel_rowCopy_25 : decode b_SpectrumDeskModel_rowCopy 25 = .ok (.iload_n 2, 1) := by decide +kernel
theorem d_SpectrumDeskModel_rowCopy_26 : decode b_SpectrumDeskModel_rowCopy 26 = .ok (.bipush (8), 2) := by decide +kernel
theorem d_SpectrumDeskModel_rowCopy_28 : decode b_SpectrumDeskModel_rowCopy 28 = .ok (.idiv, 1) := by decide +kernel
theorem d_SpectrumDeskModel_rowCopy_29 : decode b_SpectrumDeskModel_rowCopy 29 = .ok (.iaload, 1) := by decide +kernel
theorem d_SpectrumDeskModel_rowCopy_30 : decode b_SpectrumDeskModel_rowCopy 30 = .ok (.if_icmp .gt (19), 3) := by decide +kernel
theorem d_SpectrumDeskModel_rowCopy_33 : decode b_SpectrumDeskModel_rowCopy 33 = .ok (.aload_n 0, 1) := by decide +kernel
theorem d_SpectrumDeskModel_rowCopy_34 : decode b_SpectrumDeskModel_rowCopy 34 = .ok (.iload_n 1, 1) := by decide +kernel
theorem d_SpectrumDeskModel_rowCopy_35 : decode b_SpectrumDeskModel_rowCopy 35 = .ok (.iload_n 3, 1) := by decide +kernel
theorem d_SpectrumDeskModel_rowCopy_36 : decode b_SpectrumDeskModel_rowCopy 36 = .ok (.iadd, 1) := by decide +kernel
theorem d_SpectrumDeskModel_rowCopy_37 : decode b_SpectrumDeskModel_rowCopy 37 = .ok (.iload_n 2, 1) := by decide +kernel
theorem d_SpectrumDeskModel_rowCopy_38 : decode b_SpectrumDeskModel_rowCopy 38 = .ok (.iload_n 3, 1) := by decide +kernel
theorem d_SpectrumDeskModel_rowCopy_39 : decode b_SpectrumDeskModel_rowCopy 39 = .ok (.iadd, 1) := by decide +kernel
theorem d_SpectrumDeskModel_rowCopy_40 : decode b_SpectrumDeskModel_rowCopy 40 = .ok (.invokevirtual 49, 3) := by decide +kernel
theorem d_SpectrumDeskModel_rowCopy_43 : decode b_SpectrumDeskModel_rowCopy 43 = .ok (.iinc 3 (1), 3) := by decide +kernel
theorem d_SpectrumDeskModel_rowCopy_46 : decode b_SpectrumDeskModel_rowCopy 46 = .ok (.goto (-26), 3) := by decide +kernel
theorem d_SpectrumDeskModel_rowCopy_49 : decode b_SpectrumDeskModel_rowCopy 49 = .ok (.return_, 1) := by decide +kernel
abbrev b_SpectrumDeskModel_weigh : ByteArray := prog_10_method_37_code
abbrev y_SpectrumDeskModel_weigh : MethodName := ⟨"SpectrumDeskModel", "weigh", "(I)V"⟩
abbrev v_SpectrumDeskModel_weigh : List Cond := Cond.code y_SpectrumDeskModel_weigh b_SpectrumDeskModel_weigh 6 none :: AW
theorem d_SpectrumDeskModel_weigh_0 : decode b_SpectrumDeskModel_weigh 0 = .ok (.aload_n 0, 1) := by decide +kernel
theorem d_SpectrumDeskModel_weigh_1 : decode b_SpectrumDeskModel_weigh 1 = .ok (.bipush (32), 2) := by decide +kernel
theorem d_SpectrumDeskModel_weigh_3 : decode b_SpectrumDeskModel_weigh 3 = .ok (.iload_n 1, 1) := by decide +kernel
theorem d_SpectrumDeskModel_weigh_4 : decode b_SpectrumDeskModel_weigh 4 = .ok (.invokevirtual 130, 3) := by decide +kernel
theorem d_SpectrumDeskModel_weigh_7 : decode b_SpectrumDeskModel_weigh 7 = .ok (.iconst 0, 1) := by decide +kernel
theorem d_SpectrumDeskModel_weigh_8 : decode b_SpectrumDeskModel_weigh 8 = .ok (.istore_n 2, 1) := by decide +kernel
theorem d_SpectrumDeskModel_weigh_9 : decode b_SpectrumDeskModel_weigh 9 = .ok (.iload_n 2, 1) := by decide +kernel
theorem d_SpectrumDeskModel_weigh_10 : decode b_SpectrumDeskModel_weigh 10 = .ok (.aload_n 0, 1) := by decide +kernel
theorem d_SpectrumDeskModel_weigh_11 : decode b_SpectrumDeskModel_weigh 11 = .ok (.getfield 46, 3) := by decide +kernel
theorem d_SpectrumDeskModel_weigh_14 : decode b_SpectrumDeskModel_weigh 14 = .ok (.iload_n 1, 1) := by decide +kernel
theorem d_SpectrumDeskModel_weigh_15 : decode b_SpectrumDeskModel_weigh 15 = .ok (.bipush (8), 2) := by decide +kernel
theorem d_SpectrumDeskModel_weigh_17 : decode b_SpectrumDeskModel_weigh 17 = .ok (.idiv, 1) := by decide +kernel
theorem d_SpectrumDeskModel_weigh_18 : decode b_SpectrumDeskModel_weigh 18 = .ok (.iaload, 1) := by decide +kernel
theorem d_SpectrumDeskModel_weigh_19 : decode b_SpectrumDeskModel_weigh 19 = .ok (.if_icmp .ge (44), 3) := by decide +kernel
theorem d_SpectrumDeskModel_weigh_22 : decode b_SpectrumDeskModel_weigh 22 = .ok (.iconst 0, 1) := by decide +kernel
theorem d_SpectrumDeskModel_weigh_23 : decode b_SpectrumDeskModel_weigh 23 = .ok (.istore_n 3, 1) := by decide +kernel
theorem d_SpectrumDeskModel_weigh_24 : decode b_SpectrumDeskModel_weigh 24 = .ok (.iload_n 3, 1) := by decide +kernel
theorem d_SpectrumDeskModel_weigh_25 : decode b_SpectrumDeskModel_weigh 25 = .ok (.iload_n 2, 1) := by decide +kernel
theorem d_SpectrumDeskModel_weigh_26 : decode b_SpectrumDeskModel_weigh 26 = .ok (.if_icmp .gt (31), 3) := by decide +kernel
theorem d_SpectrumDeskModel_weigh_29 : decode b_SpectrumDeskModel_weigh 29 = .ok (.aload_n 0, 1) := by decide +kernel
theorem d_SpectrumDeskModel_weigh_30 : decode b_SpectrumDeskModel_weigh 30 = .ok (.bipush (106), 2) := by decide +kernel
theorem d_SpectrumDeskModel_weigh_32 : decode b_SpectrumDeskModel_weigh 32 = .ok (.bipush (32), 2) := by decide +kernel
theorem d_SpectrumDeskModel_weigh_34 : decode b_SpectrumDeskModel_weigh 34 = .ok (.iload_n 3, 1) := by decide +kernel
theorem d_SpectrumDeskModel_weigh_35 : decode b_SpectrumDeskModel_weigh 35 = .ok (.iadd, 1) := by decide +kernel
theorem d_SpectrumDeskModel_weigh_36 : decode b_SpectrumDeskModel_weigh 36 = .ok (.bipush (109), 2) := by decide +kernel
theorem d_SpectrumDeskModel_weigh_38 : decode b_SpectrumDeskModel_weigh 38 = .ok (.invokevirtual 111, 3) := by decide +kernel
theorem d_SpectrumDeskModel_weigh_41 : decode b_SpectrumDeskModel_weigh 41 = .ok (.aload_n 0, 1) := by decide +kernel
theorem d_SpectrumDeskModel_weigh_42 : decode b_SpectrumDeskModel_weigh 42 = .ok (.bipush (32), 2) := by decide +kernel
theorem d_SpectrumDeskModel_weigh_44 : decode b_SpectrumDeskModel_weigh 44 = .ok (.iload_n 3, 1) := by decide +kernel
theorem d_SpectrumDeskModel_weigh_45 : decode b_SpectrumDeskModel_weigh 45 = .ok (.iadd, 1) := by decide +kernel
theorem d_SpectrumDeskModel_weigh_46 : decode b_SpectrumDeskModel_weigh 46 = .ok (.bipush (106), 2) := by decide +kernel
theorem d_SpectrumDeskModel_weigh_48 : decode b_SpectrumDeskModel_weigh 48 = .ok (.invokevirtual 49, 3) := by decide +kernel
theorem d_SpectrumDeskModel_weigh_51 : decode b_SpectrumDeskModel_weigh 51 = .ok (.iinc 3 (1), 3) := by decide +kernel
theorem d_SpectrumDeskModel_weigh_54 : decode b_SpectrumDeskModel_weigh 54 = .ok (.goto (-30), 3) := by decide +kernel
theorem d_SpectrumDeskModel_weigh_57 : decode b_SpectrumDeskModel_weigh 57 = .ok (.iinc 2 (1), 3) := by decide +kernel
theorem d_SpectrumDeskModel_weigh_60 : decode b_SpectrumDeskModel_weigh 60 = .ok (.goto (-51), 3) := by decide +kernel
theorem d_SpectrumDeskModel_weigh_63 : decode b_SpectrumDeskModel_weigh 63 = .ok (.iconst 0, 1) := by decide +kernel
theorem d_SpectrumDeskModel_weigh_64 : decode b_SpectrumDeskModel_weigh 64 = .ok (.istore_n 2, 1) := by decide +kernel
theorem d_SpectrumDeskModel_weigh_65 : decode b_SpectrumDeskModel_weigh 65 = .ok (.iload_n 2, 1) := by decide +kernel
theorem d_SpectrumDeskModel_weigh_66 : decode b_SpectrumDeskModel_weigh 66 = .ok (.aload_n 0, 1) := by decide +kernel
theorem d_SpectrumDeskModel_weigh_67 : decode b_SpectrumDeskModel_weigh 67 = .ok (.getfield 46, 3) := by decide +kernel
theorem d_SpectrumDeskModel_weigh_70 : decode b_SpectrumDeskModel_weigh 70 = .ok (.iload_n 1, 1) := by decide +kernel
theorem d_SpectrumDeskModel_weigh_71 : decode b_SpectrumDeskModel_weigh 71 = .ok (.bipush (8), 2) := by decide +kernel
theorem d_SpectrumDeskModel_weigh_73 : decode b_SpectrumDeskModel_weigh 73 = .ok (.idiv, 1) := by decide +kernel
theorem d_SpectrumDeskModel_weigh_74 : decode b_SpectrumDeskModel_weigh 74 = .ok (.iaload, 1) := by decide +kernel
theorem d_SpectrumDeskModel_weigh_75 : decode b_SpectrumDeskModel_weigh 75 = .ok (.if_icmp .ge (57), 3) := by decide +kernel
theorem d_SpectrumDeskModel_weigh_78 : decode b_SpectrumDeskModel_weigh 78 = .ok (.aload_n 0, 1) := by decide +kernel
theorem d_SpectrumDeskModel_weigh_79 : decode b_SpectrumDeskModel_weigh 79 = .ok (.getfield 46, 3) := by decide +kernel
theorem d_SpectrumDeskModel_weigh_82 : decode b_SpectrumDeskModel_weigh 82 = .ok (.iload_n 1, 1) := by decide +kernel
theorem d_SpectrumDeskModel_weigh_83 : decode b_SpectrumDeskModel_weigh 83 = .ok (.bipush (8), 2) := by decide +kernel
theorem d_SpectrumDeskModel_weigh_85 : decode b_SpectrumDeskModel_weigh 85 = .ok (.idiv, 1) := by decide +kernel
theorem d_SpectrumDeskModel_weigh_86 : decode b_SpectrumDeskModel_weigh 86 = .ok (.iaload, 1) := by decide +kernel
theorem d_SpectrumDeskModel_weigh_87 : decode b_SpectrumDeskModel_weigh 87 = .ok (.iconst 1, 1) := by decide +kernel
theorem d_SpectrumDeskModel_weigh_88 : decode b_SpectrumDeskModel_weigh 88 = .ok (.isub, 1) := by decide +kernel
theorem d_SpectrumDeskModel_weigh_89 : decode b_SpectrumDeskModel_weigh 89 = .ok (.istore_n 3, 1) := by decide +kernel
theorem d_SpectrumDeskModel_weigh_90 : decode b_SpectrumDeskModel_weigh 90 = .ok (.iload_n 3, 1) := by decide +kernel
theorem d_SpectrumDeskModel_weigh_91 : decode b_SpectrumDeskModel_weigh 91 = .ok (.iload_n 2, 1) := by decide +kernel
theorem d_SpectrumDeskModel_weigh_92 : decode b_SpectrumDeskModel_weigh 92 = .ok (.if_icmp .lt (34), 3) := by decide +kernel
theorem d_SpectrumDeskModel_weigh_95 : decode b_SpectrumDeskModel_weigh 95 = .ok (.aload_n 0, 1) := by decide +kernel
theorem d_SpectrumDeskModel_weigh_96 : decode b_SpectrumDeskModel_weigh 96 = .ok (.bipush (106), 2) := by decide +kernel
theorem d_SpectrumDeskModel_weigh_98 : decode b_SpectrumDeskModel_weigh 98 = .ok (.bipush (32), 2) := by decide +kernel
theorem d_SpectrumDeskModel_weigh_100 : decode b_SpectrumDeskModel_weigh 100 = .ok (.iload_n 3, 1) := by decide +kernel
theorem d_SpectrumDeskModel_weigh_101 : decode b_SpectrumDeskModel_weigh 101 = .ok (.iadd, 1) := by decide +kernel
theorem d_SpectrumDeskModel_weigh_102 : decode b_SpectrumDeskModel_weigh 102 = .ok (.iconst 1, 1) := by decide +kernel
theorem d_SpectrumDeskModel_weigh_103 : decode b_SpectrumDeskModel_weigh 103 = .ok (.iadd, 1) := by decide +kernel
theorem d_SpectrumDeskModel_weigh_104 : decode b_SpectrumDeskModel_weigh 104 = .ok (.bipush (108), 2) := by decide +kernel
theorem d_SpectrumDeskModel_weigh_106 : decode b_SpectrumDeskModel_weigh 106 = .ok (.invokevirtual 111, 3) := by decide +kernel
theorem d_SpectrumDeskModel_weigh_109 : decode b_SpectrumDeskModel_weigh 109 = .ok (.aload_n 0, 1) := by decide +kernel
theorem d_SpectrumDeskModel_weigh_110 : decode b_SpectrumDeskModel_weigh 110 = .ok (.bipush (32), 2) := by decide +kernel
theorem d_SpectrumDeskModel_weigh_112 : decode b_SpectrumDeskModel_weigh 112 = .ok (.iload_n 3, 1) := by decide +kernel
theorem d_SpectrumDeskModel_weigh_113 : decode b_SpectrumDeskModel_weigh 113 = .ok (.iadd, 1) := by decide +kernel
theorem d_SpectrumDeskModel_weigh_114 : decode b_SpectrumDeskModel_weigh 114 = .ok (.bipush (106), 2) := by decide +kernel
theorem d_SpectrumDeskModel_weigh_116 : decode b_SpectrumDeskModel_weigh 116 = .ok (.iconst 0, 1) := by decide +kernel
theorem d_SpectrumDeskModel_weigh_117 : decode b_SpectrumDeskModel_weigh 117 = .ok (.invokevirtual 115, 3) := by decide +kernel
theorem d_SpectrumDeskModel_weigh_120 : decode b_SpectrumDeskModel_weigh 120 = .ok (.iinc 3 (-1), 3) := by decide +kernel
theorem d_SpectrumDeskModel_weigh_123 : decode b_SpectrumDeskModel_weigh 123 = .ok (.goto (-33), 3) := by decide +kernel
theorem d_SpectrumDeskModel_weigh_126 : decode b_SpectrumDeskModel_weigh 126 = .ok (.iinc 2 (1), 3) := by decide +kernel
theorem d_SpectrumDeskModel_weigh_129 : decode b_SpectrumDeskModel_weigh 129 = .ok (.goto (-64), 3) := by decide +kernel
theorem d_SpectrumDeskModel_weigh_132 : decode b_SpectrumDeskModel_weigh 132 = .ok (.aload_n 0, 1) := by decide +kernel
theorem d_SpectrumDeskModel_weigh_133 : decode b_SpectrumDeskModel_weigh 133 = .ok (.iconst 0, 1) := by decide +kernel
theorem d_SpectrumDeskModel_weigh_134 : decode b_SpectrumDeskModel_weigh 134 = .ok (.putfield 133, 3) := by decide +kernel
theorem d_SpectrumDeskModel_weigh_137 : decode b_SpectrumDeskModel_weigh 137 = .ok (.aload_n 0, 1) := by decide +kernel
theorem d_SpectrumDeskModel_weigh_138 : decode b_SpectrumDeskModel_weigh 138 = .ok (.getfield 133, 3) := by decide +kernel
theorem d_SpectrumDeskModel_weigh_141 : decode b_SpectrumDeskModel_weigh 141 = .ok (.aload_n 0, 1) := by decide +kernel
theorem d_SpectrumDeskModel_weigh_142 : decode b_SpectrumDeskModel_weigh 142 = .ok (.getfield 46, 3) := by decide +kernel
theorem d_SpectrumDeskModel_weigh_145 : decode b_SpectrumDeskModel_weigh 145 = .ok (.iload_n 1, 1) := by decide +kernel
theorem d_SpectrumDeskModel_weigh_146 : decode b_SpectrumDeskModel_weigh 146 = .ok (.bipush (8), 2) := by decide +kernel
theorem d_SpectrumDeskModel_weigh_148 : decode b_SpectrumDeskModel_weigh 148 = .ok (.idiv, 1) := by decide +kernel
theorem d_SpectrumDeskModel_weigh_149 : decode b_SpectrumDeskModel_weigh 149 = .ok (.iaload, 1) := by decide +kernel
theorem d_SpectrumDeskModel_weigh_150 : decode b_SpectrumDeskModel_weigh 150 = .ok (.if_icmp .gt (30), 3) := by decide +kernel
theorem d_SpectrumDeskModel_weigh_153 : decode b_SpectrumDeskModel_weigh 153 = .ok (.aload_n 0, 1) := by decide +kernel
theorem d_SpectrumDeskModel_weigh_154 : decode b_SpectrumDeskModel_weigh 154 = .ok (.bipush (32), 2) := by decide +kernel
theorem d_SpectrumDeskModel_weigh_156 : decode b_SpectrumDeskModel_weigh 156 = .ok (.aload_n 0, 1) := by decide +kernel
theorem d_SpectrumDeskModel_weigh_157 : decode b_SpectrumDeskModel_weigh 157 = .ok (.getfield 133, 3) := by decide +kernel
theorem d_SpectrumDeskModel_weigh_160 : decode b_SpectrumDeskModel_weigh 160 = .ok (.iadd, 1) := by decide +kernel
theorem d_SpectrumDeskModel_weigh_161 : decode b_SpectrumDeskModel_weigh 161 = .ok (.invokevirtual 52, 3) := by decide +kernel
theorem d_SpectrumDeskModel_weigh_164 : decode b_SpectrumDeskModel_weigh 164 = .ok (.ifCond .ne (16), 3) := by decide +kernel
theorem d_SpectrumDeskModel_weigh_167 : decode b_SpectrumDeskModel_weigh 167 = .ok (.aload_n 0, 1) := by decide +kernel
theorem d_SpectrumDeskModel_weigh_168 : decode b_SpectrumDeskModel_weigh 168 = .ok (.dup, 1) := by decide +kernel
theorem d_SpectrumDeskModel_weigh_169 : decode b_SpectrumDeskModel_weigh 169 = .ok (.getfield 133, 3) := by decide +kernel
theorem d_SpectrumDeskModel_weigh_172 : decode b_SpectrumDeskModel_weigh 172 = .ok (.iconst 1, 1) := by decide +kernel
theorem d_SpectrumDeskModel_weigh_173 : decode b_SpectrumDeskModel_weigh 173 = .ok (.iadd, 1) := by decide +kernel
theorem d_SpectrumDeskModel_weigh_174 : decode b_SpectrumDeskModel_weigh 174 = .ok (.putfield 133, 3) := by decide +kernel
theorem d_SpectrumDeskModel_weigh_177 : decode b_SpectrumDeskModel_weigh 177 = .ok (.goto (-40), 3) := by decide +kernel
theorem d_SpectrumDeskModel_weigh_180 : decode b_SpectrumDeskModel_weigh 180 = .ok (.iconst 0, 1) := by decide +kernel
theorem d_SpectrumDeskModel_weigh_181 : decode b_SpectrumDeskModel_weigh 181 = .ok (.istore_n 2, 1) := by decide +kernel
theorem d_SpectrumDeskModel_weigh_182 : decode b_SpectrumDeskModel_weigh 182 = .ok (.iconst 0, 1) := by decide +kernel
theorem d_SpectrumDeskModel_weigh_183 : decode b_SpectrumDeskModel_weigh 183 = .ok (.istore_n 3, 1) := by decide +kernel
theorem d_SpectrumDeskModel_weigh_184 : decode b_SpectrumDeskModel_weigh 184 = .ok (.aload_n 0, 1) := by decide +kernel
theorem d_SpectrumDeskModel_weigh_185 : decode b_SpectrumDeskModel_weigh 185 = .ok (.getfield 133, 3) := by decide +kernel
theorem d_SpectrumDeskModel_weigh_188 : decode b_SpectrumDeskModel_weigh 188 = .ok (.istore 4, 2) := by decide +kernel
theorem d_SpectrumDeskModel_weigh_190 : decode b_SpectrumDeskModel_weigh 190 = .ok (.iload 4, 2) := by decide +kernel
theorem d_SpectrumDeskModel_weigh_192 : decode b_SpectrumDeskModel_weigh 192 = .ok (.aload_n 0, 1) := by decide +kernel
theorem d_SpectrumDeskModel_weigh_193 : decode b_SpectrumDeskModel_weigh 193 = .ok (.getfield 46, 3) := by decide +kernel
theorem d_SpectrumDeskModel_weigh_196 : decode b_SpectrumDeskModel_weigh 196 = .ok (.iload_n 1, 1) := by decide +kernel
theorem d_SpectrumDeskModel_weigh_197 : decode b_SpectrumDeskModel_weigh 197 = .ok (.bipush (8), 2) := by decide +kernel
theorem d_SpectrumDeskModel_weigh_199 : decode b_SpectrumDeskModel_weigh 199 = .ok (.idiv, 1) := by decide +kernel
theorem d_SpectrumDeskModel_weigh_200 : decode b_SpectrumDeskModel_weigh 200 = .ok (.iaload, 1) := by decide +kernel
theorem d_SpectrumDeskModel_weigh_201 : decode b_SpectrumDeskModel_weigh 201 = .ok (.if_icmp .gt (47), 3) := by decide +kernel
theorem d_SpectrumDeskModel_weigh_204 : decode b_SpectrumDeskModel_weigh 204 = .ok (.aload_n 0, 1) := by decide +kernel
theorem d_SpectrumDeskModel_weigh_205 : decode b_SpectrumDeskModel_weigh 205 = .ok (.bipush (32), 2) := by decide +kernel
theorem d_SpectrumDeskModel_weigh_207 : decode b_SpectrumDeskModel_weigh 207 = .ok (.iload 4, 2) := by decide +kernel
theorem d_SpectrumDeskModel_weigh_209 : decode b_SpectrumDeskModel_weigh 209 = .ok (.iadd, 1) := by decide +kernel
theorem d_SpectrumDeskModel_weigh_210 : decode b_SpectrumDeskModel_weigh 210 = .ok (.invokevirtual 52, 3) := by decide +kernel
theorem d_SpectrumDeskModel_weigh_213 : decode b_SpectrumDeskModel_weigh 213 = .ok (.istore 5, 2) := by decide +kernel
theorem d_SpectrumDeskModel_weigh_215 : decode b_SpectrumDeskModel_weigh 215 = .ok (.iload 5, 2) := by decide +kernel
theorem d_SpectrumDeskModel_weigh_217 : decode b_SpectrumDeskModel_weigh 217 = .ok (.iload_n 3, 1) := by decide +kernel
theorem d_SpectrumDeskModel_weigh_218 : decode b_SpectrumDeskModel_weigh 218 = .ok (.imul, 1) := by decide +kernel
theorem d_SpectrumDeskModel_weigh_219 : decode b_SpectrumDeskModel_weigh 219 = .ok (.ifCond .ge (9), 3) := by decide +kernel
theorem d_SpectrumDeskModel_weigh_222 : decode b_SpectrumDeskModel_weigh 222 = .ok (.iload_n 2, 1) := by decide +kernel
theorem d_SpectrumDeskModel_weigh_223 : decode b_SpectrumDeskModel_weigh 223 = .ok (.iconst 1, 1) := by decide +kernel
theorem d_SpectrumDeskModel_weigh_224 : decode b_SpectrumDeskModel_weigh 224 = .ok (.iadd, 1) := by decide +kernel
theorem d_SpectrumDeskModel_weigh_225 : decode b_SpectrumDeskModel_weigh 225 = .ok (.goto (4), 3) := by decide +kernel
theorem d_SpectrumDeskModel_weigh_228 : decode b_SpectrumDeskModel_weigh 228 = .ok (.iload_n 2, 1) := by decide +kernel
theorem d_SpectrumDeskModel_weigh_229 : decode b_SpectrumDeskModel_weigh 229 = .ok (.istore_n 2, 1) := by decide +kernel
theorem d_SpectrumDeskModel_weigh_230 : decode b_SpectrumDeskModel_weigh 230 = .ok (.iload 5, 2) := by decide +kernel
theorem d_SpectrumDeskModel_weigh_232 : decode b_SpectrumDeskModel_weigh 232 = .ok (.ifCond .ne (7), 3) := by decide +kernel
theorem d_SpectrumDeskModel_weigh_235 : decode b_SpectrumDeskModel_weigh 235 = .ok (.iload_n 3, 1) := by decide +kernel
theorem d_SpectrumDeskModel_weigh_236 : decode b_SpectrumDeskModel_weigh 236 = .ok (.goto (5), 3) := by decide +kernel
theorem d_SpectrumDeskModel_weigh_239 : decode b_SpectrumDeskModel_weigh 239 = .ok (.iload 5, 2) := by decide +kernel
theorem d_SpectrumDeskModel_weigh_241 : decode b_SpectrumDeskModel_weigh 241 = .ok (.istore_n 3, 1) := by decide +kernel
theorem d_SpectrumDeskModel_weigh_242 : decode b_SpectrumDeskModel_weigh 242 = .ok (.iinc 4 (1), 3) := by decide +kernel
theorem d_SpectrumDeskModel_weigh_245 : decode b_SpectrumDeskModel_weigh 245 = .ok (.goto (-55), 3) := by decide +kernel
theorem d_SpectrumDeskModel_weigh_248 : decode b_SpectrumDeskModel_weigh 248 = .ok (.aload_n 0, 1) := by decide +kernel
theorem d_SpectrumDeskModel_weigh_249 : decode b_SpectrumDeskModel_weigh 249 = .ok (.aload_n 0, 1) := by decide +kernel
theorem d_SpectrumDeskModel_weigh_250 : decode b_SpectrumDeskModel_weigh 250 = .ok (.getfield 46, 3) := by decide +kernel
theorem d_SpectrumDeskModel_weigh_253 : decode b_SpectrumDeskModel_weigh 253 = .ok (.iload_n 1, 1) := by decide +kernel
theorem d_SpectrumDeskModel_weigh_254 : decode b_SpectrumDeskModel_weigh 254 = .ok (.bipush (8), 2) := by decide +kernel
theorem d_SpectrumDeskModel_weigh_256 : decode b_SpectrumDeskModel_weigh 256 = .ok (.idiv, 1) := by decide +kernel
theorem d_SpectrumDeskModel_weigh_257 : decode b_SpectrumDeskModel_weigh 257 = .ok (.iaload, 1) := by decide +kernel
theorem d_SpectrumDeskModel_weigh_258 : decode b_SpectrumDeskModel_weigh 258 = .ok (.aload_n 0, 1) := by decide +kernel
theorem d_SpectrumDeskModel_weigh_259 : decode b_SpectrumDeskModel_weigh 259 = .ok (.getfield 133, 3) := by decide +kernel
theorem d_SpectrumDeskModel_weigh_262 : decode b_SpectrumDeskModel_weigh 262 = .ok (.isub, 1) := by decide +kernel
theorem d_SpectrumDeskModel_weigh_263 : decode b_SpectrumDeskModel_weigh 263 = .ok (.iload_n 2, 1) := by decide +kernel
theorem d_SpectrumDeskModel_weigh_264 : decode b_SpectrumDeskModel_weigh 264 = .ok (.isub, 1) := by decide +kernel
theorem d_SpectrumDeskModel_weigh_265 : decode b_SpectrumDeskModel_weigh 265 = .ok (.putfield 136, 3) := by decide +kernel
theorem d_SpectrumDeskModel_weigh_268 : decode b_SpectrumDeskModel_weigh 268 = .ok (.return_, 1) := by decide +kernel
theorem k_176eac5e1f : (Jvm.Cond.fieldLink "SpectrumDeskModel" (46 : Nat) "SpectrumDeskModel" "degrees" "[I") ∈ AW := aw_4 (List.mem_of_getElem? (i := 183) (by decide +kernel)) (by decide +kernel)
theorem k_4f43ed96b8 : (Jvm.Cond.methodLink "SpectrumDeskModel" (49 : Nat) ({ cls := "SpectrumDeskModel", name := "bigCopy", desc := "(II)V" } : Jvm.MethodName)) ∈ AW := aw_5 (List.mem_of_getElem? (i := 85) (by decide +kernel)) (by decide +kernel)
theorem k_c9c9b5ab57 : (Jvm.Cond.instanceMethod ({ cls := "SpectrumDeskModel", name := "bigCopy", desc := "(II)V" } : Jvm.MethodName)) ∈ AW := aw_5 (List.mem_of_getElem? (i := 87) (by decide +kernel)) (by decide +kernel)
theorem k_5d491bf207 : (Jvm.Cond.selects "SpectrumDeskModel" ({ cls := "SpectrumDeskModel", name := "bigCopy", desc := "(II)V" } : Jvm.MethodName) ({ cls := "SpectrumDeskModel", name := "bigCopy", desc := "(II)V" } : Jvm.MethodName)) ∈ AW := aw_p (by decide +kernel) (by decide +kernel)
theorem k_86ef828392 : (Jvm.Cond.methodLink "SpectrumDeskModel" (130 : Nat) ({ cls := "SpectrumDeskModel", name := "rowCopy", desc := "(II)V" } : Jvm.MethodName)) ∈ AW := aw_5 (List.mem_of_getElem? (i := 105) (by decide +kernel)) (by decide +kernel)
theorem k_fb5b31696c : (Jvm.Cond.instanceMethod ({ cls := "SpectrumDeskModel", name := "rowCopy", desc := "(II)V" } : Jvm.MethodName)) ∈ AW := aw_5 (List.mem_of_getElem? (i := 107) (by decide +kernel)) (by decide +kernel)
theorem k_c87e5177a1 : (Jvm.Cond.selects "SpectrumDeskModel" ({ cls := "SpectrumDeskModel", name := "rowCopy", desc := "(II)V" } : Jvm.MethodName) ({ cls := "SpectrumDeskModel", name := "rowCopy", desc := "(II)V" } : Jvm.MethodName)) ∈ AW := aw_p (by decide +kernel) (by decide +kernel)
theorem k_e06fbbb633 : (Jvm.Cond.fieldLink "SpectrumDeskModel" (133 : Nat) "SpectrumDeskModel" "equal" "I") ∈ AW := aw_4 (List.mem_of_getElem? (i := 193) (by decide +kernel)) (by decide +kernel)
theorem k_15947873ae : (Jvm.Cond.fieldLink "SpectrumDeskModel" (136 : Nat) "SpectrumDeskModel" "less" "I") ∈ AW := aw_4 (List.mem_of_getElem? (i := 192) (by decide +kernel)) (by decide +kernel)
theorem k_6487c7a510 : (Jvm.Cond.methodLink "SpectrumDeskModel" (52 : Nat) ({ cls := "SpectrumDeskModel", name := "bigSign", desc := "(I)I" } : Jvm.MethodName)) ∈ AW := aw_5 (List.mem_of_getElem? (i := 81) (by decide +kernel)) (by decide +kernel)
theorem k_b18f58b667 : (Jvm.Cond.instanceMethod ({ cls := "SpectrumDeskModel", name := "bigSign", desc := "(I)I" } : Jvm.MethodName)) ∈ AW := aw_5 (List.mem_of_getElem? (i := 83) (by decide +kernel)) (by decide +kernel)
theorem k_0ad4753b22 : (Jvm.Cond.selects "SpectrumDeskModel" ({ cls := "SpectrumDeskModel", name := "bigSign", desc := "(I)I" } : Jvm.MethodName) ({ cls := "SpectrumDeskModel", name := "bigSign", desc := "(I)I" } : Jvm.MethodName)) ∈ AW := aw_p (by decide +kernel) (by decide +kernel)
theorem k_bbee4b637e : (Jvm.Cond.methodLink "SpectrumDeskModel" (111 : Nat) ({ cls := "SpectrumDeskModel", name := "bigProduct", desc := "(III)V" } : Jvm.MethodName)) ∈ AW := aw_5 (List.mem_of_getElem? (i := 51) (by decide +kernel)) (by decide +kernel)
theorem k_55f9d50ad7 : (Jvm.Cond.instanceMethod ({ cls := "SpectrumDeskModel", name := "bigProduct", desc := "(III)V" } : Jvm.MethodName)) ∈ AW := aw_5 (List.mem_of_getElem? (i := 53) (by decide +kernel)) (by decide +kernel)
theorem k_ea9d46a281 : (Jvm.Cond.selects "SpectrumDeskModel" ({ cls := "SpectrumDeskModel", name := "bigProduct", desc := "(III)V" } : Jvm.MethodName) ({ cls := "SpectrumDeskModel", name := "bigProduct", desc := "(III)V" } : Jvm.MethodName)) ∈ AW := aw_p (by decide +kernel) (by decide +kernel)
theorem k_1f49c5cd66 : (Jvm.Cond.methodLink "SpectrumDeskModel" (115 : Nat) ({ cls := "SpectrumDeskModel", name := "bigAdd", desc := "(IIZ)V" } : Jvm.MethodName)) ∈ AW := aw_5 (List.mem_of_getElem? (i := 60) (by decide +kernel)) (by decide +kernel)
theorem k_a10028f3d7 : (Jvm.Cond.instanceMethod ({ cls := "SpectrumDeskModel", name := "bigAdd", desc := "(IIZ)V" } : Jvm.MethodName)) ∈ AW := aw_5 (List.mem_of_getElem? (i := 62) (by decide +kernel)) (by decide +kernel)
theorem k_758e0597f6 : (Jvm.Cond.selects "SpectrumDeskModel" ({ cls := "SpectrumDeskModel", name := "bigAdd", desc := "(IIZ)V" } : Jvm.MethodName) ({ cls := "SpectrumDeskModel", name := "bigAdd", desc := "(IIZ)V" } : Jvm.MethodName)) ∈ AW := aw_p (by decide +kernel) (by decide +kernel)
theorem k_9767804b5c : (Jvm.Cond.code ({ cls := "SpectrumDeskModel", name := "rowCopy", desc := "(II)V" } : Jvm.MethodName) prog_10_method_17_code (4 : Nat) (Option.none : Option Jvm.ClassFile.FieldType)) ∈ AW := aw_5 (List.mem_of_getElem? (i := 108) (by decide +kernel)) (by decide +kernel)
theorem k_0500b0c175 : (Jvm.Cond.code ({ cls := "SpectrumDeskModel", name := "weigh", desc := "(I)V" } : Jvm.MethodName) prog_10_method_37_code (6 : Nat) (Option.none : Option Jvm.ClassFile.FieldType)) ∈ AW := aw_5 (List.mem_of_getElem? (i := 104) (by decide +kernel)) (by decide +kernel)
set_option maxHeartbeats 4000000 in
set_option maxRecDepth 100000 in
theorem c_SpectrumDeskModel_rowCopy {l : Launch} {D : va_G} {cI cJ cZ cC cG cP : ClassId} {ad : Nat → Nat} {σ0 : Nat → va_E} {th nn rws ps le eq : Int32} {P L M G : Nat → Int32} {Z : Nat → Int} (hG : σ0 187 = .inl (cI, 5, .inl G)) (hB : RB P L M Z) {a b c9 : Nat} (ha : a < 5) (hb9 : b < 5) (hab : b ≠ a) (hc9 : c9 ≤ 8) (hGb : G b = nP c9) :
    Met l y_SpectrumDeskModel_rowCopy v_SpectrumDeskModel_rowCopy (xrm 1) (va_Pc [.ref (ad 183), .int (nI (8 * a)), .int (nI (8 * b))] (xS D classes (xT cI cJ cZ cC cG cP) 193 ad (rw3 σ0 ciM cI cZ (mfs ad th nn rws ps le eq) P L M))) (va_Qv (RU (va_up σ0 187 (.inl (cI, 5, .inl (upd G a (nP c9))))) cI cZ (mfs ad th nn rws ps le eq) (cpX Z (8 * a) (8 * b) c9)) (xS D classes (xT cI cJ cZ cC cG cP) 193 ad) (xA 193 ad)) 0 0 (xA 193 ad) := by
  refine xr_met rfl (Nat.le_of_ble_eq_true rfl) ?_
  intro p e s m args below meth c ls hx hb X hr hlk hl I
  have hl : lv_has ls 4 [(0, .ref (ad 183)), (1, .int (nI (8 * a))), (2, .int (nI (8 * b)))] := hl
  refine lv_aload_n hx hb d_SpectrumDeskModel_rowCopy_0 rfl (lv_at hl 0 rfl) ?_
  refine xr_get X I fin_M 183 (by decide) (r183 ..) rfl 3 (by decide) (List.mem_cons_of_mem _ k_176eac5e1f) rfl rfl d_SpectrumDeskModel_rowCopy_1 ?_
  refine lv_iload_n hx hb d_SpectrumDeskModel_rowCopy_4 rfl (lv_at hl 1 rfl) ?_
  refine lv_bipush (v := nI 8) hx hb d_SpectrumDeskModel_rowCopy_5 (by decide) ?_
  refine lv_idiv hx hb d_SpectrumDeskModel_rowCopy_7 (by decide) ?_
  refine xr_topi (y := nI a) (q_div8 (by omega)) ?_
  refine lv_aload_n hx hb d_SpectrumDeskModel_rowCopy_8 rfl (lv_at hl 0 rfl) ?_
  refine xr_get X I fin_M 183 (by decide) (r183 ..) rfl 3 (by decide) (List.mem_cons_of_mem _ k_176eac5e1f) rfl rfl d_SpectrumDeskModel_rowCopy_9 ?_
  refine lv_iload_n hx hb d_SpectrumDeskModel_rowCopy_12 rfl (lv_at hl 2 rfl) ?_
  refine lv_bipush (v := nI 8) hx hb d_SpectrumDeskModel_rowCopy_13 (by decide) ?_
  refine lv_idiv hx hb d_SpectrumDeskModel_rowCopy_15 (by decide) ?_
  refine xr_topi (y := nI b) (q_div8 (by omega)) ?_
  refine xr_iald X I 187 0 (by decide) ((r_o (by decide)).trans hG) rfl (by omega) (by decide) d_SpectrumDeskModel_rowCopy_16 ?_
  refine xr_topi (y := nP c9) hGb ?_
  refine xr_iast X I 187 0 (by decide) ((r_o (by decide)).trans hG) rfl (by omega) (by decide) d_SpectrumDeskModel_rowCopy_17 (fun H locs I => ?_)
  rw [rw3_o (by decide)] at I
  refine lv_iconst (v := nI 0) hx hb d_SpectrumDeskModel_rowCopy_18 (by decide) ?_
  refine lv_istore_n (lv' := [(3, .int (nI 0)), (0, .ref (ad 183)), (1, .int (nI (8 * a))), (2, .int (nI (8 * b)))]) hx hb d_SpectrumDeskModel_rowCopy_19 rfl hl (by decide) rfl (fun ls hl => ?_)
  have loop : ∀ (j : Nat) (k : Nat) (P2 L2 M2 : Nat → Int32) (ls : Array Slot) (H : Heap) (locs : List Loc), k + j = c9 → RB P2 L2 M2 (cpX Z (8 * a) (8 * b) k) → lv_has ls 4 [(3, .int (nI k)), (0, .ref (ad 183)), (1, .int (nI (8 * a))), (2, .int (nI (8 * b)))] → xI D classes 193 ad s.heap (rw3 (va_up σ0 187 (.inl (cI, 5, .inl (upd G a (nP c9))))) ciM cI cZ (mfs ad th nn rws ps le eq) P2 L2 M2) H locs → W p l e (xrm 1) s m args below meth c H locs 0 0 (MQ below (va_Qv (RU (va_up σ0 187 (.inl (cI, 5, .inl (upd G a (nP c9))))) cI cZ (mfs ad th nn rws ps le eq) (cpX Z (8 * a) (8 * b) c9)) (xS D classes (xT cI cJ cZ cC cG cP) 193 ad) (xA 193 ad)) args s 0 0 (xA 193 ad)) (F0 m 20 ls []) := by
    intro j
    induction j with
    | zero =>
      intro k P2 L2 M2 ls H locs hk h2 hl I
      obtain rfl : k = c9 := by omega
      refine lv_iload_n hx hb d_SpectrumDeskModel_rowCopy_20 rfl (lv_at hl 0 rfl) ?_
      refine lv_aload_n hx hb d_SpectrumDeskModel_rowCopy_21 rfl (lv_at hl 1 rfl) ?_
      refine xr_get X I fin_M 183 (by decide) (r183 ..) rfl 3 (by decide) (List.mem_cons_of_mem _ k_176eac5e1f) rfl rfl d_SpectrumDeskModel_rowCopy_22 ?_
      refine lv_iload_n hx hb d_SpectrumDeskModel_rowCopy_25 rfl (lv_at hl 3 rfl) ?_
      refine lv_bipush (v := nI 8) hx hb d_SpectrumDeskModel_rowCopy_26 (by decide) ?_
      refine lv_idiv hx hb d_SpectrumDeskModel_rowCopy_28 (by decide) ?_
      refine xr_topi (y := nI b) (q_div8 (by omega)) ?_
      refine xr_iald X I 187 0 (by decide) ((r_o (by decide)).trans (va_up_self _ _ _)) rfl (by omega) (by decide) d_SpectrumDeskModel_rowCopy_29 ?_
      refine xr_topi (y := nP k) ((upd_n hab).trans hGb) ?_
      refine lv_icmp_gt hx hb d_SpectrumDeskModel_rowCopy_30 rfl (fun hc => ?_) (fun hc => ?_)
      · exact xr_vret X I hr hlk ⟨P2, L2, M2, rfl, h2⟩ d_SpectrumDeskModel_rowCopy_49
      · exact absurd (nP_lt (by omega)) hc
    | succ j ih =>
      intro k P2 L2 M2 ls H locs hk h2 hl I
      refine lv_iload_n hx hb d_SpectrumDeskModel_rowCopy_20 rfl (lv_at hl 0 rfl) ?_
      refine lv_aload_n hx hb d_SpectrumDeskModel_rowCopy_21 rfl (lv_at hl 1 rfl) ?_
      refine xr_get X I fin_M 183 (by decide) (r183 ..) rfl 3 (by decide) (List.mem_cons_of_mem _ k_176eac5e1f) rfl rfl d_SpectrumDeskModel_rowCopy_22 ?_
      refine lv_iload_n hx hb d_SpectrumDeskModel_rowCopy_25 rfl (lv_at hl 3 rfl) ?_
      refine lv_bipush (v := nI 8) hx hb d_SpectrumDeskModel_rowCopy_26 (by decide) ?_
      refine lv_idiv hx hb d_SpectrumDeskModel_rowCopy_28 (by decide) ?_
      refine xr_topi (y := nI b) (q_div8 (by omega)) ?_
      refine xr_iald X I 187 0 (by decide) ((r_o (by decide)).trans (va_up_self _ _ _)) rfl (by omega) (by decide) d_SpectrumDeskModel_rowCopy_29 ?_
      refine xr_topi (y := nP c9) ((upd_n hab).trans hGb) ?_
      refine lv_icmp_gt hx hb d_SpectrumDeskModel_rowCopy_30 rfl (fun hc => ?_) (fun hc => ?_)
      · exact absurd hc (nP_nlt (by omega) (by omega))
      · refine lv_aload_n hx hb d_SpectrumDeskModel_rowCopy_33 rfl (lv_at hl 1 rfl) ?_
        refine lv_iload_n hx hb d_SpectrumDeskModel_rowCopy_34 rfl (lv_at hl 2 rfl) ?_
        refine lv_iload_n hx hb d_SpectrumDeskModel_rowCopy_35 rfl (lv_at hl 0 rfl) ?_
        refine lv_iadd hx hb d_SpectrumDeskModel_rowCopy_36 (xr_topi (y := nI ((8 * a) + k)) (nI_add (8 * a) k) ?_)
        refine lv_iload_n hx hb d_SpectrumDeskModel_rowCopy_37 rfl (lv_at hl 3 rfl) ?_
        refine lv_iload_n hx hb d_SpectrumDeskModel_rowCopy_38 rfl (lv_at hl 0 rfl) ?_
        refine lv_iadd hx hb d_SpectrumDeskModel_rowCopy_39 (xr_topi (y := nI ((8 * b) + k)) (nI_add (8 * b) k) ?_)
        refine xr_callv (xr_runV (kc := 0) (kr := 1) (n := 2) (As := [.int (nI ((8 * a) + k)), .int (nI ((8 * b) + k))]) (rest := []) X I (by decide) (r183 ..) rfl (c_SpectrumDeskModel_bigCopy (w := 8 * a + k) (u := 8 * b + k) mfs_ok (by omega) (by omega) (by omega) (h2 (8 * b + k) (by omega))) (xg k_b9c8150a19) (List.mem_cons_of_mem _ k_4f43ed96b8) (List.mem_cons_of_mem _ k_c9c9b5ab57) (List.mem_cons_of_mem _ k_5d491bf207) (List.mem_cons_of_mem _ k_30fa15c9ac) (by decide +kernel) (by decide) rfl hl.1 rfl (Nat.le_of_ble_eq_true rfl) d_SpectrumDeskModel_rowCopy_40) I (fun σ1 H locs hp I => ?_)
        obtain ⟨P3, L3, M3, rfl, hf, hx9⟩ := hp
        have h3 := RB_up h2 hf hx9
        have e9 : cpX Z (8 * a) (8 * b) k (8 * b + k) = Z (8 * b + k) := by simp only [cpX]; rw [if_neg (by omega)]
        rw [e9, cpX_s] at h3
        refine lv_iinc (k := 0) (v := nI (k + 1)) (lv' := [(3, .int (nI (k + 1))), (0, .ref (ad 183)), (1, .int (nI (8 * a))), (2, .int (nI (8 * b)))]) hx hb d_SpectrumDeskModel_rowCopy_43 hl rfl (nI_1 k) (by decide) rfl (fun ls hl => ?_)
        refine lv_goto hx hb d_SpectrumDeskModel_rowCopy_46 rfl ?_
        exact ih (k + 1) P3 L3 M3 ls H locs (by omega) h3 hl I
  exact loop c9 0 P L M ls _ _ (by omega) (by rw [cpX_0]; exact hB) hl I
set_option maxHeartbeats 4000000 in
set_option maxRecDepth 100000 in
theorem c_SpectrumDeskModel_weigh {l : Launch} {D : va_G} {cI cJ cZ cC cG cP : ClassId} {ad : Nat → Nat} {σ0 : Nat → va_E} {th nn rws ps le eq : Int32} {P L M G : Nat → Int32} {Z : Nat → Int} (hG : σ0 187 = .inl (cI, 5, .inl G)) (hB : RB P L M Z) {b dd : Nat} {p0 : Nat → Int} (hb9 : b < 4) (hd6 : dd ≤ 6) (hGb : G b = nI dd) (hp0 : ∀ k, k ≤ dd → Z (8 * b + k) = p0 k) (hs8 : sm (Z 108)) (hs9 : sm (Z 109)) (hsA : ∀ k j, k ≤ dd → j ≤ dd → sm (mA (Z 109) p0 k j)) (hsL : ∀ a j k, a ≤ dd → j ≤ dd → k ≤ dd → sm (swp (Z 108) dd (low (Z 108) dd (mulp (Z 109) dd p0 dd) a) j k)) :
    Met l y_SpectrumDeskModel_weigh v_SpectrumDeskModel_weigh (xrm 3) (va_Pc [.ref (ad 183), .int (nI (8 * b))] (xS D classes (xT cI cJ cZ cC cG cP) 193 ad (rw3 σ0 ciM cI cZ (mfs ad th nn rws ps le eq) P L M))) (va_Qv (fun σ2 => ∃ (P' L' M' : Nat → Int32) (X' : Nat → Int), σ2 = rw3 (va_up σ0 187 (.inl (cI, 5, .inl (upd G 4 (nI dd))))) ciM cI cZ (mfs ad th nn rws ps (nI dd - nI (ez (low (Z 108) dd (mulp (Z 109) dd p0 dd) dd) 0 (dd + 1)) - nI (fa (low (Z 108) dd (mulp (Z 109) dd p0 dd) dd) 0 (ez (low (Z 108) dd (mulp (Z 109) dd p0 dd) dd) 0 (dd + 1)) (dd + 1 - ez (low (Z 108) dd (mulp (Z 109) dd p0 dd) dd) 0 (dd + 1)))) (nI (ez (low (Z 108) dd (mulp (Z 109) dd p0 dd) dd) 0 (dd + 1)))) P' L' M' ∧ RB P' L' M' X' ∧ eqX X' (mvX Z dd (low (Z 108) dd (mulp (Z 109) dd p0 dd) dd))) (xS D classes (xT cI cJ cZ cC cG cP) 193 ad) (xA 193 ad)) 0 0 (xA 193 ad) := by
  refine xr_met rfl (Nat.le_of_ble_eq_true rfl) ?_
  intro p e s m args below meth c ls hx hb X hr hlk hl I
  have hl : lv_has ls 6 [(0, .ref (ad 183)), (1, .int (nI (8 * b)))] := hl
  refine lv_aload_n hx hb d_SpectrumDeskModel_weigh_0 rfl (lv_at hl 0 rfl) ?_
  refine lv_bipush (v := nI 32) hx hb d_SpectrumDeskModel_weigh_1 (by decide) ?_
  refine lv_iload_n hx hb d_SpectrumDeskModel_weigh_3 rfl (lv_at hl 1 rfl) ?_
  refine xr_callv (xr_runV (kc := 1) (kr := 3) (n := 2) (As := [.int (nI 32), .int (nI (8 * b))]) (rest := []) X I (by decide) (r183 ..) rfl (c_SpectrumDeskModel_rowCopy (a := 4) (b := b) (c9 := dd + 1) hG hB (by decide) (by omega) (by omega) (by omega) (by rw [nP_succ]; exact hGb)) (xg k_9767804b5c) (List.mem_cons_of_mem _ k_86ef828392) (List.mem_cons_of_mem _ k_fb5b31696c) (List.mem_cons_of_mem _ k_c87e5177a1) (List.mem_cons_of_mem _ k_30fa15c9ac) (by decide +kernel) (by decide) rfl hl.1 rfl (Nat.le_of_ble_eq_true rfl) d_SpectrumDeskModel_weigh_4) I (fun σ1 H locs hp I => ?_)
  obtain ⟨P1, L1, M1, rfl, hB1⟩ := hp
  rw [nP_succ] at I
  have q0 : eqX (cpX Z (8 * 4) (8 * b) (dd + 1)) (mvX Z dd (mA (Z 109) p0 0)) := by
    intro v _
    simp only [cpX, mvX]
    by_cases h : 32 ≤ v ∧ v ≤ 32 + dd
    · rw [if_pos (by omega), if_pos h, show 8 * 4 = 32 from rfl, hp0 (v - 32) (by omega)]; simp [mA]
    · rw [if_neg (by omega), if_neg h]
  have h8 : ∀ (Y : Nat → Int) (f : Nat → Int), eqX Y (mvX Z dd f) → Y 108 = Z 108 ∧ Y 109 = Z 109 := fun Y f h => ⟨(h 108 (by decide)).trans (mvX_out (by omega)), (h 109 (by decide)).trans (mvX_out (by omega))⟩
  have changes : ∀ (q : Nat) (hq : ez (low (Z 108) dd (mulp (Z 109) dd p0 dd) dd) 0 (dd + 1) = q) (j : Nat) (k : Nat) (bf : Int32) (ch : Nat) (P2 L2 M2 : Nat → Int32) (X2 : Nat → Int) (ls : Array Slot) (H : Heap) (locs : List Loc), k + j = dd + 1 → ch + j ≤ 100 → fa (low (Z 108) dd (mulp (Z 109) dd p0 dd) dd) 0 q (dd + 1 - q) = ch + fa (low (Z 108) dd (mulp (Z 109) dd p0 dd) dd) bf k j → RB P2 L2 M2 X2 → eqX X2 (mvX Z dd (low (Z 108) dd (mulp (Z 109) dd p0 dd) dd)) → lv_has ls 6 [(4, .int (nI k)), (3, .int bf), (2, .int (nI ch)), (0, .ref (ad 183)), (1, .int (nI (8 * b)))] → xI D classes 193 ad s.heap (rw3 (va_up σ0 187 (.inl (cI, 5, .inl (upd G 4 (nI dd))))) ciM cI cZ (mfs ad th nn rws ps le (nI q)) P2 L2 M2) H locs → W p l e (xrm 3) s m args below meth c H locs 0 0 (MQ below (va_Qv (fun σ2 => ∃ (P' L' M' : Nat → Int32) (X' : Nat → Int), σ2 = rw3 (va_up σ0 187 (.inl (cI, 5, .inl (upd G 4 (nI dd))))) ciM cI cZ (mfs ad th nn rws ps (nI dd - nI (ez (low (Z 108) dd (mulp (Z 109) dd p0 dd) dd) 0 (dd + 1)) - nI (fa (low (Z 108) dd (mulp (Z 109) dd p0 dd) dd) 0 (ez (low (Z 108) dd (mulp (Z 109) dd p0 dd) dd) 0 (dd + 1)) (dd + 1 - ez (low (Z 108) dd (mulp (Z 109) dd p0 dd) dd) 0 (dd + 1)))) (nI (ez (low (Z 108) dd (mulp (Z 109) dd p0 dd) dd) 0 (dd + 1)))) P' L' M' ∧ RB P' L' M' X' ∧ eqX X' (mvX Z dd (low (Z 108) dd (mulp (Z 109) dd p0 dd) dd))) (xS D classes (xT cI cJ cZ cC cG cP) 193 ad) (xA 193 ad)) args s 0 0 (xA 193 ad)) (F0 m 190 ls []) := by
    intro q hq j
    induction j with
    | zero =>
      intro k bf ch P2 L2 M2 X2 ls H locs hk hch he h2 h3 hl I
      obtain rfl : k = dd + 1 := by omega
      refine lv_iload hx hb d_SpectrumDeskModel_weigh_190 (lv_at hl 0 rfl) ?_
      refine lv_aload_n hx hb d_SpectrumDeskModel_weigh_192 rfl (lv_at hl 3 rfl) ?_
      refine xr_get X I fin_M 183 (by decide) (r183 ..) rfl 3 (by decide) (List.mem_cons_of_mem _ k_176eac5e1f) rfl rfl d_SpectrumDeskModel_weigh_193 ?_
      refine lv_iload_n hx hb d_SpectrumDeskModel_weigh_196 rfl (lv_at hl 4 rfl) ?_
      refine lv_bipush (v := nI 8) hx hb d_SpectrumDeskModel_weigh_197 (by decide) ?_
      refine lv_idiv hx hb d_SpectrumDeskModel_weigh_199 (by decide) ?_
      refine xr_topi (y := nI b) (q_div8 (by omega)) ?_
      refine xr_iald X I 187 0 (by decide) ((r_o (by decide)).trans (va_up_self _ _ _)) rfl (by omega) (by decide) d_SpectrumDeskModel_weigh_200 ?_
      refine xr_topi (y := nI dd) ((upd_n (by omega)).trans hGb) ?_
      refine lv_icmp_gt hx hb d_SpectrumDeskModel_weigh_201 rfl (fun hc => ?_) (fun hc => ?_)
      · refine lv_aload_n hx hb d_SpectrumDeskModel_weigh_248 rfl (lv_at hl 3 rfl) ?_
        refine lv_aload_n hx hb d_SpectrumDeskModel_weigh_249 rfl (lv_at hl 3 rfl) ?_
        refine xr_get X I fin_M 183 (by decide) (r183 ..) rfl 3 (by decide) (List.mem_cons_of_mem _ k_176eac5e1f) rfl rfl d_SpectrumDeskModel_weigh_250 ?_
        refine lv_iload_n hx hb d_SpectrumDeskModel_weigh_253 rfl (lv_at hl 4 rfl) ?_
        refine lv_bipush (v := nI 8) hx hb d_SpectrumDeskModel_weigh_254 (by decide) ?_
        refine lv_idiv hx hb d_SpectrumDeskModel_weigh_256 (by decide) ?_
        refine xr_topi (y := nI b) (q_div8 (by omega)) ?_
        refine xr_iald X I 187 0 (by decide) ((r_o (by decide)).trans (va_up_self _ _ _)) rfl (by omega) (by decide) d_SpectrumDeskModel_weigh_257 ?_
        refine xr_topi (y := nI dd) ((upd_n (by omega)).trans hGb) ?_
        refine lv_aload_n hx hb d_SpectrumDeskModel_weigh_258 rfl (lv_at hl 3 rfl) ?_
        refine xr_get X I fin_M 183 (by decide) (r183 ..) rfl 13 (by decide) (List.mem_cons_of_mem _ k_e06fbbb633) rfl rfl d_SpectrumDeskModel_weigh_259 ?_
        refine lv_isub hx hb d_SpectrumDeskModel_weigh_262 ?_
        refine lv_iload_n hx hb d_SpectrumDeskModel_weigh_263 rfl (lv_at hl 2 rfl) ?_
        refine lv_isub hx hb d_SpectrumDeskModel_weigh_264 ?_
        refine xr_put (ty := .int) X I fin_M t_M t_M_ok n_M 183 (by decide) (r183 ..) rfl 12 (by decide) (List.mem_cons_of_mem _ k_15947873ae) rfl rfl (by decide +kernel) rfl rfl (Nat.le_of_ble_eq_true rfl) d_SpectrumDeskModel_weigh_265 (fun H locs I => ?_)
        rw [rw3_F] at I
        have I : xI D classes 193 ad s.heap (rw3 (va_up σ0 187 (.inl (cI, 5, .inl (upd G 4 (nI dd))))) ciM cI cZ (mfs ad th nn rws ps (((nI dd) - (nI q)) - (nI ch)) (nI q)) P2 L2 M2) H locs := I
        exact xr_vret X I hr hlk ⟨P2, L2, M2, X2, by rw [hq, he]; rfl, h2, h3⟩ d_SpectrumDeskModel_weigh_268
      · exact absurd (nI_lt (Nat.lt_succ_self _) (by omega)) hc
    | succ j ih =>
      intro k bf ch P2 L2 M2 X2 ls H locs hk hch he h2 h3 hl I
      refine lv_iload hx hb d_SpectrumDeskModel_weigh_190 (lv_at hl 0 rfl) ?_
      refine lv_aload_n hx hb d_SpectrumDeskModel_weigh_192 rfl (lv_at hl 3 rfl) ?_
      refine xr_get X I fin_M 183 (by decide) (r183 ..) rfl 3 (by decide) (List.mem_cons_of_mem _ k_176eac5e1f) rfl rfl d_SpectrumDeskModel_weigh_193 ?_
      refine lv_iload_n hx hb d_SpectrumDeskModel_weigh_196 rfl (lv_at hl 4 rfl) ?_
      refine lv_bipush (v := nI 8) hx hb d_SpectrumDeskModel_weigh_197 (by decide) ?_
      refine lv_idiv hx hb d_SpectrumDeskModel_weigh_199 (by decide) ?_
      refine xr_topi (y := nI b) (q_div8 (by omega)) ?_
      refine xr_iald X I 187 0 (by decide) ((r_o (by decide)).trans (va_up_self _ _ _)) rfl (by omega) (by decide) d_SpectrumDeskModel_weigh_200 ?_
      refine xr_topi (y := nI dd) ((upd_n (by omega)).trans hGb) ?_
      refine lv_icmp_gt hx hb d_SpectrumDeskModel_weigh_201 rfl (fun hc => ?_) (fun hc => ?_)
      · exact absurd hc (nI_nlt (by omega) (by omega))
      · refine lv_aload_n hx hb d_SpectrumDeskModel_weigh_204 rfl (lv_at hl 3 rfl) ?_
        refine lv_bipush (v := nI 32) hx hb d_SpectrumDeskModel_weigh_205 (by decide) ?_
        refine lv_iload hx hb d_SpectrumDeskModel_weigh_207 (lv_at hl 0 rfl) ?_
        refine lv_iadd hx hb d_SpectrumDeskModel_weigh_209 (xr_topi (y := nI (32 + k)) (nI_add 32 k) ?_)
        refine xr_calli (xr_runV (kc := 0) (kr := 3) (n := 1) (As := [.int (nI (32 + k))]) (rest := []) X I (by decide) (r183 ..) rfl (c_SpectrumDeskModel_bigSign (w := 32 + k) mfs_ok (by omega) (h2 (32 + k) (by omega))) (xg k_e13fc765ad) (List.mem_cons_of_mem _ k_6487c7a510) (List.mem_cons_of_mem _ k_b18f58b667) (List.mem_cons_of_mem _ k_0ad4753b22) (List.mem_cons_of_mem _ k_30fa15c9ac) (by decide +kernel) (by decide) rfl hl.1 rfl (Nat.le_of_ble_eq_true rfl) d_SpectrumDeskModel_weigh_210) I (fun r1 σ1 H locs hp I => ?_)
        obtain ⟨rfl, rfl⟩ := hp
        have e9 : X2 (32 + k) = (low (Z 108) dd (mulp (Z 109) dd p0 dd) dd) k := (h3 _ (by omega)).trans (mvX_in (by omega))
        refine xr_topi (y := sg ((low (Z 108) dd (mulp (Z 109) dd p0 dd) dd) k)) (by rw [e9]) ?_
        refine lv_istore (lv' := [(5, .int (sg ((low (Z 108) dd (mulp (Z 109) dd p0 dd) dd) k))), (4, .int (nI k)), (3, .int bf), (2, .int (nI ch)), (0, .ref (ad 183)), (1, .int (nI (8 * b)))]) hx hb d_SpectrumDeskModel_weigh_213 hl (by decide) rfl (fun ls hl => ?_)
        refine lv_iload hx hb d_SpectrumDeskModel_weigh_215 (lv_at hl 0 rfl) ?_
        refine lv_iload_n hx hb d_SpectrumDeskModel_weigh_217 rfl (lv_at hl 2 rfl) ?_
        refine lv_imul hx hb d_SpectrumDeskModel_weigh_218 ?_
        refine lv_if_ge hx hb d_SpectrumDeskModel_weigh_219 rfl (fun hd => ?_) (fun hd => ?_)
        · have hs1 : ¬ sg ((low (Z 108) dd (mulp (Z 109) dd p0 dd) dd) k) * bf < 0 := fun h => absurd hd (Int32.not_le.mpr h)
          refine lv_iload_n hx hb d_SpectrumDeskModel_weigh_228 rfl (lv_at hl 3 rfl) ?_
          refine lv_istore_n (lv' := [(2, .int (nI ch)), (5, .int (sg ((low (Z 108) dd (mulp (Z 109) dd p0 dd) dd) k))), (4, .int (nI k)), (3, .int bf), (0, .ref (ad 183)), (1, .int (nI (8 * b)))]) hx hb d_SpectrumDeskModel_weigh_229 rfl hl (by decide) rfl (fun ls hl => ?_)
          refine lv_iload hx hb d_SpectrumDeskModel_weigh_230 (lv_at hl 1 rfl) ?_
          refine lv_if_ne hx hb d_SpectrumDeskModel_weigh_232 rfl (fun hz => ?_) (fun hz => ?_)
          · refine lv_iload hx hb d_SpectrumDeskModel_weigh_239 (lv_at hl 1 rfl) ?_
            refine lv_istore_n (lv' := [(3, .int (sg ((low (Z 108) dd (mulp (Z 109) dd p0 dd) dd) k))), (2, .int (nI ch)), (5, .int (sg ((low (Z 108) dd (mulp (Z 109) dd p0 dd) dd) k))), (4, .int (nI k)), (0, .ref (ad 183)), (1, .int (nI (8 * b)))]) hx hb d_SpectrumDeskModel_weigh_241 rfl hl (by decide) rfl (fun ls hl => ?_)
            refine lv_iinc (k := 3) (v := nI (k + 1)) (lv' := [(4, .int (nI (k + 1))), (3, .int (sg ((low (Z 108) dd (mulp (Z 109) dd p0 dd) dd) k))), (2, .int (nI ch)), (5, .int (sg ((low (Z 108) dd (mulp (Z 109) dd p0 dd) dd) k))), (0, .ref (ad 183)), (1, .int (nI (8 * b)))]) hx hb d_SpectrumDeskModel_weigh_242 hl rfl (nI_1 k) (by decide) rfl (fun ls hl => ?_)
            refine lv_goto hx hb d_SpectrumDeskModel_weigh_245 rfl ?_
            have hl := lv_sub hl [0, 1, 2, 4, 5] rfl
            have hl : lv_has ls 6 [(4, .int (nI (k + 1))), (3, .int (sg ((low (Z 108) dd (mulp (Z 109) dd p0 dd) dd) k))), (2, .int (nI ch)), (0, .ref (ad 183)), (1, .int (nI (8 * b)))] := hl
            exact ih (k + 1) (sg ((low (Z 108) dd (mulp (Z 109) dd p0 dd) dd) k)) (ch) P2 L2 M2 X2 ls H locs (by omega) (by omega) (by rw [he, fa, if_neg hs1, if_neg hz]; omega) h2 h3 hl I
          · refine lv_iload_n hx hb d_SpectrumDeskModel_weigh_235 rfl (lv_at hl 3 rfl) ?_
            refine lv_goto hx hb d_SpectrumDeskModel_weigh_236 rfl ?_
            refine lv_istore_n (lv' := [(3, .int bf), (2, .int (nI ch)), (5, .int (sg ((low (Z 108) dd (mulp (Z 109) dd p0 dd) dd) k))), (4, .int (nI k)), (0, .ref (ad 183)), (1, .int (nI (8 * b)))]) hx hb d_SpectrumDeskModel_weigh_241 rfl hl (by decide) rfl (fun ls hl => ?_)
            refine lv_iinc (k := 3) (v := nI (k + 1)) (lv' := [(4, .int (nI (k + 1))), (3, .int bf), (2, .int (nI ch)), (5, .int (sg ((low (Z 108) dd (mulp (Z 109) dd p0 dd) dd) k))), (0, .ref (ad 183)), (1, .int (nI (8 * b)))]) hx hb d_SpectrumDeskModel_weigh_242 hl rfl (nI_1 k) (by decide) rfl (fun ls hl => ?_)
            refine lv_goto hx hb d_SpectrumDeskModel_weigh_245 rfl ?_
            have hl := lv_sub hl [0, 1, 2, 4, 5] rfl
            have hl : lv_has ls 6 [(4, .int (nI (k + 1))), (3, .int bf), (2, .int (nI ch)), (0, .ref (ad 183)), (1, .int (nI (8 * b)))] := hl
            exact ih (k + 1) bf (ch) P2 L2 M2 X2 ls H locs (by omega) (by omega) (by rw [he, fa, if_neg hs1, if_pos hz]; omega) h2 h3 hl I
        · have hs1 : sg ((low (Z 108) dd (mulp (Z 109) dd p0 dd) dd) k) * bf < 0 := Int32.not_le.mp hd
          refine lv_iload_n hx hb d_SpectrumDeskModel_weigh_222 rfl (lv_at hl 3 rfl) ?_
          refine lv_iconst (v := nI 1) hx hb d_SpectrumDeskModel_weigh_223 (by decide) ?_
          refine lv_iadd hx hb d_SpectrumDeskModel_weigh_224 (xr_topi (y := nI (ch + 1)) (nI_add ch 1) ?_)
          refine lv_goto hx hb d_SpectrumDeskModel_weigh_225 rfl ?_
          refine lv_istore_n (lv' := [(2, .int (nI (ch + 1))), (5, .int (sg ((low (Z 108) dd (mulp (Z 109) dd p0 dd) dd) k))), (4, .int (nI k)), (3, .int bf), (0, .ref (ad 183)), (1, .int (nI (8 * b)))]) hx hb d_SpectrumDeskModel_weigh_229 rfl hl (by decide) rfl (fun ls hl => ?_)
          refine lv_iload hx hb d_SpectrumDeskModel_weigh_230 (lv_at hl 1 rfl) ?_
          refine lv_if_ne hx hb d_SpectrumDeskModel_weigh_232 rfl (fun hz => ?_) (fun hz => ?_)
          · refine lv_iload hx hb d_SpectrumDeskModel_weigh_239 (lv_at hl 1 rfl) ?_
            refine lv_istore_n (lv' := [(3, .int (sg ((low (Z 108) dd (mulp (Z 109) dd p0 dd) dd) k))), (2, .int (nI (ch + 1))), (5, .int (sg ((low (Z 108) dd (mulp (Z 109) dd p0 dd) dd) k))), (4, .int (nI k)), (0, .ref (ad 183)), (1, .int (nI (8 * b)))]) hx hb d_SpectrumDeskModel_weigh_241 rfl hl (by decide) rfl (fun ls hl => ?_)
            refine lv_iinc (k := 3) (v := nI (k + 1)) (lv' := [(4, .int (nI (k + 1))), (3, .int (sg ((low (Z 108) dd (mulp (Z 109) dd p0 dd) dd) k))), (2, .int (nI (ch + 1))), (5, .int (sg ((low (Z 108) dd (mulp (Z 109) dd p0 dd) dd) k))), (0, .ref (ad 183)), (1, .int (nI (8 * b)))]) hx hb d_SpectrumDeskModel_weigh_242 hl rfl (nI_1 k) (by decide) rfl (fun ls hl => ?_)
            refine lv_goto hx hb d_SpectrumDeskModel_weigh_245 rfl ?_
            have hl := lv_sub hl [0, 1, 2, 4, 5] rfl
            have hl : lv_has ls 6 [(4, .int (nI (k + 1))), (3, .int (sg ((low (Z 108) dd (mulp (Z 109) dd p0 dd) dd) k))), (2, .int (nI (ch + 1))), (0, .ref (ad 183)), (1, .int (nI (8 * b)))] := hl
            exact ih (k + 1) (sg ((low (Z 108) dd (mulp (Z 109) dd p0 dd) dd) k)) (ch + 1) P2 L2 M2 X2 ls H locs (by omega) (by omega) (by rw [he, fa, if_pos hs1, if_neg hz]; omega) h2 h3 hl I
          · refine lv_iload_n hx hb d_SpectrumDeskModel_weigh_235 rfl (lv_at hl 3 rfl) ?_
            refine lv_goto hx hb d_SpectrumDeskModel_weigh_236 rfl ?_
            refine lv_istore_n (lv' := [(3, .int bf), (2, .int (nI (ch + 1))), (5, .int (sg ((low (Z 108) dd (mulp (Z 109) dd p0 dd) dd) k))), (4, .int (nI k)), (0, .ref (ad 183)), (1, .int (nI (8 * b)))]) hx hb d_SpectrumDeskModel_weigh_241 rfl hl (by decide) rfl (fun ls hl => ?_)
            refine lv_iinc (k := 3) (v := nI (k + 1)) (lv' := [(4, .int (nI (k + 1))), (3, .int bf), (2, .int (nI (ch + 1))), (5, .int (sg ((low (Z 108) dd (mulp (Z 109) dd p0 dd) dd) k))), (0, .ref (ad 183)), (1, .int (nI (8 * b)))]) hx hb d_SpectrumDeskModel_weigh_242 hl rfl (nI_1 k) (by decide) rfl (fun ls hl => ?_)
            refine lv_goto hx hb d_SpectrumDeskModel_weigh_245 rfl ?_
            have hl := lv_sub hl [0, 1, 2, 4, 5] rfl
            have hl : lv_has ls 6 [(4, .int (nI (k + 1))), (3, .int bf), (2, .int (nI (ch + 1))), (0, .ref (ad 183)), (1, .int (nI (8 * b)))] := hl
            exact ih (k + 1) bf (ch + 1) P2 L2 M2 X2 ls H locs (by omega) (by omega) (by rw [he, fa, if_pos hs1, if_pos hz]; omega) h2 h3 hl I
  have equals : ∀ (j : Nat) (q : Nat) (P2 L2 M2 : Nat → Int32) (X2 : Nat → Int) (ls : Array Slot) (H : Heap) (locs : List Loc), q + j = dd + 1 → ez (low (Z 108) dd (mulp (Z 109) dd p0 dd) dd) 0 (dd + 1) = ez (low (Z 108) dd (mulp (Z 109) dd p0 dd) dd) q j → RB P2 L2 M2 X2 → eqX X2 (mvX Z dd (low (Z 108) dd (mulp (Z 109) dd p0 dd) dd)) → lv_has ls 6 [(0, .ref (ad 183)), (1, .int (nI (8 * b)))] → xI D classes 193 ad s.heap (rw3 (va_up σ0 187 (.inl (cI, 5, .inl (upd G 4 (nI dd))))) ciM cI cZ (mfs ad th nn rws ps le (nI q)) P2 L2 M2) H locs → W p l e (xrm 3) s m args below meth c H locs 0 0 (MQ below (va_Qv (fun σ2 => ∃ (P' L' M' : Nat → Int32) (X' : Nat → Int), σ2 = rw3 (va_up σ0 187 (.inl (cI, 5, .inl (upd G 4 (nI dd))))) ciM cI cZ (mfs ad th nn rws ps (nI dd - nI (ez (low (Z 108) dd (mulp (Z 109) dd p0 dd) dd) 0 (dd + 1)) - nI (fa (low (Z 108) dd (mulp (Z 109) dd p0 dd) dd) 0 (ez (low (Z 108) dd (mulp (Z 109) dd p0 dd) dd) 0 (dd + 1)) (dd + 1 - ez (low (Z 108) dd (mulp (Z 109) dd p0 dd) dd) 0 (dd + 1)))) (nI (ez (low (Z 108) dd (mulp (Z 109) dd p0 dd) dd) 0 (dd + 1)))) P' L' M' ∧ RB P' L' M' X' ∧ eqX X' (mvX Z dd (low (Z 108) dd (mulp (Z 109) dd p0 dd) dd))) (xS D classes (xT cI cJ cZ cC cG cP) 193 ad) (xA 193 ad)) args s 0 0 (xA 193 ad)) (F0 m 137 ls []) := by
    intro j
    induction j with
    | zero =>
      intro q P2 L2 M2 X2 ls H locs hk he h2 h3 hl I
      obtain rfl : q = dd + 1 := by omega
      refine lv_aload_n hx hb d_SpectrumDeskModel_weigh_137 rfl (lv_at hl 0 rfl) ?_
      refine xr_get X I fin_M 183 (by decide) (r183 ..) rfl 13 (by decide) (List.mem_cons_of_mem _ k_e06fbbb633) rfl rfl d_SpectrumDeskModel_weigh_138 ?_
      refine lv_aload_n hx hb d_SpectrumDeskModel_weigh_141 rfl (lv_at hl 0 rfl) ?_
      refine xr_get X I fin_M 183 (by decide) (r183 ..) rfl 3 (by decide) (List.mem_cons_of_mem _ k_176eac5e1f) rfl rfl d_SpectrumDeskModel_weigh_142 ?_
      refine lv_iload_n hx hb d_SpectrumDeskModel_weigh_145 rfl (lv_at hl 1 rfl) ?_
      refine lv_bipush (v := nI 8) hx hb d_SpectrumDeskModel_weigh_146 (by decide) ?_
      refine lv_idiv hx hb d_SpectrumDeskModel_weigh_148 (by decide) ?_
      refine xr_topi (y := nI b) (q_div8 (by omega)) ?_
      refine xr_iald X I 187 0 (by decide) ((r_o (by decide)).trans (va_up_self _ _ _)) rfl (by omega) (by decide) d_SpectrumDeskModel_weigh_149 ?_
      refine xr_topi (y := nI dd) ((upd_n (by omega)).trans hGb) ?_
      refine lv_icmp_gt hx hb d_SpectrumDeskModel_weigh_150 rfl (fun hc => ?_) (fun hc => ?_)
      · refine lv_iconst (v := nI 0) hx hb d_SpectrumDeskModel_weigh_180 (by decide) ?_
        refine lv_istore_n (lv' := [(2, .int (nI 0)), (0, .ref (ad 183)), (1, .int (nI (8 * b)))]) hx hb d_SpectrumDeskModel_weigh_181 rfl hl (by decide) rfl (fun ls hl => ?_)
        refine lv_iconst (v := 0) hx hb d_SpectrumDeskModel_weigh_182 (by decide) ?_
        refine lv_istore_n (lv' := [(3, .int 0), (2, .int (nI 0)), (0, .ref (ad 183)), (1, .int (nI (8 * b)))]) hx hb d_SpectrumDeskModel_weigh_183 rfl hl (by decide) rfl (fun ls hl => ?_)
        refine lv_aload_n hx hb d_SpectrumDeskModel_weigh_184 rfl (lv_at hl 2 rfl) ?_
        refine xr_get X I fin_M 183 (by decide) (r183 ..) rfl 13 (by decide) (List.mem_cons_of_mem _ k_e06fbbb633) rfl rfl d_SpectrumDeskModel_weigh_185 ?_
        refine lv_istore (lv' := [(4, .int (nI (dd + 1))), (3, .int 0), (2, .int (nI 0)), (0, .ref (ad 183)), (1, .int (nI (8 * b)))]) hx hb d_SpectrumDeskModel_weigh_188 hl (by decide) rfl (fun ls hl => ?_)
        exact changes (dd + 1) he 0 (dd + 1) 0 0 P2 L2 M2 X2 ls H locs (by omega) (by decide) (by rw [Nat.sub_self]; rfl) h2 h3 hl I
      · exact absurd (nI_lt (Nat.lt_succ_self _) (by omega)) hc
    | succ j ih =>
      intro q P2 L2 M2 X2 ls H locs hk he h2 h3 hl I
      refine lv_aload_n hx hb d_SpectrumDeskModel_weigh_137 rfl (lv_at hl 0 rfl) ?_
      refine xr_get X I fin_M 183 (by decide) (r183 ..) rfl 13 (by decide) (List.mem_cons_of_mem _ k_e06fbbb633) rfl rfl d_SpectrumDeskModel_weigh_138 ?_
      refine lv_aload_n hx hb d_SpectrumDeskModel_weigh_141 rfl (lv_at hl 0 rfl) ?_
      refine xr_get X I fin_M 183 (by decide) (r183 ..) rfl 3 (by decide) (List.mem_cons_of_mem _ k_176eac5e1f) rfl rfl d_SpectrumDeskModel_weigh_142 ?_
      refine lv_iload_n hx hb d_SpectrumDeskModel_weigh_145 rfl (lv_at hl 1 rfl) ?_
      refine lv_bipush (v := nI 8) hx hb d_SpectrumDeskModel_weigh_146 (by decide) ?_
      refine lv_idiv hx hb d_SpectrumDeskModel_weigh_148 (by decide) ?_
      refine xr_topi (y := nI b) (q_div8 (by omega)) ?_
      refine xr_iald X I 187 0 (by decide) ((r_o (by decide)).trans (va_up_self _ _ _)) rfl (by omega) (by decide) d_SpectrumDeskModel_weigh_149 ?_
      refine xr_topi (y := nI dd) ((upd_n (by omega)).trans hGb) ?_
      refine lv_icmp_gt hx hb d_SpectrumDeskModel_weigh_150 rfl (fun hc => ?_) (fun hc => ?_)
      · exact absurd hc (nI_nlt (by omega) (by omega))
      · refine lv_aload_n hx hb d_SpectrumDeskModel_weigh_153 rfl (lv_at hl 0 rfl) ?_
        refine lv_bipush (v := nI 32) hx hb d_SpectrumDeskModel_weigh_154 (by decide) ?_
        refine lv_aload_n hx hb d_SpectrumDeskModel_weigh_156 rfl (lv_at hl 0 rfl) ?_
        refine xr_get X I fin_M 183 (by decide) (r183 ..) rfl 13 (by decide) (List.mem_cons_of_mem _ k_e06fbbb633) rfl rfl d_SpectrumDeskModel_weigh_157 ?_
        refine lv_iadd hx hb d_SpectrumDeskModel_weigh_160 (xr_topi (y := nI (32 + q)) (nI_add 32 q) ?_)
        refine xr_calli (xr_runV (kc := 0) (kr := 3) (n := 1) (As := [.int (nI (32 + q))]) (rest := []) X I (by decide) (r183 ..) rfl (c_SpectrumDeskModel_bigSign (w := 32 + q) mfs_ok (by omega) (h2 (32 + q) (by omega))) (xg k_e13fc765ad) (List.mem_cons_of_mem _ k_6487c7a510) (List.mem_cons_of_mem _ k_b18f58b667) (List.mem_cons_of_mem _ k_0ad4753b22) (List.mem_cons_of_mem _ k_30fa15c9ac) (by decide +kernel) (by decide) rfl hl.1 rfl (Nat.le_of_ble_eq_true rfl) d_SpectrumDeskModel_weigh_161) I (fun r1 σ1 H locs hp I => ?_)
        obtain ⟨rfl, rfl⟩ := hp
        have e9 : X2 (32 + q) = (low (Z 108) dd (mulp (Z 109) dd p0 dd) dd) q := (h3 _ (by omega)).trans (mvX_in (by omega))
        refine xr_topi (y := sg ((low (Z 108) dd (mulp (Z 109) dd p0 dd) dd) q)) (by rw [e9]) ?_
        refine lv_if_ne hx hb d_SpectrumDeskModel_weigh_164 rfl (fun hd => ?_) (fun hd => ?_)
        · have hz : ¬ (low (Z 108) dd (mulp (Z 109) dd p0 dd) dd) q = 0 := fun h => hd (sg_zero.mpr h)
          refine lv_iconst (v := nI 0) hx hb d_SpectrumDeskModel_weigh_180 (by decide) ?_
          refine lv_istore_n (lv' := [(2, .int (nI 0)), (0, .ref (ad 183)), (1, .int (nI (8 * b)))]) hx hb d_SpectrumDeskModel_weigh_181 rfl hl (by decide) rfl (fun ls hl => ?_)
          refine lv_iconst (v := 0) hx hb d_SpectrumDeskModel_weigh_182 (by decide) ?_
          refine lv_istore_n (lv' := [(3, .int 0), (2, .int (nI 0)), (0, .ref (ad 183)), (1, .int (nI (8 * b)))]) hx hb d_SpectrumDeskModel_weigh_183 rfl hl (by decide) rfl (fun ls hl => ?_)
          refine lv_aload_n hx hb d_SpectrumDeskModel_weigh_184 rfl (lv_at hl 2 rfl) ?_
          refine xr_get X I fin_M 183 (by decide) (r183 ..) rfl 13 (by decide) (List.mem_cons_of_mem _ k_e06fbbb633) rfl rfl d_SpectrumDeskModel_weigh_185 ?_
          refine lv_istore (lv' := [(4, .int (nI q)), (3, .int 0), (2, .int (nI 0)), (0, .ref (ad 183)), (1, .int (nI (8 * b)))]) hx hb d_SpectrumDeskModel_weigh_188 hl (by decide) rfl (fun ls hl => ?_)
          exact changes q (by rw [he, ez, if_neg hz]) (dd + 1 - q) q 0 0 P2 L2 M2 X2 ls H locs (by omega) (by omega) (by simp) h2 h3 hl I
        · have hz : (low (Z 108) dd (mulp (Z 109) dd p0 dd) dd) q = 0 := sg_zero.mp hd
          refine lv_aload_n hx hb d_SpectrumDeskModel_weigh_167 rfl (lv_at hl 0 rfl) ?_
          refine lv_dup hx hb d_SpectrumDeskModel_weigh_168 rfl ?_
          refine xr_get X I fin_M 183 (by decide) (r183 ..) rfl 13 (by decide) (List.mem_cons_of_mem _ k_e06fbbb633) rfl rfl d_SpectrumDeskModel_weigh_169 ?_
          refine lv_iconst (v := nI 1) hx hb d_SpectrumDeskModel_weigh_172 (by decide) ?_
          refine lv_iadd hx hb d_SpectrumDeskModel_weigh_173 (xr_topi (y := nI (q + 1)) (nI_add q 1) ?_)
          refine xr_put (ty := .int) X I fin_M t_M t_M_ok n_M 183 (by decide) (r183 ..) rfl 13 (by decide) (List.mem_cons_of_mem _ k_e06fbbb633) rfl rfl (by decide +kernel) rfl rfl (Nat.le_of_ble_eq_true rfl) d_SpectrumDeskModel_weigh_174 (fun H locs I => ?_)
          rw [rw3_F] at I
          have I : xI D classes 193 ad s.heap (rw3 (va_up σ0 187 (.inl (cI, 5, .inl (upd G 4 (nI dd))))) ciM cI cZ (mfs ad th nn rws ps le (nI (q + 1))) P2 L2 M2) H locs := I
          refine lv_goto hx hb d_SpectrumDeskModel_weigh_177 rfl ?_
          exact ih (q + 1) P2 L2 M2 X2 ls H locs (by omega) (by rw [he, ez, if_pos hz]) h2 h3 hl I
  have shift : ∀ (k : Nat) (a : Nat) (P2 L2 M2 : Nat → Int32) (X2 : Nat → Int) (ls : Array Slot) (H : Heap) (locs : List Loc), a + k = dd → RB P2 L2 M2 X2 → eqX X2 (mvX Z dd (low (Z 108) dd (mulp (Z 109) dd p0 dd) a)) → lv_has ls 6 [(2, .int (nI a)), (0, .ref (ad 183)), (1, .int (nI (8 * b)))] → xI D classes 193 ad s.heap (rw3 (va_up σ0 187 (.inl (cI, 5, .inl (upd G 4 (nI dd))))) ciM cI cZ (mfs ad th nn rws ps le eq) P2 L2 M2) H locs → W p l e (xrm 3) s m args below meth c H locs 0 0 (MQ below (va_Qv (fun σ2 => ∃ (P' L' M' : Nat → Int32) (X' : Nat → Int), σ2 = rw3 (va_up σ0 187 (.inl (cI, 5, .inl (upd G 4 (nI dd))))) ciM cI cZ (mfs ad th nn rws ps (nI dd - nI (ez (low (Z 108) dd (mulp (Z 109) dd p0 dd) dd) 0 (dd + 1)) - nI (fa (low (Z 108) dd (mulp (Z 109) dd p0 dd) dd) 0 (ez (low (Z 108) dd (mulp (Z 109) dd p0 dd) dd) 0 (dd + 1)) (dd + 1 - ez (low (Z 108) dd (mulp (Z 109) dd p0 dd) dd) 0 (dd + 1)))) (nI (ez (low (Z 108) dd (mulp (Z 109) dd p0 dd) dd) 0 (dd + 1)))) P' L' M' ∧ RB P' L' M' X' ∧ eqX X' (mvX Z dd (low (Z 108) dd (mulp (Z 109) dd p0 dd) dd))) (xS D classes (xT cI cJ cZ cC cG cP) 193 ad) (xA 193 ad)) args s 0 0 (xA 193 ad)) (F0 m 65 ls []) := by
    intro k
    induction k with
    | zero =>
      intro a P2 L2 M2 X2 ls H locs hk h2 h3 hl I
      obtain rfl : a = dd := by omega
      refine lv_iload_n hx hb d_SpectrumDeskModel_weigh_65 rfl (lv_at hl 0 rfl) ?_
      refine lv_aload_n hx hb d_SpectrumDeskModel_weigh_66 rfl (lv_at hl 1 rfl) ?_
      refine xr_get X I fin_M 183 (by decide) (r183 ..) rfl 3 (by decide) (List.mem_cons_of_mem _ k_176eac5e1f) rfl rfl d_SpectrumDeskModel_weigh_67 ?_
      refine lv_iload_n hx hb d_SpectrumDeskModel_weigh_70 rfl (lv_at hl 2 rfl) ?_
      refine lv_bipush (v := nI 8) hx hb d_SpectrumDeskModel_weigh_71 (by decide) ?_
      refine lv_idiv hx hb d_SpectrumDeskModel_weigh_73 (by decide) ?_
      refine xr_topi (y := nI b) (q_div8 (by omega)) ?_
      refine xr_iald X I 187 0 (by decide) ((r_o (by decide)).trans (va_up_self _ _ _)) rfl (by omega) (by decide) d_SpectrumDeskModel_weigh_74 ?_
      refine xr_topi (y := nI a) ((upd_n (by omega)).trans hGb) ?_
      refine lv_icmp_ge hx hb d_SpectrumDeskModel_weigh_75 rfl (fun hc => ?_) (fun hc => ?_)
      · refine lv_aload_n hx hb d_SpectrumDeskModel_weigh_132 rfl (lv_at hl 1 rfl) ?_
        refine lv_iconst (v := nI 0) hx hb d_SpectrumDeskModel_weigh_133 (by decide) ?_
        refine xr_put (ty := .int) X I fin_M t_M t_M_ok n_M 183 (by decide) (r183 ..) rfl 13 (by decide) (List.mem_cons_of_mem _ k_e06fbbb633) rfl rfl (by decide +kernel) rfl rfl (Nat.le_of_ble_eq_true rfl) d_SpectrumDeskModel_weigh_134 (fun H locs I => ?_)
        rw [rw3_F] at I
        have I : xI D classes 193 ad s.heap (rw3 (va_up σ0 187 (.inl (cI, 5, .inl (upd G 4 (nI a))))) ciM cI cZ (mfs ad th nn rws ps le (nI 0)) P2 L2 M2) H locs := I
        have hl := lv_sub hl [1, 2] rfl
        have hl : lv_has ls 6 [(0, .ref (ad 183)), (1, .int (nI (8 * b)))] := hl
        exact equals (a + 1) 0 P2 L2 M2 X2 ls H locs (by omega) rfl h2 h3 hl I
      · exact absurd (nI_le (Nat.le_refl _) (by omega)) hc
    | succ k ih =>
      intro a P2 L2 M2 X2 ls H locs hk h2 h3 hl I
      refine lv_iload_n hx hb d_SpectrumDeskModel_weigh_65 rfl (lv_at hl 0 rfl) ?_
      refine lv_aload_n hx hb d_SpectrumDeskModel_weigh_66 rfl (lv_at hl 1 rfl) ?_
      refine xr_get X I fin_M 183 (by decide) (r183 ..) rfl 3 (by decide) (List.mem_cons_of_mem _ k_176eac5e1f) rfl rfl d_SpectrumDeskModel_weigh_67 ?_
      refine lv_iload_n hx hb d_SpectrumDeskModel_weigh_70 rfl (lv_at hl 2 rfl) ?_
      refine lv_bipush (v := nI 8) hx hb d_SpectrumDeskModel_weigh_71 (by decide) ?_
      refine lv_idiv hx hb d_SpectrumDeskModel_weigh_73 (by decide) ?_
      refine xr_topi (y := nI b) (q_div8 (by omega)) ?_
      refine xr_iald X I 187 0 (by decide) ((r_o (by decide)).trans (va_up_self _ _ _)) rfl (by omega) (by decide) d_SpectrumDeskModel_weigh_74 ?_
      refine xr_topi (y := nI dd) ((upd_n (by omega)).trans hGb) ?_
      refine lv_icmp_ge hx hb d_SpectrumDeskModel_weigh_75 rfl (fun hc => ?_) (fun hc => ?_)
      · exact absurd hc (nI_ge (by omega) (by omega))
      · refine lv_aload_n hx hb d_SpectrumDeskModel_weigh_78 rfl (lv_at hl 1 rfl) ?_
        refine xr_get X I fin_M 183 (by decide) (r183 ..) rfl 3 (by decide) (List.mem_cons_of_mem _ k_176eac5e1f) rfl rfl d_SpectrumDeskModel_weigh_79 ?_
        refine lv_iload_n hx hb d_SpectrumDeskModel_weigh_82 rfl (lv_at hl 2 rfl) ?_
        refine lv_bipush (v := nI 8) hx hb d_SpectrumDeskModel_weigh_83 (by decide) ?_
        refine lv_idiv hx hb d_SpectrumDeskModel_weigh_85 (by decide) ?_
        refine xr_topi (y := nI b) (q_div8 (by omega)) ?_
        refine xr_iald X I 187 0 (by decide) ((r_o (by decide)).trans (va_up_self _ _ _)) rfl (by omega) (by decide) d_SpectrumDeskModel_weigh_86 ?_
        refine xr_topi (y := nI dd) ((upd_n (by omega)).trans hGb) ?_
        refine lv_iconst (v := nI 1) hx hb d_SpectrumDeskModel_weigh_87 (by decide) ?_
        refine lv_isub hx hb d_SpectrumDeskModel_weigh_88 ?_
        refine xr_topi (y := nP dd) rfl ?_
        refine lv_istore_n (lv' := [(3, .int (nP dd)), (2, .int (nI a)), (0, .ref (ad 183)), (1, .int (nI (8 * b)))]) hx hb d_SpectrumDeskModel_weigh_89 rfl hl (by decide) rfl (fun ls hl => ?_)
        have inner : ∀ (k2 : Nat) (bb : Nat) (P3 L3 M3 : Nat → Int32) (X3 : Nat → Int) (ls : Array Slot) (H : Heap) (locs : List Loc), bb = a + k2 → bb ≤ dd → RB P3 L3 M3 X3 → eqX X3 (mvX Z dd (swp (Z 108) dd (low (Z 108) dd (mulp (Z 109) dd p0 dd) a) (dd - bb))) → lv_has ls 6 [(3, .int (nP bb)), (2, .int (nI a)), (0, .ref (ad 183)), (1, .int (nI (8 * b)))] → xI D classes 193 ad s.heap (rw3 (va_up σ0 187 (.inl (cI, 5, .inl (upd G 4 (nI dd))))) ciM cI cZ (mfs ad th nn rws ps le eq) P3 L3 M3) H locs → W p l e (xrm 3) s m args below meth c H locs 0 0 (MQ below (va_Qv (fun σ2 => ∃ (P' L' M' : Nat → Int32) (X' : Nat → Int), σ2 = rw3 (va_up σ0 187 (.inl (cI, 5, .inl (upd G 4 (nI dd))))) ciM cI cZ (mfs ad th nn rws ps (nI dd - nI (ez (low (Z 108) dd (mulp (Z 109) dd p0 dd) dd) 0 (dd + 1)) - nI (fa (low (Z 108) dd (mulp (Z 109) dd p0 dd) dd) 0 (ez (low (Z 108) dd (mulp (Z 109) dd p0 dd) dd) 0 (dd + 1)) (dd + 1 - ez (low (Z 108) dd (mulp (Z 109) dd p0 dd) dd) 0 (dd + 1)))) (nI (ez (low (Z 108) dd (mulp (Z 109) dd p0 dd) dd) 0 (dd + 1)))) P' L' M' ∧ RB P' L' M' X' ∧ eqX X' (mvX Z dd (low (Z 108) dd (mulp (Z 109) dd p0 dd) dd))) (xS D classes (xT cI cJ cZ cC cG cP) 193 ad) (xA 193 ad)) args s 0 0 (xA 193 ad)) (F0 m 90 ls []) := by
          intro k2
          induction k2 with
          | zero =>
            intro bb P3 L3 M3 X3 ls H locs hb2 hbd g2 g3 hl I
            obtain rfl : bb = a := by omega
            refine lv_iload_n hx hb d_SpectrumDeskModel_weigh_90 rfl (lv_at hl 0 rfl) ?_
            refine lv_iload_n hx hb d_SpectrumDeskModel_weigh_91 rfl (lv_at hl 1 rfl) ?_
            refine lv_icmp_lt hx hb d_SpectrumDeskModel_weigh_92 rfl (fun hd => ?_) (fun hd => ?_)
            · refine lv_iinc (k := 1) (v := nI (bb + 1)) (lv' := [(2, .int (nI (bb + 1))), (3, .int (nP bb)), (0, .ref (ad 183)), (1, .int (nI (8 * b)))]) hx hb d_SpectrumDeskModel_weigh_126 hl rfl (nI_1 bb) (by decide) rfl (fun ls hl => ?_)
              refine lv_goto hx hb d_SpectrumDeskModel_weigh_129 rfl ?_
              have hl := lv_sub hl [0, 2, 3] rfl
              have hl : lv_has ls 6 [(2, .int (nI (bb + 1))), (0, .ref (ad 183)), (1, .int (nI (8 * b)))] := hl
              exact ih (bb + 1) P3 L3 M3 X3 ls H locs (by omega) g2 (by have e : low (Z 108) dd (mulp (Z 109) dd p0 dd) (bb + 1) = swp (Z 108) dd (low (Z 108) dd (mulp (Z 109) dd p0 dd) bb) (dd - bb) := rfl; rw [e]; exact g3) hl I
            · exact absurd (nP_lt (by omega)) hd
          | succ k2 jh =>
            intro bb P3 L3 M3 X3 ls H locs hb2 hbd g2 g3 hl I
            obtain ⟨b0, rfl⟩ : ∃ b0, bb = b0 + 1 := ⟨bb - 1, by omega⟩
            refine lv_iload_n hx hb d_SpectrumDeskModel_weigh_90 rfl (lv_at hl 0 rfl) ?_
            refine xr_topi (y := nI b0) (nP_succ b0) ?_
            refine lv_iload_n hx hb d_SpectrumDeskModel_weigh_91 rfl (lv_at hl 1 rfl) ?_
            refine lv_icmp_lt hx hb d_SpectrumDeskModel_weigh_92 rfl (fun hd => ?_) (fun hd => ?_)
            · exact absurd hd (nI_nlt (by omega) (by omega))
            · have v1 : X3 (32 + b0) = (swp (Z 108) dd (low (Z 108) dd (mulp (Z 109) dd p0 dd) a) (dd - (b0 + 1))) b0 := (g3 _ (by omega)).trans (mvX_in (by omega))
              have v2 : X3 (32 + (b0 + 1)) = (swp (Z 108) dd (low (Z 108) dd (mulp (Z 109) dd p0 dd) a) (dd - (b0 + 1))) (b0 + 1) := (g3 _ (by omega)).trans (mvX_in (by omega))
              have v3 := (h8 _ _ g3).1
              have k1 := hsL a (dd - (b0 + 1)) b0 (by omega) (by omega) (by omega)
              have k2 := hsL a (dd - (b0 + 1)) (b0 + 1) (by omega) (by omega) (by omega)
              obtain ⟨la, la1, la2⟩ := rb_sm (g2 (32 + (b0 + 1)) (by omega)) (by rw [v2]; exact k2)
              obtain ⟨lb, lb1, lb2⟩ := rb_sm (g2 108 (by decide)) (by rw [v3]; exact hs8)
              refine lv_aload_n hx hb d_SpectrumDeskModel_weigh_95 rfl (lv_at hl 2 rfl) ?_
              refine lv_bipush (v := nI 106) hx hb d_SpectrumDeskModel_weigh_96 (by decide) ?_
              refine lv_bipush (v := nI 32) hx hb d_SpectrumDeskModel_weigh_98 (by decide) ?_
              refine lv_iload_n hx hb d_SpectrumDeskModel_weigh_100 rfl (lv_at hl 0 rfl) ?_
              refine xr_topi (y := nI b0) (nP_succ b0) ?_
              refine lv_iadd hx hb d_SpectrumDeskModel_weigh_101 (xr_topi (y := nI (32 + b0)) (nI_add 32 b0) ?_)
              refine lv_iconst (v := nI 1) hx hb d_SpectrumDeskModel_weigh_102 (by decide) ?_
              refine lv_iadd hx hb d_SpectrumDeskModel_weigh_103 (xr_topi (y := nI (32 + (b0 + 1))) (by rw [nI_add, Nat.add_assoc]) ?_)
              refine lv_bipush (v := nI 108) hx hb d_SpectrumDeskModel_weigh_104 (by decide) ?_
              refine xr_callv (xr_runV (kc := 1) (kr := 3) (n := 3) (As := [.int (nI 106), .int (nI (32 + (b0 + 1))), .int (nI 108)]) (rest := []) X I (by decide) (r183 ..) rfl (c_SpectrumDeskModel_bigProduct (w := 106) (u := 32 + (b0 + 1)) (v := 108) mfs_ok (by decide) (by omega) (by decide) (by omega) (by decide) la2 lb2 (by omega) (g2 (32 + (b0 + 1)) (by omega)) (g2 108 (by decide))) (xg k_d838ee6d72) (List.mem_cons_of_mem _ k_bbee4b637e) (List.mem_cons_of_mem _ k_55f9d50ad7) (List.mem_cons_of_mem _ k_ea9d46a281) (List.mem_cons_of_mem _ k_30fa15c9ac) (by decide +kernel) (by decide) rfl hl.1 rfl (Nat.le_of_ble_eq_true rfl) d_SpectrumDeskModel_weigh_106) I (fun σ1 H locs hp I => ?_)
              obtain ⟨P4, L4, M4, rfl, hf, hx9⟩ := hp
              have g4 := RB_up g2 hf hx9
              refine lv_aload_n hx hb d_SpectrumDeskModel_weigh_109 rfl (lv_at hl 2 rfl) ?_
              refine lv_bipush (v := nI 32) hx hb d_SpectrumDeskModel_weigh_110 (by decide) ?_
              refine lv_iload_n hx hb d_SpectrumDeskModel_weigh_112 rfl (lv_at hl 0 rfl) ?_
              refine xr_topi (y := nI b0) (nP_succ b0) ?_
              refine lv_iadd hx hb d_SpectrumDeskModel_weigh_113 (xr_topi (y := nI (32 + b0)) (nI_add 32 b0) ?_)
              refine lv_bipush (v := nI 106) hx hb d_SpectrumDeskModel_weigh_114 (by decide) ?_
              refine lv_iconst (v := nI 0) hx hb d_SpectrumDeskModel_weigh_116 (by decide) ?_
              have w1 : va_up X3 106 (X3 (32 + (b0 + 1)) * X3 108) (32 + b0) = X3 (32 + b0) := va_up_ne _ _ (by omega)
              have w2 : va_up X3 106 (X3 (32 + (b0 + 1)) * X3 108) 106 = X3 (32 + (b0 + 1)) * X3 108 := va_up_self _ _ _
              refine xr_callv (xr_runV (kc := 2) (kr := 3) (n := 3) (As := [.int (nI (32 + b0)), .int (nI 106), .int (nI 0)]) (rest := []) X I (by decide) (r183 ..) rfl (c_SpectrumDeskModel_bigAdd0 (w := 32 + b0) (u := 106) mfs_ok (by omega) (by decide) (by omega) (g4 (32 + b0) (by omega)) (g4 106 (by decide)) (by rw [w1, v1]; exact sm_rbd k1) (by rw [w2, v2, v3]; exact sm_mul k2 hs8)) (xg k_dd45f20b23) (List.mem_cons_of_mem _ k_1f49c5cd66) (List.mem_cons_of_mem _ k_a10028f3d7) (List.mem_cons_of_mem _ k_758e0597f6) (List.mem_cons_of_mem _ k_30fa15c9ac) (by decide +kernel) (by decide) rfl hl.1 rfl (Nat.le_of_ble_eq_true rfl) d_SpectrumDeskModel_weigh_117) I (fun σ1 H locs hp I => ?_)
              obtain ⟨P5, L5, M5, rfl, hf2, hx8⟩ := hp
              have g5 := RB_up g4 hf2 hx8
              rw [w1, w2] at g5
              refine lv_iinc (k := 0) (v := nP b0) (lv' := [(3, .int (nP b0)), (2, .int (nI a)), (0, .ref (ad 183)), (1, .int (nI (8 * b)))]) hx hb d_SpectrumDeskModel_weigh_120 hl rfl (nP_dec b0) (by decide) rfl (fun ls hl => ?_)
              refine lv_goto hx hb d_SpectrumDeskModel_weigh_123 rfl ?_
              refine jh b0 P5 L5 M5 _ ls H locs (by omega) (by omega) g5 ?_ hl I
              rw [show dd - b0 = (dd - (b0 + 1)) + 1 by omega, swp, show dd - 1 - (dd - (b0 + 1)) = b0 by omega, show dd - (dd - (b0 + 1)) = b0 + 1 by omega, Int.mul_comm (Z 108), v1, v2, v3]
              exact mvX_set (by omega) (by omega) g3
        exact inner (dd - a) dd P2 L2 M2 X2 ls _ _ (by omega) (Nat.le_refl _) h2 (by rw [Nat.sub_self]; exact h3) hl I
  have products : ∀ (k : Nat) (a : Nat) (P2 L2 M2 : Nat → Int32) (X2 : Nat → Int) (ls : Array Slot) (H : Heap) (locs : List Loc), a + k = dd → RB P2 L2 M2 X2 → eqX X2 (mvX Z dd (mA (Z 109) p0 a)) → lv_has ls 6 [(2, .int (nI a)), (0, .ref (ad 183)), (1, .int (nI (8 * b)))] → xI D classes 193 ad s.heap (rw3 (va_up σ0 187 (.inl (cI, 5, .inl (upd G 4 (nI dd))))) ciM cI cZ (mfs ad th nn rws ps le eq) P2 L2 M2) H locs → W p l e (xrm 3) s m args below meth c H locs 0 0 (MQ below (va_Qv (fun σ2 => ∃ (P' L' M' : Nat → Int32) (X' : Nat → Int), σ2 = rw3 (va_up σ0 187 (.inl (cI, 5, .inl (upd G 4 (nI dd))))) ciM cI cZ (mfs ad th nn rws ps (nI dd - nI (ez (low (Z 108) dd (mulp (Z 109) dd p0 dd) dd) 0 (dd + 1)) - nI (fa (low (Z 108) dd (mulp (Z 109) dd p0 dd) dd) 0 (ez (low (Z 108) dd (mulp (Z 109) dd p0 dd) dd) 0 (dd + 1)) (dd + 1 - ez (low (Z 108) dd (mulp (Z 109) dd p0 dd) dd) 0 (dd + 1)))) (nI (ez (low (Z 108) dd (mulp (Z 109) dd p0 dd) dd) 0 (dd + 1)))) P' L' M' ∧ RB P' L' M' X' ∧ eqX X' (mvX Z dd (low (Z 108) dd (mulp (Z 109) dd p0 dd) dd))) (xS D classes (xT cI cJ cZ cC cG cP) 193 ad) (xA 193 ad)) args s 0 0 (xA 193 ad)) (F0 m 9 ls []) := by
    intro k
    induction k with
    | zero =>
      intro a P2 L2 M2 X2 ls H locs hk h2 h3 hl I
      obtain rfl : a = dd := by omega
      refine lv_iload_n hx hb d_SpectrumDeskModel_weigh_9 rfl (lv_at hl 0 rfl) ?_
      refine lv_aload_n hx hb d_SpectrumDeskModel_weigh_10 rfl (lv_at hl 1 rfl) ?_
      refine xr_get X I fin_M 183 (by decide) (r183 ..) rfl 3 (by decide) (List.mem_cons_of_mem _ k_176eac5e1f) rfl rfl d_SpectrumDeskModel_weigh_11 ?_
      refine lv_iload_n hx hb d_SpectrumDeskModel_weigh_14 rfl (lv_at hl 2 rfl) ?_
      refine lv_bipush (v := nI 8) hx hb d_SpectrumDeskModel_weigh_15 (by decide) ?_
      refine lv_idiv hx hb d_SpectrumDeskModel_weigh_17 (by decide) ?_
      refine xr_topi (y := nI b) (q_div8 (by omega)) ?_
      refine xr_iald X I 187 0 (by decide) ((r_o (by decide)).trans (va_up_self _ _ _)) rfl (by omega) (by decide) d_SpectrumDeskModel_weigh_18 ?_
      refine xr_topi (y := nI a) ((upd_n (by omega)).trans hGb) ?_
      refine lv_icmp_ge hx hb d_SpectrumDeskModel_weigh_19 rfl (fun hc => ?_) (fun hc => ?_)
      · refine lv_iconst (v := nI 0) hx hb d_SpectrumDeskModel_weigh_63 (by decide) ?_
        refine lv_istore_n (lv' := [(2, .int (nI 0)), (0, .ref (ad 183)), (1, .int (nI (8 * b)))]) hx hb d_SpectrumDeskModel_weigh_64 rfl hl (by decide) rfl (fun ls hl => ?_)
        exact shift a 0 P2 L2 M2 X2 ls H locs (by omega) h2 h3 hl I
      · exact absurd (nI_le (Nat.le_refl _) (by omega)) hc
    | succ k ih =>
      intro a P2 L2 M2 X2 ls H locs hk h2 h3 hl I
      refine lv_iload_n hx hb d_SpectrumDeskModel_weigh_9 rfl (lv_at hl 0 rfl) ?_
      refine lv_aload_n hx hb d_SpectrumDeskModel_weigh_10 rfl (lv_at hl 1 rfl) ?_
      refine xr_get X I fin_M 183 (by decide) (r183 ..) rfl 3 (by decide) (List.mem_cons_of_mem _ k_176eac5e1f) rfl rfl d_SpectrumDeskModel_weigh_11 ?_
      refine lv_iload_n hx hb d_SpectrumDeskModel_weigh_14 rfl (lv_at hl 2 rfl) ?_
      refine lv_bipush (v := nI 8) hx hb d_SpectrumDeskModel_weigh_15 (by decide) ?_
      refine lv_idiv hx hb d_SpectrumDeskModel_weigh_17 (by decide) ?_
      refine xr_topi (y := nI b) (q_div8 (by omega)) ?_
      refine xr_iald X I 187 0 (by decide) ((r_o (by decide)).trans (va_up_self _ _ _)) rfl (by omega) (by decide) d_SpectrumDeskModel_weigh_18 ?_
      refine xr_topi (y := nI dd) ((upd_n (by omega)).trans hGb) ?_
      refine lv_icmp_ge hx hb d_SpectrumDeskModel_weigh_19 rfl (fun hc => ?_) (fun hc => ?_)
      · exact absurd hc (nI_ge (by omega) (by omega))
      · refine lv_iconst (v := nI 0) hx hb d_SpectrumDeskModel_weigh_22 (by decide) ?_
        refine lv_istore_n (lv' := [(3, .int (nI 0)), (2, .int (nI a)), (0, .ref (ad 183)), (1, .int (nI (8 * b)))]) hx hb d_SpectrumDeskModel_weigh_23 rfl hl (by decide) rfl (fun ls hl => ?_)
        have inner : ∀ (k2 : Nat) (f9 : Nat) (P3 L3 M3 : Nat → Int32) (X3 : Nat → Int) (ls : Array Slot) (H : Heap) (locs : List Loc), f9 + k2 = a + 1 → RB P3 L3 M3 X3 → eqX X3 (mvX Z dd (mAe (Z 109) p0 a f9)) → lv_has ls 6 [(3, .int (nI f9)), (2, .int (nI a)), (0, .ref (ad 183)), (1, .int (nI (8 * b)))] → xI D classes 193 ad s.heap (rw3 (va_up σ0 187 (.inl (cI, 5, .inl (upd G 4 (nI dd))))) ciM cI cZ (mfs ad th nn rws ps le eq) P3 L3 M3) H locs → W p l e (xrm 3) s m args below meth c H locs 0 0 (MQ below (va_Qv (fun σ2 => ∃ (P' L' M' : Nat → Int32) (X' : Nat → Int), σ2 = rw3 (va_up σ0 187 (.inl (cI, 5, .inl (upd G 4 (nI dd))))) ciM cI cZ (mfs ad th nn rws ps (nI dd - nI (ez (low (Z 108) dd (mulp (Z 109) dd p0 dd) dd) 0 (dd + 1)) - nI (fa (low (Z 108) dd (mulp (Z 109) dd p0 dd) dd) 0 (ez (low (Z 108) dd (mulp (Z 109) dd p0 dd) dd) 0 (dd + 1)) (dd + 1 - ez (low (Z 108) dd (mulp (Z 109) dd p0 dd) dd) 0 (dd + 1)))) (nI (ez (low (Z 108) dd (mulp (Z 109) dd p0 dd) dd) 0 (dd + 1)))) P' L' M' ∧ RB P' L' M' X' ∧ eqX X' (mvX Z dd (low (Z 108) dd (mulp (Z 109) dd p0 dd) dd))) (xS D classes (xT cI cJ cZ cC cG cP) 193 ad) (xA 193 ad)) args s 0 0 (xA 193 ad)) (F0 m 24 ls []) := by
          intro k2
          induction k2 with
          | zero =>
            intro f9 P3 L3 M3 X3 ls H locs hb2 g2 g3 hl I
            obtain rfl : f9 = a + 1 := by omega
            refine lv_iload_n hx hb d_SpectrumDeskModel_weigh_24 rfl (lv_at hl 0 rfl) ?_
            refine lv_iload_n hx hb d_SpectrumDeskModel_weigh_25 rfl (lv_at hl 1 rfl) ?_
            refine lv_icmp_gt hx hb d_SpectrumDeskModel_weigh_26 rfl (fun hd => ?_) (fun hd => ?_)
            · refine lv_iinc (k := 1) (v := nI (a + 1)) (lv' := [(2, .int (nI (a + 1))), (3, .int (nI (a + 1))), (0, .ref (ad 183)), (1, .int (nI (8 * b)))]) hx hb d_SpectrumDeskModel_weigh_57 hl rfl (nI_1 a) (by decide) rfl (fun ls hl => ?_)
              refine lv_goto hx hb d_SpectrumDeskModel_weigh_60 rfl ?_
              have hl := lv_sub hl [0, 2, 3] rfl
              have hl : lv_has ls 6 [(2, .int (nI (a + 1))), (0, .ref (ad 183)), (1, .int (nI (8 * b)))] := hl
              exact ih (a + 1) P3 L3 M3 X3 ls H locs (by omega) g2 (by rw [mAe_e] at g3; exact g3) hl I
            · exact absurd (nI_lt (Nat.lt_succ_self _) (by omega)) hd
          | succ k2 jh =>
            intro f9 P3 L3 M3 X3 ls H locs hb2 g2 g3 hl I
            refine lv_iload_n hx hb d_SpectrumDeskModel_weigh_24 rfl (lv_at hl 0 rfl) ?_
            refine lv_iload_n hx hb d_SpectrumDeskModel_weigh_25 rfl (lv_at hl 1 rfl) ?_
            refine lv_icmp_gt hx hb d_SpectrumDeskModel_weigh_26 rfl (fun hd => ?_) (fun hd => ?_)
            · exact absurd hd (nI_nlt (by omega) (by omega))
            · have v1 : X3 (32 + f9) = mAe (Z 109) p0 a f9 f9 := (g3 _ (by omega)).trans (mvX_in (by omega))
              have v3 := (h8 _ _ g3).2
              have k1 : sm (mAe (Z 109) p0 a f9 f9) := by simp only [mAe]; rw [if_neg (Nat.lt_irrefl _)]; exact hsA a f9 (by omega) (by omega)
              obtain ⟨la, la1, la2⟩ := rb_sm (g2 (32 + f9) (by omega)) (by rw [v1]; exact k1)
              obtain ⟨lb, lb1, lb2⟩ := rb_sm (g2 109 (by decide)) (by rw [v3]; exact hs9)
              refine lv_aload_n hx hb d_SpectrumDeskModel_weigh_29 rfl (lv_at hl 2 rfl) ?_
              refine lv_bipush (v := nI 106) hx hb d_SpectrumDeskModel_weigh_30 (by decide) ?_
              refine lv_bipush (v := nI 32) hx hb d_SpectrumDeskModel_weigh_32 (by decide) ?_
              refine lv_iload_n hx hb d_SpectrumDeskModel_weigh_34 rfl (lv_at hl 0 rfl) ?_
              refine lv_iadd hx hb d_SpectrumDeskModel_weigh_35 (xr_topi (y := nI (32 + f9)) (nI_add 32 f9) ?_)
              refine lv_bipush (v := nI 109) hx hb d_SpectrumDeskModel_weigh_36 (by decide) ?_
              refine xr_callv (xr_runV (kc := 1) (kr := 3) (n := 3) (As := [.int (nI 106), .int (nI (32 + f9)), .int (nI 109)]) (rest := []) X I (by decide) (r183 ..) rfl (c_SpectrumDeskModel_bigProduct (w := 106) (u := 32 + f9) (v := 109) mfs_ok (by decide) (by omega) (by decide) (by omega) (by decide) la2 lb2 (by omega) (g2 (32 + f9) (by omega)) (g2 109 (by decide))) (xg k_d838ee6d72) (List.mem_cons_of_mem _ k_bbee4b637e) (List.mem_cons_of_mem _ k_55f9d50ad7) (List.mem_cons_of_mem _ k_ea9d46a281) (List.mem_cons_of_mem _ k_30fa15c9ac) (by decide +kernel) (by decide) rfl hl.1 rfl (Nat.le_of_ble_eq_true rfl) d_SpectrumDeskModel_weigh_38) I (fun σ1 H locs hp I => ?_)
              obtain ⟨P4, L4, M4, rfl, hf, hx9⟩ := hp
              have g4 := RB_up g2 hf hx9
              refine lv_aload_n hx hb d_SpectrumDeskModel_weigh_41 rfl (lv_at hl 2 rfl) ?_
              refine lv_bipush (v := nI 32) hx hb d_SpectrumDeskModel_weigh_42 (by decide) ?_
              refine lv_iload_n hx hb d_SpectrumDeskModel_weigh_44 rfl (lv_at hl 0 rfl) ?_
              refine lv_iadd hx hb d_SpectrumDeskModel_weigh_45 (xr_topi (y := nI (32 + f9)) (nI_add 32 f9) ?_)
              refine lv_bipush (v := nI 106) hx hb d_SpectrumDeskModel_weigh_46 (by decide) ?_
              have w2 : va_up X3 106 (X3 (32 + f9) * X3 109) 106 = X3 (32 + f9) * X3 109 := va_up_self _ _ _
              refine xr_callv (xr_runV (kc := 0) (kr := 3) (n := 2) (As := [.int (nI (32 + f9)), .int (nI 106)]) (rest := []) X I (by decide) (r183 ..) rfl (c_SpectrumDeskModel_bigCopy (w := 32 + f9) (u := 106) mfs_ok (by omega) (by decide) (by omega) (g4 106 (by decide))) (xg k_b9c8150a19) (List.mem_cons_of_mem _ k_4f43ed96b8) (List.mem_cons_of_mem _ k_c9c9b5ab57) (List.mem_cons_of_mem _ k_5d491bf207) (List.mem_cons_of_mem _ k_30fa15c9ac) (by decide +kernel) (by decide) rfl hl.1 rfl (Nat.le_of_ble_eq_true rfl) d_SpectrumDeskModel_weigh_48) I (fun σ1 H locs hp I => ?_)
              obtain ⟨P5, L5, M5, rfl, hf2, hx8⟩ := hp
              have g5 := RB_up g4 hf2 hx8
              rw [w2] at g5
              refine lv_iinc (k := 0) (v := nI (f9 + 1)) (lv' := [(3, .int (nI (f9 + 1))), (2, .int (nI a)), (0, .ref (ad 183)), (1, .int (nI (8 * b)))]) hx hb d_SpectrumDeskModel_weigh_51 hl rfl (nI_1 f9) (by decide) rfl (fun ls hl => ?_)
              refine lv_goto hx hb d_SpectrumDeskModel_weigh_54 rfl ?_
              refine jh (f9 + 1) P5 L5 M5 _ ls H locs (by omega) g5 ?_ hl I
              rw [← mAe_s (by omega), v1, v3]
              exact mvX_set (by omega) (by omega) g3
        exact inner (a + 1) 0 P2 L2 M2 X2 ls _ _ (by omega) h2 (by rw [mAe_0]; exact h3) hl I
  refine lv_iconst (v := nI 0) hx hb d_SpectrumDeskModel_weigh_7 (by decide) ?_
  refine lv_istore_n (lv' := [(2, .int (nI 0)), (0, .ref (ad 183)), (1, .int (nI (8 * b)))]) hx hb d_SpectrumDeskModel_weigh_8 rfl hl (by decide) rfl (fun ls hl => ?_)
  exact products dd 0 P1 L1 M1 _ ls _ _ (by omega) hB1 q0 hl I
