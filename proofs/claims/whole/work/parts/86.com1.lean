/-! the reference: findCommon (written by wip/gen) -/
abbrev b_SpectrumDeskModel_findCommon : ByteArray := prog_10_method_41_code
abbrev y_SpectrumDeskModel_findCommon : MethodName := ⟨"SpectrumDeskModel", "findCommon", "()V"⟩
abbrev v_SpectrumDeskModel_findCommon : List Cond := Cond.code y_SpectrumDeskModel_findCommon b_SpectrumDeskModel_findCommon 2 none :: AW
theorem d_SpectrumDeskModel_findCommon_0 : decode b_SpectrumDeskModel_findCommon 0 = .ok (.aload_n 0, 1) := by decide +kernel
theorem d_SpectrumDeskModel_findCommon_1 : decode b_SpectrumDeskModel_findCommon 1 = .ok (.aload_n 0, 1) := by decide +kernel
theorem d_SpectrumDeskModel_findCommon_2 : decode b_SpectrumDeskModel_findCommon 2 = .ok (.getfield 63, 3) := by decide +kernel
theorem d_SpectrumDeskModel_findCommon_5 : decode b_SpectrumDeskModel_findCommon 5 = .ok (.iconst 0, 1) := by decide +kernel
theorem d_SpectrumDeskModel_findCommon_6 : decode b_SpectrumDeskModel_findCommon 6 = .ok (.invokevirtual 121, 3) := by decide +kernel
theorem d_SpectrumDeskModel_findCommon_9 : decode b_SpectrumDeskModel_findCommon 9 = .ok (.aload_n 0, 1) := by decide +kernel
theorem d_SpectrumDeskModel_findCommon_10 : decode b_SpectrumDeskModel_findCommon 10 = .ok (.bipush (16), 2) := by decide +kernel
theorem d_SpectrumDeskModel_findCommon_12 : decode b_SpectrumDeskModel_findCommon 12 = .ok (.iconst 0, 1) := by decide +kernel
theorem d_SpectrumDeskModel_findCommon_13 : decode b_SpectrumDeskModel_findCommon 13 = .ok (.invokevirtual 130, 3) := by decide +kernel
theorem d_SpectrumDeskModel_findCommon_16 : decode b_SpectrumDeskModel_findCommon 16 = .ok (.aload_n 0, 1) := by decide +kernel
theorem d_SpectrumDeskModel_findCommon_17 : decode b_SpectrumDeskModel_findCommon 17 = .ok (.getfield 46, 3) := by decide +kernel
theorem d_SpectrumDeskModel_findCommon_20 : decode b_SpectrumDeskModel_findCommon 20 = .ok (.iconst 3, 1) := by decide +kernel
theorem d_SpectrumDeskModel_findCommon_21 : decode b_SpectrumDeskModel_findCommon 21 = .ok (.aload_n 0, 1) := by decide +kernel
theorem d_SpectrumDeskModel_findCommon_22 : decode b_SpectrumDeskModel_findCommon 22 = .ok (.getfield 63, 3) := by decide +kernel
theorem d_SpectrumDeskModel_findCommon_25 : decode b_SpectrumDeskModel_findCommon 25 = .ok (.iconst 1, 1) := by decide +kernel
theorem d_SpectrumDeskModel_findCommon_26 : decode b_SpectrumDeskModel_findCommon 26 = .ok (.isub, 1) := by decide +kernel
theorem d_SpectrumDeskModel_findCommon_27 : decode b_SpectrumDeskModel_findCommon 27 = .ok (.iastore, 1) := by decide +kernel
theorem d_SpectrumDeskModel_findCommon_28 : decode b_SpectrumDeskModel_findCommon 28 = .ok (.iconst 1, 1) := by decide +kernel
theorem d_SpectrumDeskModel_findCommon_29 : decode b_SpectrumDeskModel_findCommon 29 = .ok (.istore_n 1, 1) := by decide +kernel
theorem d_SpectrumDeskModel_findCommon_30 : decode b_SpectrumDeskModel_findCommon 30 = .ok (.iload_n 1, 1) := by decide +kernel
theorem d_SpectrumDeskModel_findCommon_31 : decode b_SpectrumDeskModel_findCommon 31 = .ok (.aload_n 0, 1) := by decide +kernel
theorem d_SpectrumDeskModel_findCommon_32 : decode b_SpectrumDeskModel_findCommon 32 = .ok (.getfield 63, 3) := by decide +kernel
theorem d_SpectrumDeskModel_findCommon_35 : decode b_SpectrumDeskModel_findCommon 35 = .ok (.if_icmp .gt (32), 3) := by decide +kernel
theorem d_SpectrumDeskModel_findCommon_38 : decode b_SpectrumDeskModel_findCommon 38 = .ok (.aload_n 0, 1) := by decide +kernel
theorem d_SpectrumDeskModel_findCommon_39 : decode b_SpectrumDeskModel_findCommon 39 = .ok (.bipush (104), 2) := by decide +kernel
theorem d_SpectrumDeskModel_findCommon_41 : decode b_SpectrumDeskModel_findCommon 41 = .ok (.iload_n 1, 1) := by decide +kernel
theorem d_SpectrumDeskModel_findCommon_42 : decode b_SpectrumDeskModel_findCommon 42 = .ok (.i2l, 1) := by decide +kernel
theorem d_SpectrumDeskModel_findCommon_43 : decode b_SpectrumDeskModel_findCommon 43 = .ok (.invokevirtual 104, 3) := by decide +kernel
theorem d_SpectrumDeskModel_findCommon_46 : decode b_SpectrumDeskModel_findCommon 46 = .ok (.aload_n 0, 1) := by decide +kernel
theorem d_SpectrumDeskModel_findCommon_47 : decode b_SpectrumDeskModel_findCommon 47 = .ok (.bipush (24), 2) := by decide +kernel
theorem d_SpectrumDeskModel_findCommon_49 : decode b_SpectrumDeskModel_findCommon 49 = .ok (.iload_n 1, 1) := by decide +kernel
theorem d_SpectrumDeskModel_findCommon_50 : decode b_SpectrumDeskModel_findCommon 50 = .ok (.iadd, 1) := by decide +kernel
theorem d_SpectrumDeskModel_findCommon_51 : decode b_SpectrumDeskModel_findCommon 51 = .ok (.iconst 1, 1) := by decide +kernel
theorem d_SpectrumDeskModel_findCommon_52 : decode b_SpectrumDeskModel_findCommon 52 = .ok (.isub, 1) := by decide +kernel
theorem d_SpectrumDeskModel_findCommon_53 : decode b_SpectrumDeskModel_findCommon 53 = .ok (.bipush (104), 2) := by decide +kernel
theorem d_SpectrumDeskModel_findCommon_55 : decode b_SpectrumDeskModel_findCommon 55 = .ok (.iconst 0, 1) := by decide +kernel
theorem d_SpectrumDeskModel_findCommon_56 : decode b_SpectrumDeskModel_findCommon 56 = .ok (.iload_n 1, 1) := by decide +kernel
theorem d_SpectrumDeskModel_findCommon_57 : decode b_SpectrumDeskModel_findCommon 57 = .ok (.iadd, 1) := by decide +kernel
theorem d_SpectrumDeskModel_findCommon_58 : decode b_SpectrumDeskModel_findCommon 58 = .ok (.invokevirtual 111, 3) := by decide +kernel
theorem d_SpectrumDeskModel_findCommon_61 : decode b_SpectrumDeskModel_findCommon 61 = .ok (.iinc 1 (1), 3) := by decide +kernel
theorem d_SpectrumDeskModel_findCommon_64 : decode b_SpectrumDeskModel_findCommon 64 = .ok (.goto (-34), 3) := by decide +kernel
theorem d_SpectrumDeskModel_findCommon_67 : decode b_SpectrumDeskModel_findCommon 67 = .ok (.aload_n 0, 1) := by decide +kernel
theorem d_SpectrumDeskModel_findCommon_68 : decode b_SpectrumDeskModel_findCommon 68 = .ok (.bipush (24), 2) := by decide +kernel
theorem d_SpectrumDeskModel_findCommon_70 : decode b_SpectrumDeskModel_findCommon 70 = .ok (.invokevirtual 145, 3) := by decide +kernel
theorem d_SpectrumDeskModel_findCommon_73 : decode b_SpectrumDeskModel_findCommon 73 = .ok (.aload_n 0, 1) := by decide +kernel
theorem d_SpectrumDeskModel_findCommon_74 : decode b_SpectrumDeskModel_findCommon 74 = .ok (.getfield 46, 3) := by decide +kernel
theorem d_SpectrumDeskModel_findCommon_77 : decode b_SpectrumDeskModel_findCommon 77 = .ok (.iconst 3, 1) := by decide +kernel
theorem d_SpectrumDeskModel_findCommon_78 : decode b_SpectrumDeskModel_findCommon 78 = .ok (.iaload, 1) := by decide +kernel
theorem d_SpectrumDeskModel_findCommon_79 : decode b_SpectrumDeskModel_findCommon 79 = .ok (.ifCond .le (58), 3) := by decide +kernel
theorem d_SpectrumDeskModel_findCommon_82 : decode b_SpectrumDeskModel_findCommon 82 = .ok (.aload_n 0, 1) := by decide +kernel
theorem d_SpectrumDeskModel_findCommon_83 : decode b_SpectrumDeskModel_findCommon 83 = .ok (.bipush (32), 2) := by decide +kernel
theorem d_SpectrumDeskModel_findCommon_85 : decode b_SpectrumDeskModel_findCommon 85 = .ok (.bipush (16), 2) := by decide +kernel
theorem d_SpectrumDeskModel_findCommon_87 : decode b_SpectrumDeskModel_findCommon 87 = .ok (.invokevirtual 130, 3) := by decide +kernel
theorem d_SpectrumDeskModel_findCommon_90 : decode b_SpectrumDeskModel_findCommon 90 = .ok (.aload_n 0, 1) := by decide +kernel
theorem d_SpectrumDeskModel_findCommon_91 : decode b_SpectrumDeskModel_findCommon 91 = .ok (.getfield 46, 3) := by decide +kernel
theorem d_SpectrumDeskModel_findCommon_94 : decode b_SpectrumDeskModel_findCommon 94 = .ok (.iconst 4, 1) := by decide +kernel
theorem d_SpectrumDeskModel_findCommon_95 : decode b_SpectrumDeskModel_findCommon 95 = .ok (.iaload, 1) := by decide +kernel
theorem d_SpectrumDeskModel_findCommon_96 : decode b_SpectrumDeskModel_findCommon 96 = .ok (.aload_n 0, 1) := by decide +kernel
theorem d_SpectrumDeskModel_findCommon_97 : decode b_SpectrumDeskModel_findCommon 97 = .ok (.getfield 46, 3) := by decide +kernel
theorem d_SpectrumDeskModel_findCommon_100 : decode b_SpectrumDeskModel_findCommon 100 = .ok (.iconst 3, 1) := by decide +kernel
theorem d_SpectrumDeskModel_findCommon_101 : decode b_SpectrumDeskModel_findCommon 101 = .ok (.iaload, 1) := by decide +kernel
theorem d_SpectrumDeskModel_findCommon_102 : decode b_SpectrumDeskModel_findCommon 102 = .ok (.if_icmp .lt (16), 3) := by decide +kernel
theorem d_SpectrumDeskModel_findCommon_105 : decode b_SpectrumDeskModel_findCommon 105 = .ok (.aload_n 0, 1) := by decide +kernel
theorem d_SpectrumDeskModel_findCommon_106 : decode b_SpectrumDeskModel_findCommon 106 = .ok (.invokevirtual 148, 3) := by decide +kernel
theorem d_SpectrumDeskModel_findCommon_109 : decode b_SpectrumDeskModel_findCommon 109 = .ok (.aload_n 0, 1) := by decide +kernel
theorem d_SpectrumDeskModel_findCommon_110 : decode b_SpectrumDeskModel_findCommon 110 = .ok (.bipush (32), 2) := by decide +kernel
theorem d_SpectrumDeskModel_findCommon_112 : decode b_SpectrumDeskModel_findCommon 112 = .ok (.invokevirtual 145, 3) := by decide +kernel
theorem d_SpectrumDeskModel_findCommon_115 : decode b_SpectrumDeskModel_findCommon 115 = .ok (.goto (-25), 3) := by decide +kernel
theorem d_SpectrumDeskModel_findCommon_118 : decode b_SpectrumDeskModel_findCommon 118 = .ok (.aload_n 0, 1) := by decide +kernel
theorem d_SpectrumDeskModel_findCommon_119 : decode b_SpectrumDeskModel_findCommon 119 = .ok (.bipush (16), 2) := by decide +kernel
theorem d_SpectrumDeskModel_findCommon_121 : decode b_SpectrumDeskModel_findCommon 121 = .ok (.bipush (24), 2) := by decide +kernel
theorem d_SpectrumDeskModel_findCommon_123 : decode b_SpectrumDeskModel_findCommon 123 = .ok (.invokevirtual 130, 3) := by decide +kernel
theorem d_SpectrumDeskModel_findCommon_126 : decode b_SpectrumDeskModel_findCommon 126 = .ok (.aload_n 0, 1) := by decide +kernel
theorem d_SpectrumDeskModel_findCommon_127 : decode b_SpectrumDeskModel_findCommon 127 = .ok (.bipush (24), 2) := by decide +kernel
theorem d_SpectrumDeskModel_findCommon_129 : decode b_SpectrumDeskModel_findCommon 129 = .ok (.bipush (32), 2) := by decide +kernel
theorem d_SpectrumDeskModel_findCommon_131 : decode b_SpectrumDeskModel_findCommon 131 = .ok (.invokevirtual 130, 3) := by decide +kernel
theorem d_SpectrumDeskModel_findCommon_134 : decode b_SpectrumDeskModel_findCommon 134 = .ok (.goto (-61), 3) := by decide +kernel
theorem d_SpectrumDeskModel_findCommon_137 : decode b_SpectrumDeskModel_findCommon 137 = .ok (.aload_n 0, 1) := by decide +kernel
theorem d_SpectrumDeskModel_findCommon_138 : decode b_SpectrumDeskModel_findCommon 138 = .ok (.getfield 46, 3) := by decide +kernel
theorem d_SpectrumDeskModel_findCommon_141 : decode b_SpectrumDeskModel_findCommon 141 = .ok (.iconst 3, 1) := by decide +kernel
theorem d_SpectrumDeskModel_findCommon_142 : decode b_SpectrumDeskModel_findCommon 142 = .ok (.iaload, 1) := by decide +kernel
theorem d_SpectrumDeskModel_findCommon_143 : decode b_SpectrumDeskModel_findCommon 143 = .ok (.ifCond .ne (20), 3) := by decide +kernel
theorem d_SpectrumDeskModel_findCommon_146 : decode b_SpectrumDeskModel_findCommon 146 = .ok (.aload_n 0, 1) := by decide +kernel
theorem d_SpectrumDeskModel_findCommon_147 : decode b_SpectrumDeskModel_findCommon 147 = .ok (.getfield 46, 3) := by decide +kernel
theorem d_SpectrumDeskModel_findCommon_150 : decode b_SpectrumDeskModel_findCommon 150 = .ok (.iconst 1, 1) := by decide +kernel
theorem d_SpectrumDeskModel_findCommon_151 : decode b_SpectrumDeskModel_findCommon 151 = .ok (.iconst 0, 1) := by decide +kernel
theorem d_SpectrumDeskModel_findCommon_152 : decode b_SpectrumDeskModel_findCommon 152 = .ok (.iastore, 1) := by decide +kernel
theorem d_SpectrumDeskModel_findCommon_153 : decode b_SpectrumDeskModel_findCommon 153 = .ok (.aload_n 0, 1) := by decide +kernel
theorem d_SpectrumDeskModel_findCommon_154 : decode b_SpectrumDeskModel_findCommon 154 = .ok (.bipush (8), 2) := by decide +kernel
theorem d_SpectrumDeskModel_findCommon_156 : decode b_SpectrumDeskModel_findCommon 156 = .ok (.lconst 1, 1) := by decide +kernel
theorem d_SpectrumDeskModel_findCommon_157 : decode b_SpectrumDeskModel_findCommon 157 = .ok (.invokevirtual 104, 3) := by decide +kernel
theorem d_SpectrumDeskModel_findCommon_160 : decode b_SpectrumDeskModel_findCommon 160 = .ok (.goto (11), 3) := by decide +kernel
theorem d_SpectrumDeskModel_findCommon_163 : decode b_SpectrumDeskModel_findCommon 163 = .ok (.aload_n 0, 1) := by decide +kernel
theorem d_SpectrumDeskModel_findCommon_164 : decode b_SpectrumDeskModel_findCommon 164 = .ok (.bipush (8), 2) := by decide +kernel
theorem d_SpectrumDeskModel_findCommon_166 : decode b_SpectrumDeskModel_findCommon 166 = .ok (.bipush (16), 2) := by decide +kernel
theorem d_SpectrumDeskModel_findCommon_168 : decode b_SpectrumDeskModel_findCommon 168 = .ok (.invokevirtual 130, 3) := by decide +kernel
theorem d_SpectrumDeskModel_findCommon_171 : decode b_SpectrumDeskModel_findCommon 171 = .ok (.aload_n 0, 1) := by decide +kernel
theorem d_SpectrumDeskModel_findCommon_172 : decode b_SpectrumDeskModel_findCommon 172 = .ok (.bipush (8), 2) := by decide +kernel
theorem d_SpectrumDeskModel_findCommon_174 : decode b_SpectrumDeskModel_findCommon 174 = .ok (.aload_n 0, 1) := by decide +kernel
theorem d_SpectrumDeskModel_findCommon_175 : decode b_SpectrumDeskModel_findCommon 175 = .ok (.getfield 46, 3) := by decide +kernel
theorem d_SpectrumDeskModel_findCommon_178 : decode b_SpectrumDeskModel_findCommon 178 = .ok (.iconst 1, 1) := by decide +kernel
theorem d_SpectrumDeskModel_findCommon_179 : decode b_SpectrumDeskModel_findCommon 179 = .ok (.iaload, 1) := by decide +kernel
theorem d_SpectrumDeskModel_findCommon_180 : decode b_SpectrumDeskModel_findCommon 180 = .ok (.iadd, 1) := by decide +kernel
theorem d_SpectrumDeskModel_findCommon_181 : decode b_SpectrumDeskModel_findCommon 181 = .ok (.invokevirtual 52, 3) := by decide +kernel
theorem d_SpectrumDeskModel_findCommon_184 : decode b_SpectrumDeskModel_findCommon 184 = .ok (.ifCond .ge (47), 3) := by decide +kernel
theorem d_SpectrumDeskModel_findCommon_187 : decode b_SpectrumDeskModel_findCommon 187 = .ok (.iconst 0, 1) := by decide +kernel
theorem d_SpectrumDeskModel_findCommon_188 : decode b_SpectrumDeskModel_findCommon 188 = .ok (.istore_n 1, 1) := by decide +kernel
theorem d_SpectrumDeskModel_findCommon_189 : decode b_SpectrumDeskModel_findCommon 189 = .ok (.iload_n 1, 1) := by decide +kernel
theorem d_SpectrumDeskModel_findCommon_190 : decode b_SpectrumDeskModel_findCommon 190 = .ok (.aload_n 0, 1) := by decide +kernel
theorem d_SpectrumDeskModel_findCommon_191 : decode b_SpectrumDeskModel_findCommon 191 = .ok (.getfield 46, 3) := by decide +kernel
theorem d_SpectrumDeskModel_findCommon_194 : decode b_SpectrumDeskModel_findCommon 194 = .ok (.iconst 1, 1) := by decide +kernel
theorem d_SpectrumDeskModel_findCommon_195 : decode b_SpectrumDeskModel_findCommon 195 = .ok (.iaload, 1) := by decide +kernel
theorem d_SpectrumDeskModel_findCommon_196 : decode b_SpectrumDeskModel_findCommon 196 = .ok (.if_icmp .gt (35), 3) := by decide +kernel
theorem d_SpectrumDeskModel_findCommon_199 : decode b_SpectrumDeskModel_findCommon 199 = .ok (.aload_n 0, 1) := by decide +kernel
theorem d_SpectrumDeskModel_findCommon_200 : decode b_SpectrumDeskModel_findCommon 200 = .ok (.getfield 1, 3) := by decide +kernel
theorem d_SpectrumDeskModel_findCommon_203 : decode b_SpectrumDeskModel_findCommon 203 = .ok (.bipush (8), 2) := by decide +kernel
theorem d_SpectrumDeskModel_findCommon_205 : decode b_SpectrumDeskModel_findCommon 205 = .ok (.iload_n 1, 1) := by decide +kernel
theorem d_SpectrumDeskModel_findCommon_206 : decode b_SpectrumDeskModel_findCommon 206 = .ok (.iadd, 1) := by decide +kernel
theorem d_SpectrumDeskModel_findCommon_207 : decode b_SpectrumDeskModel_findCommon 207 = .ok (.aload_n 0, 1) := by decide +kernel
theorem d_SpectrumDeskModel_findCommon_208 : decode b_SpectrumDeskModel_findCommon 208 = .ok (.getfield 1, 3) := by decide +kernel
theorem d_SpectrumDeskModel_findCommon_211 : decode b_SpectrumDeskModel_findCommon 211 = .ok (.bipush (8), 2) := by decide +kernel
theorem d_SpectrumDeskModel_findCommon_213 : decode b_SpectrumDeskModel_findCommon 213 = .ok (.iload_n 1, 1) := by decide +kernel
theorem d_SpectrumDeskModel_findCommon_214 : decode b_SpectrumDeskModel_findCommon 214 = .ok (.iadd, 1) := by decide +kernel
theorem d_SpectrumDeskModel_findCommon_215 : decode b_SpectrumDeskModel_findCommon 215 = .ok (.baload, 1) := by decide +kernel
theorem d_SpectrumDeskModel_findCommon_216 : decode b_SpectrumDeskModel_findCommon 216 = .ok (.ifCond .ne (7), 3) := by decide +kernel
theorem d_SpectrumDeskModel_findCommon_219 : decode b_SpectrumDeskModel_findCommon 219 = .ok (.iconst 1, 1) := by decide +kernel
theorem d_SpectrumDeskModel_findCommon_220 : decode b_SpectrumDeskModel_findCommon 220 = .ok (.goto (4), 3) := by decide +kernel
theorem d_SpectrumDeskModel_findCommon_223 : decode b_SpectrumDeskModel_findCommon 223 = .ok (.iconst 0, 1) := by decide +kernel
theorem d_SpectrumDeskModel_findCommon_224 : decode b_SpectrumDeskModel_findCommon 224 = .ok (.bastore, 1) := by decide +kernel
theorem d_SpectrumDeskModel_findCommon_225 : decode b_SpectrumDeskModel_findCommon 225 = .ok (.iinc 1 (1), 3) := by decide +kernel
theorem d_SpectrumDeskModel_findCommon_228 : decode b_SpectrumDeskModel_findCommon 228 = .ok (.goto (-39), 3) := by decide +kernel
theorem d_SpectrumDeskModel_findCommon_231 : decode b_SpectrumDeskModel_findCommon 231 = .ok (.return_, 1) := by decide +kernel
theorem k_dc591485e9 : (Jvm.Cond.methodLink "SpectrumDeskModel" (148 : Nat) ({ cls := "SpectrumDeskModel", name := "lower", desc := "()V" } : Jvm.MethodName)) ∈ AW := aw_5 (List.mem_of_getElem? (i := 151) (by decide +kernel)) (by decide +kernel)
theorem k_961e0996b1 : (Jvm.Cond.instanceMethod ({ cls := "SpectrumDeskModel", name := "lower", desc := "()V" } : Jvm.MethodName)) ∈ AW := aw_5 (List.mem_of_getElem? (i := 153) (by decide +kernel)) (by decide +kernel)
theorem k_0e0125e410 : (Jvm.Cond.selects "SpectrumDeskModel" ({ cls := "SpectrumDeskModel", name := "lower", desc := "()V" } : Jvm.MethodName) ({ cls := "SpectrumDeskModel", name := "lower", desc := "()V" } : Jvm.MethodName)) ∈ AW := aw_p (by decide +kernel) (by decide +kernel)
theorem k_78562df18e : (Jvm.Cond.methodLink "SpectrumDeskModel" (145 : Nat) ({ cls := "SpectrumDeskModel", name := "simplify", desc := "(I)V" } : Jvm.MethodName)) ∈ AW := aw_5 (List.mem_of_getElem? (i := 135) (by decide +kernel)) (by decide +kernel)
theorem k_99deaf4323 : (Jvm.Cond.instanceMethod ({ cls := "SpectrumDeskModel", name := "simplify", desc := "(I)V" } : Jvm.MethodName)) ∈ AW := aw_5 (List.mem_of_getElem? (i := 137) (by decide +kernel)) (by decide +kernel)
theorem k_af8b2b93f4 : (Jvm.Cond.selects "SpectrumDeskModel" ({ cls := "SpectrumDeskModel", name := "simplify", desc := "(I)V" } : Jvm.MethodName) ({ cls := "SpectrumDeskModel", name := "simplify", desc := "(I)V" } : Jvm.MethodName)) ∈ AW := aw_p (by decide +kernel) (by decide +kernel)
theorem k_be16f71de5 : (Jvm.Cond.code ({ cls := "SpectrumDeskModel", name := "findCommon", desc := "()V" } : Jvm.MethodName) prog_10_method_41_code (2 : Nat) (Option.none : Option Jvm.ClassFile.FieldType)) ∈ AW := aw_5 (List.mem_of_getElem? (i := 134) (by decide +kernel)) (by decide +kernel)
set_option maxHeartbeats 4000000 in
set_option maxRecDepth 100000 in
theorem c_SpectrumDeskModel_findCommon {l : Launch} {D : va_G} {cI cJ cZ cC cG cP : ClassId} {ad : Nat → Nat} {σ0 : Nat → va_E} {th nn rws ps le eq : Int32} {P L M G : Nat → Int32} {Z : Nat → Int} (hG : σ0 187 = .inl (cI, 5, .inl G)) (hB : RB P L M Z) {n9 : Nat} {p0 : Nat → Int} (hnn : nn = nI n9) (h1n : 1 ≤ n9) (h6n : n9 ≤ 6) {A9 : Nat → Int32} (hA9 : σ0 188 = .inl (cI, 36, .inl A9)) (hAb : ∀ i j, i < 6 → j < 6 → bd 1000000 ((A9 (6 * i + j)).toInt)) (hp0 : chF (fun i j => (A9 (6 * i + j)).toInt) n9 (2 ^ n9) = p0) (hok9 : prsOK p0 n9) :
    Met l y_SpectrumDeskModel_findCommon v_SpectrumDeskModel_findCommon (xrm 5) (va_Pc [.ref (ad 183)] (xS D classes (xT cI cJ cZ cC cG cP) 193 ad (rw3 σ0 ciM cI cZ (mfs ad th nn rws ps le eq) P L M))) (va_Qv (fun σ2 => ∃ (P' L' M' G' : Nat → Int32) (X' : Nat → Int), σ2 = rw3 (va_up σ0 187 (.inl (cI, 5, .inl G'))) ciM cI cZ (mfs ad th nn rws ps le eq) P' L' M' ∧ RB P' L' M' X' ∧ isR X' 0 p0 (n9 + 1) ∧ isR X' 1 (cmF p0 n9) (cmC p0 n9) ∧ G' 0 = nI n9 ∧ G' 1 = nP (cmC p0 n9) ∧ 1 ≤ cmC p0 n9 ∧ cmC p0 n9 ≤ 7) (xS D classes (xT cI cJ cZ cC cG cP) 193 ad) (xA 193 ad)) 0 0 (xA 193 ad) := by
  subst hnn
  refine xr_met rfl (Nat.le_of_ble_eq_true rfl) ?_
  intro p e s m args below meth c ls hx hb X hr hlk hl I
  have hl : lv_has ls 2 [(0, .ref (ad 183))] := hl
  have p6 : 2 ^ n9 ≤ 64 := Nat.pow_le_pow_right (by decide) h6n (n := 2)
  have hpn : p0 n9 = 1 := by rw [← hp0]; exact chF_one h6n
  have hps : ∀ k, sm (p0 k) := fun k => by rw [← hp0]; exact sm_of (by decide) (chF_sm hAb p6)
  have last : ∀ (P3 L3 M3 G3 : Nat → Int32) (X3 : Nat → Int) (ls : Array Slot) (H : Heap) (locs : List Loc), RB P3 L3 M3 X3 → isR X3 0 p0 (n9 + 1) → isR X3 1 (cm0 p0 n9) (cmC p0 n9) → G3 0 = nI n9 → G3 1 = nP (cmC p0 n9) → 1 ≤ cmC p0 n9 → cmC p0 n9 ≤ 7 → lv_has ls 2 [(0, .ref (ad 183))] → xI D classes 193 ad s.heap (rw3 (va_up σ0 187 (.inl (cI, 5, .inl G3))) ciM cI cZ (mfs ad th (nI n9) rws ps le eq) P3 L3 M3) H locs → W p l e (xrm 5) s m args below meth c H locs 0 0 (MQ below (va_Qv (fun σ2 => ∃ (P' L' M' G' : Nat → Int32) (X' : Nat → Int), σ2 = rw3 (va_up σ0 187 (.inl (cI, 5, .inl G'))) ciM cI cZ (mfs ad th (nI n9) rws ps le eq) P' L' M' ∧ RB P' L' M' X' ∧ isR X' 0 p0 (n9 + 1) ∧ isR X' 1 (cmF p0 n9) (cmC p0 n9) ∧ G' 0 = nI n9 ∧ G' 1 = nP (cmC p0 n9) ∧ 1 ≤ cmC p0 n9 ∧ cmC p0 n9 ≤ 7) (xS D classes (xT cI cJ cZ cC cG cP) 193 ad) (xA 193 ad)) args s 0 0 (xA 193 ad)) (F0 m 171 ls []) := by
    intro P3 L3 M3 G3 X3 ls H locs a2 a3 a4 a5 a6 a7 a8 hl I
    obtain ⟨q9, hq9⟩ : ∃ q9, cmC p0 n9 = q9 + 1 := ⟨cmC p0 n9 - 1, by omega⟩
    have g1 : G3 1 = nI q9 := by rw [a6, hq9, nP_succ]
    have tp : X3 (8 + q9) = cm0 p0 n9 q9 := a4 q9 (by omega)
    refine lv_aload_n hx hb d_SpectrumDeskModel_findCommon_171 rfl (lv_at hl 0 rfl) ?_
    refine lv_bipush (v := nI 8) hx hb d_SpectrumDeskModel_findCommon_172 (by decide) ?_
    refine lv_aload_n hx hb d_SpectrumDeskModel_findCommon_174 rfl (lv_at hl 0 rfl) ?_
    refine xr_get X I fin_M 183 (by decide) (r183 ..) rfl 3 (by decide) (List.mem_cons_of_mem _ k_176eac5e1f) rfl rfl d_SpectrumDeskModel_findCommon_175 ?_
    refine lv_iconst (v := nI 1) hx hb d_SpectrumDeskModel_findCommon_178 (by decide) ?_
    refine xr_iald X I 187 0 (by decide) ((r_o (by decide)).trans (va_up_self _ _ _)) rfl (by omega) (by decide) d_SpectrumDeskModel_findCommon_179 ?_
    refine xr_topi (y := nI q9) g1 ?_
    refine lv_iadd hx hb d_SpectrumDeskModel_findCommon_180 (xr_topi (y := nI (8 + q9)) (nI_add 8 q9) ?_)
    refine xr_calli (xr_runV (kc := 0) (kr := 5) (n := 1) (As := [.int (nI (8 + q9))]) (rest := []) X I (by decide) (r183 ..) rfl (c_SpectrumDeskModel_bigSign (w := 8 + q9) mfs_ok (by omega) (a2 (8 + q9) (by omega))) (xg k_e13fc765ad) (List.mem_cons_of_mem _ k_6487c7a510) (List.mem_cons_of_mem _ k_b18f58b667) (List.mem_cons_of_mem _ k_0ad4753b22) (List.mem_cons_of_mem _ k_30fa15c9ac) (by decide +kernel) (by decide) rfl hl.1 rfl (Nat.le_of_ble_eq_true rfl) d_SpectrumDeskModel_findCommon_181) I (fun r1 σ9 H locs hp I => ?_)
    obtain ⟨rfl, rfl⟩ := hp
    refine lv_if_ge hx hb d_SpectrumDeskModel_findCommon_184 rfl (fun hc => ?_) (fun hc => ?_)
    · have hz : ¬ cm0 p0 n9 (cmC p0 n9 - 1) < 0 := by rw [hq9, Nat.add_sub_cancel, ← tp]; exact sg_ge0.mp hc
      exact xr_vret X I hr hlk ⟨P3, L3, M3, G3, X3, rfl, a2, a3, by rw [cmF, if_neg hz]; exact a4, a5, a6, a7, a8⟩ d_SpectrumDeskModel_findCommon_231
    · have hz : cm0 p0 n9 (cmC p0 n9 - 1) < 0 := by rw [hq9, Nat.add_sub_cancel, ← tp]; exact Decidable.not_not.mp (fun h => hc (sg_ge0.mpr h))
      refine lv_iconst (v := nI 0) hx hb d_SpectrumDeskModel_findCommon_187 (by decide) ?_
      refine lv_istore_n (lv' := [(1, .int (nI 0)), (0, .ref (ad 183))]) hx hb d_SpectrumDeskModel_findCommon_188 rfl hl (by decide) rfl (fun ls hl => ?_)
      have flip : ∀ (j : Nat) (k : Nat) (M4 : Nat → Int32) (X4 : Nat → Int) (ls : Array Slot) (H : Heap) (locs : List Loc), k + j = q9 + 1 → RB P3 L3 M4 X4 → (∀ v, X4 v = if 8 ≤ v ∧ v < 8 + k then -(X3 v) else X3 v) → lv_has ls 2 [(1, .int (nI k)), (0, .ref (ad 183))] → xI D classes 193 ad s.heap (rw3 (va_up σ0 187 (.inl (cI, 5, .inl G3))) ciM cI cZ (mfs ad th (nI n9) rws ps le eq) P3 L3 M4) H locs → W p l e (xrm 5) s m args below meth c H locs 0 0 (MQ below (va_Qv (fun σ2 => ∃ (P' L' M' G' : Nat → Int32) (X' : Nat → Int), σ2 = rw3 (va_up σ0 187 (.inl (cI, 5, .inl G'))) ciM cI cZ (mfs ad th (nI n9) rws ps le eq) P' L' M' ∧ RB P' L' M' X' ∧ isR X' 0 p0 (n9 + 1) ∧ isR X' 1 (cmF p0 n9) (cmC p0 n9) ∧ G' 0 = nI n9 ∧ G' 1 = nP (cmC p0 n9) ∧ 1 ≤ cmC p0 n9 ∧ cmC p0 n9 ≤ 7) (xS D classes (xT cI cJ cZ cC cG cP) 193 ad) (xA 193 ad)) args s 0 0 (xA 193 ad)) (F0 m 189 ls []) := by
        intro j
        induction j with
        | zero =>
          intro k M4 X4 ls H locs hk i2 i3 hl I
          obtain rfl : k = q9 + 1 := by omega
          refine lv_iload_n hx hb d_SpectrumDeskModel_findCommon_189 rfl (lv_at hl 0 rfl) ?_
          refine lv_aload_n hx hb d_SpectrumDeskModel_findCommon_190 rfl (lv_at hl 1 rfl) ?_
          refine xr_get X I fin_M 183 (by decide) (r183 ..) rfl 3 (by decide) (List.mem_cons_of_mem _ k_176eac5e1f) rfl rfl d_SpectrumDeskModel_findCommon_191 ?_
          refine lv_iconst (v := nI 1) hx hb d_SpectrumDeskModel_findCommon_194 (by decide) ?_
          refine xr_iald X I 187 0 (by decide) ((r_o (by decide)).trans (va_up_self _ _ _)) rfl (by omega) (by decide) d_SpectrumDeskModel_findCommon_195 ?_
          refine xr_topi (y := nI q9) g1 ?_
          refine lv_icmp_gt hx hb d_SpectrumDeskModel_findCommon_196 rfl (fun hd => ?_) (fun hd => ?_)
          · refine xr_vret X I hr hlk ⟨P3, L3, M4, G3, X4, rfl, i2, fun k hk => ?_, fun k hk => ?_, a5, a6, a7, a8⟩ d_SpectrumDeskModel_findCommon_231
            · rw [i3, if_neg (by omega)]; exact a3 k hk
            · rw [i3, if_pos (by omega), cmF, if_pos hz]; exact congrArg (fun x => -x) (a4 k hk)
          · exact absurd (nI_lt (Nat.lt_succ_self _) (by omega)) hd
        | succ j ih =>
          intro k M4 X4 ls H locs hk i2 i3 hl I
          refine lv_iload_n hx hb d_SpectrumDeskModel_findCommon_189 rfl (lv_at hl 0 rfl) ?_
          refine lv_aload_n hx hb d_SpectrumDeskModel_findCommon_190 rfl (lv_at hl 1 rfl) ?_
          refine xr_get X I fin_M 183 (by decide) (r183 ..) rfl 3 (by decide) (List.mem_cons_of_mem _ k_176eac5e1f) rfl rfl d_SpectrumDeskModel_findCommon_191 ?_
          refine lv_iconst (v := nI 1) hx hb d_SpectrumDeskModel_findCommon_194 (by decide) ?_
          refine xr_iald X I 187 0 (by decide) ((r_o (by decide)).trans (va_up_self _ _ _)) rfl (by omega) (by decide) d_SpectrumDeskModel_findCommon_195 ?_
          refine xr_topi (y := nI q9) g1 ?_
          refine lv_icmp_gt hx hb d_SpectrumDeskModel_findCommon_196 rfl (fun hd => ?_) (fun hd => ?_)
          · exact absurd hd (nI_nlt (by omega) (by omega))
          · refine lv_aload_n hx hb d_SpectrumDeskModel_findCommon_199 rfl (lv_at hl 1 rfl) ?_
            refine xr_get X I fin_M 183 (by decide) (r183 ..) rfl 2 (by decide) (List.mem_cons_of_mem _ k_7646d4378e) rfl rfl d_SpectrumDeskModel_findCommon_200 ?_
            refine lv_bipush (v := nI 8) hx hb d_SpectrumDeskModel_findCommon_203 (by decide) ?_
            refine lv_iload_n hx hb d_SpectrumDeskModel_findCommon_205 rfl (lv_at hl 0 rfl) ?_
            refine lv_iadd hx hb d_SpectrumDeskModel_findCommon_206 (xr_topi (y := nI (8 + k)) (nI_add 8 k) ?_)
            refine lv_aload_n hx hb d_SpectrumDeskModel_findCommon_207 rfl (lv_at hl 1 rfl) ?_
            refine xr_get X I fin_M 183 (by decide) (r183 ..) rfl 2 (by decide) (List.mem_cons_of_mem _ k_7646d4378e) rfl rfl d_SpectrumDeskModel_findCommon_208 ?_
            refine lv_bipush (v := nI 8) hx hb d_SpectrumDeskModel_findCommon_211 (by decide) ?_
            refine lv_iload_n hx hb d_SpectrumDeskModel_findCommon_213 rfl (lv_at hl 0 rfl) ?_
            refine lv_iadd hx hb d_SpectrumDeskModel_findCommon_214 (xr_topi (y := nI (8 + k)) (nI_add 8 k) ?_)
            refine xr_zald X I 186 2 (by decide) (r186 ..) rfl (by omega) (by decide) d_SpectrumDeskModel_findCommon_215 ?_
            have hbit := RB_bit i2 (show 8 + k < 112 by omega)
            have nx : ∀ v, va_up X4 (8 + k) (-(X4 (8 + k))) v = if 8 ≤ v ∧ v < 8 + (k + 1) then -(X3 v) else X3 v := flip_s i3
            refine lv_if_ne hx hb d_SpectrumDeskModel_findCommon_216 rfl (fun he => ?_) (fun he => ?_)
            · refine lv_iconst (v := nI 0) hx hb d_SpectrumDeskModel_findCommon_223 (by decide) ?_
              refine xr_zast X I 186 2 (by decide) (r186 ..) rfl (by omega) (by decide) d_SpectrumDeskModel_findCommon_224 (fun H locs I => ?_)
              rw [rw3_M, show vp_nar .boolean (nI 0) = 0 by decide] at I
              have i4 := RB_flip (v := 8 + k) (mi := 0) i2 (by omega) (Or.inr ⟨(hbit.resolve_left (fun h => he h.1)).1, rfl⟩)
              refine lv_iinc (k := 0) (v := nI (k + 1)) (lv' := [(1, .int (nI (k + 1))), (0, .ref (ad 183))]) hx hb d_SpectrumDeskModel_findCommon_225 hl rfl (nI_1 k) (by decide) rfl (fun ls hl => ?_)
              refine lv_goto hx hb d_SpectrumDeskModel_findCommon_228 rfl ?_
              exact ih (k + 1) _ _ ls H locs (by omega) i4 nx hl I
            · refine lv_iconst (v := nI 1) hx hb d_SpectrumDeskModel_findCommon_219 (by decide) ?_
              refine lv_goto hx hb d_SpectrumDeskModel_findCommon_220 rfl ?_
              refine xr_zast X I 186 2 (by decide) (r186 ..) rfl (by omega) (by decide) d_SpectrumDeskModel_findCommon_224 (fun H locs I => ?_)
              rw [rw3_M, show vp_nar .boolean (nI 1) = 1 by decide] at I
              have i4 := RB_flip (v := 8 + k) (mi := 1) i2 (by omega) (Or.inl ⟨he, rfl⟩)
              refine lv_iinc (k := 0) (v := nI (k + 1)) (lv' := [(1, .int (nI (k + 1))), (0, .ref (ad 183))]) hx hb d_SpectrumDeskModel_findCommon_225 hl rfl (nI_1 k) (by decide) rfl (fun ls hl => ?_)
              refine lv_goto hx hb d_SpectrumDeskModel_findCommon_228 rfl ?_
              exact ih (k + 1) _ _ ls H locs (by omega) i4 nx hl I
      exact flip (q9 + 1) 0 M3 X3 ls _ _ (by omega) a2 (fun v => by rw [if_neg (by omega)]) hl I
  have outer : ∀ (j : Nat) (fF gS : Nat → Int) (cF dS : Nat) (P2 L2 M2 G2 : Nat → Int32) (X2 : Nat → Int) (ls : Array Slot) (H : Heap) (locs : List Loc), dS < j → RB P2 L2 M2 X2 → isR X2 0 p0 (n9 + 1) → isR X2 2 fF cF → isR X2 3 gS dS → (G2 0 = nI n9 ∧ G2 2 = nP cF ∧ G2 3 = nP dS) → (dS < cF ∧ cF ≤ 7) → ouR j fF cF gS dS = prs p0 n9 → ouOK j fF cF gS dS → lv_has ls 2 [(0, .ref (ad 183))] → xI D classes 193 ad s.heap (rw3 (va_up σ0 187 (.inl (cI, 5, .inl G2))) ciM cI cZ (mfs ad th (nI n9) rws ps le eq) P2 L2 M2) H locs → W p l e (xrm 5) s m args below meth c H locs 0 0 (MQ below (va_Qv (fun σ2 => ∃ (P' L' M' G' : Nat → Int32) (X' : Nat → Int), σ2 = rw3 (va_up σ0 187 (.inl (cI, 5, .inl G'))) ciM cI cZ (mfs ad th (nI n9) rws ps le eq) P' L' M' ∧ RB P' L' M' X' ∧ isR X' 0 p0 (n9 + 1) ∧ isR X' 1 (cmF p0 n9) (cmC p0 n9) ∧ G' 0 = nI n9 ∧ G' 1 = nP (cmC p0 n9) ∧ 1 ≤ cmC p0 n9 ∧ cmC p0 n9 ≤ 7) (xS D classes (xT cI cJ cZ cC cG cP) 193 ad) (xA 193 ad)) args s 0 0 (xA 193 ad)) (F0 m 73 ls []) := by
    intro j
    induction j with
    | zero =>
      intro fF gS cF dS P2 L2 M2 G2 X2 ls H locs h1 h2 h3 h4 h5 h6 h7 h8 h9 hl I
      exact absurd h1 (Nat.not_lt_zero _)
    | succ j ih =>
      intro fF gS cF dS P2 L2 M2 G2 X2 ls H locs h1 h2 h3 h4 h5 h6 h7 h8 h9 hl I
      refine lv_aload_n hx hb d_SpectrumDeskModel_findCommon_73 rfl (lv_at hl 0 rfl) ?_
      refine xr_get X I fin_M 183 (by decide) (r183 ..) rfl 3 (by decide) (List.mem_cons_of_mem _ k_176eac5e1f) rfl rfl d_SpectrumDeskModel_findCommon_74 ?_
      refine lv_iconst (v := nI 3) hx hb d_SpectrumDeskModel_findCommon_77 (by decide) ?_
      refine xr_iald X I 187 0 (by decide) ((r_o (by decide)).trans (va_up_self _ _ _)) rfl (by omega) (by decide) d_SpectrumDeskModel_findCommon_78 ?_
      refine xr_topi (y := nP dS) h6.2.2 ?_
      refine lv_if_le hx hb d_SpectrumDeskModel_findCommon_79 rfl (fun hc => ?_) (fun hc => ?_)
      · have hle : dS ≤ 1 := (nP_le0 (by omega)).mp hc
        rw [ouR, if_pos hle] at h8
        refine lv_aload_n hx hb d_SpectrumDeskModel_findCommon_137 rfl (lv_at hl 0 rfl) ?_
        refine xr_get X I fin_M 183 (by decide) (r183 ..) rfl 3 (by decide) (List.mem_cons_of_mem _ k_176eac5e1f) rfl rfl d_SpectrumDeskModel_findCommon_138 ?_
        refine lv_iconst (v := nI 3) hx hb d_SpectrumDeskModel_findCommon_141 (by decide) ?_
        refine xr_iald X I 187 0 (by decide) ((r_o (by decide)).trans (va_up_self _ _ _)) rfl (by omega) (by decide) d_SpectrumDeskModel_findCommon_142 ?_
        refine xr_topi (y := nP dS) h6.2.2 ?_
        refine lv_if_ne hx hb d_SpectrumDeskModel_findCommon_143 rfl (fun hd => ?_) (fun hd => ?_)
        · obtain rfl : dS = 0 := by have : ¬ dS = 1 := fun h => hd ((nP_eq0 (by omega)).mpr h); omega
          have c1 : cmC p0 n9 = cF := by rw [cmC, ← h8]; rfl
          have c2 : cm0 p0 n9 = fF := by rw [cm0, ← h8]; rfl
          refine lv_aload_n hx hb d_SpectrumDeskModel_findCommon_163 rfl (lv_at hl 0 rfl) ?_
          refine lv_bipush (v := nI 8) hx hb d_SpectrumDeskModel_findCommon_164 (by decide) ?_
          refine lv_bipush (v := nI 16) hx hb d_SpectrumDeskModel_findCommon_166 (by decide) ?_
          refine xr_callv (xr_runV (kc := 1) (kr := 5) (n := 2) (As := [.int (nI 8), .int (nI 16)]) (rest := []) X I (by decide) (r183 ..) rfl (c_SpectrumDeskModel_rowCopy (a := 1) (b := 2) (c9 := cF) (va_up_self _ _ _) h2 (by decide) (by decide) (by decide) (by omega) h6.2.1) (xg k_9767804b5c) (List.mem_cons_of_mem _ k_86ef828392) (List.mem_cons_of_mem _ k_fb5b31696c) (List.mem_cons_of_mem _ k_c87e5177a1) (List.mem_cons_of_mem _ k_30fa15c9ac) (by decide +kernel) (by decide) rfl hl.1 rfl (Nat.le_of_ble_eq_true rfl) d_SpectrumDeskModel_findCommon_168) I (fun σ9 H locs hp I => ?_)
          obtain ⟨P3, L3, M3, rfl, b3⟩ := hp
          rw [va_up_up] at I
          exact last P3 L3 M3 _ _ ls H locs b3 (copy_keep h3 (by omega) (by omega) (by decide)) (by rw [c1, c2]; exact copy_row h4) ((upd_n (by decide)).trans h6.1) (by rw [c1]; exact upd_s) (by omega) (by omega) hl I
        · obtain rfl : dS = 1 := (nP_eq0 (by omega)).mp hd
          have c1 : cmC p0 n9 = 1 := by rw [cmC, ← h8]; rfl
          have c2 : cm0 p0 n9 = fun _ => 1 := by rw [cm0, ← h8]; rfl
          refine lv_aload_n hx hb d_SpectrumDeskModel_findCommon_146 rfl (lv_at hl 0 rfl) ?_
          refine xr_get X I fin_M 183 (by decide) (r183 ..) rfl 3 (by decide) (List.mem_cons_of_mem _ k_176eac5e1f) rfl rfl d_SpectrumDeskModel_findCommon_147 ?_
          refine lv_iconst (v := nI 1) hx hb d_SpectrumDeskModel_findCommon_150 (by decide) ?_
          refine lv_iconst (v := nI 0) hx hb d_SpectrumDeskModel_findCommon_151 (by decide) ?_
          refine xr_iast X I 187 0 (by decide) ((r_o (by decide)).trans (va_up_self _ _ _)) rfl (by omega) (by decide) d_SpectrumDeskModel_findCommon_152 (fun H locs I => ?_)
          rw [rw3_o (by decide)] at I
          rw [va_up_up] at I
          refine lv_aload_n hx hb d_SpectrumDeskModel_findCommon_153 rfl (lv_at hl 0 rfl) ?_
          refine lv_bipush (v := nI 8) hx hb d_SpectrumDeskModel_findCommon_154 (by decide) ?_
          refine lv_lconst (v := lN 1) hx hb d_SpectrumDeskModel_findCommon_156 (by decide) ?_
          refine xr_callv (xr_runV (kc := 0) (kr := 5) (n := 2) (As := [.int (nI 8), .long (lN 1)]) (rest := []) X I (by decide) (r183 ..) rfl (c_SpectrumDeskModel_bigSet (w := 8) (v := lN 1) mfs_ok (by decide)) (xg k_5f300b8d49) (List.mem_cons_of_mem _ k_7a89662665) (List.mem_cons_of_mem _ k_203da126f2) (List.mem_cons_of_mem _ k_e2b6114fa3) (List.mem_cons_of_mem _ k_30fa15c9ac) (by decide +kernel) (by decide) rfl hl.1 rfl (Nat.le_of_ble_eq_true rfl) d_SpectrumDeskModel_findCommon_157) I (fun σ9 H locs hp I => ?_)
          obtain ⟨P3, L3, M3, rfl, hf, hx9⟩ := hp
          have b3 := RB_up h2 hf hx9
          refine lv_goto hx hb d_SpectrumDeskModel_findCommon_160 rfl ?_
          exact last P3 L3 M3 _ _ ls H locs b3 (fun k hk => (va_up_ne _ _ (by omega)).trans (h3 k hk)) (by rw [c1, c2]; intro k hk; obtain rfl : k = 0 := (by omega); exact va_up_self _ _ _) ((upd_n (by decide)).trans h6.1) (by rw [c1, nP_succ]; exact upd_s) (by omega) (by omega) hl I
      · have hgt : ¬ dS ≤ 1 := fun h => hc ((nP_le0 (by omega)).mpr h)
        rw [ouR, if_neg hgt] at h8
        rw [ouOK] at h9
        obtain ⟨k1, k2, k3⟩ := h9.resolve_left hgt
        obtain ⟨ds, rfl⟩ : ∃ ds, dS = ds + 1 := ⟨dS - 1, by omega⟩
        refine lv_aload_n hx hb d_SpectrumDeskModel_findCommon_82 rfl (lv_at hl 0 rfl) ?_
        refine lv_bipush (v := nI 32) hx hb d_SpectrumDeskModel_findCommon_83 (by decide) ?_
        refine lv_bipush (v := nI 16) hx hb d_SpectrumDeskModel_findCommon_85 (by decide) ?_
        refine xr_callv (xr_runV (kc := 1) (kr := 5) (n := 2) (As := [.int (nI 32), .int (nI 16)]) (rest := []) X I (by decide) (r183 ..) rfl (c_SpectrumDeskModel_rowCopy (a := 4) (b := 2) (c9 := cF) (va_up_self _ _ _) h2 (by decide) (by decide) (by decide) (by omega) h6.2.1) (xg k_9767804b5c) (List.mem_cons_of_mem _ k_86ef828392) (List.mem_cons_of_mem _ k_fb5b31696c) (List.mem_cons_of_mem _ k_c87e5177a1) (List.mem_cons_of_mem _ k_30fa15c9ac) (by decide +kernel) (by decide) rfl hl.1 rfl (Nat.le_of_ble_eq_true rfl) d_SpectrumDeskModel_findCommon_87) I (fun σ9 H locs hp I => ?_)
        obtain ⟨P3, L3, M3, rfl, b3⟩ := hp
        rw [va_up_up] at I
        have inner : ∀ (i : Nat) (fM : Nat → Int) (cM : Nat) (P4 L4 M4 G4 : Nat → Int32) (X4 : Nat → Int) (ls : Array Slot) (H : Heap) (locs : List Loc), cM < i → RB P4 L4 M4 X4 → isR X4 0 p0 (n9 + 1) → isR X4 4 fM cM → isR X4 3 gS (ds + 1) → (G4 0 = nI n9 ∧ G4 3 = nP (ds + 1) ∧ G4 4 = nP cM) → cM ≤ 7 → inR gS (ds + 1) i fM cM = inR gS (ds + 1) (cF + 1) fF cF → inOK gS (ds + 1) i fM cM → lv_has ls 2 [(0, .ref (ad 183))] → xI D classes 193 ad s.heap (rw3 (va_up σ0 187 (.inl (cI, 5, .inl G4))) ciM cI cZ (mfs ad th (nI n9) rws ps le eq) P4 L4 M4) H locs → W p l e (xrm 5) s m args below meth c H locs 0 0 (MQ below (va_Qv (fun σ2 => ∃ (P' L' M' G' : Nat → Int32) (X' : Nat → Int), σ2 = rw3 (va_up σ0 187 (.inl (cI, 5, .inl G'))) ciM cI cZ (mfs ad th (nI n9) rws ps le eq) P' L' M' ∧ RB P' L' M' X' ∧ isR X' 0 p0 (n9 + 1) ∧ isR X' 1 (cmF p0 n9) (cmC p0 n9) ∧ G' 0 = nI n9 ∧ G' 1 = nP (cmC p0 n9) ∧ 1 ≤ cmC p0 n9 ∧ cmC p0 n9 ≤ 7) (xS D classes (xT cI cJ cZ cC cG cP) 193 ad) (xA 193 ad)) args s 0 0 (xA 193 ad)) (F0 m 90 ls []) := by
          intro i
          induction i with
          | zero =>
            intro fM cM P4 L4 M4 G4 X4 ls H locs i1 i2 i3 i4 i5 i6 i7 i8 i9 hl I
            exact absurd i1 (Nat.not_lt_zero _)
          | succ i jh =>
            intro fM cM P4 L4 M4 G4 X4 ls H locs i1 i2 i3 i4 i5 i6 i7 i8 i9 hl I
            refine lv_aload_n hx hb d_SpectrumDeskModel_findCommon_90 rfl (lv_at hl 0 rfl) ?_
            refine xr_get X I fin_M 183 (by decide) (r183 ..) rfl 3 (by decide) (List.mem_cons_of_mem _ k_176eac5e1f) rfl rfl d_SpectrumDeskModel_findCommon_91 ?_
            refine lv_iconst (v := nI 4) hx hb d_SpectrumDeskModel_findCommon_94 (by decide) ?_
            refine xr_iald X I 187 0 (by decide) ((r_o (by decide)).trans (va_up_self _ _ _)) rfl (by omega) (by decide) d_SpectrumDeskModel_findCommon_95 ?_
            refine xr_topi (y := nP cM) i6.2.2 ?_
            refine lv_aload_n hx hb d_SpectrumDeskModel_findCommon_96 rfl (lv_at hl 0 rfl) ?_
            refine xr_get X I fin_M 183 (by decide) (r183 ..) rfl 3 (by decide) (List.mem_cons_of_mem _ k_176eac5e1f) rfl rfl d_SpectrumDeskModel_findCommon_97 ?_
            refine lv_iconst (v := nI 3) hx hb d_SpectrumDeskModel_findCommon_100 (by decide) ?_
            refine xr_iald X I 187 0 (by decide) ((r_o (by decide)).trans (va_up_self _ _ _)) rfl (by omega) (by decide) d_SpectrumDeskModel_findCommon_101 ?_
            refine xr_topi (y := nP (ds + 1)) i6.2.1 ?_
            refine lv_icmp_lt hx hb d_SpectrumDeskModel_findCommon_102 rfl (fun hd => ?_) (fun hd => ?_)
            · have hlt : cM < ds + 1 := (nP_lt2 (by omega) (by omega)).mp hd
              rw [inR, if_pos hlt] at i8
              refine lv_aload_n hx hb d_SpectrumDeskModel_findCommon_118 rfl (lv_at hl 0 rfl) ?_
              refine lv_bipush (v := nI 16) hx hb d_SpectrumDeskModel_findCommon_119 (by decide) ?_
              refine lv_bipush (v := nI 24) hx hb d_SpectrumDeskModel_findCommon_121 (by decide) ?_
              refine xr_callv (xr_runV (kc := 1) (kr := 5) (n := 2) (As := [.int (nI 16), .int (nI 24)]) (rest := []) X I (by decide) (r183 ..) rfl (c_SpectrumDeskModel_rowCopy (a := 2) (b := 3) (c9 := ds + 1) (va_up_self _ _ _) i2 (by decide) (by decide) (by decide) (by omega) i6.2.1) (xg k_9767804b5c) (List.mem_cons_of_mem _ k_86ef828392) (List.mem_cons_of_mem _ k_fb5b31696c) (List.mem_cons_of_mem _ k_c87e5177a1) (List.mem_cons_of_mem _ k_30fa15c9ac) (by decide +kernel) (by decide) rfl hl.1 rfl (Nat.le_of_ble_eq_true rfl) d_SpectrumDeskModel_findCommon_123) I (fun σ9 H locs hp I => ?_)
              obtain ⟨P5, L5, M5, rfl, b5⟩ := hp
              rw [va_up_up] at I
              refine lv_aload_n hx hb d_SpectrumDeskModel_findCommon_126 rfl (lv_at hl 0 rfl) ?_
              refine lv_bipush (v := nI 24) hx hb d_SpectrumDeskModel_findCommon_127 (by decide) ?_
              refine lv_bipush (v := nI 32) hx hb d_SpectrumDeskModel_findCommon_129 (by decide) ?_
              refine xr_callv (xr_runV (kc := 1) (kr := 5) (n := 2) (As := [.int (nI 24), .int (nI 32)]) (rest := []) X I (by decide) (r183 ..) rfl (c_SpectrumDeskModel_rowCopy (a := 3) (b := 4) (c9 := cM) (va_up_self _ _ _) b5 (by decide) (by decide) (by decide) (by omega) ((upd_n (by decide)).trans i6.2.2)) (xg k_9767804b5c) (List.mem_cons_of_mem _ k_86ef828392) (List.mem_cons_of_mem _ k_fb5b31696c) (List.mem_cons_of_mem _ k_c87e5177a1) (List.mem_cons_of_mem _ k_30fa15c9ac) (by decide +kernel) (by decide) rfl hl.1 rfl (Nat.le_of_ble_eq_true rfl) d_SpectrumDeskModel_findCommon_131) I (fun σ9 H locs hp I => ?_)
              obtain ⟨P6, L6, M6, rfl, b6⟩ := hp
              rw [va_up_up] at I
              refine lv_goto hx hb d_SpectrumDeskModel_findCommon_134 rfl ?_
              have q1 : isR (cpX (cpX X4 (8 * 2) (8 * 3) (ds + 1)) (8 * 3) (8 * 4) cM) 2 gS (ds + 1) := copy_keep (copy_row i5) (by omega) (by omega) (by decide)
              have q2 : isR (cpX (cpX X4 (8 * 2) (8 * 3) (ds + 1)) (8 * 3) (8 * 4) cM) 3 fM cM := copy_row (copy_keep i4 (by omega) (by omega) (by decide))
              have q3 : isR (cpX (cpX X4 (8 * 2) (8 * 3) (ds + 1)) (8 * 3) (8 * 4) cM) 0 p0 (n9 + 1) := copy_keep (copy_keep i3 (by omega) (by omega) (by decide)) (by omega) (by omega) (by decide)
              rw [← i8] at h8 k3
              exact ih gS fM (ds + 1) cM P6 L6 M6 (upd (upd G4 2 (nP (ds + 1))) 3 (nP cM)) _ ls H locs (by omega) b6 q3 q1 q2 ⟨(upd_n (by decide)).trans ((upd_n (by decide)).trans i6.1), (upd_n (by decide)).trans upd_s, upd_s⟩ ⟨by omega, by omega⟩ h8 k3 hl I
            · have hge : ¬ cM < ds + 1 := fun h => hd ((nP_lt2 (by omega) (by omega)).mpr h)
              rw [inR, if_neg hge] at i8
              rw [inOK] at i9
              obtain ⟨z1, z2⟩ := i9.resolve_left hge
              obtain ⟨dm, rfl⟩ : ∃ dm, cM = dm + 1 := ⟨cM - 1, by omega⟩
              have hlt := stC_lt (f := fM) (g := gS) (show 1 ≤ ds + 1 by omega) (show ds + 1 ≤ dm + 1 by omega)
              refine lv_aload_n hx hb d_SpectrumDeskModel_findCommon_105 rfl (lv_at hl 0 rfl) ?_
              refine xr_callv (xr_runV (kc := 3) (kr := 5) (n := 0) (As := []) (rest := []) X I (by decide) (r183 ..) rfl (c_SpectrumDeskModel_lower (dm := dm) (ds := ds) (va_up_self _ _ _) i2 (by omega) (by omega) (by rw [i6.2.1, nP_succ]) (by rw [i6.2.2, nP_succ]) (fun k hk => by rw [show 32 + k = 8 * 4 + k by omega, i4 k (by omega)]; exact z1 k (by omega)) (fun k hk => by rw [show 24 + k = 8 * 3 + k by omega, i5 k (by omega)]; exact k1 k (by omega))) (xg k_01e06e6942) (List.mem_cons_of_mem _ k_dc591485e9) (List.mem_cons_of_mem _ k_961e0996b1) (List.mem_cons_of_mem _ k_0e0125e410) (List.mem_cons_of_mem _ k_30fa15c9ac) (by decide +kernel) (by decide) rfl hl.1 rfl (Nat.le_of_ble_eq_true rfl) d_SpectrumDeskModel_findCommon_106) I (fun σ9 H locs hp I => ?_)
              obtain ⟨P5, L5, M5, X5, rfl, b5, b5i⟩ := hp
              obtain ⟨c1, c2, c3⟩ := low_row (f := fM) (g := gS) (show ds ≤ dm by omega) (by omega) i4 i5 b5i
              rw [c3, va_up_up] at I
              clear b5i
              refine lv_aload_n hx hb d_SpectrumDeskModel_findCommon_109 rfl (lv_at hl 0 rfl) ?_
              refine lv_bipush (v := nI 32) hx hb d_SpectrumDeskModel_findCommon_110 (by decide) ?_
              have c4 : isR X5 4 (lwF fM (dm + 1) gS (ds + 1)) (stC fM (dm + 1) gS (ds + 1)) := fun k hk => c1 k (by omega)
              have c5 : stC fM (dm + 1) gS (ds + 1) = 0 ∨ gcN (fun k => X5 (8 * 4 + k)) (stC fM (dm + 1) gS (ds + 1)) ≠ 0 := by
                rcases dgt_ne (f := lwF fM (dm + 1) gS (ds + 1)) (dm + 1) with h | h
                · exact Or.inl h
                · by_cases h0 : stC fM (dm + 1) gS (ds + 1) = 0
                  · exact Or.inl h0
                  · exact Or.inr (gcN_ne (k := stC fM (dm + 1) gS (ds + 1) - 1) (by omega) (by rw [c1 _ (by omega)]; exact h))
              refine xr_callv (xr_runV (kc := 3) (kr := 5) (n := 1) (As := [.int (nI 32)]) (rest := []) X I (by decide) (r183 ..) rfl (c_SpectrumDeskModel_simplify (b := 4) (c9 := stC fM (dm + 1) gS (ds + 1)) (va_up_self _ _ _) b5 (by decide) (by omega) upd_s c5 (fun k hk => by rw [c1 k (by omega)]; exact rsm_lw (by omega) (by omega) z1 k1 (by omega))) (xg k_130109c8be) (List.mem_cons_of_mem _ k_78562df18e) (List.mem_cons_of_mem _ k_99deaf4323) (List.mem_cons_of_mem _ k_af8b2b93f4) (List.mem_cons_of_mem _ k_30fa15c9ac) (by decide +kernel) (by decide) rfl hl.1 rfl (Nat.le_of_ble_eq_true rfl) d_SpectrumDeskModel_findCommon_112) I (fun σ9 H locs hp I => ?_)
              obtain ⟨P6, L6, M6, X6, rfl, b6, b6i⟩ := hp
              obtain ⟨c6, c7⟩ := simp_row (by decide) (by omega) c4 b6i
              clear b6i
              refine lv_goto hx hb d_SpectrumDeskModel_findCommon_115 rfl ?_
              exact jh (stF fM (dm + 1) gS (ds + 1)) (stC fM (dm + 1) gS (ds + 1)) P6 L6 M6 (upd G4 4 (nP (stC fM (dm + 1) gS (ds + 1)))) X6 ls H locs (by omega) b6 (isR_keep (isR_keep i3 (by omega) (fun v _ h => c2 v (by omega))) (by omega) (fun v _ h => c7 v (by omega))) c6 (isR_keep (isR_keep i5 (by omega) (fun v _ h => c2 v (by omega))) (by omega) (fun v _ h => c7 v (by omega))) ⟨(upd_n (by decide)).trans i6.1, (upd_n (by decide)).trans i6.2.1, upd_s⟩ (by omega) i8 z2 hl I
        exact inner (cF + 1) fF cF P3 L3 M3 (upd G2 4 (nP cF)) _ ls H locs (by omega) b3 (copy_keep h3 (by omega) (by omega) (by decide)) (copy_row h4) (copy_keep h5 (by omega) (by omega) (by decide)) ⟨(upd_n (by decide)).trans h6.1, (upd_n (by decide)).trans h6.2.2, upd_s⟩ (by omega) rfl k2 hl I
  have deriv : ∀ (j : Nat) (k : Nat) (P2 L2 M2 : Nat → Int32) (X2 : Nat → Int) (ls : Array Slot) (H : Heap) (locs : List Loc), k + j = n9 + 1 → 1 ≤ k → RB P2 L2 M2 X2 → isR X2 0 p0 (n9 + 1) → isR X2 2 p0 (n9 + 1) → (∀ q, q + 1 < k → X2 (8 * 3 + q) = dF p0 q) → lv_has ls 2 [(1, .int (nI k)), (0, .ref (ad 183))] → xI D classes 193 ad s.heap (rw3 (va_up σ0 187 (.inl (cI, 5, .inl (upd (upd (upd G 0 (nI n9)) 2 (nP (n9 + 1))) 3 (nP n9))))) ciM cI cZ (mfs ad th (nI n9) rws ps le eq) P2 L2 M2) H locs → W p l e (xrm 5) s m args below meth c H locs 0 0 (MQ below (va_Qv (fun σ2 => ∃ (P' L' M' G' : Nat → Int32) (X' : Nat → Int), σ2 = rw3 (va_up σ0 187 (.inl (cI, 5, .inl G'))) ciM cI cZ (mfs ad th (nI n9) rws ps le eq) P' L' M' ∧ RB P' L' M' X' ∧ isR X' 0 p0 (n9 + 1) ∧ isR X' 1 (cmF p0 n9) (cmC p0 n9) ∧ G' 0 = nI n9 ∧ G' 1 = nP (cmC p0 n9) ∧ 1 ≤ cmC p0 n9 ∧ cmC p0 n9 ≤ 7) (xS D classes (xT cI cJ cZ cC cG cP) 193 ad) (xA 193 ad)) args s 0 0 (xA 193 ad)) (F0 m 30 ls []) := by
    intro j
    induction j with
    | zero =>
      intro k P2 L2 M2 X2 ls H locs hk k0 v2 v3 v4 v5 hl I
      obtain rfl : k = n9 + 1 := by omega
      refine lv_iload_n hx hb d_SpectrumDeskModel_findCommon_30 rfl (lv_at hl 0 rfl) ?_
      refine lv_aload_n hx hb d_SpectrumDeskModel_findCommon_31 rfl (lv_at hl 1 rfl) ?_
      refine xr_get X I fin_M 183 (by decide) (r183 ..) rfl 5 (by decide) (List.mem_cons_of_mem _ k_b1a46e2c09) rfl rfl d_SpectrumDeskModel_findCommon_32 ?_
      refine lv_icmp_gt hx hb d_SpectrumDeskModel_findCommon_35 rfl (fun hc => ?_) (fun hc => ?_)
      · refine lv_aload_n hx hb d_SpectrumDeskModel_findCommon_67 rfl (lv_at hl 1 rfl) ?_
        refine lv_bipush (v := nI 24) hx hb d_SpectrumDeskModel_findCommon_68 (by decide) ?_
        have c4 : isR X2 3 (dF p0) n9 := fun k hk => v5 k (by omega)
        have c5 : n9 = 0 ∨ gcN (fun k => X2 (8 * 3 + k)) n9 ≠ 0 := by
          obtain ⟨q9, rfl⟩ : ∃ q9, n9 = q9 + 1 := ⟨n9 - 1, by omega⟩
          refine Or.inr (gcN_ne (k := q9) (by omega) ?_)
          rw [c4 q9 (by omega), dF, hpn]
          omega
        refine xr_callv (xr_runV (kc := 3) (kr := 5) (n := 1) (As := [.int (nI 24)]) (rest := []) X I (by decide) (r183 ..) rfl (c_SpectrumDeskModel_simplify (b := 3) (c9 := n9) (va_up_self _ _ _) v2 (by decide) (by omega) upd_s c5 (fun k hk => by rw [c4 k hk]; exact dF_rbd hps (by omega))) (xg k_130109c8be) (List.mem_cons_of_mem _ k_78562df18e) (List.mem_cons_of_mem _ k_99deaf4323) (List.mem_cons_of_mem _ k_af8b2b93f4) (List.mem_cons_of_mem _ k_30fa15c9ac) (by decide +kernel) (by decide) rfl hl.1 rfl (Nat.le_of_ble_eq_true rfl) d_SpectrumDeskModel_findCommon_70) I (fun σ9 H locs hp I => ?_)
        obtain ⟨P6, L6, M6, X6, rfl, b6, b6i⟩ := hp
        obtain ⟨c6, c7⟩ := simp_row (by decide) (by omega) c4 b6i
        clear b6i
        have hl := lv_sub hl [1] rfl
        have hl : lv_has ls 2 [(0, .ref (ad 183))] := hl
        exact outer 7 p0 (sF (dF p0) n9) (n9 + 1) n9 P6 L6 M6 (upd (upd (upd G 0 (nI n9)) 2 (nP (n9 + 1))) 3 (nP n9)) X6 ls H locs (by omega) b6 (isR_keep v3 (by omega) (fun v _ h => c7 v (by omega))) (isR_keep v4 (by omega) (fun v _ h => c7 v (by omega))) c6 ⟨(upd_n (by decide)).trans ((upd_n (by decide)).trans upd_s), (upd_n (by decide)).trans upd_s, upd_s⟩ ⟨by omega, by omega⟩ rfl hok9 hl I
      · exact absurd (nI_lt (Nat.lt_succ_self _) (by omega)) hc
    | succ j ih =>
      intro k P2 L2 M2 X2 ls H locs hk k0 v2 v3 v4 v5 hl I
      refine lv_iload_n hx hb d_SpectrumDeskModel_findCommon_30 rfl (lv_at hl 0 rfl) ?_
      refine lv_aload_n hx hb d_SpectrumDeskModel_findCommon_31 rfl (lv_at hl 1 rfl) ?_
      refine xr_get X I fin_M 183 (by decide) (r183 ..) rfl 5 (by decide) (List.mem_cons_of_mem _ k_b1a46e2c09) rfl rfl d_SpectrumDeskModel_findCommon_32 ?_
      refine lv_icmp_gt hx hb d_SpectrumDeskModel_findCommon_35 rfl (fun hc => ?_) (fun hc => ?_)
      · exact absurd hc (nI_nlt (by omega) (by omega))
      · refine lv_aload_n hx hb d_SpectrumDeskModel_findCommon_38 rfl (lv_at hl 1 rfl) ?_
        refine lv_bipush (v := nI 104) hx hb d_SpectrumDeskModel_findCommon_39 (by decide) ?_
        refine lv_iload_n hx hb d_SpectrumDeskModel_findCommon_41 rfl (lv_at hl 0 rfl) ?_
        refine lv_i2l hx hb d_SpectrumDeskModel_findCommon_42 rfl ?_
        refine xr_callv (xr_runV (kc := 0) (kr := 5) (n := 2) (As := [.int (nI 104), .long ((nI k).toInt64)]) (rest := []) X I (by decide) (r183 ..) rfl (c_SpectrumDeskModel_bigSet (w := 104) (v := (nI k).toInt64) mfs_ok (by decide)) (xg k_5f300b8d49) (List.mem_cons_of_mem _ k_7a89662665) (List.mem_cons_of_mem _ k_203da126f2) (List.mem_cons_of_mem _ k_e2b6114fa3) (List.mem_cons_of_mem _ k_30fa15c9ac) (by decide +kernel) (by decide) rfl hl.1 rfl (Nat.le_of_ble_eq_true rfl) d_SpectrumDeskModel_findCommon_43) I (fun σ9 H locs hp I => ?_)
        obtain ⟨P3, L3, M3, rfl, hf, hx9⟩ := hp
        have b3 := RB_up v2 hf hx9
        clear hf hx9
        have e1 : va_up X2 104 (nI k).toInt64.toInt 104 = (k : Int) := by rw [va_up_self, q_i2l, nI_toInt (by omega)]
        have e2 : va_up X2 104 (nI k).toInt64.toInt k = p0 k := by rw [va_up_ne _ _ (by omega)]; have h := v3 k (by omega); rw [Nat.mul_zero, Nat.zero_add] at h; exact h
        obtain ⟨la, la1, la2⟩ := rb_sm (b3 104 (by decide)) (by rw [e1]; exact sm_k (by omega))
        obtain ⟨lb, lb1, lb2⟩ := rb_sm (b3 k (by omega)) (by rw [e2]; exact hps k)
        refine lv_aload_n hx hb d_SpectrumDeskModel_findCommon_46 rfl (lv_at hl 1 rfl) ?_
        refine lv_bipush (v := nI 24) hx hb d_SpectrumDeskModel_findCommon_47 (by decide) ?_
        refine lv_iload_n hx hb d_SpectrumDeskModel_findCommon_49 rfl (lv_at hl 0 rfl) ?_
        refine lv_iadd hx hb d_SpectrumDeskModel_findCommon_50 (xr_topi (y := nI (24 + k)) (nI_add 24 k) ?_)
        refine lv_iconst (v := nI 1) hx hb d_SpectrumDeskModel_findCommon_51 (by decide) ?_
        refine lv_isub hx hb d_SpectrumDeskModel_findCommon_52 (xr_topi (y := nI (24 + k - 1)) (pk_sub (by omega)) ?_)
        refine lv_bipush (v := nI 104) hx hb d_SpectrumDeskModel_findCommon_53 (by decide) ?_
        refine lv_iconst (v := nI 0) hx hb d_SpectrumDeskModel_findCommon_55 (by decide) ?_
        refine lv_iload_n hx hb d_SpectrumDeskModel_findCommon_56 rfl (lv_at hl 0 rfl) ?_
        refine lv_iadd hx hb d_SpectrumDeskModel_findCommon_57 (xr_topi (y := nI k) (by rw [nI_add, Nat.zero_add]) ?_)
        refine xr_callv (xr_runV (kc := 1) (kr := 5) (n := 3) (As := [.int (nI (24 + k - 1)), .int (nI 104), .int (nI k)]) (rest := []) X I (by decide) (r183 ..) rfl (c_SpectrumDeskModel_bigProduct (w := 24 + k - 1) (u := 104) (v := k) mfs_ok (by omega) (by decide) (by omega) (by omega) (by omega) la2 lb2 (by omega) (b3 104 (by decide)) (b3 k (by omega))) (xg k_d838ee6d72) (List.mem_cons_of_mem _ k_bbee4b637e) (List.mem_cons_of_mem _ k_55f9d50ad7) (List.mem_cons_of_mem _ k_ea9d46a281) (List.mem_cons_of_mem _ k_30fa15c9ac) (by decide +kernel) (by decide) rfl hl.1 rfl (Nat.le_of_ble_eq_true rfl) d_SpectrumDeskModel_findCommon_58) I (fun σ9 H locs hp I => ?_)
        obtain ⟨P4, L4, M4, rfl, hf, hx9⟩ := hp
        have b4 := RB_up b3 hf hx9
        clear hf hx9
        rw [e1, e2] at b4
        refine lv_iinc (k := 0) (v := nI (k + 1)) (lv' := [(1, .int (nI (k + 1))), (0, .ref (ad 183))]) hx hb d_SpectrumDeskModel_findCommon_61 hl rfl (nI_1 k) (by decide) rfl (fun ls hl => ?_)
        refine lv_goto hx hb d_SpectrumDeskModel_findCommon_64 rfl ?_
        refine ih (k + 1) P4 L4 M4 _ ls H locs (by omega) (by omega) b4 (fun q hq => ?_) (fun q hq => ?_) (fun q hq => ?_) hl I
        · rw [va_up_ne _ _ (by omega), va_up_ne _ _ (by omega)]; exact v3 q hq
        · rw [va_up_ne _ _ (by omega), va_up_ne _ _ (by omega)]; exact v4 q hq
        · by_cases h : q + 1 = k
          · rw [show 8 * 3 + q = 24 + k - 1 by omega, va_up_self, dF, ← h]; rfl
          · rw [va_up_ne _ _ (by omega), va_up_ne _ _ (by omega)]; exact v5 q (by omega)
  refine lv_aload_n hx hb d_SpectrumDeskModel_findCommon_0 rfl (lv_at hl 0 rfl) ?_
  refine lv_aload_n hx hb d_SpectrumDeskModel_findCommon_1 rfl (lv_at hl 0 rfl) ?_
  refine xr_get X I fin_M 183 (by decide) (r183 ..) rfl 5 (by decide) (List.mem_cons_of_mem _ k_b1a46e2c09) rfl rfl d_SpectrumDeskModel_findCommon_2 ?_
  refine lv_iconst (v := nI 0) hx hb d_SpectrumDeskModel_findCommon_5 (by decide) ?_
  refine xr_callv (xr_runV (kc := 4) (kr := 5) (n := 2) (As := [.int (nI n9), .int (nI 0)]) (rest := []) X I (by decide) (r183 ..) rfl (c_SpectrumDeskModel_characterize (k9 := n9) hG hB h6n hA9 hAb) (xg k_65cc42cfc5) (List.mem_cons_of_mem _ k_b1bcd2b30f) (List.mem_cons_of_mem _ k_fa61ed523e) (List.mem_cons_of_mem _ k_f9f61292df) (List.mem_cons_of_mem _ k_30fa15c9ac) (by decide +kernel) (by decide) rfl hl.1 rfl (Nat.le_of_ble_eq_true rfl) d_SpectrumDeskModel_findCommon_6) I (fun σ9 H locs hp I => ?_)
  obtain ⟨Pc, Lc, Mc, Zc, rfl, hBc, hZc, hZo⟩ := hp
  have z0 : isR Zc 0 p0 (n9 + 1) := fun k hk => by rw [Nat.mul_zero, Nat.zero_add, hZc k (by omega), hp0]
  refine lv_aload_n hx hb d_SpectrumDeskModel_findCommon_9 rfl (lv_at hl 0 rfl) ?_
  refine lv_bipush (v := nI 16) hx hb d_SpectrumDeskModel_findCommon_10 (by decide) ?_
  refine lv_iconst (v := nI 0) hx hb d_SpectrumDeskModel_findCommon_12 (by decide) ?_
  refine xr_callv (xr_runV (kc := 1) (kr := 5) (n := 2) (As := [.int (nI 16), .int (nI 0)]) (rest := []) X I (by decide) (r183 ..) rfl (c_SpectrumDeskModel_rowCopy (a := 2) (b := 0) (c9 := n9 + 1) (va_up_self _ _ _) hBc (by decide) (by decide) (by decide) (by omega) (by rw [nP_succ]; exact upd_s)) (xg k_9767804b5c) (List.mem_cons_of_mem _ k_86ef828392) (List.mem_cons_of_mem _ k_fb5b31696c) (List.mem_cons_of_mem _ k_c87e5177a1) (List.mem_cons_of_mem _ k_30fa15c9ac) (by decide +kernel) (by decide) rfl hl.1 rfl (Nat.le_of_ble_eq_true rfl) d_SpectrumDeskModel_findCommon_13) I (fun σ9 H locs hp I => ?_)
  obtain ⟨P3, L3, M3, rfl, b3⟩ := hp
  rw [va_up_up] at I
  refine lv_aload_n hx hb d_SpectrumDeskModel_findCommon_16 rfl (lv_at hl 0 rfl) ?_
  refine xr_get X I fin_M 183 (by decide) (r183 ..) rfl 3 (by decide) (List.mem_cons_of_mem _ k_176eac5e1f) rfl rfl d_SpectrumDeskModel_findCommon_17 ?_
  refine lv_iconst (v := nI 3) hx hb d_SpectrumDeskModel_findCommon_20 (by decide) ?_
  refine lv_aload_n hx hb d_SpectrumDeskModel_findCommon_21 rfl (lv_at hl 0 rfl) ?_
  refine xr_get X I fin_M 183 (by decide) (r183 ..) rfl 5 (by decide) (List.mem_cons_of_mem _ k_b1a46e2c09) rfl rfl d_SpectrumDeskModel_findCommon_22 ?_
  refine lv_iconst (v := nI 1) hx hb d_SpectrumDeskModel_findCommon_25 (by decide) ?_
  refine lv_isub hx hb d_SpectrumDeskModel_findCommon_26 (xr_topi (y := nP n9) rfl ?_)
  refine xr_iast X I 187 0 (by decide) ((r_o (by decide)).trans (va_up_self _ _ _)) rfl (by omega) (by decide) d_SpectrumDeskModel_findCommon_27 (fun H locs I => ?_)
  rw [rw3_o (by decide)] at I
  rw [va_up_up] at I
  refine lv_iconst (v := nI 1) hx hb d_SpectrumDeskModel_findCommon_28 (by decide) ?_
  refine lv_istore_n (lv' := [(1, .int (nI 1)), (0, .ref (ad 183))]) hx hb d_SpectrumDeskModel_findCommon_29 rfl hl (by decide) rfl (fun ls hl => ?_)
  exact deriv n9 1 P3 L3 M3 _ ls _ _ (by omega) (by omega) b3 (copy_keep z0 (by omega) (by omega) (by decide)) (copy_row z0) (fun q hq => by omega) hl I
