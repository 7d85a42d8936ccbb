/-! the reference: bigProduct (written by wip/gen) -/
abbrev b_SpectrumDeskModel_bigProduct : ByteArray := prog_10_method_12_code
abbrev y_SpectrumDeskModel_bigProduct : MethodName := ⟨"SpectrumDeskModel", "bigProduct", "(III)V"⟩
abbrev v_SpectrumDeskModel_bigProduct : List Cond := Cond.code y_SpectrumDeskModel_bigProduct b_SpectrumDeskModel_bigProduct 9 none :: AW
theorem d_SpectrumDeskModel_bigProduct_0 : decode b_SpectrumDeskModel_bigProduct 0 = .ok (.aload_n 0, 1) := by decide +kernel
theorem d_SpectrumDeskModel_bigProduct_1 : decode b_SpectrumDeskModel_bigProduct 1 = .ok (.getfield 13, 3) := by decide +kernel
theorem d_SpectrumDeskModel_bigProduct_4 : decode b_SpectrumDeskModel_bigProduct 4 = .ok (.iload_n 1, 1) := by decide +kernel
theorem d_SpectrumDeskModel_bigProduct_5 : decode b_SpectrumDeskModel_bigProduct 5 = .ok (.aload_n 0, 1) := by decide +kernel
theorem d_SpectrumDeskModel_bigProduct_6 : decode b_SpectrumDeskModel_bigProduct 6 = .ok (.getfield 13, 3) := by decide +kernel
theorem d_SpectrumDeskModel_bigProduct_9 : decode b_SpectrumDeskModel_bigProduct 9 = .ok (.iload_n 2, 1) := by decide +kernel
theorem d_SpectrumDeskModel_bigProduct_10 : decode b_SpectrumDeskModel_bigProduct 10 = .ok (.iaload, 1) := by decide +kernel
theorem d_SpectrumDeskModel_bigProduct_11 : decode b_SpectrumDeskModel_bigProduct 11 = .ok (.aload_n 0, 1) := by decide +kernel
theorem d_SpectrumDeskModel_bigProduct_12 : decode b_SpectrumDeskModel_bigProduct 12 = .ok (.getfield 13, 3) := by decide +kernel
theorem d_SpectrumDeskModel_bigProduct_15 : decode b_SpectrumDeskModel_bigProduct 15 = .ok (.iload_n 3, 1) := by decide +kernel
theorem d_SpectrumDeskModel_bigProduct_16 : decode b_SpectrumDeskModel_bigProduct 16 = .ok (.iaload, 1) := by decide +kernel
theorem d_SpectrumDeskModel_bigProduct_17 : decode b_SpectrumDeskModel_bigProduct 17 = .ok (.iadd, 1) := by decide +kernel
theorem d_SpectrumDeskModel_bigProduct_18 : decode b_SpectrumDeskModel_bigProduct 18 = .ok (.iastore, 1) := by decide +kernel
theorem d_SpectrumDeskModel_bigProduct_19 : decode b_SpectrumDeskModel_bigProduct 19 = .ok (.iconst 0, 1) := by decide +kernel
theorem d_SpectrumDeskModel_bigProduct_20 : decode b_SpectrumDeskModel_bigProduct 20 = .ok (.istore 4, 2) := by decide +kernel
theorem d_SpectrumDeskModel_bigProduct_22 : decode b_SpectrumDeskModel_bigProduct 22 = .ok (.iload 4, 2) := by decide +kernel
theorem d_SpectrumDeskModel_bigProduct_24 : decode b_SpectrumDeskModel_bigProduct 24 = .ok (.aload_n 0, 1) := by decide +kernel
theorem d_SpectrumDeskModel_bigProduct_25 : decode b_SpectrumDeskModel_bigProduct 25 = .ok (.getfield 13, 3) := by decide +kernel
theorem d_SpectrumDeskModel_bigProduct_28 : decode b_SpectrumDeskModel_bigProduct 28 = .ok (.iload_n 1, 1) := by decide +kernel
theorem d_SpectrumDeskModel_bigProduct_29 : decode b_SpectrumDeskModel_bigProduct 29 = .ok (.iaload, 1) := by decide +kernel
theorem d_SpectrumDeskModel_bigProduct_30 : decode b_SpectrumDeskModel_bigProduct 30 = .ok (.if_icmp .ge (23), 3) := by decide +kernel
theorem d_SpectrumDeskModel_bigProduct_33 : decode b_SpectrumDeskModel_bigProduct 33 = .ok (.aload_n 0, 1) := by decide +kernel
theorem d_SpectrumDeskModel_bigProduct_34 : decode b_SpectrumDeskModel_bigProduct 34 = .ok (.getfield 7, 3) := by decide +kernel
theorem d_SpectrumDeskModel_bigProduct_37 : decode b_SpectrumDeskModel_bigProduct 37 = .ok (.sipush (300), 3) := by decide +kernel
theorem d_SpectrumDeskModel_bigProduct_40 : decode b_SpectrumDeskModel_bigProduct 40 = .ok (.iload_n 1, 1) := by decide +kernel
theorem d_SpectrumDeskModel_bigProduct_41 : decode b_SpectrumDeskModel_bigProduct 41 = .ok (.imul, 1) := by decide +kernel
theorem d_SpectrumDeskModel_bigProduct_42 : decode b_SpectrumDeskModel_bigProduct 42 = .ok (.iload 4, 2) := by decide +kernel
theorem d_SpectrumDeskModel_bigProduct_44 : decode b_SpectrumDeskModel_bigProduct 44 = .ok (.iadd, 1) := by decide +kernel
theorem d_SpectrumDeskModel_bigProduct_45 : decode b_SpectrumDeskModel_bigProduct 45 = .ok (.iconst 0, 1) := by decide +kernel
theorem d_SpectrumDeskModel_bigProduct_46 : decode b_SpectrumDeskModel_bigProduct 46 = .ok (.iastore, 1) := by decide +kernel
theorem d_SpectrumDeskModel_bigProduct_47 : decode b_SpectrumDeskModel_bigProduct 47 = .ok (.iinc 4 (1), 3) := by decide +kernel
theorem d_SpectrumDeskModel_bigProduct_50 : decode b_SpectrumDeskModel_bigProduct 50 = .ok (.goto (-28), 3) := by decide +kernel
theorem d_SpectrumDeskModel_bigProduct_53 : decode b_SpectrumDeskModel_bigProduct 53 = .ok (.iconst 0, 1) := by decide +kernel
theorem d_SpectrumDeskModel_bigProduct_54 : decode b_SpectrumDeskModel_bigProduct 54 = .ok (.istore 4, 2) := by decide +kernel
theorem d_SpectrumDeskModel_bigProduct_56 : decode b_SpectrumDeskModel_bigProduct 56 = .ok (.iload 4, 2) := by decide +kernel
theorem d_SpectrumDeskModel_bigProduct_58 : decode b_SpectrumDeskModel_bigProduct 58 = .ok (.aload_n 0, 1) := by decide +kernel
theorem d_SpectrumDeskModel_bigProduct_59 : decode b_SpectrumDeskModel_bigProduct 59 = .ok (.getfield 13, 3) := by decide +kernel
theorem d_SpectrumDeskModel_bigProduct_62 : decode b_SpectrumDeskModel_bigProduct 62 = .ok (.iload_n 2, 1) := by decide +kernel
theorem d_SpectrumDeskModel_bigProduct_63 : decode b_SpectrumDeskModel_bigProduct 63 = .ok (.iaload, 1) := by decide +kernel
theorem d_SpectrumDeskModel_bigProduct_64 : decode b_SpectrumDeskModel_bigProduct 64 = .ok (.if_icmp .ge (133), 3) := by decide +kernel
theorem d_SpectrumDeskModel_bigProduct_67 : decode b_SpectrumDeskModel_bigProduct 67 = .ok (.lconst 0, 1) := by decide +kernel
theorem d_SpectrumDeskModel_bigProduct_68 : decode b_SpectrumDeskModel_bigProduct 68 = .ok (.lstore 5, 2) := by decide +kernel
theorem d_SpectrumDeskModel_bigProduct_70 : decode b_SpectrumDeskModel_bigProduct 70 = .ok (.iconst 0, 1) := by decide +kernel
theorem d_SpectrumDeskModel_bigProduct_71 : decode b_SpectrumDeskModel_bigProduct 71 = .ok (.istore 7, 2) := by decide +kernel
theorem d_SpectrumDeskModel_bigProduct_73 : decode b_SpectrumDeskModel_bigProduct 73 = .ok (.iload 7, 2) := by decide +kernel
theorem d_SpectrumDeskModel_bigProduct_75 : decode b_SpectrumDeskModel_bigProduct 75 = .ok (.aload_n 0, 1) := by decide +kernel
theorem d_SpectrumDeskModel_bigProduct_76 : decode b_SpectrumDeskModel_bigProduct 76 = .ok (.getfield 13, 3) := by decide +kernel
theorem d_SpectrumDeskModel_bigProduct_79 : decode b_SpectrumDeskModel_bigProduct 79 = .ok (.iload_n 3, 1) := by decide +kernel
theorem d_SpectrumDeskModel_bigProduct_80 : decode b_SpectrumDeskModel_bigProduct 80 = .ok (.iaload, 1) := by decide +kernel
theorem d_SpectrumDeskModel_bigProduct_81 : decode b_SpectrumDeskModel_bigProduct 81 = .ok (.if_icmp .ge (87), 3) := by decide +kernel
theorem d_SpectrumDeskModel_bigProduct_84 : decode b_SpectrumDeskModel_bigProduct 84 = .ok (.sipush (300), 3) := by decide +kernel
theorem d_SpectrumDeskModel_bigProduct_87 : decode b_SpectrumDeskModel_bigProduct 87 = .ok (.iload_n 1, 1) := by decide +kernel
theorem d_SpectrumDeskModel_bigProduct_88 : decode b_SpectrumDeskModel_bigProduct 88 = .ok (.imul, 1) := by decide +kernel
theorem d_SpectrumDeskModel_bigProduct_89 : decode b_SpectrumDeskModel_bigProduct 89 = .ok (.iload 4, 2) := by decide +kernel
theorem d_SpectrumDeskModel_bigProduct_91 : decode b_SpectrumDeskModel_bigProduct 91 = .ok (.iadd, 1) := by decide +kernel
theorem d_SpectrumDeskModel_bigProduct_92 : decode b_SpectrumDeskModel_bigProduct 92 = .ok (.iload 7, 2) := by decide +kernel
theorem d_SpectrumDeskModel_bigProduct_94 : decode b_SpectrumDeskModel_bigProduct 94 = .ok (.iadd, 1) := by decide +kernel
theorem d_SpectrumDeskModel_bigProduct_95 : decode b_SpectrumDeskModel_bigProduct 95 = .ok (.istore 8, 2) := by decide +kernel
theorem d_SpectrumDeskModel_bigProduct_97 : decode b_SpectrumDeskModel_bigProduct 97 = .ok (.lload 5, 2) := by decide +kernel
theorem d_SpectrumDeskModel_bigProduct_99 : decode b_SpectrumDeskModel_bigProduct 99 = .ok (.aload_n 0, 1) := by decide +kernel
theorem d_SpectrumDeskModel_bigProduct_100 : decode b_SpectrumDeskModel_bigProduct 100 = .ok (.getfield 7, 3) := by decide +kernel
theorem d_SpectrumDeskModel_bigProduct_103 : decode b_SpectrumDeskModel_bigProduct 103 = .ok (.iload 8, 2) := by decide +kernel
theorem d_SpectrumDeskModel_bigProduct_105 : decode b_SpectrumDeskModel_bigProduct 105 = .ok (.iaload, 1) := by decide +kernel
theorem d_SpectrumDeskModel_bigProduct_106 : decode b_SpectrumDeskModel_bigProduct 106 = .ok (.i2l, 1) := by decide +kernel
theorem d_SpectrumDeskModel_bigProduct_107 : decode b_SpectrumDeskModel_bigProduct 107 = .ok (.ladd, 1) := by decide +kernel
theorem d_SpectrumDeskModel_bigProduct_108 : decode b_SpectrumDeskModel_bigProduct 108 = .ok (.aload_n 0, 1) := by decide +kernel
theorem d_SpectrumDeskModel_bigProduct_109 : decode b_SpectrumDeskModel_bigProduct 109 = .ok (.getfield 7, 3) := by decide +kernel
theorem d_SpectrumDeskModel_bigProduct_112 : decode b_SpectrumDeskModel_bigProduct 112 = .ok (.sipush (300), 3) := by decide +kernel
theorem d_SpectrumDeskModel_bigProduct_115 : decode b_SpectrumDeskModel_bigProduct 115 = .ok (.iload_n 2, 1) := by decide +kernel
theorem d_SpectrumDeskModel_bigProduct_116 : decode b_SpectrumDeskModel_bigProduct 116 = .ok (.imul, 1) := by decide +kernel
theorem d_SpectrumDeskModel_bigProduct_117 : decode b_SpectrumDeskModel_bigProduct 117 = .ok (.iload 4, 2) := by decide +kernel
theorem d_SpectrumDeskModel_bigProduct_119 : decode b_SpectrumDeskModel_bigProduct 119 = .ok (.iadd, 1) := by decide +kernel
theorem d_SpectrumDeskModel_bigProduct_120 : decode b_SpectrumDeskModel_bigProduct 120 = .ok (.iaload, 1) := by decide +kernel
theorem d_SpectrumDeskModel_bigProduct_121 : decode b_SpectrumDeskModel_bigProduct 121 = .ok (.i2l, 1) := by decide +kernel
theorem d_SpectrumDeskModel_bigProduct_122 : decode b_SpectrumDeskModel_bigProduct 122 = .ok (.aload_n 0, 1) := by decide +kernel
theorem d_SpectrumDeskModel_bigProduct_123 : decode b_SpectrumDeskModel_bigProduct 123 = .ok (.getfield 7, 3) := by decide +kernel
theorem d_SpectrumDeskModel_bigProduct_126 : decode b_SpectrumDeskModel_bigProduct 126 = .ok (.sipush (300), 3) := by decide +kernel
theorem d_SpectrumDeskModel_bigProduct_129 : decode b_SpectrumDeskModel_bigProduct 129 = .ok (.iload_n 3, 1) := by decide +kernel
theorem d_SpectrumDeskModel_bigProduct_130 : decode b_SpectrumDeskModel_bigProduct 130 = .ok (.imul, 1) := by decide +kernel
theorem d_SpectrumDeskModel_bigProduct_131 : decode b_SpectrumDeskModel_bigProduct 131 = .ok (.iload 7, 2) := by decide +kernel
theorem d_SpectrumDeskModel_bigProduct_133 : decode b_SpectrumDeskModel_bigProduct 133 = .ok (.iadd, 1) := by decide +kernel
theorem d_SpectrumDeskModel_bigProduct_134 : decode b_SpectrumDeskModel_bigProduct 134 = .ok (.iaload, 1) := by decide +kernel
theorem d_SpectrumDeskModel_bigProduct_135 : decode b_SpectrumDeskModel_bigProduct 135 = .ok (.i2l, 1) := by decide +kernel
theorem d_SpectrumDeskModel_bigProduct_136 : decode b_SpectrumDeskModel_bigProduct 136 = .ok (.lmul, 1) := by decide +kernel
theorem d_SpectrumDeskModel_bigProduct_137 : decode b_SpectrumDeskModel_bigProduct 137 = .ok (.ladd, 1) := by decide +kernel
theorem d_SpectrumDeskModel_bigProduct_138 : decode b_SpectrumDeskModel_bigProduct 138 = .ok (.lstore 5, 2) := by decide +kernel
theorem d_SpectrumDeskModel_bigProduct_140 : decode b_SpectrumDeskModel_bigProduct 140 = .ok (.aload_n 0, 1) := by decide +kernel
theorem d_SpectrumDeskModel_bigProduct_141 : decode b_SpectrumDeskModel_bigProduct 141 = .ok (.getfield 7, 3) := by decide +kernel
theorem d_SpectrumDeskModel_bigProduct_144 : decode b_SpectrumDeskModel_bigProduct 144 = .ok (.iload 8, 2) := by decide +kernel
theorem d_SpectrumDeskModel_bigProduct_146 : decode b_SpectrumDeskModel_bigProduct 146 = .ok (.lload 5, 2) := by decide +kernel
theorem d_SpectrumDeskModel_bigProduct_148 : decode b_SpectrumDeskModel_bigProduct 148 = .ok (.ldc2_w 36, 3) := by decide +kernel
theorem d_SpectrumDeskModel_bigProduct_151 : decode b_SpectrumDeskModel_bigProduct 151 = .ok (.lrem, 1) := by decide +kernel
theorem d_SpectrumDeskModel_bigProduct_152 : decode b_SpectrumDeskModel_bigProduct 152 = .ok (.l2i, 1) := by decide +kernel
theorem d_SpectrumDeskModel_bigProduct_153 : decode b_SpectrumDeskModel_bigProduct 153 = .ok (.iastore, 1) := by decide +kernel
theorem d_SpectrumDeskModel_bigProduct_154 : decode b_SpectrumDeskModel_bigProduct 154 = .ok (.lload 5, 2) := by decide +kernel
theorem d_SpectrumDeskModel_bigProduct_156 : decode b_SpectrumDeskModel_bigProduct 156 = .ok (.ldc2_w 36, 3) := by decide +kernel
theorem d_SpectrumDeskModel_bigProduct_159 : decode b_SpectrumDeskModel_bigProduct 159 = .ok (.ldiv, 1) := by decide +kernel
theorem d_SpectrumDeskModel_bigProduct_160 : decode b_SpectrumDeskModel_bigProduct 160 = .ok (.lstore 5, 2) := by decide +kernel
theorem d_SpectrumDeskModel_bigProduct_162 : decode b_SpectrumDeskModel_bigProduct 162 = .ok (.iinc 7 (1), 3) := by decide +kernel
theorem d_SpectrumDeskModel_bigProduct_165 : decode b_SpectrumDeskModel_bigProduct 165 = .ok (.goto (-92), 3) := by decide +kernel
theorem d_SpectrumDeskModel_bigProduct_168 : decode b_SpectrumDeskModel_bigProduct 168 = .ok (.aload_n 0, 1) := by decide +kernel
theorem d_SpectrumDeskModel_bigProduct_169 : decode b_SpectrumDeskModel_bigProduct 169 = .ok (.getfield 7, 3) := by decide +kernel
theorem d_SpectrumDeskModel_bigProduct_172 : decode b_SpectrumDeskModel_bigProduct 172 = .ok (.sipush (300), 3) := by decide +kernel
theorem d_SpectrumDeskModel_bigProduct_175 : decode b_SpectrumDeskModel_bigProduct 175 = .ok (.iload_n 1, 1) := by decide +kernel
theorem d_SpectrumDeskModel_bigProduct_176 : decode b_SpectrumDeskModel_bigProduct 176 = .ok (.imul, 1) := by decide +kernel
theorem d_SpectrumDeskModel_bigProduct_177 : decode b_SpectrumDeskModel_bigProduct 177 = .ok (.iload 4, 2) := by decide +kernel
theorem d_SpectrumDeskModel_bigProduct_179 : decode b_SpectrumDeskModel_bigProduct 179 = .ok (.iadd, 1) := by decide +kernel
theorem d_SpectrumDeskModel_bigProduct_180 : decode b_SpectrumDeskModel_bigProduct 180 = .ok (.aload_n 0, 1) := by decide +kernel
theorem d_SpectrumDeskModel_bigProduct_181 : decode b_SpectrumDeskModel_bigProduct 181 = .ok (.getfield 13, 3) := by decide +kernel
theorem d_SpectrumDeskModel_bigProduct_184 : decode b_SpectrumDeskModel_bigProduct 184 = .ok (.iload_n 3, 1) := by decide +kernel
theorem d_SpectrumDeskModel_bigProduct_185 : decode b_SpectrumDeskModel_bigProduct 185 = .ok (.iaload, 1) := by decide +kernel
theorem d_SpectrumDeskModel_bigProduct_186 : decode b_SpectrumDeskModel_bigProduct 186 = .ok (.iadd, 1) := by decide +kernel
theorem d_SpectrumDeskModel_bigProduct_187 : decode b_SpectrumDeskModel_bigProduct 187 = .ok (.lload 5, 2) := by decide +kernel
theorem d_SpectrumDeskModel_bigProduct_189 : decode b_SpectrumDeskModel_bigProduct 189 = .ok (.l2i, 1) := by decide +kernel
theorem d_SpectrumDeskModel_bigProduct_190 : decode b_SpectrumDeskModel_bigProduct 190 = .ok (.iastore, 1) := by decide +kernel
theorem d_SpectrumDeskModel_bigProduct_191 : decode b_SpectrumDeskModel_bigProduct 191 = .ok (.iinc 4 (1), 3) := by decide +kernel
theorem d_SpectrumDeskModel_bigProduct_194 : decode b_SpectrumDeskModel_bigProduct 194 = .ok (.goto (-138), 3) := by decide +kernel
theorem d_SpectrumDeskModel_bigProduct_197 : decode b_SpectrumDeskModel_bigProduct 197 = .ok (.aload_n 0, 1) := by decide +kernel
theorem d_SpectrumDeskModel_bigProduct_198 : decode b_SpectrumDeskModel_bigProduct 198 = .ok (.getfield 1, 3) := by decide +kernel
theorem d_SpectrumDeskModel_bigProduct_201 : decode b_SpectrumDeskModel_bigProduct 201 = .ok (.iload_n 1, 1) := by decide +kernel
theorem d_SpectrumDeskModel_bigProduct_202 : decode b_SpectrumDeskModel_bigProduct 202 = .ok (.aload_n 0, 1) := by decide +kernel
theorem d_SpectrumDeskModel_bigProduct_203 : decode b_SpectrumDeskModel_bigProduct 203 = .ok (.getfield 1, 3) := by decide +kernel
theorem d_SpectrumDeskModel_bigProduct_206 : decode b_SpectrumDeskModel_bigProduct 206 = .ok (.iload_n 2, 1) := by decide +kernel
theorem d_SpectrumDeskModel_bigProduct_207 : decode b_SpectrumDeskModel_bigProduct 207 = .ok (.baload, 1) := by decide +kernel
theorem d_SpectrumDeskModel_bigProduct_208 : decode b_SpectrumDeskModel_bigProduct 208 = .ok (.aload_n 0, 1) := by decide +kernel
theorem d_SpectrumDeskModel_bigProduct_209 : decode b_SpectrumDeskModel_bigProduct 209 = .ok (.getfield 1, 3) := by decide +kernel
theorem d_SpectrumDeskModel_bigProduct_212 : decode b_SpectrumDeskModel_bigProduct 212 = .ok (.iload_n 3, 1) := by decide +kernel
theorem d_SpectrumDeskModel_bigProduct_213 : decode b_SpectrumDeskModel_bigProduct 213 = .ok (.baload, 1) := by decide +kernel
theorem d_SpectrumDeskModel_bigProduct_214 : decode b_SpectrumDeskModel_bigProduct 214 = .ok (.if_icmp .eq (7), 3) := by decide +kernel
theorem d_SpectrumDeskModel_bigProduct_217 : decode b_SpectrumDeskModel_bigProduct 217 = .ok (.iconst 1, 1) := by decide +kernel
theorem d_SpectrumDeskModel_bigProduct_218 : decode b_SpectrumDeskModel_bigProduct 218 = .ok (.goto (4), 3) := by decide +kernel
theorem d_SpectrumDeskModel_bigProduct_221 : decode b_SpectrumDeskModel_bigProduct 221 = .ok (.iconst 0, 1) := by decide +kernel
theorem d_SpectrumDeskModel_bigProduct_222 : decode b_SpectrumDeskModel_bigProduct 222 = .ok (.bastore, 1) := by decide +kernel
theorem d_SpectrumDeskModel_bigProduct_223 : decode b_SpectrumDeskModel_bigProduct 223 = .ok (.aload_n 0, 1) := by decide +kernel
theorem d_SpectrumDeskModel_bigProduct_224 : decode b_SpectrumDeskModel_bigProduct 224 = .ok (.iload_n 1, 1) := by decide +kernel
theorem d_SpectrumDeskModel_bigProduct_225 : decode b_SpectrumDeskModel_bigProduct 225 = .ok (.invokevirtual 21, 3) := by decide +kernel
theorem d_SpectrumDeskModel_bigProduct_228 : decode b_SpectrumDeskModel_bigProduct 228 = .ok (.return_, 1) := by decide +kernel
theorem k_13c981ce9d : (Jvm.Cond.constantLong "SpectrumDeskModel" (36 : Nat) (16777216 : Int64)) ∈ AW := aw_5 (List.mem_of_getElem? (i := 55) (by decide +kernel)) (by decide +kernel)
theorem k_d838ee6d72 : (Jvm.Cond.code ({ cls := "SpectrumDeskModel", name := "bigProduct", desc := "(III)V" } : Jvm.MethodName) prog_10_method_12_code (9 : Nat) (Option.none : Option Jvm.ClassFile.FieldType)) ∈ AW := aw_5 (List.mem_of_getElem? (i := 54) (by decide +kernel)) (by decide +kernel)
set_option maxHeartbeats 4000000 in
set_option maxRecDepth 100000 in
theorem c_SpectrumDeskModel_bigProduct {l : Launch} {D : va_G} {cI cJ cZ cC cG cP : ClassId} {ad : Nat → Nat} {σ0 : Nat → va_E} {fs : List Value} {P L M : Nat → Int32} {w u v la lb : Nat} {x y : Int} (hF : mF ad fs) (hw : w < 112) (hu : u < 112) (hv : v < 112) (huw : u ≠ w) (hvw : v ≠ w) (hLu : L u = nI la) (hLv : L v = nI lb) (hlen : la + lb ≤ 300) (hx0 : rb P L M u x) (hy0 : rb P L M v y) :
    Met l y_SpectrumDeskModel_bigProduct v_SpectrumDeskModel_bigProduct (xrm 1) (va_Pc [.ref (ad 183), .int (nI w), .int (nI u), .int (nI v)] (xS D classes (xT cI cJ cZ cC cG cP) 193 ad (rw3 σ0 ciM cI cZ fs P L M))) (va_Qv (rb_up σ0 ciM cI cZ fs P L M w (x * y)) (xS D classes (xT cI cJ cZ cC cG cP) 193 ad) (xA 193 ad)) 0 0 (xA 193 ad) := by
  obtain ⟨a, a1, a2, huo, hut, hsu⟩ := hx0
  obtain ⟨b, b1, b2, hvo, hvt, hsv⟩ := hy0
  obtain rfl : la = a := (nI_eq (by omega) (by omega)).mp (hLu.symm.trans a2)
  obtain rfl : lb = b := (nI_eq (by omega) (by omega)).mp (hLv.symm.trans b2)
  refine xr_met rfl (Nat.le_of_ble_eq_true rfl) ?_
  intro p e s m args below meth c ls hx hb X hr hlk hl I
  have hl : lv_has ls 9 [(0, .ref (ad 183)), (1, .int (nI w)), (2, .int (nI u)), (3, .int (nI v))] := hl
  refine lv_aload_n hx hb d_SpectrumDeskModel_bigProduct_0 rfl (lv_at hl 0 rfl) ?_
  refine xr_get X I fin_M 183 (by decide) (r183 ..) rfl 1 (by decide) (List.mem_cons_of_mem _ k_4ae214c350) rfl (mF_lengths hF) d_SpectrumDeskModel_bigProduct_1 ?_
  refine lv_iload_n hx hb d_SpectrumDeskModel_bigProduct_4 rfl (lv_at hl 1 rfl) ?_
  refine lv_aload_n hx hb d_SpectrumDeskModel_bigProduct_5 rfl (lv_at hl 0 rfl) ?_
  refine xr_get X I fin_M 183 (by decide) (r183 ..) rfl 1 (by decide) (List.mem_cons_of_mem _ k_4ae214c350) rfl (mF_lengths hF) d_SpectrumDeskModel_bigProduct_6 ?_
  refine lv_iload_n hx hb d_SpectrumDeskModel_bigProduct_9 rfl (lv_at hl 2 rfl) ?_
  refine xr_iald X I 185 0 (by decide) (r185 ..) rfl (by omega) (by decide) d_SpectrumDeskModel_bigProduct_10 ?_
  refine xr_topi (y := nI la) hLu ?_
  refine lv_aload_n hx hb d_SpectrumDeskModel_bigProduct_11 rfl (lv_at hl 0 rfl) ?_
  refine xr_get X I fin_M 183 (by decide) (r183 ..) rfl 1 (by decide) (List.mem_cons_of_mem _ k_4ae214c350) rfl (mF_lengths hF) d_SpectrumDeskModel_bigProduct_12 ?_
  refine lv_iload_n hx hb d_SpectrumDeskModel_bigProduct_15 rfl (lv_at hl 3 rfl) ?_
  refine xr_iald X I 185 0 (by decide) (r185 ..) rfl (by omega) (by decide) d_SpectrumDeskModel_bigProduct_16 ?_
  refine xr_topi (y := nI lb) hLv ?_
  refine lv_iadd hx hb d_SpectrumDeskModel_bigProduct_17 (xr_topi (y := nI (la + lb)) (nI_add la lb) ?_)
  refine xr_iast X I 185 0 (by decide) (r185 ..) rfl (by omega) (by decide) d_SpectrumDeskModel_bigProduct_18 (fun H locs I => ?_)
  rw [rw3_L] at I
  refine lv_iconst (v := nI 0) hx hb d_SpectrumDeskModel_bigProduct_19 (by decide) ?_
  refine lv_istore (lv' := [(4, .int (nI 0)), (0, .ref (ad 183)), (1, .int (nI w)), (2, .int (nI u)), (3, .int (nI v))]) hx hb d_SpectrumDeskModel_bigProduct_20 hl (by decide) rfl (fun ls hl => ?_)
  have outer : ∀ (k : Nat) (i : Nat) (P2 : Nat → Int32) (ls : Array Slot) (H : Heap) (locs : List Loc), i + k = la → (∀ j, j < 300 * w ∨ 300 * w + 300 ≤ j → P2 j = P j) → rg_ok P2 (300 * w) (la + lb) → (∀ q, i + lb ≤ q → q < la + lb → P2 (300 * w + q) = 0) → rg P2 (300 * w) (la + lb) = rg P (300 * u) i * rg P (300 * v) lb → lv_has ls 9 [(4, .int (nI i)), (0, .ref (ad 183)), (1, .int (nI w)), (2, .int (nI u)), (3, .int (nI v))] → xI D classes 193 ad s.heap (rw3 σ0 ciM cI cZ fs P2 (upd L w (nI (la + lb))) M) H locs → W p l e (xrm 1) s m args below meth c H locs 0 0 (MQ below (va_Qv (rb_up σ0 ciM cI cZ fs P L M w (x * y)) (xS D classes (xT cI cJ cZ cC cG cP) 193 ad) (xA 193 ad)) args s 0 0 (xA 193 ad)) (F0 m 56 ls []) := by
    intro k
    induction k with
    | zero =>
      intro i P2 ls H locs hk hfr hok hzero inv hl I
      obtain rfl : i = la := by omega
      refine lv_iload hx hb d_SpectrumDeskModel_bigProduct_56 (lv_at hl 0 rfl) ?_
      refine lv_aload_n hx hb d_SpectrumDeskModel_bigProduct_58 rfl (lv_at hl 1 rfl) ?_
      refine xr_get X I fin_M 183 (by decide) (r183 ..) rfl 1 (by decide) (List.mem_cons_of_mem _ k_4ae214c350) rfl (mF_lengths hF) d_SpectrumDeskModel_bigProduct_59 ?_
      refine lv_iload_n hx hb d_SpectrumDeskModel_bigProduct_62 rfl (lv_at hl 3 rfl) ?_
      refine xr_iald X I 185 0 (by decide) (r185 ..) rfl (by omega) (by decide) d_SpectrumDeskModel_bigProduct_63 ?_
      refine xr_topi (y := nI i) ((upd_n huw).trans hLu) ?_
      refine lv_icmp_ge hx hb d_SpectrumDeskModel_bigProduct_64 rfl (fun hc => ?_) (fun hc => ?_)
      · rcases hsu with ⟨hmu, hxe⟩ | ⟨hmu, hxe⟩ <;> rcases hsv with ⟨hmv, hye⟩ | ⟨hmv, hye⟩
        · refine lv_aload_n hx hb d_SpectrumDeskModel_bigProduct_197 rfl (lv_at hl 1 rfl) ?_
          refine xr_get X I fin_M 183 (by decide) (r183 ..) rfl 2 (by decide) (List.mem_cons_of_mem _ k_7646d4378e) rfl (mF_minus hF) d_SpectrumDeskModel_bigProduct_198 ?_
          refine lv_iload_n hx hb d_SpectrumDeskModel_bigProduct_201 rfl (lv_at hl 2 rfl) ?_
          refine lv_aload_n hx hb d_SpectrumDeskModel_bigProduct_202 rfl (lv_at hl 1 rfl) ?_
          refine xr_get X I fin_M 183 (by decide) (r183 ..) rfl 2 (by decide) (List.mem_cons_of_mem _ k_7646d4378e) rfl (mF_minus hF) d_SpectrumDeskModel_bigProduct_203 ?_
          refine lv_iload_n hx hb d_SpectrumDeskModel_bigProduct_206 rfl (lv_at hl 3 rfl) ?_
          refine xr_zald X I 186 2 (by decide) (r186 ..) rfl (by omega) (by decide) d_SpectrumDeskModel_bigProduct_207 ?_
          refine xr_topi (y := nI 0) hmu ?_
          refine lv_aload_n hx hb d_SpectrumDeskModel_bigProduct_208 rfl (lv_at hl 1 rfl) ?_
          refine xr_get X I fin_M 183 (by decide) (r183 ..) rfl 2 (by decide) (List.mem_cons_of_mem _ k_7646d4378e) rfl (mF_minus hF) d_SpectrumDeskModel_bigProduct_209 ?_
          refine lv_iload_n hx hb d_SpectrumDeskModel_bigProduct_212 rfl (lv_at hl 4 rfl) ?_
          refine xr_zald X I 186 2 (by decide) (r186 ..) rfl (by omega) (by decide) d_SpectrumDeskModel_bigProduct_213 ?_
          refine xr_topi (y := nI 0) hmv ?_
          refine lv_icmp_eq hx hb d_SpectrumDeskModel_bigProduct_214 rfl (fun he => ?_) (fun he => ?_)
          · refine lv_iconst (v := nI 0) hx hb d_SpectrumDeskModel_bigProduct_221 (by decide) ?_
            refine xr_zast X I 186 2 (by decide) (r186 ..) rfl (by omega) (by decide) d_SpectrumDeskModel_bigProduct_222 (fun H locs I => ?_)
            rw [rw3_M, show vp_nar .boolean (nI 0) = nI 0 by decide] at I
            refine lv_aload_n hx hb d_SpectrumDeskModel_bigProduct_223 rfl (lv_at hl 1 rfl) ?_
            refine lv_iload_n hx hb d_SpectrumDeskModel_bigProduct_224 rfl (lv_at hl 2 rfl) ?_
            refine xr_callv (xr_runV (kc := 0) (kr := 1) (n := 1) (As := [.int (nI w)]) (rest := []) X I (by decide) (r183 ..) rfl (c_SpectrumDeskModel_bigTrim (P := P2) (L := upd L w (nI (i + lb))) (M := upd M w (nI 0)) (n := i + lb) hF hw (by omega) upd_s) (xg k_10a67c202b) (List.mem_cons_of_mem _ k_fdf1e9da4b) (List.mem_cons_of_mem _ k_72a5102e81) (List.mem_cons_of_mem _ k_90f9c60262) (List.mem_cons_of_mem _ k_30fa15c9ac) (by decide +kernel) (by decide) rfl hl.1 rfl (Nat.le_of_ble_eq_true rfl) d_SpectrumDeskModel_bigProduct_225) I (fun σ1 H locs hp I => ?_)
            obtain ⟨n2, t1, rfl, t2, t3⟩ := hp
            rw [upd_upd] at I
            exact xr_vret X I hr hlk ⟨P2, _, _, rfl, ⟨hfr, fun j hj => upd_n hj, fun j hj => upd_n hj⟩, n2, by omega, upd_s, rg_ok_le hok t1, t3, Or.inl ⟨upd_s, by rw [t2, inv, hxe, hye] <;> grind⟩⟩ d_SpectrumDeskModel_bigProduct_228
          · exact absurd rfl he
        · refine lv_aload_n hx hb d_SpectrumDeskModel_bigProduct_197 rfl (lv_at hl 1 rfl) ?_
          refine xr_get X I fin_M 183 (by decide) (r183 ..) rfl 2 (by decide) (List.mem_cons_of_mem _ k_7646d4378e) rfl (mF_minus hF) d_SpectrumDeskModel_bigProduct_198 ?_
          refine lv_iload_n hx hb d_SpectrumDeskModel_bigProduct_201 rfl (lv_at hl 2 rfl) ?_
          refine lv_aload_n hx hb d_SpectrumDeskModel_bigProduct_202 rfl (lv_at hl 1 rfl) ?_
          refine xr_get X I fin_M 183 (by decide) (r183 ..) rfl 2 (by decide) (List.mem_cons_of_mem _ k_7646d4378e) rfl (mF_minus hF) d_SpectrumDeskModel_bigProduct_203 ?_
          refine lv_iload_n hx hb d_SpectrumDeskModel_bigProduct_206 rfl (lv_at hl 3 rfl) ?_
          refine xr_zald X I 186 2 (by decide) (r186 ..) rfl (by omega) (by decide) d_SpectrumDeskModel_bigProduct_207 ?_
          refine xr_topi (y := nI 0) hmu ?_
          refine lv_aload_n hx hb d_SpectrumDeskModel_bigProduct_208 rfl (lv_at hl 1 rfl) ?_
          refine xr_get X I fin_M 183 (by decide) (r183 ..) rfl 2 (by decide) (List.mem_cons_of_mem _ k_7646d4378e) rfl (mF_minus hF) d_SpectrumDeskModel_bigProduct_209 ?_
          refine lv_iload_n hx hb d_SpectrumDeskModel_bigProduct_212 rfl (lv_at hl 4 rfl) ?_
          refine xr_zald X I 186 2 (by decide) (r186 ..) rfl (by omega) (by decide) d_SpectrumDeskModel_bigProduct_213 ?_
          refine xr_topi (y := nI 1) hmv ?_
          refine lv_icmp_eq hx hb d_SpectrumDeskModel_bigProduct_214 rfl (fun he => ?_) (fun he => ?_)
          · exact absurd he (by decide)
          · refine lv_iconst (v := nI 1) hx hb d_SpectrumDeskModel_bigProduct_217 (by decide) ?_
            refine lv_goto hx hb d_SpectrumDeskModel_bigProduct_218 rfl ?_
            refine xr_zast X I 186 2 (by decide) (r186 ..) rfl (by omega) (by decide) d_SpectrumDeskModel_bigProduct_222 (fun H locs I => ?_)
            rw [rw3_M, show vp_nar .boolean (nI 1) = nI 1 by decide] at I
            refine lv_aload_n hx hb d_SpectrumDeskModel_bigProduct_223 rfl (lv_at hl 1 rfl) ?_
            refine lv_iload_n hx hb d_SpectrumDeskModel_bigProduct_224 rfl (lv_at hl 2 rfl) ?_
            refine xr_callv (xr_runV (kc := 0) (kr := 1) (n := 1) (As := [.int (nI w)]) (rest := []) X I (by decide) (r183 ..) rfl (c_SpectrumDeskModel_bigTrim (P := P2) (L := upd L w (nI (i + lb))) (M := upd M w (nI 1)) (n := i + lb) hF hw (by omega) upd_s) (xg k_10a67c202b) (List.mem_cons_of_mem _ k_fdf1e9da4b) (List.mem_cons_of_mem _ k_72a5102e81) (List.mem_cons_of_mem _ k_90f9c60262) (List.mem_cons_of_mem _ k_30fa15c9ac) (by decide +kernel) (by decide) rfl hl.1 rfl (Nat.le_of_ble_eq_true rfl) d_SpectrumDeskModel_bigProduct_225) I (fun σ1 H locs hp I => ?_)
            obtain ⟨n2, t1, rfl, t2, t3⟩ := hp
            rw [upd_upd] at I
            exact xr_vret X I hr hlk ⟨P2, _, _, rfl, ⟨hfr, fun j hj => upd_n hj, fun j hj => upd_n hj⟩, n2, by omega, upd_s, rg_ok_le hok t1, t3, Or.inr ⟨upd_s, by rw [t2, inv, hxe, hye] <;> grind⟩⟩ d_SpectrumDeskModel_bigProduct_228
        · refine lv_aload_n hx hb d_SpectrumDeskModel_bigProduct_197 rfl (lv_at hl 1 rfl) ?_
          refine xr_get X I fin_M 183 (by decide) (r183 ..) rfl 2 (by decide) (List.mem_cons_of_mem _ k_7646d4378e) rfl (mF_minus hF) d_SpectrumDeskModel_bigProduct_198 ?_
          refine lv_iload_n hx hb d_SpectrumDeskModel_bigProduct_201 rfl (lv_at hl 2 rfl) ?_
          refine lv_aload_n hx hb d_SpectrumDeskModel_bigProduct_202 rfl (lv_at hl 1 rfl) ?_
          refine xr_get X I fin_M 183 (by decide) (r183 ..) rfl 2 (by decide) (List.mem_cons_of_mem _ k_7646d4378e) rfl (mF_minus hF) d_SpectrumDeskModel_bigProduct_203 ?_
          refine lv_iload_n hx hb d_SpectrumDeskModel_bigProduct_206 rfl (lv_at hl 3 rfl) ?_
          refine xr_zald X I 186 2 (by decide) (r186 ..) rfl (by omega) (by decide) d_SpectrumDeskModel_bigProduct_207 ?_
          refine xr_topi (y := nI 1) hmu ?_
          refine lv_aload_n hx hb d_SpectrumDeskModel_bigProduct_208 rfl (lv_at hl 1 rfl) ?_
          refine xr_get X I fin_M 183 (by decide) (r183 ..) rfl 2 (by decide) (List.mem_cons_of_mem _ k_7646d4378e) rfl (mF_minus hF) d_SpectrumDeskModel_bigProduct_209 ?_
          refine lv_iload_n hx hb d_SpectrumDeskModel_bigProduct_212 rfl (lv_at hl 4 rfl) ?_
          refine xr_zald X I 186 2 (by decide) (r186 ..) rfl (by omega) (by decide) d_SpectrumDeskModel_bigProduct_213 ?_
          refine xr_topi (y := nI 0) hmv ?_
          refine lv_icmp_eq hx hb d_SpectrumDeskModel_bigProduct_214 rfl (fun he => ?_) (fun he => ?_)
          · exact absurd he (by decide)
          · refine lv_iconst (v := nI 1) hx hb d_SpectrumDeskModel_bigProduct_217 (by decide) ?_
            refine lv_goto hx hb d_SpectrumDeskModel_bigProduct_218 rfl ?_
            refine xr_zast X I 186 2 (by decide) (r186 ..) rfl (by omega) (by decide) d_SpectrumDeskModel_bigProduct_222 (fun H locs I => ?_)
            rw [rw3_M, show vp_nar .boolean (nI 1) = nI 1 by decide] at I
            refine lv_aload_n hx hb d_SpectrumDeskModel_bigProduct_223 rfl (lv_at hl 1 rfl) ?_
            refine lv_iload_n hx hb d_SpectrumDeskModel_bigProduct_224 rfl (lv_at hl 2 rfl) ?_
            refine xr_callv (xr_runV (kc := 0) (kr := 1) (n := 1) (As := [.int (nI w)]) (rest := []) X I (by decide) (r183 ..) rfl (c_SpectrumDeskModel_bigTrim (P := P2) (L := upd L w (nI (i + lb))) (M := upd M w (nI 1)) (n := i + lb) hF hw (by omega) upd_s) (xg k_10a67c202b) (List.mem_cons_of_mem _ k_fdf1e9da4b) (List.mem_cons_of_mem _ k_72a5102e81) (List.mem_cons_of_mem _ k_90f9c60262) (List.mem_cons_of_mem _ k_30fa15c9ac) (by decide +kernel) (by decide) rfl hl.1 rfl (Nat.le_of_ble_eq_true rfl) d_SpectrumDeskModel_bigProduct_225) I (fun σ1 H locs hp I => ?_)
            obtain ⟨n2, t1, rfl, t2, t3⟩ := hp
            rw [upd_upd] at I
            exact xr_vret X I hr hlk ⟨P2, _, _, rfl, ⟨hfr, fun j hj => upd_n hj, fun j hj => upd_n hj⟩, n2, by omega, upd_s, rg_ok_le hok t1, t3, Or.inr ⟨upd_s, by rw [t2, inv, hxe, hye] <;> grind⟩⟩ d_SpectrumDeskModel_bigProduct_228
        · refine lv_aload_n hx hb d_SpectrumDeskModel_bigProduct_197 rfl (lv_at hl 1 rfl) ?_
          refine xr_get X I fin_M 183 (by decide) (r183 ..) rfl 2 (by decide) (List.mem_cons_of_mem _ k_7646d4378e) rfl (mF_minus hF) d_SpectrumDeskModel_bigProduct_198 ?_
          refine lv_iload_n hx hb d_SpectrumDeskModel_bigProduct_201 rfl (lv_at hl 2 rfl) ?_
          refine lv_aload_n hx hb d_SpectrumDeskModel_bigProduct_202 rfl (lv_at hl 1 rfl) ?_
          refine xr_get X I fin_M 183 (by decide) (r183 ..) rfl 2 (by decide) (List.mem_cons_of_mem _ k_7646d4378e) rfl (mF_minus hF) d_SpectrumDeskModel_bigProduct_203 ?_
          refine lv_iload_n hx hb d_SpectrumDeskModel_bigProduct_206 rfl (lv_at hl 3 rfl) ?_
          refine xr_zald X I 186 2 (by decide) (r186 ..) rfl (by omega) (by decide) d_SpectrumDeskModel_bigProduct_207 ?_
          refine xr_topi (y := nI 1) hmu ?_
          refine lv_aload_n hx hb d_SpectrumDeskModel_bigProduct_208 rfl (lv_at hl 1 rfl) ?_
          refine xr_get X I fin_M 183 (by decide) (r183 ..) rfl 2 (by decide) (List.mem_cons_of_mem _ k_7646d4378e) rfl (mF_minus hF) d_SpectrumDeskModel_bigProduct_209 ?_
          refine lv_iload_n hx hb d_SpectrumDeskModel_bigProduct_212 rfl (lv_at hl 4 rfl) ?_
          refine xr_zald X I 186 2 (by decide) (r186 ..) rfl (by omega) (by decide) d_SpectrumDeskModel_bigProduct_213 ?_
          refine xr_topi (y := nI 1) hmv ?_
          refine lv_icmp_eq hx hb d_SpectrumDeskModel_bigProduct_214 rfl (fun he => ?_) (fun he => ?_)
          · refine lv_iconst (v := nI 0) hx hb d_SpectrumDeskModel_bigProduct_221 (by decide) ?_
            refine xr_zast X I 186 2 (by decide) (r186 ..) rfl (by omega) (by decide) d_SpectrumDeskModel_bigProduct_222 (fun H locs I => ?_)
            rw [rw3_M, show vp_nar .boolean (nI 0) = nI 0 by decide] at I
            refine lv_aload_n hx hb d_SpectrumDeskModel_bigProduct_223 rfl (lv_at hl 1 rfl) ?_
            refine lv_iload_n hx hb d_SpectrumDeskModel_bigProduct_224 rfl (lv_at hl 2 rfl) ?_
            refine xr_callv (xr_runV (kc := 0) (kr := 1) (n := 1) (As := [.int (nI w)]) (rest := []) X I (by decide) (r183 ..) rfl (c_SpectrumDeskModel_bigTrim (P := P2) (L := upd L w (nI (i + lb))) (M := upd M w (nI 0)) (n := i + lb) hF hw (by omega) upd_s) (xg k_10a67c202b) (List.mem_cons_of_mem _ k_fdf1e9da4b) (List.mem_cons_of_mem _ k_72a5102e81) (List.mem_cons_of_mem _ k_90f9c60262) (List.mem_cons_of_mem _ k_30fa15c9ac) (by decide +kernel) (by decide) rfl hl.1 rfl (Nat.le_of_ble_eq_true rfl) d_SpectrumDeskModel_bigProduct_225) I (fun σ1 H locs hp I => ?_)
            obtain ⟨n2, t1, rfl, t2, t3⟩ := hp
            rw [upd_upd] at I
            exact xr_vret X I hr hlk ⟨P2, _, _, rfl, ⟨hfr, fun j hj => upd_n hj, fun j hj => upd_n hj⟩, n2, by omega, upd_s, rg_ok_le hok t1, t3, Or.inl ⟨upd_s, by rw [t2, inv, hxe, hye] <;> grind⟩⟩ d_SpectrumDeskModel_bigProduct_228
          · exact absurd rfl he
      · exact absurd (nI_le (Nat.le_refl _) (by omega)) hc
    | succ k ih =>
      intro i P2 ls H locs hk hfr hok hzero inv hl I
      refine lv_iload hx hb d_SpectrumDeskModel_bigProduct_56 (lv_at hl 0 rfl) ?_
      refine lv_aload_n hx hb d_SpectrumDeskModel_bigProduct_58 rfl (lv_at hl 1 rfl) ?_
      refine xr_get X I fin_M 183 (by decide) (r183 ..) rfl 1 (by decide) (List.mem_cons_of_mem _ k_4ae214c350) rfl (mF_lengths hF) d_SpectrumDeskModel_bigProduct_59 ?_
      refine lv_iload_n hx hb d_SpectrumDeskModel_bigProduct_62 rfl (lv_at hl 3 rfl) ?_
      refine xr_iald X I 185 0 (by decide) (r185 ..) rfl (by omega) (by decide) d_SpectrumDeskModel_bigProduct_63 ?_
      refine xr_topi (y := nI la) ((upd_n huw).trans hLu) ?_
      refine lv_icmp_ge hx hb d_SpectrumDeskModel_bigProduct_64 rfl (fun hc => ?_) (fun hc => ?_)
      · exact absurd hc (nI_ge (by omega) (by omega))
      · obtain ⟨x1, x2, x3, x4⟩ := rg_nat huo (show i < la by omega)
        refine lv_lconst (v := 0) hx hb d_SpectrumDeskModel_bigProduct_67 (by decide) ?_
        refine lv_lstore (lv' := [(5, .long 0), (4, .int (nI i)), (0, .ref (ad 183)), (1, .int (nI w)), (2, .int (nI u)), (3, .int (nI v))]) hx hb d_SpectrumDeskModel_bigProduct_68 hl (by decide) rfl (fun ls hl => ?_)
        refine lv_iconst (v := nI 0) hx hb d_SpectrumDeskModel_bigProduct_70 (by decide) ?_
        refine lv_istore (lv' := [(7, .int (nI 0)), (5, .long 0), (4, .int (nI i)), (0, .ref (ad 183)), (1, .int (nI w)), (2, .int (nI u)), (3, .int (nI v))]) hx hb d_SpectrumDeskModel_bigProduct_71 hl (by decide) rfl (fun ls hl => ?_)
        have inner : ∀ (k2 : Nat) (j cy : Nat) (P3 : Nat → Int32) (ls : Array Slot) (H : Heap) (locs : List Loc), j + k2 = lb → cy < 16777216 → (∀ j, j < 300 * w ∨ 300 * w + 300 ≤ j → P3 j = P j) → rg_ok P3 (300 * w) (la + lb) → (∀ q, lb ≤ q → i + q < la + lb → P3 (300 * w + (i + q)) = 0) → rg P3 (300 * w) (la + lb) + (cy : Int) * 16777216 ^ (i + j) = rg P2 (300 * w) (la + lb) + (x1 : Int) * dv (dg P (300 * v) lb) j * 16777216 ^ i → lv_has ls 9 [(7, .int (nI j)), (5, .long (lN cy)), (4, .int (nI i)), (0, .ref (ad 183)), (1, .int (nI w)), (2, .int (nI u)), (3, .int (nI v))] → xI D classes 193 ad s.heap (rw3 σ0 ciM cI cZ fs P3 (upd L w (nI (la + lb))) M) H locs → W p l e (xrm 1) s m args below meth c H locs 0 0 (MQ below (va_Qv (rb_up σ0 ciM cI cZ fs P L M w (x * y)) (xS D classes (xT cI cJ cZ cC cG cP) 193 ad) (xA 193 ad)) args s 0 0 (xA 193 ad)) (F0 m 73 ls []) := by
          intro k2
          induction k2 with
          | zero =>
            intro j cy P3 ls H locs hj hcy hfr2 hok2 hzero2 inv2 hl I
            obtain rfl : j = lb := by omega
            refine lv_iload hx hb d_SpectrumDeskModel_bigProduct_73 (lv_at hl 0 rfl) ?_
            refine lv_aload_n hx hb d_SpectrumDeskModel_bigProduct_75 rfl (lv_at hl 3 rfl) ?_
            refine xr_get X I fin_M 183 (by decide) (r183 ..) rfl 1 (by decide) (List.mem_cons_of_mem _ k_4ae214c350) rfl (mF_lengths hF) d_SpectrumDeskModel_bigProduct_76 ?_
            refine lv_iload_n hx hb d_SpectrumDeskModel_bigProduct_79 rfl (lv_at hl 6 rfl) ?_
            refine xr_iald X I 185 0 (by decide) (r185 ..) rfl (by omega) (by decide) d_SpectrumDeskModel_bigProduct_80 ?_
            refine xr_topi (y := nI j) ((upd_n hvw).trans hLv) ?_
            refine lv_icmp_ge hx hb d_SpectrumDeskModel_bigProduct_81 rfl (fun hd => ?_) (fun hd => ?_)
            · refine lv_aload_n hx hb d_SpectrumDeskModel_bigProduct_168 rfl (lv_at hl 3 rfl) ?_
              refine xr_get X I fin_M 183 (by decide) (r183 ..) rfl 0 (by decide) (List.mem_cons_of_mem _ k_eae5455160) rfl (mF_parts hF) d_SpectrumDeskModel_bigProduct_169 ?_
              refine lv_sipush (v := nI 300) hx hb d_SpectrumDeskModel_bigProduct_172 (by decide) ?_
              refine lv_iload_n hx hb d_SpectrumDeskModel_bigProduct_175 rfl (lv_at hl 4 rfl) ?_
              refine lv_imul hx hb d_SpectrumDeskModel_bigProduct_176 (xr_topi (y := nI (300 * w)) (pk_mul 300 w) ?_)
              refine lv_iload hx hb d_SpectrumDeskModel_bigProduct_177 (lv_at hl 2 rfl) ?_
              refine lv_iadd hx hb d_SpectrumDeskModel_bigProduct_179 (xr_topi (y := nI ((300 * w) + i)) (nI_add (300 * w) i) ?_)
              refine lv_aload_n hx hb d_SpectrumDeskModel_bigProduct_180 rfl (lv_at hl 3 rfl) ?_
              refine xr_get X I fin_M 183 (by decide) (r183 ..) rfl 1 (by decide) (List.mem_cons_of_mem _ k_4ae214c350) rfl (mF_lengths hF) d_SpectrumDeskModel_bigProduct_181 ?_
              refine lv_iload_n hx hb d_SpectrumDeskModel_bigProduct_184 rfl (lv_at hl 6 rfl) ?_
              refine xr_iald X I 185 0 (by decide) (r185 ..) rfl (by omega) (by decide) d_SpectrumDeskModel_bigProduct_185 ?_
              refine xr_topi (y := nI j) ((upd_n hvw).trans hLv) ?_
              refine lv_iadd hx hb d_SpectrumDeskModel_bigProduct_186 (xr_topi (y := nI (300 * w + (i + j))) (by rw [nI_add, Nat.add_assoc]) ?_)
              refine lv_lload hx hb d_SpectrumDeskModel_bigProduct_187 (lv_at hl 1 rfl) ?_
              refine lv_l2i hx hb d_SpectrumDeskModel_bigProduct_189 rfl ?_
              refine xr_topi (y := nI cy) (lN_i cy) ?_
              refine xr_iast X I 184 0 (by decide) (r184 ..) rfl (by omega) (by decide) d_SpectrumDeskModel_bigProduct_190 (fun H locs I => ?_)
              rw [rw3_P] at I
              refine lv_iinc (k := 2) (v := nI (i + 1)) (lv' := [(4, .int (nI (i + 1))), (7, .int (nI j)), (5, .long (lN cy)), (0, .ref (ad 183)), (1, .int (nI w)), (2, .int (nI u)), (3, .int (nI v))]) hx hb d_SpectrumDeskModel_bigProduct_191 hl rfl (nI_1 i) (by decide) rfl (fun ls hl => ?_)
              refine lv_goto hx hb d_SpectrumDeskModel_bigProduct_194 rfl ?_
              have hl := lv_sub hl [0, 3, 4, 5, 6] rfl
              have hl : lv_has ls 9 [(4, .int (nI (i + 1))), (0, .ref (ad 183)), (1, .int (nI w)), (2, .int (nI u)), (3, .int (nI v))] := hl
              have hz := hzero2 j (Nat.le_refl _) (by omega)
              refine ih (i + 1) _ ls H locs (by omega) (fun q hq => (upd_n (by omega)).trans (hfr2 q hq)) (rg_ok_upd hok2 (by rw [nI_toInt (by omega)]; omega)) (fun q h1 h2 => (upd_n (by omega)).trans (by have h3 := hzero2 (q - i) (by omega) (by omega); rw [show i + (q - i) = q by omega] at h3; exact h3)) ?_ hl I
              rw [rg_set (show i + j < la + j by omega), hz, nI_toInt (by omega)]
              rw [dv_in (Nat.le_refl _), inv] at inv2
              have e0 : (0 : Int32).toInt = 0 := by decide
              rw [e0, rg, x4]
              grind
            · exact absurd (nI_le (Nat.le_refl _) (by omega)) hd
          | succ k2 jh =>
            intro j cy P3 ls H locs hj hcy hfr2 hok2 hzero2 inv2 hl I
            refine lv_iload hx hb d_SpectrumDeskModel_bigProduct_73 (lv_at hl 0 rfl) ?_
            refine lv_aload_n hx hb d_SpectrumDeskModel_bigProduct_75 rfl (lv_at hl 3 rfl) ?_
            refine xr_get X I fin_M 183 (by decide) (r183 ..) rfl 1 (by decide) (List.mem_cons_of_mem _ k_4ae214c350) rfl (mF_lengths hF) d_SpectrumDeskModel_bigProduct_76 ?_
            refine lv_iload_n hx hb d_SpectrumDeskModel_bigProduct_79 rfl (lv_at hl 6 rfl) ?_
            refine xr_iald X I 185 0 (by decide) (r185 ..) rfl (by omega) (by decide) d_SpectrumDeskModel_bigProduct_80 ?_
            refine xr_topi (y := nI lb) ((upd_n hvw).trans hLv) ?_
            refine lv_icmp_ge hx hb d_SpectrumDeskModel_bigProduct_81 rfl (fun hd => ?_) (fun hd => ?_)
            · exact absurd hd (nI_ge (by omega) (by omega))
            · obtain ⟨y1, y2, y3, y4⟩ := rg_nat hvo (show j < lb by omega)
              obtain ⟨z1, z2, z3, z4⟩ := rg_nat hok2 (show i + j < la + lb by omega)
              obtain ⟨c1, c2⟩ := prod_carry (cy := cy) hcy z2 x2 y2
              refine lv_sipush (v := nI 300) hx hb d_SpectrumDeskModel_bigProduct_84 (by decide) ?_
              refine lv_iload_n hx hb d_SpectrumDeskModel_bigProduct_87 rfl (lv_at hl 4 rfl) ?_
              refine lv_imul hx hb d_SpectrumDeskModel_bigProduct_88 (xr_topi (y := nI (300 * w)) (pk_mul 300 w) ?_)
              refine lv_iload hx hb d_SpectrumDeskModel_bigProduct_89 (lv_at hl 2 rfl) ?_
              refine lv_iadd hx hb d_SpectrumDeskModel_bigProduct_91 (xr_topi (y := nI ((300 * w) + i)) (nI_add (300 * w) i) ?_)
              refine lv_iload hx hb d_SpectrumDeskModel_bigProduct_92 (lv_at hl 0 rfl) ?_
              refine lv_iadd hx hb d_SpectrumDeskModel_bigProduct_94 (xr_topi (y := nI (300 * w + (i + j))) (by rw [nI_add, Nat.add_assoc]) ?_)
              refine lv_istore (lv' := [(8, .int (nI (300 * w + (i + j)))), (7, .int (nI j)), (5, .long (lN cy)), (4, .int (nI i)), (0, .ref (ad 183)), (1, .int (nI w)), (2, .int (nI u)), (3, .int (nI v))]) hx hb d_SpectrumDeskModel_bigProduct_95 hl (by decide) rfl (fun ls hl => ?_)
              refine lv_lload hx hb d_SpectrumDeskModel_bigProduct_97 (lv_at hl 2 rfl) ?_
              refine lv_aload_n hx hb d_SpectrumDeskModel_bigProduct_99 rfl (lv_at hl 4 rfl) ?_
              refine xr_get X I fin_M 183 (by decide) (r183 ..) rfl 0 (by decide) (List.mem_cons_of_mem _ k_eae5455160) rfl (mF_parts hF) d_SpectrumDeskModel_bigProduct_100 ?_
              refine lv_iload hx hb d_SpectrumDeskModel_bigProduct_103 (lv_at hl 0 rfl) ?_
              refine xr_iald X I 184 0 (by decide) (r184 ..) rfl (by omega) (by decide) d_SpectrumDeskModel_bigProduct_105 ?_
              refine xr_topi (y := nI z1) z3 ?_
              refine lv_i2l hx hb d_SpectrumDeskModel_bigProduct_106 (nI_l (by omega)) ?_
              refine lv_ladd hx hb d_SpectrumDeskModel_bigProduct_107 ?_
              refine xr_topl (y := lN (cy + z1)) (lN_add cy z1) ?_
              refine lv_aload_n hx hb d_SpectrumDeskModel_bigProduct_108 rfl (lv_at hl 4 rfl) ?_
              refine xr_get X I fin_M 183 (by decide) (r183 ..) rfl 0 (by decide) (List.mem_cons_of_mem _ k_eae5455160) rfl (mF_parts hF) d_SpectrumDeskModel_bigProduct_109 ?_
              refine lv_sipush (v := nI 300) hx hb d_SpectrumDeskModel_bigProduct_112 (by decide) ?_
              refine lv_iload_n hx hb d_SpectrumDeskModel_bigProduct_115 rfl (lv_at hl 6 rfl) ?_
              refine lv_imul hx hb d_SpectrumDeskModel_bigProduct_116 (xr_topi (y := nI (300 * u)) (pk_mul 300 u) ?_)
              refine lv_iload hx hb d_SpectrumDeskModel_bigProduct_117 (lv_at hl 3 rfl) ?_
              refine lv_iadd hx hb d_SpectrumDeskModel_bigProduct_119 (xr_topi (y := nI ((300 * u) + i)) (nI_add (300 * u) i) ?_)
              refine xr_iald X I 184 0 (by decide) (r184 ..) rfl (by omega) (by decide) d_SpectrumDeskModel_bigProduct_120 ?_
              refine xr_topi (y := nI x1) ((hfr2 _ (by omega)).trans x3) ?_
              refine lv_i2l hx hb d_SpectrumDeskModel_bigProduct_121 (nI_l (by omega)) ?_
              refine lv_aload_n hx hb d_SpectrumDeskModel_bigProduct_122 rfl (lv_at hl 4 rfl) ?_
              refine xr_get X I fin_M 183 (by decide) (r183 ..) rfl 0 (by decide) (List.mem_cons_of_mem _ k_eae5455160) rfl (mF_parts hF) d_SpectrumDeskModel_bigProduct_123 ?_
              refine lv_sipush (v := nI 300) hx hb d_SpectrumDeskModel_bigProduct_126 (by decide) ?_
              refine lv_iload_n hx hb d_SpectrumDeskModel_bigProduct_129 rfl (lv_at hl 7 rfl) ?_
              refine lv_imul hx hb d_SpectrumDeskModel_bigProduct_130 (xr_topi (y := nI (300 * v)) (pk_mul 300 v) ?_)
              refine lv_iload hx hb d_SpectrumDeskModel_bigProduct_131 (lv_at hl 1 rfl) ?_
              refine lv_iadd hx hb d_SpectrumDeskModel_bigProduct_133 (xr_topi (y := nI ((300 * v) + j)) (nI_add (300 * v) j) ?_)
              refine xr_iald X I 184 0 (by decide) (r184 ..) rfl (by omega) (by decide) d_SpectrumDeskModel_bigProduct_134 ?_
              refine xr_topi (y := nI y1) ((hfr2 _ (by omega)).trans y3) ?_
              refine lv_i2l hx hb d_SpectrumDeskModel_bigProduct_135 (nI_l (by omega)) ?_
              refine lv_lmul hx hb d_SpectrumDeskModel_bigProduct_136 ?_
              refine xr_topl (y := lN (x1 * y1)) (lN_mul x1 y1) ?_
              refine lv_ladd hx hb d_SpectrumDeskModel_bigProduct_137 ?_
              refine xr_topl (y := lN (cy + z1 + x1 * y1)) (lN_add _ _) ?_
              refine lv_lstore (lv' := [(5, .long (lN (cy + z1 + x1 * y1))), (8, .int (nI (300 * w + (i + j)))), (7, .int (nI j)), (4, .int (nI i)), (0, .ref (ad 183)), (1, .int (nI w)), (2, .int (nI u)), (3, .int (nI v))]) hx hb d_SpectrumDeskModel_bigProduct_138 hl (by decide) rfl (fun ls hl => ?_)
              refine lv_aload_n hx hb d_SpectrumDeskModel_bigProduct_140 rfl (lv_at hl 4 rfl) ?_
              refine xr_get X I fin_M 183 (by decide) (r183 ..) rfl 0 (by decide) (List.mem_cons_of_mem _ k_eae5455160) rfl (mF_parts hF) d_SpectrumDeskModel_bigProduct_141 ?_
              refine lv_iload hx hb d_SpectrumDeskModel_bigProduct_144 (lv_at hl 1 rfl) ?_
              refine lv_lload hx hb d_SpectrumDeskModel_bigProduct_146 (lv_at hl 0 rfl) ?_
              refine lv_ldc2 (v := lN 16777216) hx hb X.1.2.2.2.1 (X.1.2.2.2.2 _ (List.mem_cons_of_mem _ k_13c981ce9d)) d_SpectrumDeskModel_bigProduct_148 ?_
              refine lv_lrem hx hb d_SpectrumDeskModel_bigProduct_151 (by decide) ?_
              refine xr_topl (y := lN ((cy + z1 + x1 * y1) % 16777216)) (pk_lRem (by omega) (by decide) (by decide)) ?_
              refine lv_l2i hx hb d_SpectrumDeskModel_bigProduct_152 (lN_i _) ?_
              refine xr_iast X I 184 0 (by decide) (r184 ..) rfl (by omega) (by decide) d_SpectrumDeskModel_bigProduct_153 (fun H locs I => ?_)
              rw [rw3_P] at I
              refine lv_lload hx hb d_SpectrumDeskModel_bigProduct_154 (lv_at hl 0 rfl) ?_
              refine lv_ldc2 (v := lN 16777216) hx hb X.1.2.2.2.1 (X.1.2.2.2.2 _ (List.mem_cons_of_mem _ k_13c981ce9d)) d_SpectrumDeskModel_bigProduct_156 ?_
              refine lv_ldiv hx hb d_SpectrumDeskModel_bigProduct_159 (by decide) ?_
              refine xr_topl (y := lN ((cy + z1 + x1 * y1) / 16777216)) (pk_lDiv (by omega) (by decide) (by decide)) ?_
              refine lv_lstore (lv' := [(5, .long (lN ((cy + z1 + x1 * y1) / 16777216))), (8, .int (nI (300 * w + (i + j)))), (7, .int (nI j)), (4, .int (nI i)), (0, .ref (ad 183)), (1, .int (nI w)), (2, .int (nI u)), (3, .int (nI v))]) hx hb d_SpectrumDeskModel_bigProduct_160 hl (by decide) rfl (fun ls hl => ?_)
              refine lv_iinc (k := 2) (v := nI (j + 1)) (lv' := [(7, .int (nI (j + 1))), (5, .long (lN ((cy + z1 + x1 * y1) / 16777216))), (8, .int (nI (300 * w + (i + j)))), (4, .int (nI i)), (0, .ref (ad 183)), (1, .int (nI w)), (2, .int (nI u)), (3, .int (nI v))]) hx hb d_SpectrumDeskModel_bigProduct_162 hl rfl (nI_1 j) (by decide) rfl (fun ls hl => ?_)
              refine lv_goto hx hb d_SpectrumDeskModel_bigProduct_165 rfl ?_
              have hl := lv_sub hl [0, 1, 3, 4, 5, 6, 7] rfl
              have hl : lv_has ls 9 [(7, .int (nI (j + 1))), (5, .long (lN ((cy + z1 + x1 * y1) / 16777216))), (4, .int (nI i)), (0, .ref (ad 183)), (1, .int (nI w)), (2, .int (nI u)), (3, .int (nI v))] := hl
              refine jh (j + 1) _ _ ls H locs (by omega) c2 (fun q hq => (upd_n (by omega)).trans (hfr2 q hq)) (rg_ok_upd hok2 (by rw [nI_toInt (by omega)]; omega)) (fun q h1 h2 => (upd_n (by omega)).trans (hzero2 q (by omega) h2)) (prod_step (a := fun _ => 0) (by omega) z4 inv2 ?_) hl I
              rw [dg, if_pos (by omega)]; exact y4
        exact inner lb 0 0 P2 ls _ _ (by omega) (by decide) hfr hok (fun q h1 h2 => hzero (i + q) (by omega) (by omega)) (by simp [dv]) hl I
  have zeros : ∀ (k : Nat) (i : Nat) (P2 : Nat → Int32) (ls : Array Slot) (H : Heap) (locs : List Loc), i + k = la + lb → (∀ j, j < 300 * w ∨ 300 * w + 300 ≤ j → P2 j = P j) → (∀ j, j < i → P2 (300 * w + j) = 0) → lv_has ls 9 [(4, .int (nI i)), (0, .ref (ad 183)), (1, .int (nI w)), (2, .int (nI u)), (3, .int (nI v))] → xI D classes 193 ad s.heap (rw3 σ0 ciM cI cZ fs P2 (upd L w (nI (la + lb))) M) H locs → W p l e (xrm 1) s m args below meth c H locs 0 0 (MQ below (va_Qv (rb_up σ0 ciM cI cZ fs P L M w (x * y)) (xS D classes (xT cI cJ cZ cC cG cP) 193 ad) (xA 193 ad)) args s 0 0 (xA 193 ad)) (F0 m 22 ls []) := by
    intro k
    induction k with
    | zero =>
      intro i P2 ls H locs hk hfr hz hl I
      obtain rfl : i = la + lb := by omega
      refine lv_iload hx hb d_SpectrumDeskModel_bigProduct_22 (lv_at hl 0 rfl) ?_
      refine lv_aload_n hx hb d_SpectrumDeskModel_bigProduct_24 rfl (lv_at hl 1 rfl) ?_
      refine xr_get X I fin_M 183 (by decide) (r183 ..) rfl 1 (by decide) (List.mem_cons_of_mem _ k_4ae214c350) rfl (mF_lengths hF) d_SpectrumDeskModel_bigProduct_25 ?_
      refine lv_iload_n hx hb d_SpectrumDeskModel_bigProduct_28 rfl (lv_at hl 2 rfl) ?_
      refine xr_iald X I 185 0 (by decide) (r185 ..) rfl (by omega) (by decide) d_SpectrumDeskModel_bigProduct_29 ?_
      refine xr_topi (y := nI (la + lb)) upd_s ?_
      refine lv_icmp_ge hx hb d_SpectrumDeskModel_bigProduct_30 rfl (fun hc => ?_) (fun hc => ?_)
      · refine lv_iconst (v := nI 0) hx hb d_SpectrumDeskModel_bigProduct_53 (by decide) ?_
        refine lv_istore (lv' := [(4, .int (nI 0)), (0, .ref (ad 183)), (1, .int (nI w)), (2, .int (nI u)), (3, .int (nI v))]) hx hb d_SpectrumDeskModel_bigProduct_54 hl (by decide) rfl (fun ls hl => ?_)
        exact outer la 0 P2 ls _ _ (by omega) hfr (fun j hj => by rw [hz j hj]; decide) (fun q _ h => hz q h) (by rw [rg_zero hz]; simp [rg]) hl I
      · exact absurd (nI_le (Nat.le_refl _) (by omega)) hc
    | succ k ih =>
      intro i P2 ls H locs hk hfr hz hl I
      refine lv_iload hx hb d_SpectrumDeskModel_bigProduct_22 (lv_at hl 0 rfl) ?_
      refine lv_aload_n hx hb d_SpectrumDeskModel_bigProduct_24 rfl (lv_at hl 1 rfl) ?_
      refine xr_get X I fin_M 183 (by decide) (r183 ..) rfl 1 (by decide) (List.mem_cons_of_mem _ k_4ae214c350) rfl (mF_lengths hF) d_SpectrumDeskModel_bigProduct_25 ?_
      refine lv_iload_n hx hb d_SpectrumDeskModel_bigProduct_28 rfl (lv_at hl 2 rfl) ?_
      refine xr_iald X I 185 0 (by decide) (r185 ..) rfl (by omega) (by decide) d_SpectrumDeskModel_bigProduct_29 ?_
      refine xr_topi (y := nI (la + lb)) upd_s ?_
      refine lv_icmp_ge hx hb d_SpectrumDeskModel_bigProduct_30 rfl (fun hc => ?_) (fun hc => ?_)
      · exact absurd hc (nI_ge (by omega) (by omega))
      · refine lv_aload_n hx hb d_SpectrumDeskModel_bigProduct_33 rfl (lv_at hl 1 rfl) ?_
        refine xr_get X I fin_M 183 (by decide) (r183 ..) rfl 0 (by decide) (List.mem_cons_of_mem _ k_eae5455160) rfl (mF_parts hF) d_SpectrumDeskModel_bigProduct_34 ?_
        refine lv_sipush (v := nI 300) hx hb d_SpectrumDeskModel_bigProduct_37 (by decide) ?_
        refine lv_iload_n hx hb d_SpectrumDeskModel_bigProduct_40 rfl (lv_at hl 2 rfl) ?_
        refine lv_imul hx hb d_SpectrumDeskModel_bigProduct_41 (xr_topi (y := nI (300 * w)) (pk_mul 300 w) ?_)
        refine lv_iload hx hb d_SpectrumDeskModel_bigProduct_42 (lv_at hl 0 rfl) ?_
        refine lv_iadd hx hb d_SpectrumDeskModel_bigProduct_44 (xr_topi (y := nI ((300 * w) + i)) (nI_add (300 * w) i) ?_)
        refine lv_iconst (v := 0) hx hb d_SpectrumDeskModel_bigProduct_45 (by decide) ?_
        refine xr_iast X I 184 0 (by decide) (r184 ..) rfl (by omega) (by decide) d_SpectrumDeskModel_bigProduct_46 (fun H locs I => ?_)
        rw [rw3_P] at I
        refine lv_iinc (k := 0) (v := nI (i + 1)) (lv' := [(4, .int (nI (i + 1))), (0, .ref (ad 183)), (1, .int (nI w)), (2, .int (nI u)), (3, .int (nI v))]) hx hb d_SpectrumDeskModel_bigProduct_47 hl rfl (nI_1 i) (by decide) rfl (fun ls hl => ?_)
        refine lv_goto hx hb d_SpectrumDeskModel_bigProduct_50 rfl ?_
        refine ih (i + 1) _ ls H locs (by omega) (fun j hj => (upd_n (by omega)).trans (hfr j hj)) (fun j hj => ?_) hl I
        by_cases ej : j = i
        · rw [ej, upd_s]
        · rw [upd_n (by omega)]; exact hz j (by omega)
  exact zeros (la + lb) 0 P ls _ _ (by omega) (fun _ _ => rfl) (fun j hj => absurd hj (Nat.not_lt_zero _)) hl I
