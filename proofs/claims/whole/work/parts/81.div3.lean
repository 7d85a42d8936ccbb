/-! the reference: bigDivide (written by wip/gen) -/
abbrev b_SpectrumDeskModel_bigDivide : ByteArray := prog_10_method_15_code
abbrev y_SpectrumDeskModel_bigDivide : MethodName := ⟨"SpectrumDeskModel", "bigDivide", "(III)V"⟩
abbrev v_SpectrumDeskModel_bigDivide : List Cond := Cond.code y_SpectrumDeskModel_bigDivide b_SpectrumDeskModel_bigDivide 14 none :: AW
theorem d_SpectrumDeskModel_bigDivide_0 : decode b_SpectrumDeskModel_bigDivide 0 = .ok (.aload_n 0, 1) := by decide +kernel
theorem d_SpectrumDeskModel_bigDivide_1 : decode b_SpectrumDeskModel_bigDivide 1 = .ok (.getfield 1, 3) := by decide +kernel
theorem d_SpectrumDeskModel_bigDivide_4 : decode b_SpectrumDeskModel_bigDivide 4 = .ok (.iload_n 1, 1) := by decide +kernel
theorem d_SpectrumDeskModel_bigDivide_5 : decode b_SpectrumDeskModel_bigDivide 5 = .ok (.iconst 0, 1) := by decide +kernel
theorem d_SpectrumDeskModel_bigDivide_6 : decode b_SpectrumDeskModel_bigDivide 6 = .ok (.bastore, 1) := by decide +kernel
theorem d_SpectrumDeskModel_bigDivide_7 : decode b_SpectrumDeskModel_bigDivide 7 = .ok (.aload_n 0, 1) := by decide +kernel
theorem d_SpectrumDeskModel_bigDivide_8 : decode b_SpectrumDeskModel_bigDivide 8 = .ok (.getfield 1, 3) := by decide +kernel
theorem d_SpectrumDeskModel_bigDivide_11 : decode b_SpectrumDeskModel_bigDivide 11 = .ok (.iload_n 3, 1) := by decide +kernel
theorem d_SpectrumDeskModel_bigDivide_12 : decode b_SpectrumDeskModel_bigDivide 12 = .ok (.iconst 0, 1) := by decide +kernel
theorem d_SpectrumDeskModel_bigDivide_13 : decode b_SpectrumDeskModel_bigDivide 13 = .ok (.bastore, 1) := by decide +kernel
theorem d_SpectrumDeskModel_bigDivide_14 : decode b_SpectrumDeskModel_bigDivide 14 = .ok (.aload_n 0, 1) := by decide +kernel
theorem d_SpectrumDeskModel_bigDivide_15 : decode b_SpectrumDeskModel_bigDivide 15 = .ok (.getfield 13, 3) := by decide +kernel
theorem d_SpectrumDeskModel_bigDivide_18 : decode b_SpectrumDeskModel_bigDivide 18 = .ok (.iload_n 1, 1) := by decide +kernel
theorem d_SpectrumDeskModel_bigDivide_19 : decode b_SpectrumDeskModel_bigDivide 19 = .ok (.iaload, 1) := by decide +kernel
theorem d_SpectrumDeskModel_bigDivide_20 : decode b_SpectrumDeskModel_bigDivide 20 = .ok (.aload_n 0, 1) := by decide +kernel
theorem d_SpectrumDeskModel_bigDivide_21 : decode b_SpectrumDeskModel_bigDivide 21 = .ok (.getfield 13, 3) := by decide +kernel
theorem d_SpectrumDeskModel_bigDivide_24 : decode b_SpectrumDeskModel_bigDivide 24 = .ok (.iload_n 2, 1) := by decide +kernel
theorem d_SpectrumDeskModel_bigDivide_25 : decode b_SpectrumDeskModel_bigDivide 25 = .ok (.iaload, 1) := by decide +kernel
theorem d_SpectrumDeskModel_bigDivide_26 : decode b_SpectrumDeskModel_bigDivide 26 = .ok (.isub, 1) := by decide +kernel
theorem d_SpectrumDeskModel_bigDivide_27 : decode b_SpectrumDeskModel_bigDivide 27 = .ok (.istore 4, 2) := by decide +kernel
theorem d_SpectrumDeskModel_bigDivide_29 : decode b_SpectrumDeskModel_bigDivide 29 = .ok (.aload_n 0, 1) := by decide +kernel
theorem d_SpectrumDeskModel_bigDivide_30 : decode b_SpectrumDeskModel_bigDivide 30 = .ok (.getfield 13, 3) := by decide +kernel
theorem d_SpectrumDeskModel_bigDivide_33 : decode b_SpectrumDeskModel_bigDivide 33 = .ok (.iload_n 3, 1) := by decide +kernel
theorem d_SpectrumDeskModel_bigDivide_34 : decode b_SpectrumDeskModel_bigDivide 34 = .ok (.iload 4, 2) := by decide +kernel
theorem d_SpectrumDeskModel_bigDivide_36 : decode b_SpectrumDeskModel_bigDivide 36 = .ok (.ifCond .ge (7), 3) := by decide +kernel
theorem d_SpectrumDeskModel_bigDivide_39 : decode b_SpectrumDeskModel_bigDivide 39 = .ok (.iconst 0, 1) := by decide +kernel
theorem d_SpectrumDeskModel_bigDivide_40 : decode b_SpectrumDeskModel_bigDivide 40 = .ok (.goto (7), 3) := by decide +kernel
theorem d_SpectrumDeskModel_bigDivide_43 : decode b_SpectrumDeskModel_bigDivide 43 = .ok (.iload 4, 2) := by decide +kernel
theorem d_SpectrumDeskModel_bigDivide_45 : decode b_SpectrumDeskModel_bigDivide 45 = .ok (.iconst 1, 1) := by decide +kernel
theorem d_SpectrumDeskModel_bigDivide_46 : decode b_SpectrumDeskModel_bigDivide 46 = .ok (.iadd, 1) := by decide +kernel
theorem d_SpectrumDeskModel_bigDivide_47 : decode b_SpectrumDeskModel_bigDivide 47 = .ok (.iastore, 1) := by decide +kernel
theorem d_SpectrumDeskModel_bigDivide_48 : decode b_SpectrumDeskModel_bigDivide 48 = .ok (.aload_n 0, 1) := by decide +kernel
theorem d_SpectrumDeskModel_bigDivide_49 : decode b_SpectrumDeskModel_bigDivide 49 = .ok (.iload_n 2, 1) := by decide +kernel
theorem d_SpectrumDeskModel_bigDivide_50 : decode b_SpectrumDeskModel_bigDivide 50 = .ok (.aload_n 0, 1) := by decide +kernel
theorem d_SpectrumDeskModel_bigDivide_51 : decode b_SpectrumDeskModel_bigDivide 51 = .ok (.getfield 13, 3) := by decide +kernel
theorem d_SpectrumDeskModel_bigDivide_54 : decode b_SpectrumDeskModel_bigDivide 54 = .ok (.iload_n 2, 1) := by decide +kernel
theorem d_SpectrumDeskModel_bigDivide_55 : decode b_SpectrumDeskModel_bigDivide 55 = .ok (.iaload, 1) := by decide +kernel
theorem d_SpectrumDeskModel_bigDivide_56 : decode b_SpectrumDeskModel_bigDivide 56 = .ok (.iconst 1, 1) := by decide +kernel
theorem d_SpectrumDeskModel_bigDivide_57 : decode b_SpectrumDeskModel_bigDivide 57 = .ok (.isub, 1) := by decide +kernel
theorem d_SpectrumDeskModel_bigDivide_58 : decode b_SpectrumDeskModel_bigDivide 58 = .ok (.invokevirtual 16, 3) := by decide +kernel
theorem d_SpectrumDeskModel_bigDivide_61 : decode b_SpectrumDeskModel_bigDivide 61 = .ok (.i2l, 1) := by decide +kernel
theorem d_SpectrumDeskModel_bigDivide_62 : decode b_SpectrumDeskModel_bigDivide 62 = .ok (.lconst 1, 1) := by decide +kernel
theorem d_SpectrumDeskModel_bigDivide_63 : decode b_SpectrumDeskModel_bigDivide 63 = .ok (.ladd, 1) := by decide +kernel
theorem d_SpectrumDeskModel_bigDivide_64 : decode b_SpectrumDeskModel_bigDivide 64 = .ok (.lstore 5, 2) := by decide +kernel
theorem d_SpectrumDeskModel_bigDivide_66 : decode b_SpectrumDeskModel_bigDivide 66 = .ok (.iload 4, 2) := by decide +kernel
theorem d_SpectrumDeskModel_bigDivide_68 : decode b_SpectrumDeskModel_bigDivide 68 = .ok (.istore 7, 2) := by decide +kernel
theorem d_SpectrumDeskModel_bigDivide_70 : decode b_SpectrumDeskModel_bigDivide 70 = .ok (.iload 7, 2) := by decide +kernel
theorem d_SpectrumDeskModel_bigDivide_72 : decode b_SpectrumDeskModel_bigDivide 72 = .ok (.ifCond .lt (120), 3) := by decide +kernel
theorem d_SpectrumDeskModel_bigDivide_75 : decode b_SpectrumDeskModel_bigDivide 75 = .ok (.lconst 0, 1) := by decide +kernel
theorem d_SpectrumDeskModel_bigDivide_76 : decode b_SpectrumDeskModel_bigDivide 76 = .ok (.lstore 8, 2) := by decide +kernel
theorem d_SpectrumDeskModel_bigDivide_78 : decode b_SpectrumDeskModel_bigDivide 78 = .ok (.aload_n 0, 1) := by decide +kernel
theorem d_SpectrumDeskModel_bigDivide_79 : decode b_SpectrumDeskModel_bigDivide 79 = .ok (.iload_n 1, 1) := by decide +kernel
theorem d_SpectrumDeskModel_bigDivide_80 : decode b_SpectrumDeskModel_bigDivide 80 = .ok (.iload_n 2, 1) := by decide +kernel
theorem d_SpectrumDeskModel_bigDivide_81 : decode b_SpectrumDeskModel_bigDivide 81 = .ok (.iload 7, 2) := by decide +kernel
theorem d_SpectrumDeskModel_bigDivide_83 : decode b_SpectrumDeskModel_bigDivide 83 = .ok (.invokevirtual 38, 3) := by decide +kernel
theorem d_SpectrumDeskModel_bigDivide_86 : decode b_SpectrumDeskModel_bigDivide 86 = .ok (.ifCond .eq (84), 3) := by decide +kernel
theorem d_SpectrumDeskModel_bigDivide_89 : decode b_SpectrumDeskModel_bigDivide 89 = .ok (.aload_n 0, 1) := by decide +kernel
theorem d_SpectrumDeskModel_bigDivide_90 : decode b_SpectrumDeskModel_bigDivide 90 = .ok (.iload_n 1, 1) := by decide +kernel
theorem d_SpectrumDeskModel_bigDivide_91 : decode b_SpectrumDeskModel_bigDivide 91 = .ok (.iload 7, 2) := by decide +kernel
theorem d_SpectrumDeskModel_bigDivide_93 : decode b_SpectrumDeskModel_bigDivide 93 = .ok (.aload_n 0, 1) := by decide +kernel
theorem d_SpectrumDeskModel_bigDivide_94 : decode b_SpectrumDeskModel_bigDivide 94 = .ok (.getfield 13, 3) := by decide +kernel
theorem d_SpectrumDeskModel_bigDivide_97 : decode b_SpectrumDeskModel_bigDivide 97 = .ok (.iload_n 2, 1) := by decide +kernel
theorem d_SpectrumDeskModel_bigDivide_98 : decode b_SpectrumDeskModel_bigDivide 98 = .ok (.iaload, 1) := by decide +kernel
theorem d_SpectrumDeskModel_bigDivide_99 : decode b_SpectrumDeskModel_bigDivide 99 = .ok (.iadd, 1) := by decide +kernel
theorem d_SpectrumDeskModel_bigDivide_100 : decode b_SpectrumDeskModel_bigDivide 100 = .ok (.invokevirtual 16, 3) := by decide +kernel
theorem d_SpectrumDeskModel_bigDivide_103 : decode b_SpectrumDeskModel_bigDivide 103 = .ok (.i2l, 1) := by decide +kernel
theorem d_SpectrumDeskModel_bigDivide_104 : decode b_SpectrumDeskModel_bigDivide 104 = .ok (.ldc2_w 36, 3) := by decide +kernel
theorem d_SpectrumDeskModel_bigDivide_107 : decode b_SpectrumDeskModel_bigDivide 107 = .ok (.lmul, 1) := by decide +kernel
theorem d_SpectrumDeskModel_bigDivide_108 : decode b_SpectrumDeskModel_bigDivide 108 = .ok (.aload_n 0, 1) := by decide +kernel
theorem d_SpectrumDeskModel_bigDivide_109 : decode b_SpectrumDeskModel_bigDivide 109 = .ok (.iload_n 1, 1) := by decide +kernel
theorem d_SpectrumDeskModel_bigDivide_110 : decode b_SpectrumDeskModel_bigDivide 110 = .ok (.iload 7, 2) := by decide +kernel
theorem d_SpectrumDeskModel_bigDivide_112 : decode b_SpectrumDeskModel_bigDivide 112 = .ok (.aload_n 0, 1) := by decide +kernel
theorem d_SpectrumDeskModel_bigDivide_113 : decode b_SpectrumDeskModel_bigDivide 113 = .ok (.getfield 13, 3) := by decide +kernel
theorem d_SpectrumDeskModel_bigDivide_116 : decode b_SpectrumDeskModel_bigDivide 116 = .ok (.iload_n 2, 1) := by decide +kernel
theorem d_SpectrumDeskModel_bigDivide_117 : decode b_SpectrumDeskModel_bigDivide 117 = .ok (.iaload, 1) := by decide +kernel
theorem d_SpectrumDeskModel_bigDivide_118 : decode b_SpectrumDeskModel_bigDivide 118 = .ok (.iadd, 1) := by decide +kernel
theorem d_SpectrumDeskModel_bigDivide_119 : decode b_SpectrumDeskModel_bigDivide 119 = .ok (.iconst 1, 1) := by decide +kernel
theorem d_SpectrumDeskModel_bigDivide_120 : decode b_SpectrumDeskModel_bigDivide 120 = .ok (.isub, 1) := by decide +kernel
theorem d_SpectrumDeskModel_bigDivide_121 : decode b_SpectrumDeskModel_bigDivide 121 = .ok (.invokevirtual 16, 3) := by decide +kernel
theorem d_SpectrumDeskModel_bigDivide_124 : decode b_SpectrumDeskModel_bigDivide 124 = .ok (.i2l, 1) := by decide +kernel
theorem d_SpectrumDeskModel_bigDivide_125 : decode b_SpectrumDeskModel_bigDivide 125 = .ok (.ladd, 1) := by decide +kernel
theorem d_SpectrumDeskModel_bigDivide_126 : decode b_SpectrumDeskModel_bigDivide 126 = .ok (.lstore 10, 2) := by decide +kernel
theorem d_SpectrumDeskModel_bigDivide_128 : decode b_SpectrumDeskModel_bigDivide 128 = .ok (.lload 10, 2) := by decide +kernel
theorem d_SpectrumDeskModel_bigDivide_130 : decode b_SpectrumDeskModel_bigDivide 130 = .ok (.lload 5, 2) := by decide +kernel
theorem d_SpectrumDeskModel_bigDivide_132 : decode b_SpectrumDeskModel_bigDivide 132 = .ok (.ldiv, 1) := by decide +kernel
theorem d_SpectrumDeskModel_bigDivide_133 : decode b_SpectrumDeskModel_bigDivide 133 = .ok (.lstore 12, 2) := by decide +kernel
theorem d_SpectrumDeskModel_bigDivide_135 : decode b_SpectrumDeskModel_bigDivide 135 = .ok (.lload 12, 2) := by decide +kernel
theorem d_SpectrumDeskModel_bigDivide_137 : decode b_SpectrumDeskModel_bigDivide 137 = .ok (.lconst 1, 1) := by decide +kernel
theorem d_SpectrumDeskModel_bigDivide_138 : decode b_SpectrumDeskModel_bigDivide 138 = .ok (.lcmp, 1) := by decide +kernel
theorem d_SpectrumDeskModel_bigDivide_139 : decode b_SpectrumDeskModel_bigDivide 139 = .ok (.ifCond .ge (7), 3) := by decide +kernel
theorem d_SpectrumDeskModel_bigDivide_142 : decode b_SpectrumDeskModel_bigDivide 142 = .ok (.lconst 1, 1) := by decide +kernel
theorem d_SpectrumDeskModel_bigDivide_143 : decode b_SpectrumDeskModel_bigDivide 143 = .ok (.goto (5), 3) := by decide +kernel
theorem d_SpectrumDeskModel_bigDivide_146 : decode b_SpectrumDeskModel_bigDivide 146 = .ok (.lload 12, 2) := by decide +kernel
theorem d_SpectrumDeskModel_bigDivide_148 : decode b_SpectrumDeskModel_bigDivide 148 = .ok (.lstore 12, 2) := by decide +kernel
theorem d_SpectrumDeskModel_bigDivide_150 : decode b_SpectrumDeskModel_bigDivide 150 = .ok (.aload_n 0, 1) := by decide +kernel
theorem d_SpectrumDeskModel_bigDivide_151 : decode b_SpectrumDeskModel_bigDivide 151 = .ok (.iload_n 1, 1) := by decide +kernel
theorem d_SpectrumDeskModel_bigDivide_152 : decode b_SpectrumDeskModel_bigDivide 152 = .ok (.iload_n 2, 1) := by decide +kernel
theorem d_SpectrumDeskModel_bigDivide_153 : decode b_SpectrumDeskModel_bigDivide 153 = .ok (.lload 12, 2) := by decide +kernel
theorem d_SpectrumDeskModel_bigDivide_155 : decode b_SpectrumDeskModel_bigDivide 155 = .ok (.iload 7, 2) := by decide +kernel
theorem d_SpectrumDeskModel_bigDivide_157 : decode b_SpectrumDeskModel_bigDivide 157 = .ok (.invokevirtual 42, 3) := by decide +kernel
theorem d_SpectrumDeskModel_bigDivide_160 : decode b_SpectrumDeskModel_bigDivide 160 = .ok (.lload 8, 2) := by decide +kernel
theorem d_SpectrumDeskModel_bigDivide_162 : decode b_SpectrumDeskModel_bigDivide 162 = .ok (.lload 12, 2) := by decide +kernel
theorem d_SpectrumDeskModel_bigDivide_164 : decode b_SpectrumDeskModel_bigDivide 164 = .ok (.ladd, 1) := by decide +kernel
theorem d_SpectrumDeskModel_bigDivide_165 : decode b_SpectrumDeskModel_bigDivide 165 = .ok (.lstore 8, 2) := by decide +kernel
theorem d_SpectrumDeskModel_bigDivide_167 : decode b_SpectrumDeskModel_bigDivide 167 = .ok (.goto (-89), 3) := by decide +kernel
theorem d_SpectrumDeskModel_bigDivide_170 : decode b_SpectrumDeskModel_bigDivide 170 = .ok (.aload_n 0, 1) := by decide +kernel
theorem d_SpectrumDeskModel_bigDivide_171 : decode b_SpectrumDeskModel_bigDivide 171 = .ok (.getfield 7, 3) := by decide +kernel
theorem d_SpectrumDeskModel_bigDivide_174 : decode b_SpectrumDeskModel_bigDivide 174 = .ok (.sipush (300), 3) := by decide +kernel
theorem d_SpectrumDeskModel_bigDivide_177 : decode b_SpectrumDeskModel_bigDivide 177 = .ok (.iload_n 3, 1) := by decide +kernel
theorem d_SpectrumDeskModel_bigDivide_178 : decode b_SpectrumDeskModel_bigDivide 178 = .ok (.imul, 1) := by decide +kernel
theorem d_SpectrumDeskModel_bigDivide_179 : decode b_SpectrumDeskModel_bigDivide 179 = .ok (.iload 7, 2) := by decide +kernel
theorem d_SpectrumDeskModel_bigDivide_181 : decode b_SpectrumDeskModel_bigDivide 181 = .ok (.iadd, 1) := by decide +kernel
theorem d_SpectrumDeskModel_bigDivide_182 : decode b_SpectrumDeskModel_bigDivide 182 = .ok (.lload 8, 2) := by decide +kernel
theorem d_SpectrumDeskModel_bigDivide_184 : decode b_SpectrumDeskModel_bigDivide 184 = .ok (.l2i, 1) := by decide +kernel
theorem d_SpectrumDeskModel_bigDivide_185 : decode b_SpectrumDeskModel_bigDivide 185 = .ok (.iastore, 1) := by decide +kernel
theorem d_SpectrumDeskModel_bigDivide_186 : decode b_SpectrumDeskModel_bigDivide 186 = .ok (.iinc 7 (-1), 3) := by decide +kernel
theorem d_SpectrumDeskModel_bigDivide_189 : decode b_SpectrumDeskModel_bigDivide 189 = .ok (.goto (-119), 3) := by decide +kernel
theorem d_SpectrumDeskModel_bigDivide_192 : decode b_SpectrumDeskModel_bigDivide 192 = .ok (.aload_n 0, 1) := by decide +kernel
theorem d_SpectrumDeskModel_bigDivide_193 : decode b_SpectrumDeskModel_bigDivide 193 = .ok (.iload_n 3, 1) := by decide +kernel
theorem d_SpectrumDeskModel_bigDivide_194 : decode b_SpectrumDeskModel_bigDivide 194 = .ok (.invokevirtual 21, 3) := by decide +kernel
theorem d_SpectrumDeskModel_bigDivide_197 : decode b_SpectrumDeskModel_bigDivide 197 = .ok (.return_, 1) := by decide +kernel
theorem k_0c7fae1a4d : (Jvm.Cond.methodLink "SpectrumDeskModel" (38 : Nat) ({ cls := "SpectrumDeskModel", name := "bigHolds", desc := "(III)Z" } : Jvm.MethodName)) ∈ AW := aw_5 (List.mem_of_getElem? (i := 143) (by decide +kernel)) (by decide +kernel)
theorem k_08700ac9f2 : (Jvm.Cond.instanceMethod ({ cls := "SpectrumDeskModel", name := "bigHolds", desc := "(III)Z" } : Jvm.MethodName)) ∈ AW := aw_5 (List.mem_of_getElem? (i := 145) (by decide +kernel)) (by decide +kernel)
theorem k_92a22ed530 : (Jvm.Cond.selects "SpectrumDeskModel" ({ cls := "SpectrumDeskModel", name := "bigHolds", desc := "(III)Z" } : Jvm.MethodName) ({ cls := "SpectrumDeskModel", name := "bigHolds", desc := "(III)Z" } : Jvm.MethodName)) ∈ AW := aw_p (by decide +kernel) (by decide +kernel)
theorem k_f6f3fa5a6e : (Jvm.Cond.methodLink "SpectrumDeskModel" (42 : Nat) ({ cls := "SpectrumDeskModel", name := "bigLose", desc := "(IIJI)V" } : Jvm.MethodName)) ∈ AW := aw_5 (List.mem_of_getElem? (i := 147) (by decide +kernel)) (by decide +kernel)
theorem k_326628eb00 : (Jvm.Cond.instanceMethod ({ cls := "SpectrumDeskModel", name := "bigLose", desc := "(IIJI)V" } : Jvm.MethodName)) ∈ AW := aw_5 (List.mem_of_getElem? (i := 149) (by decide +kernel)) (by decide +kernel)
theorem k_5d8c4480b0 : (Jvm.Cond.selects "SpectrumDeskModel" ({ cls := "SpectrumDeskModel", name := "bigLose", desc := "(IIJI)V" } : Jvm.MethodName) ({ cls := "SpectrumDeskModel", name := "bigLose", desc := "(IIJI)V" } : Jvm.MethodName)) ∈ AW := aw_p (by decide +kernel) (by decide +kernel)
theorem k_7cfb511d06 : (Jvm.Cond.code ({ cls := "SpectrumDeskModel", name := "bigDivide", desc := "(III)V" } : Jvm.MethodName) prog_10_method_15_code (14 : Nat) (Option.none : Option Jvm.ClassFile.FieldType)) ∈ AW := aw_5 (List.mem_of_getElem? (i := 142) (by decide +kernel)) (by decide +kernel)
set_option maxHeartbeats 4000000 in
set_option maxRecDepth 100000 in
theorem c_SpectrumDeskModel_bigDivide {l : Launch} {D : va_G} {cI cJ cZ cC cG cP : ClassId} {ad : Nat → Nat} {σ0 : Nat → va_E} {fs : List Value} {P L M : Nat → Int32} {Z : Nat → Int} {w u o : Nat} (hF : mF ad fs) (hB : RB P L M Z) (hw : w < 112) (hu : u < 112) (ho : o < 112) (huw : u ≠ w) (how : o ≠ w) (huo9 : u ≠ o) (hxb : rbd (Z w)) (hyb : rbd (Z u)) (hy9 : Z u ≠ 0) :
    Met l y_SpectrumDeskModel_bigDivide v_SpectrumDeskModel_bigDivide (xrm 2) (va_Pc [.ref (ad 183), .int (nI w), .int (nI u), .int (nI o)] (xS D classes (xT cI cJ cZ cC cG cP) 193 ad (rw3 σ0 ciM cI cZ fs P L M))) (va_Qv (RU σ0 cI cZ fs (va_up (va_up Z w (((Z w).natAbs : Int) % ((Z u).natAbs : Int))) o (((Z w).natAbs : Int) / ((Z u).natAbs : Int)))) (xS D classes (xT cI cJ cZ cC cG cP) 193 ad) (xA 193 ad)) 0 0 (xA 193 ad) := by
  obtain ⟨a, a1, hLw, hwo, hwt, hsw⟩ := hB w hw
  obtain ⟨b, b1, hLu, huo, hut, hsu⟩ := hB u hu
  have hra := rg_range hwo
  have hrb := rg_range huo
  have hXa : ((Z w).natAbs : Int) = rg P (300 * w) a := by omega
  have hYa : ((Z u).natAbs : Int) = rg P (300 * u) b := by omega
  have ha : a ≤ 299 := rb_len hwo hwt (show _ < rBB by have h1 : -rBB < Z w := hxb.1; have h2 : Z w < rBB := hxb.2; omega)
  have hb9 : b ≤ 299 := rb_len huo hut (show _ < rBB by have h1 : -rBB < Z u := hyb.1; have h2 : Z u < rBB := hyb.2; omega)
  have hY0 : 0 < rg P (300 * u) b := by omega
  obtain ⟨b0, rfl⟩ : ∃ b0, b = b0 + 1 := by
      rcases b with _ | b0
      · exact absurd hY0 (by simp [rg])
      · exact ⟨b0, rfl⟩
  refine xr_met rfl (Nat.le_of_ble_eq_true rfl) ?_
  intro p e s m args below meth c ls hx hb X hr hlk hl I
  have hl : lv_has ls 14 [(0, .ref (ad 183)), (1, .int (nI w)), (2, .int (nI u)), (3, .int (nI o))] := hl
  refine lv_aload_n hx hb d_SpectrumDeskModel_bigDivide_0 rfl (lv_at hl 0 rfl) ?_
  refine xr_get X I fin_M 183 (by decide) (r183 ..) rfl 2 (by decide) (List.mem_cons_of_mem _ k_7646d4378e) rfl (mF_minus hF) d_SpectrumDeskModel_bigDivide_1 ?_
  refine lv_iload_n hx hb d_SpectrumDeskModel_bigDivide_4 rfl (lv_at hl 1 rfl) ?_
  refine lv_iconst (v := nI 0) hx hb d_SpectrumDeskModel_bigDivide_5 (by decide) ?_
  refine xr_zast X I 186 2 (by decide) (r186 ..) rfl (by omega) (by decide) d_SpectrumDeskModel_bigDivide_6 (fun H locs I => ?_)
  rw [rw3_M, show vp_nar .boolean (nI 0) = 0 by decide] at I
  refine lv_aload_n hx hb d_SpectrumDeskModel_bigDivide_7 rfl (lv_at hl 0 rfl) ?_
  refine xr_get X I fin_M 183 (by decide) (r183 ..) rfl 2 (by decide) (List.mem_cons_of_mem _ k_7646d4378e) rfl (mF_minus hF) d_SpectrumDeskModel_bigDivide_8 ?_
  refine lv_iload_n hx hb d_SpectrumDeskModel_bigDivide_11 rfl (lv_at hl 3 rfl) ?_
  refine lv_iconst (v := nI 0) hx hb d_SpectrumDeskModel_bigDivide_12 (by decide) ?_
  refine xr_zast X I 186 2 (by decide) (r186 ..) rfl (by omega) (by decide) d_SpectrumDeskModel_bigDivide_13 (fun H locs I => ?_)
  rw [rw3_M, show vp_nar .boolean (nI 0) = 0 by decide] at I
  refine lv_aload_n hx hb d_SpectrumDeskModel_bigDivide_14 rfl (lv_at hl 0 rfl) ?_
  refine xr_get X I fin_M 183 (by decide) (r183 ..) rfl 1 (by decide) (List.mem_cons_of_mem _ k_4ae214c350) rfl (mF_lengths hF) d_SpectrumDeskModel_bigDivide_15 ?_
  refine lv_iload_n hx hb d_SpectrumDeskModel_bigDivide_18 rfl (lv_at hl 1 rfl) ?_
  refine xr_iald X I 185 0 (by decide) (r185 ..) rfl (by omega) (by decide) d_SpectrumDeskModel_bigDivide_19 ?_
  refine xr_topi (y := nI a) hLw ?_
  refine lv_aload_n hx hb d_SpectrumDeskModel_bigDivide_20 rfl (lv_at hl 0 rfl) ?_
  refine xr_get X I fin_M 183 (by decide) (r183 ..) rfl 1 (by decide) (List.mem_cons_of_mem _ k_4ae214c350) rfl (mF_lengths hF) d_SpectrumDeskModel_bigDivide_21 ?_
  refine lv_iload_n hx hb d_SpectrumDeskModel_bigDivide_24 rfl (lv_at hl 2 rfl) ?_
  refine xr_iald X I 185 0 (by decide) (r185 ..) rfl (by omega) (by decide) d_SpectrumDeskModel_bigDivide_25 ?_
  refine xr_topi (y := nI (b0 + 1)) hLu ?_
  by_cases hab : a < b0 + 1
  · refine lv_isub hx hb d_SpectrumDeskModel_bigDivide_26 ?_
    refine lv_topi (fun mv emv => ?_)
    have hmv : mv.toInt = (a : Int) - ((b0 + 1 : Nat) : Int) := by rw [emv, q_isub (by rw [nI_toInt (by omega), nI_toInt (by omega)]; omega) (by rw [nI_toInt (by omega), nI_toInt (by omega)]; omega), nI_toInt (by omega), nI_toInt (by omega)]
    have hmn : mv < 0 := Int32.lt_iff_toInt_lt.mpr (by rw [hmv, show (0 : Int32).toInt = 0 by decide]; omega)
    refine lv_istore (lv' := [(4, .int mv), (0, .ref (ad 183)), (1, .int (nI w)), (2, .int (nI u)), (3, .int (nI o))]) hx hb d_SpectrumDeskModel_bigDivide_27 hl (by decide) rfl (fun ls hl => ?_)
    refine lv_aload_n hx hb d_SpectrumDeskModel_bigDivide_29 rfl (lv_at hl 1 rfl) ?_
    refine xr_get X I fin_M 183 (by decide) (r183 ..) rfl 1 (by decide) (List.mem_cons_of_mem _ k_4ae214c350) rfl (mF_lengths hF) d_SpectrumDeskModel_bigDivide_30 ?_
    refine lv_iload_n hx hb d_SpectrumDeskModel_bigDivide_33 rfl (lv_at hl 4 rfl) ?_
    refine lv_iload hx hb d_SpectrumDeskModel_bigDivide_34 (lv_at hl 0 rfl) ?_
    refine lv_if_ge hx hb d_SpectrumDeskModel_bigDivide_36 rfl (fun hf => ?_) (fun hf => ?_)
    · exact absurd hmn (Int32.not_lt.mpr hf)
    · refine lv_iconst (v := nI 0) hx hb d_SpectrumDeskModel_bigDivide_39 (by decide) ?_
      refine lv_goto hx hb d_SpectrumDeskModel_bigDivide_40 rfl ?_
      refine xr_iast X I 185 0 (by decide) (r185 ..) rfl (by omega) (by decide) d_SpectrumDeskModel_bigDivide_47 (fun H locs I => ?_)
      rw [rw3_L] at I
      refine lv_aload_n hx hb d_SpectrumDeskModel_bigDivide_48 rfl (lv_at hl 1 rfl) ?_
      refine lv_iload_n hx hb d_SpectrumDeskModel_bigDivide_49 rfl (lv_at hl 3 rfl) ?_
      refine lv_aload_n hx hb d_SpectrumDeskModel_bigDivide_50 rfl (lv_at hl 1 rfl) ?_
      refine xr_get X I fin_M 183 (by decide) (r183 ..) rfl 1 (by decide) (List.mem_cons_of_mem _ k_4ae214c350) rfl (mF_lengths hF) d_SpectrumDeskModel_bigDivide_51 ?_
      refine lv_iload_n hx hb d_SpectrumDeskModel_bigDivide_54 rfl (lv_at hl 3 rfl) ?_
      refine xr_iald X I 185 0 (by decide) (r185 ..) rfl (by omega) (by decide) d_SpectrumDeskModel_bigDivide_55 ?_
      refine xr_topi (y := nI (b0 + 1)) ((upd_n huo9).trans hLu) ?_
      refine lv_iconst (v := nI 1) hx hb d_SpectrumDeskModel_bigDivide_56 (by decide) ?_
      refine lv_isub hx hb d_SpectrumDeskModel_bigDivide_57 (xr_topi (y := nI b0) (pk_sub (a := b0 + 1) (b := 1) (by omega)) ?_)
      refine xr_calli (xr_runV (kc := 0) (kr := 2) (n := 2) (As := [.int (nI u), .int (nI b0)]) (rest := []) X I (by decide) (r183 ..) rfl (c_SpectrumDeskModel_bigAt (P := P) (L := upd L o (nI 0)) (M := upd (upd M w 0) o 0) (n := b0 + 1) (i := b0) hF hu (by omega) (by omega) ((upd_n huo9).trans hLu)) (xg k_9795bdc343) (List.mem_cons_of_mem _ k_42414df306) (List.mem_cons_of_mem _ k_a35af8c930) (List.mem_cons_of_mem _ k_9a4475df0e) (List.mem_cons_of_mem _ k_30fa15c9ac) (by decide +kernel) (by decide) rfl hl.1 rfl (Nat.le_of_ble_eq_true rfl) d_SpectrumDeskModel_bigDivide_58) I (fun r1 σ1 H locs hp I => ?_)
      obtain ⟨hp1, rfl⟩ := hp
      obtain ⟨dd, dd1, rfl, dd3⟩ := dg_nat huo hp1
      rw [dg, if_pos (Nat.lt_succ_self _)] at dd3
      refine lv_i2l hx hb d_SpectrumDeskModel_bigDivide_61 (nI_l (by omega)) ?_
      refine lv_lconst (v := lN 1) hx hb d_SpectrumDeskModel_bigDivide_62 (by decide) ?_
      refine lv_ladd hx hb d_SpectrumDeskModel_bigDivide_63 ?_
      refine xr_topl (y := lN (dd + 1)) (lN_add dd 1) ?_
      refine lv_lstore (lv' := [(5, .long (lN (dd + 1))), (4, .int mv), (0, .ref (ad 183)), (1, .int (nI w)), (2, .int (nI u)), (3, .int (nI o))]) hx hb d_SpectrumDeskModel_bigDivide_64 hl (by decide) rfl (fun ls hl => ?_)
      refine lv_iload hx hb d_SpectrumDeskModel_bigDivide_66 (lv_at hl 1 rfl) ?_
      refine lv_istore (lv' := [(7, .int mv), (5, .long (lN (dd + 1))), (4, .int mv), (0, .ref (ad 183)), (1, .int (nI w)), (2, .int (nI u)), (3, .int (nI o))]) hx hb d_SpectrumDeskModel_bigDivide_68 hl (by decide) rfl (fun ls hl => ?_)
      refine lv_iload hx hb d_SpectrumDeskModel_bigDivide_70 (lv_at hl 0 rfl) ?_
      refine lv_if_lt hx hb d_SpectrumDeskModel_bigDivide_72 rfl (fun hg => ?_) (fun hg => ?_)
      · have hlt : rg P (300 * w) a < rg P (300 * u) (b0 + 1) := rg_lt_len hwo huo (by omega) hut
        have hok := hwo
        have ht := hwt
        have ha2 : a ≤ 300 := by omega
        have hval : rg P (300 * w) a = rg P (300 * w) a + rg P (300 * u) (b0 + 1) * rg P (300 * o) 0 := by simp [rg]
        have qok : rg_ok P (300 * o) 0 := fun j hj => absurd hj (Nat.not_lt_zero _)
        have hfr : ∀ j : Nat, (j < 300 * w ∨ 300 * w + 300 ≤ j) → (j < 300 * o ∨ 300 * o + 300 ≤ j) → P j = P j := fun _ _ _ => rfl
        have hL2w : upd L o (nI 0) w = nI a := (upd_n how.symm).trans hLw
        have hL2v : ∀ v, v ≠ o → v ≠ w → upd L o (nI 0) v = L v := fun v h _ => upd_n h
        refine lv_aload_n hx hb d_SpectrumDeskModel_bigDivide_192 rfl (lv_at hl 3 rfl) ?_
        refine lv_iload_n hx hb d_SpectrumDeskModel_bigDivide_193 rfl (lv_at hl 6 rfl) ?_
        refine xr_callv (xr_runV (kc := 0) (kr := 2) (n := 1) (As := [.int (nI o)]) (rest := []) X I (by decide) (r183 ..) rfl (c_SpectrumDeskModel_bigTrim (P := P) (L := upd L o (nI 0)) (M := upd (upd M w 0) o 0) (n := 0) hF ho (by omega) (upd_s)) (xg k_10a67c202b) (List.mem_cons_of_mem _ k_fdf1e9da4b) (List.mem_cons_of_mem _ k_72a5102e81) (List.mem_cons_of_mem _ k_90f9c60262) (List.mem_cons_of_mem _ k_30fa15c9ac) (by decide +kernel) (by decide) rfl hl.1 rfl (Nat.le_of_ble_eq_true rfl) d_SpectrumDeskModel_bigDivide_194) I (fun σ1 H locs hp I => ?_)
        obtain ⟨n2, t1, rfl, t2, t3⟩ := hp
        obtain ⟨q1, q2⟩ := quo_end hval (rg_range hok).1 hlt
        refine xr_vret X I hr hlk ⟨_, _, _, rfl, fun v hv => ?_⟩ d_SpectrumDeskModel_bigDivide_197
        rw [hXa, hYa, q1, q2]
        by_cases e1 : v = o
        · rw [e1, va_up_self]
          exact ⟨n2, by omega, upd_s, rg_ok_le qok t1, t3, Or.inl ⟨upd_s, t2.symm⟩⟩
        · rw [va_up_ne _ _ e1]
          by_cases e2 : v = w
          · rw [e2, va_up_self]
            exact ⟨_, Nat.le_trans ha2 (by omega), (upd_n how.symm).trans hL2w, hok, ht, Or.inl ⟨(upd_n how.symm).trans upd_s, rfl⟩⟩
          · rw [va_up_ne _ _ e2]
            exact rb_same (fun j h1 h2 => hfr j (by omega) (by omega)) ((upd_n e1).trans (hL2v v e1 e2)) ((upd_n e1).trans (upd_n e2)) (hB v hv)
      · exact absurd hmn hg
  · obtain ⟨mm, rfl⟩ : ∃ mm, a = mm + (b0 + 1) := ⟨a - (b0 + 1), by omega⟩
    refine lv_isub hx hb d_SpectrumDeskModel_bigDivide_26 ?_
    refine xr_topi (y := nI mm) (by rw [pk_sub (by omega), Nat.add_sub_cancel]) ?_
    refine lv_istore (lv' := [(4, .int (nI mm)), (0, .ref (ad 183)), (1, .int (nI w)), (2, .int (nI u)), (3, .int (nI o))]) hx hb d_SpectrumDeskModel_bigDivide_27 hl (by decide) rfl (fun ls hl => ?_)
    refine lv_aload_n hx hb d_SpectrumDeskModel_bigDivide_29 rfl (lv_at hl 1 rfl) ?_
    refine xr_get X I fin_M 183 (by decide) (r183 ..) rfl 1 (by decide) (List.mem_cons_of_mem _ k_4ae214c350) rfl (mF_lengths hF) d_SpectrumDeskModel_bigDivide_30 ?_
    refine lv_iload_n hx hb d_SpectrumDeskModel_bigDivide_33 rfl (lv_at hl 4 rfl) ?_
    refine lv_iload hx hb d_SpectrumDeskModel_bigDivide_34 (lv_at hl 0 rfl) ?_
    refine lv_if_ge hx hb d_SpectrumDeskModel_bigDivide_36 rfl (fun hf => ?_) (fun hf => ?_)
    · refine lv_iload hx hb d_SpectrumDeskModel_bigDivide_43 (lv_at hl 0 rfl) ?_
      refine lv_iconst (v := nI 1) hx hb d_SpectrumDeskModel_bigDivide_45 (by decide) ?_
      refine lv_iadd hx hb d_SpectrumDeskModel_bigDivide_46 (xr_topi (y := nI (mm + 1)) (nI_add mm 1) ?_)
      refine xr_iast X I 185 0 (by decide) (r185 ..) rfl (by omega) (by decide) d_SpectrumDeskModel_bigDivide_47 (fun H locs I => ?_)
      rw [rw3_L] at I
      refine lv_aload_n hx hb d_SpectrumDeskModel_bigDivide_48 rfl (lv_at hl 1 rfl) ?_
      refine lv_iload_n hx hb d_SpectrumDeskModel_bigDivide_49 rfl (lv_at hl 3 rfl) ?_
      refine lv_aload_n hx hb d_SpectrumDeskModel_bigDivide_50 rfl (lv_at hl 1 rfl) ?_
      refine xr_get X I fin_M 183 (by decide) (r183 ..) rfl 1 (by decide) (List.mem_cons_of_mem _ k_4ae214c350) rfl (mF_lengths hF) d_SpectrumDeskModel_bigDivide_51 ?_
      refine lv_iload_n hx hb d_SpectrumDeskModel_bigDivide_54 rfl (lv_at hl 3 rfl) ?_
      refine xr_iald X I 185 0 (by decide) (r185 ..) rfl (by omega) (by decide) d_SpectrumDeskModel_bigDivide_55 ?_
      refine xr_topi (y := nI (b0 + 1)) ((upd_n huo9).trans hLu) ?_
      refine lv_iconst (v := nI 1) hx hb d_SpectrumDeskModel_bigDivide_56 (by decide) ?_
      refine lv_isub hx hb d_SpectrumDeskModel_bigDivide_57 (xr_topi (y := nI b0) (pk_sub (a := b0 + 1) (b := 1) (by omega)) ?_)
      refine xr_calli (xr_runV (kc := 0) (kr := 2) (n := 2) (As := [.int (nI u), .int (nI b0)]) (rest := []) X I (by decide) (r183 ..) rfl (c_SpectrumDeskModel_bigAt (P := P) (L := upd L o (nI (mm + 1))) (M := upd (upd M w 0) o 0) (n := b0 + 1) (i := b0) hF hu (by omega) (by omega) ((upd_n huo9).trans hLu)) (xg k_9795bdc343) (List.mem_cons_of_mem _ k_42414df306) (List.mem_cons_of_mem _ k_a35af8c930) (List.mem_cons_of_mem _ k_9a4475df0e) (List.mem_cons_of_mem _ k_30fa15c9ac) (by decide +kernel) (by decide) rfl hl.1 rfl (Nat.le_of_ble_eq_true rfl) d_SpectrumDeskModel_bigDivide_58) I (fun r1 σ1 H locs hp I => ?_)
      obtain ⟨hp1, rfl⟩ := hp
      obtain ⟨dd, dd1, rfl, dd3⟩ := dg_nat huo hp1
      rw [dg, if_pos (Nat.lt_succ_self _)] at dd3
      refine lv_i2l hx hb d_SpectrumDeskModel_bigDivide_61 (nI_l (by omega)) ?_
      refine lv_lconst (v := lN 1) hx hb d_SpectrumDeskModel_bigDivide_62 (by decide) ?_
      refine lv_ladd hx hb d_SpectrumDeskModel_bigDivide_63 ?_
      refine xr_topl (y := lN (dd + 1)) (lN_add dd 1) ?_
      refine lv_lstore (lv' := [(5, .long (lN (dd + 1))), (4, .int (nI mm)), (0, .ref (ad 183)), (1, .int (nI w)), (2, .int (nI u)), (3, .int (nI o))]) hx hb d_SpectrumDeskModel_bigDivide_64 hl (by decide) rfl (fun ls hl => ?_)
      refine lv_iload hx hb d_SpectrumDeskModel_bigDivide_66 (lv_at hl 1 rfl) ?_
      refine lv_istore (lv' := [(7, .int (nI mm)), (5, .long (lN (dd + 1))), (4, .int (nI mm)), (0, .ref (ad 183)), (1, .int (nI w)), (2, .int (nI u)), (3, .int (nI o))]) hx hb d_SpectrumDeskModel_bigDivide_68 hl (by decide) rfl (fun ls hl => ?_)
      have hYt : rg P (300 * u) (b0 + 1) ≤ ((dd + 1 : Nat) : Int) * 16777216 ^ b0 := by have h := quo_top huo; rw [dd3] at h; simpa using h
      have outer : ∀ (k : Nat) (a2 : Nat) (P2 : Nat → Int32) (ls : Array Slot) (H : Heap) (locs : List Loc), k ≤ mm + 1 → rg P2 (300 * w) a2 ≤ rg P (300 * w) (mm + (b0 + 1)) → (∀ j, (j < 300 * w ∨ 300 * w + 300 ≤ j) → (j < 300 * o ∨ 300 * o + 300 ≤ j) → P2 j = P j) → rg_ok P2 (300 * w) a2 → (0 < a2 → P2 (300 * w + (a2 - 1)) ≠ 0) → rg P2 (300 * w) a2 < rg P (300 * u) (b0 + 1) * 16777216 ^ k → rg_ok P2 (300 * o + k) (mm + 1 - k) → rg P (300 * w) (mm + (b0 + 1)) = rg P2 (300 * w) a2 + rg P (300 * u) (b0 + 1) * (rg P2 (300 * o + k) (mm + 1 - k) * 16777216 ^ k) → lv_has ls 14 [(7, .int (nP k)), (5, .long (lN (dd + 1))), (0, .ref (ad 183)), (1, .int (nI w)), (2, .int (nI u)), (3, .int (nI o))] → xI D classes 193 ad s.heap (rw3 σ0 ciM cI cZ fs P2 (upd (upd L o (nI (mm + 1))) w (nI a2)) (upd (upd M w 0) o 0)) H locs → W p l e (xrm 2) s m args below meth c H locs 0 0 (MQ below (va_Qv (RU σ0 cI cZ fs (va_up (va_up Z w (((Z w).natAbs : Int) % ((Z u).natAbs : Int))) o (((Z w).natAbs : Int) / ((Z u).natAbs : Int)))) (xS D classes (xT cI cJ cZ cC cG cP) 193 ad) (xA 193 ad)) args s 0 0 (xA 193 ad)) (F0 m 70 ls []) := by
        intro k
        induction k with
        | zero =>
          intro a2 P2 ls H locs hkm hle9 hfr hok ht hlt9 qok hval9 hl I
          refine lv_iload hx hb d_SpectrumDeskModel_bigDivide_70 (lv_at hl 0 rfl) ?_
          refine lv_if_lt hx hb d_SpectrumDeskModel_bigDivide_72 rfl (fun hc => ?_) (fun hc => ?_)
          · have hlt : rg P2 (300 * w) a2 < rg P (300 * u) (b0 + 1) := by simpa using hlt9
            have ha2 : a2 ≤ 300 := by have h := quo_len hok ht (Int.lt_of_le_of_lt hle9 hra.2); omega
            have hval : rg P (300 * w) (mm + (b0 + 1)) = rg P2 (300 * w) a2 + rg P (300 * u) (b0 + 1) * rg P2 (300 * o) (mm + 1) := by simpa using hval9
            have hL2w : upd (upd L o (nI (mm + 1))) w (nI a2) w = nI a2 := upd_s
            have hL2v : ∀ v, v ≠ o → v ≠ w → upd (upd L o (nI (mm + 1))) w (nI a2) v = L v := fun v h1 h2 => (upd_n h2).trans (upd_n h1)
            refine lv_aload_n hx hb d_SpectrumDeskModel_bigDivide_192 rfl (lv_at hl 2 rfl) ?_
            refine lv_iload_n hx hb d_SpectrumDeskModel_bigDivide_193 rfl (lv_at hl 5 rfl) ?_
            refine xr_callv (xr_runV (kc := 0) (kr := 2) (n := 1) (As := [.int (nI o)]) (rest := []) X I (by decide) (r183 ..) rfl (c_SpectrumDeskModel_bigTrim (P := P2) (L := upd (upd L o (nI (mm + 1))) w (nI a2)) (M := upd (upd M w 0) o 0) (n := mm + 1) hF ho (by omega) ((upd_n how).trans upd_s)) (xg k_10a67c202b) (List.mem_cons_of_mem _ k_fdf1e9da4b) (List.mem_cons_of_mem _ k_72a5102e81) (List.mem_cons_of_mem _ k_90f9c60262) (List.mem_cons_of_mem _ k_30fa15c9ac) (by decide +kernel) (by decide) rfl hl.1 rfl (Nat.le_of_ble_eq_true rfl) d_SpectrumDeskModel_bigDivide_194) I (fun σ1 H locs hp I => ?_)
            obtain ⟨n2, t1, rfl, t2, t3⟩ := hp
            obtain ⟨q1, q2⟩ := quo_end hval (rg_range hok).1 hlt
            refine xr_vret X I hr hlk ⟨_, _, _, rfl, fun v hv => ?_⟩ d_SpectrumDeskModel_bigDivide_197
            rw [hXa, hYa, q1, q2]
            by_cases e1 : v = o
            · rw [e1, va_up_self]
              exact ⟨n2, by omega, upd_s, rg_ok_le qok t1, t3, Or.inl ⟨upd_s, t2.symm⟩⟩
            · rw [va_up_ne _ _ e1]
              by_cases e2 : v = w
              · rw [e2, va_up_self]
                exact ⟨_, Nat.le_trans ha2 (by omega), (upd_n how.symm).trans hL2w, hok, ht, Or.inl ⟨(upd_n how.symm).trans upd_s, rfl⟩⟩
              · rw [va_up_ne _ _ e2]
                exact rb_same (fun j h1 h2 => hfr j (by omega) (by omega)) ((upd_n e1).trans (hL2v v e1 e2)) ((upd_n e1).trans (upd_n e2)) (hB v hv)
          · exact absurd nP_0 hc
        | succ k ih =>
          intro a2 P2 ls H locs hkm hle9 hfr hok ht hlt9 qok hval9 hl I
          refine lv_iload hx hb d_SpectrumDeskModel_bigDivide_70 (lv_at hl 0 rfl) ?_
          refine xr_topi (y := nI k) (nP_succ k) ?_
          refine lv_if_lt hx hb d_SpectrumDeskModel_bigDivide_72 rfl (fun hc => ?_) (fun hc => ?_)
          · exact absurd hc (nI_pos (by omega))
          · refine lv_lconst (v := lN 0) hx hb d_SpectrumDeskModel_bigDivide_75 (by decide) ?_
            refine lv_lstore (lv' := [(8, .long (lN 0)), (7, .int (nP (k + 1))), (5, .long (lN (dd + 1))), (0, .ref (ad 183)), (1, .int (nI w)), (2, .int (nI u)), (3, .int (nI o))]) hx hb d_SpectrumDeskModel_bigDivide_76 hl (by decide) rfl (fun ls hl => ?_)
            have inner : ∀ (f : Nat) (al a3 : Nat) (P3 : Nat → Int32) (ls : Array Slot) (H : Heap) (locs : List Loc), 16777216 ≤ al + f → rg P3 (300 * w) a3 ≤ rg P (300 * w) (mm + (b0 + 1)) → (∀ j, (j < 300 * w ∨ 300 * w + 300 ≤ j) → (j < 300 * o ∨ 300 * o + 300 ≤ j) → P3 j = P j) → (∀ j, 300 * o ≤ j → j < 300 * o + 300 → P3 j = P2 j) → rg_ok P3 (300 * w) a3 → (0 < a3 → P3 (300 * w + (a3 - 1)) ≠ 0) → rg P3 (300 * w) a3 + rg P (300 * u) (b0 + 1) * ((al : Int) * 16777216 ^ k) = rg P2 (300 * w) a2 → lv_has ls 14 [(8, .long (lN al)), (7, .int (nP (k + 1))), (5, .long (lN (dd + 1))), (0, .ref (ad 183)), (1, .int (nI w)), (2, .int (nI u)), (3, .int (nI o))] → xI D classes 193 ad s.heap (rw3 σ0 ciM cI cZ fs P3 (upd (upd L o (nI (mm + 1))) w (nI a3)) (upd (upd M w 0) o 0)) H locs → W p l e (xrm 2) s m args below meth c H locs 0 0 (MQ below (va_Qv (RU σ0 cI cZ fs (va_up (va_up Z w (((Z w).natAbs : Int) % ((Z u).natAbs : Int))) o (((Z w).natAbs : Int) / ((Z u).natAbs : Int)))) (xS D classes (xT cI cJ cZ cC cG cP) 193 ad) (xA 193 ad)) args s 0 0 (xA 193 ad)) (F0 m 78 ls []) := by
              intro f
              induction f with
              | zero =>
                intro al a3 P3 ls H locs hk1 hk2 hk3 hko hk4 hk5 hk6 hl I
                have hBk := rg_B k
                have hal : (al : Int) < 16777216 := quo_small (Y := rg P (300 * u) (b0 + 1)) (Bk := 16777216 ^ k) (q := (al : Int)) (W := rg P2 (300 * w) a2) hY0 hBk (by have h := (rg_range hk4).1; rw [Int.mul_assoc]; omega) (by rw [← Int.pow_succ]; exact hlt9)
                omega
              | succ f jh =>
                intro al a3 P3 ls H locs hk1 hk2 hk3 hko hk4 hk5 hk6 hl I
                have hBk := rg_B k
                have hal : (al : Int) < 16777216 := quo_small (Y := rg P (300 * u) (b0 + 1)) (Bk := 16777216 ^ k) (q := (al : Int)) (W := rg P2 (300 * w) a2) hY0 hBk (by have h := (rg_range hk4).1; rw [Int.mul_assoc]; omega) (by rw [← Int.pow_succ]; exact hlt9)
                have ha3 := quo_len hk4 hk5 (Int.lt_of_le_of_lt hk2 hra.2)
                have hcu : ∀ j, j < b0 + 1 → P3 (300 * u + j) = P (300 * u + j) := fun j hj => hk3 _ (by omega) (by omega)
                have huo3 := rg_ok_congr hcu huo
                have hY3 := rg_congr hcu
                have hL3u : upd (upd L o (nI (mm + 1))) w (nI a3) u = nI (b0 + 1) := (upd_n huw).trans ((upd_n huo9).trans hLu)
                refine lv_aload_n hx hb d_SpectrumDeskModel_bigDivide_78 rfl (lv_at hl 3 rfl) ?_
                refine lv_iload_n hx hb d_SpectrumDeskModel_bigDivide_79 rfl (lv_at hl 4 rfl) ?_
                refine lv_iload_n hx hb d_SpectrumDeskModel_bigDivide_80 rfl (lv_at hl 5 rfl) ?_
                refine lv_iload hx hb d_SpectrumDeskModel_bigDivide_81 (lv_at hl 1 rfl) ?_
                refine xr_topi (y := nI k) (nP_succ k) ?_
                refine xr_calli (xr_runV (kc := 1) (kr := 2) (n := 3) (As := [.int (nI w), .int (nI u), .int (nI k)]) (rest := []) X I (by decide) (r183 ..) rfl (c_SpectrumDeskModel_bigHolds (P := P3) (L := upd (upd L o (nI (mm + 1))) w (nI a3)) (M := upd (upd M w 0) o 0) (a := a3) (b := b0 + 1) (up := k) hF hw hu huw (by omega) (by omega) upd_s hL3u hk4 huo3 hk5 (fun h => by rw [hcu _ (by omega)]; exact hut h) (by omega) (by omega)) (xg k_1601e1a340) (List.mem_cons_of_mem _ k_0c7fae1a4d) (List.mem_cons_of_mem _ k_08700ac9f2) (List.mem_cons_of_mem _ k_92a22ed530) (List.mem_cons_of_mem _ k_30fa15c9ac) (by decide +kernel) (by decide) rfl hl.1 rfl (Nat.le_of_ble_eq_true rfl) d_SpectrumDeskModel_bigDivide_83) I (fun r1 σ1 H locs hp I => ?_)
                obtain ⟨hp1, rfl⟩ := hp
                rw [hY3] at hp1
                refine lv_if_eq hx hb d_SpectrumDeskModel_bigDivide_86 rfl (fun hd => ?_) (fun hd => ?_)
                · have hT : ¬ rg P (300 * u) (b0 + 1) * 16777216 ^ k ≤ rg P3 (300 * w) a3 := fun h => by rw [hp1, if_pos h] at hd; exact absurd hd (by decide)
                  refine lv_aload_n hx hb d_SpectrumDeskModel_bigDivide_170 rfl (lv_at hl 3 rfl) ?_
                  refine xr_get X I fin_M 183 (by decide) (r183 ..) rfl 0 (by decide) (List.mem_cons_of_mem _ k_eae5455160) rfl (mF_parts hF) d_SpectrumDeskModel_bigDivide_171 ?_
                  refine lv_sipush (v := nI 300) hx hb d_SpectrumDeskModel_bigDivide_174 (by decide) ?_
                  refine lv_iload_n hx hb d_SpectrumDeskModel_bigDivide_177 rfl (lv_at hl 6 rfl) ?_
                  refine lv_imul hx hb d_SpectrumDeskModel_bigDivide_178 (xr_topi (y := nI (300 * o)) (pk_mul 300 o) ?_)
                  refine lv_iload hx hb d_SpectrumDeskModel_bigDivide_179 (lv_at hl 1 rfl) ?_
                  refine xr_topi (y := nI k) (nP_succ k) ?_
                  refine lv_iadd hx hb d_SpectrumDeskModel_bigDivide_181 (xr_topi (y := nI ((300 * o) + k)) (nI_add (300 * o) k) ?_)
                  refine lv_lload hx hb d_SpectrumDeskModel_bigDivide_182 (lv_at hl 0 rfl) ?_
                  refine lv_l2i hx hb d_SpectrumDeskModel_bigDivide_184 rfl ?_
                  refine xr_topi (y := nI al) (lN_i al) ?_
                  refine xr_iast X I 184 0 (by decide) (r184 ..) rfl (by omega) (by decide) d_SpectrumDeskModel_bigDivide_185 (fun H locs I => ?_)
                  rw [rw3_P] at I
                  refine lv_iinc (k := 1) (v := nP k) (lv' := [(7, .int (nP k)), (8, .long (lN al)), (5, .long (lN (dd + 1))), (0, .ref (ad 183)), (1, .int (nI w)), (2, .int (nI u)), (3, .int (nI o))]) hx hb d_SpectrumDeskModel_bigDivide_186 hl rfl (nP_dec k) (by decide) rfl (fun ls hl => ?_)
                  refine lv_goto hx hb d_SpectrumDeskModel_bigDivide_189 rfl ?_
                  have hl := lv_sub hl [0, 2, 3, 4, 5, 6] rfl
                  have hl : lv_has ls 14 [(7, .int (nP k)), (5, .long (lN (dd + 1))), (0, .ref (ad 183)), (1, .int (nI w)), (2, .int (nI u)), (3, .int (nI o))] := hl
                  have hw3 : ∀ j, j < a3 → upd P3 (300 * o + k) (nI al) (300 * w + j) = P3 (300 * w + j) := fun j hj => upd_n (by omega)
                  have ho3 : ∀ j, j < mm + 1 - (k + 1) → upd P3 (300 * o + k) (nI al) (300 * o + k + 1 + j) = P2 (300 * o + (k + 1) + j) := fun j hj => (upd_n (by omega)).trans (hko _ (by omega) (by omega))
                  have eN : mm + 1 - k = (mm + 1 - (k + 1)) + 1 := by omega
                  have eQ : rg (upd P3 (300 * o + k) (nI al)) (300 * o + k) (mm + 1 - k) = (al : Int) + rg P2 (300 * o + (k + 1)) (mm + 1 - (k + 1)) * 16777216 := by rw [eN, rg_cons, upd_s, nI_toInt (by omega), rg_congr ho3]
                  refine ih a3 (upd P3 (300 * o + k) (nI al)) ls H locs (by omega) (by rw [rg_congr hw3]; exact hk2) (fun j h1 h2 => (upd_n (by omega)).trans (hk3 j h1 h2)) (rg_ok_congr hw3 hk4) (fun h => by rw [hw3 _ (by omega)]; exact hk5 h) (by rw [rg_congr hw3]; omega) ?_ ?_ hl I
                  · intro j hj
                    by_cases ej : j = 0
                    · rw [ej, Nat.add_zero, upd_s, nI_toInt (by omega)]; omega
                    · have h := qok (j - 1) (by omega)
                      rw [← ho3 (j - 1) (by omega), show 300 * o + k + 1 + (j - 1) = 300 * o + k + j by omega] at h; exact h
                  · rw [eQ, rg_congr hw3, hval9, ← hk6, Int.pow_succ, Int.add_mul, Int.mul_add, Int.mul_assoc, Int.mul_comm (16777216 : Int) (16777216 ^ k), Int.add_assoc]
                · have hT : rg P (300 * u) (b0 + 1) * 16777216 ^ k ≤ rg P3 (300 * w) a3 := Decidable.by_contra fun h => hd (by rw [hp1, if_neg h]; rfl)
                  have hkn : b0 + 1 + k ≤ a3 := Nat.le_of_not_lt fun h => hold_lt hk4 huo3 (by omega) (by rw [hcu _ (by omega)]; exact hut (by omega)) h (by rw [hY3]; exact hT)
                  obtain ⟨n3, rfl⟩ : ∃ n3, a3 = k + n3 := ⟨a3 - k, by omega⟩
                  have hW9 : rg P3 (300 * w) (k + n3) < rg P (300 * u) (b0 + 1) * 16777216 ^ (k + 1) := by have h := Int.mul_nonneg (Int.le_of_lt hY0) (Int.mul_nonneg (Int.natCast_nonneg al) (Int.le_of_lt hBk)); omega
                  have hlen : k + n3 ≤ (k + b0) + 2 := quo_len hk4 hk5 (Int.lt_of_lt_of_le hW9 (by rw [show (k + b0) + 2 = (b0 + 1) + (k + 1) by omega, Int.pow_add (16777216 : Int) (b0 + 1) (k + 1)]; exact Int.mul_le_mul_of_nonneg_right (Int.le_of_lt hrb.2) (Int.le_of_lt (rg_B (k + 1)))))
                  have hhi := quo_high (i := k + b0) hk4 hlen
                  refine lv_aload_n hx hb d_SpectrumDeskModel_bigDivide_89 rfl (lv_at hl 3 rfl) ?_
                  refine lv_iload_n hx hb d_SpectrumDeskModel_bigDivide_90 rfl (lv_at hl 4 rfl) ?_
                  refine lv_iload hx hb d_SpectrumDeskModel_bigDivide_91 (lv_at hl 1 rfl) ?_
                  refine xr_topi (y := nI k) (nP_succ k) ?_
                  refine lv_aload_n hx hb d_SpectrumDeskModel_bigDivide_93 rfl (lv_at hl 3 rfl) ?_
                  refine xr_get X I fin_M 183 (by decide) (r183 ..) rfl 1 (by decide) (List.mem_cons_of_mem _ k_4ae214c350) rfl (mF_lengths hF) d_SpectrumDeskModel_bigDivide_94 ?_
                  refine lv_iload_n hx hb d_SpectrumDeskModel_bigDivide_97 rfl (lv_at hl 5 rfl) ?_
                  refine xr_iald X I 185 0 (by decide) (r185 ..) rfl (by omega) (by decide) d_SpectrumDeskModel_bigDivide_98 ?_
                  refine xr_topi (y := nI (b0 + 1)) hL3u ?_
                  refine lv_iadd hx hb d_SpectrumDeskModel_bigDivide_99 (xr_topi (y := nI (k + (b0 + 1))) (nI_add k (b0 + 1)) ?_)
                  refine xr_topi (y := nI (k + b0 + 1)) rfl ?_
                  refine xr_calli (xr_runV (kc := 0) (kr := 2) (n := 2) (As := [.int (nI w), .int (nI (k + b0 + 1))]) (rest := []) X I (by decide) (r183 ..) rfl (c_SpectrumDeskModel_bigAt (P := P3) (L := upd (upd L o (nI (mm + 1))) w (nI (k + n3))) (M := upd (upd M w 0) o 0) (n := k + n3) (i := k + b0 + 1) hF hw (by omega) (by omega) upd_s) (xg k_9795bdc343) (List.mem_cons_of_mem _ k_42414df306) (List.mem_cons_of_mem _ k_a35af8c930) (List.mem_cons_of_mem _ k_9a4475df0e) (List.mem_cons_of_mem _ k_30fa15c9ac) (by decide +kernel) (by decide) rfl hl.1 rfl (Nat.le_of_ble_eq_true rfl) d_SpectrumDeskModel_bigDivide_100) I (fun r2 σ1 H locs hp I => ?_)
                  obtain ⟨hp2, rfl⟩ := hp
                  obtain ⟨y1, y2, rfl, y3⟩ := dg_nat hk4 hp2
                  refine lv_i2l hx hb d_SpectrumDeskModel_bigDivide_103 (nI_l (by omega)) ?_
                  refine lv_ldc2 (v := 16777216) hx hb X.1.2.2.2.1 (X.1.2.2.2.2 _ (List.mem_cons_of_mem _ k_13c981ce9d)) d_SpectrumDeskModel_bigDivide_104 ?_
                  refine xr_topl (y := lN 16777216) (by decide +kernel) ?_
                  refine lv_lmul hx hb d_SpectrumDeskModel_bigDivide_107 ?_
                  refine xr_topl (y := lN (y1 * 16777216)) (lN_mul y1 16777216) ?_
                  refine lv_aload_n hx hb d_SpectrumDeskModel_bigDivide_108 rfl (lv_at hl 3 rfl) ?_
                  refine lv_iload_n hx hb d_SpectrumDeskModel_bigDivide_109 rfl (lv_at hl 4 rfl) ?_
                  refine lv_iload hx hb d_SpectrumDeskModel_bigDivide_110 (lv_at hl 1 rfl) ?_
                  refine xr_topi (y := nI k) (nP_succ k) ?_
                  refine lv_aload_n hx hb d_SpectrumDeskModel_bigDivide_112 rfl (lv_at hl 3 rfl) ?_
                  refine xr_get X I fin_M 183 (by decide) (r183 ..) rfl 1 (by decide) (List.mem_cons_of_mem _ k_4ae214c350) rfl (mF_lengths hF) d_SpectrumDeskModel_bigDivide_113 ?_
                  refine lv_iload_n hx hb d_SpectrumDeskModel_bigDivide_116 rfl (lv_at hl 5 rfl) ?_
                  refine xr_iald X I 185 0 (by decide) (r185 ..) rfl (by omega) (by decide) d_SpectrumDeskModel_bigDivide_117 ?_
                  refine xr_topi (y := nI (b0 + 1)) hL3u ?_
                  refine lv_iadd hx hb d_SpectrumDeskModel_bigDivide_118 (xr_topi (y := nI (k + (b0 + 1))) (nI_add k (b0 + 1)) ?_)
                  refine lv_iconst (v := nI 1) hx hb d_SpectrumDeskModel_bigDivide_119 (by decide) ?_
                  refine lv_isub hx hb d_SpectrumDeskModel_bigDivide_120 (xr_topi (y := nI (k + b0)) (pk_sub (a := k + (b0 + 1)) (b := 1) (by omega)) ?_)
                  refine xr_calli (xr_runV (kc := 0) (kr := 2) (n := 2) (As := [.int (nI w), .int (nI (k + b0))]) (rest := [.long (lN (y1 * 16777216))]) X I (by decide) (r183 ..) rfl (c_SpectrumDeskModel_bigAt (P := P3) (L := upd (upd L o (nI (mm + 1))) w (nI (k + n3))) (M := upd (upd M w 0) o 0) (n := k + n3) (i := k + b0) hF hw (by omega) (by omega) upd_s) (xg k_9795bdc343) (List.mem_cons_of_mem _ k_42414df306) (List.mem_cons_of_mem _ k_a35af8c930) (List.mem_cons_of_mem _ k_9a4475df0e) (List.mem_cons_of_mem _ k_30fa15c9ac) (by decide +kernel) (by decide) rfl hl.1 rfl (Nat.le_of_ble_eq_true rfl) d_SpectrumDeskModel_bigDivide_121) I (fun r3 σ1 H locs hp I => ?_)
                  obtain ⟨hp3, rfl⟩ := hp
                  obtain ⟨x1, x2, rfl, x3⟩ := dg_nat hk4 hp3
                  refine lv_i2l hx hb d_SpectrumDeskModel_bigDivide_124 (nI_l (by omega)) ?_
                  refine lv_ladd hx hb d_SpectrumDeskModel_bigDivide_125 ?_
                  refine xr_topl (y := lN (y1 * 16777216 + x1)) (lN_add _ _) ?_
                  refine lv_lstore (lv' := [(10, .long (lN (y1 * 16777216 + x1))), (8, .long (lN al)), (7, .int (nP (k + 1))), (5, .long (lN (dd + 1))), (0, .ref (ad 183)), (1, .int (nI w)), (2, .int (nI u)), (3, .int (nI o))]) hx hb d_SpectrumDeskModel_bigDivide_126 hl (by decide) rfl (fun ls hl => ?_)
                  refine lv_lload hx hb d_SpectrumDeskModel_bigDivide_128 (lv_at hl 0 rfl) ?_
                  refine lv_lload hx hb d_SpectrumDeskModel_bigDivide_130 (lv_at hl 3 rfl) ?_
                  refine lv_ldiv hx hb d_SpectrumDeskModel_bigDivide_132 (fun h => absurd ((q_lN0 (by omega)).mp h) (by omega)) ?_
                  refine xr_topl (y := lN ((y1 * 16777216 + x1) / (dd + 1))) (pk_lDiv (by omega) (by omega) (by omega)) ?_
                  obtain ⟨qq, hqq⟩ : ∃ qq, (y1 * 16777216 + x1) / (dd + 1) = qq := ⟨_, rfl⟩
                  rw [hqq]
                  have hqt : qq * (dd + 1) ≤ y1 * 16777216 + x1 := by rw [← hqq]; exact Nat.div_mul_le_self _ _
                  have hq1 : rg P (300 * u) (b0 + 1) * (qq : Int) * 16777216 ^ k ≤ rg P3 (300 * w) (k + n3) := quo_try (tp := ((dd + 1 : Nat) : Int)) (hi := ((y1 * 16777216 + x1 : Nat) : Int)) (by exact_mod_cast hqt) (Int.natCast_nonneg _) hBk (rg_B b0) hYt (by rw [show k + b0 = b0 + k from Nat.add_comm _ _, Int.pow_add] at hhi; rw [show k + b0 + 1 = b0 + k + 1 by omega] at y3; rw [show k + b0 = b0 + k by omega] at x3; rw [y3, x3] at hhi; simpa using hhi)
                  have hq2 : (qq : Int) < 16777216 := quo_small hY0 hBk hq1 (by rw [← Int.pow_succ]; exact hW9)
                  refine lv_lstore (lv' := [(12, .long (lN qq)), (10, .long (lN (y1 * 16777216 + x1))), (8, .long (lN al)), (7, .int (nP (k + 1))), (5, .long (lN (dd + 1))), (0, .ref (ad 183)), (1, .int (nI w)), (2, .int (nI u)), (3, .int (nI o))]) hx hb d_SpectrumDeskModel_bigDivide_133 hl (by decide) rfl (fun ls hl => ?_)
                  refine lv_lload hx hb d_SpectrumDeskModel_bigDivide_135 (lv_at hl 0 rfl) ?_
                  refine lv_lconst (v := 1) hx hb d_SpectrumDeskModel_bigDivide_137 (by decide) ?_
                  refine W.lcmp hx hb d_SpectrumDeskModel_bigDivide_138 ?_
                  refine lv_if_ge hx hb d_SpectrumDeskModel_bigDivide_139 rfl (fun hg => ?_) (fun hg => ?_)
                  · have hqg : 1 ≤ qq := (lN_le (by decide) (by omega)).mp ((lg_cmp_ge _ _).mp hg)
                    refine lv_lload hx hb d_SpectrumDeskModel_bigDivide_146 (lv_at hl 0 rfl) ?_
                    refine lv_lstore (lv' := [(12, .long (lN qq)), (10, .long (lN (y1 * 16777216 + x1))), (8, .long (lN al)), (7, .int (nP (k + 1))), (5, .long (lN (dd + 1))), (0, .ref (ad 183)), (1, .int (nI w)), (2, .int (nI u)), (3, .int (nI o))]) hx hb d_SpectrumDeskModel_bigDivide_148 hl (by decide) rfl (fun ls hl => ?_)
                    refine lv_aload_n hx hb d_SpectrumDeskModel_bigDivide_150 rfl (lv_at hl 5 rfl) ?_
                    refine lv_iload_n hx hb d_SpectrumDeskModel_bigDivide_151 rfl (lv_at hl 6 rfl) ?_
                    refine lv_iload_n hx hb d_SpectrumDeskModel_bigDivide_152 rfl (lv_at hl 7 rfl) ?_
                    refine lv_lload hx hb d_SpectrumDeskModel_bigDivide_153 (lv_at hl 0 rfl) ?_
                    refine lv_iload hx hb d_SpectrumDeskModel_bigDivide_155 (lv_at hl 3 rfl) ?_
                    refine xr_topi (y := nI k) (nP_succ k) ?_
                    refine xr_callv (xr_runV (kc := 1) (kr := 2) (n := 4) (As := [.int (nI w), .int (nI u), .long (lN qq), .int (nI k)]) (rest := []) X I (by decide) (r183 ..) rfl (c_SpectrumDeskModel_bigLose (P := P3) (L := upd (upd L o (nI (mm + 1))) w (nI (k + n3))) (M := upd (upd M w 0) o 0) (n := n3) (b := b0 + 1) (up := k) (t := qq) hF hw hu huw (by omega) (by omega) (by omega) upd_s hL3u hk4 huo3 (by rw [hY3]; exact hq1)) (xg k_7d22e87f20) (List.mem_cons_of_mem _ k_f6f3fa5a6e) (List.mem_cons_of_mem _ k_326628eb00) (List.mem_cons_of_mem _ k_5d8c4480b0) (List.mem_cons_of_mem _ k_30fa15c9ac) (by decide +kernel) (by decide) rfl hl.1 rfl (Nat.le_of_ble_eq_true rfl) d_SpectrumDeskModel_bigDivide_157) I (fun σ1 H locs hp I => ?_)
                    obtain ⟨P4, n4, rfl, z1, z2, z3, z4, z5⟩ := hp
                    rw [upd_upd] at I
                    rw [hY3] at z5
                    refine lv_lload hx hb d_SpectrumDeskModel_bigDivide_160 (lv_at hl 2 rfl) ?_
                    refine lv_lload hx hb d_SpectrumDeskModel_bigDivide_162 (lv_at hl 0 rfl) ?_
                    refine lv_ladd hx hb d_SpectrumDeskModel_bigDivide_164 ?_
                    refine xr_topl (y := lN (al + qq)) (lN_add al qq) ?_
                    refine lv_lstore (lv' := [(8, .long (lN (al + qq))), (12, .long (lN qq)), (10, .long (lN (y1 * 16777216 + x1))), (7, .int (nP (k + 1))), (5, .long (lN (dd + 1))), (0, .ref (ad 183)), (1, .int (nI w)), (2, .int (nI u)), (3, .int (nI o))]) hx hb d_SpectrumDeskModel_bigDivide_165 hl (by decide) rfl (fun ls hl => ?_)
                    refine lv_goto hx hb d_SpectrumDeskModel_bigDivide_167 rfl ?_
                    have hl := lv_sub hl [0, 3, 4, 5, 6, 7, 8] rfl
                    have hl : lv_has ls 14 [(8, .long (lN (al + qq))), (7, .int (nP (k + 1))), (5, .long (lN (dd + 1))), (0, .ref (ad 183)), (1, .int (nI w)), (2, .int (nI u)), (3, .int (nI o))] := hl
                    have hpos : 0 ≤ rg P (300 * u) (b0 + 1) * ((qq : Nat) : Int) * 16777216 ^ k := Int.mul_nonneg (Int.mul_nonneg (Int.le_of_lt hY0) (Int.natCast_nonneg _)) (Int.le_of_lt hBk)
                    exact jh (al + qq) n4 P4 ls H locs (by omega) (by omega) (fun j h1 h2 => (z2 j h1).trans (hk3 j h1 h2)) (fun j h1 h2 => (z2 j (by omega)).trans (hko j h1 h2)) z3 z4 (by rw [z5, ← hk6, Int.natCast_add, Int.add_mul, Int.mul_add, Int.mul_assoc]; omega) hl I
                  · refine lv_lconst (v := lN 1) hx hb d_SpectrumDeskModel_bigDivide_142 (by decide) ?_
                    refine lv_goto hx hb d_SpectrumDeskModel_bigDivide_143 rfl ?_
                    refine lv_lstore (lv' := [(12, .long (lN 1)), (10, .long (lN (y1 * 16777216 + x1))), (8, .long (lN al)), (7, .int (nP (k + 1))), (5, .long (lN (dd + 1))), (0, .ref (ad 183)), (1, .int (nI w)), (2, .int (nI u)), (3, .int (nI o))]) hx hb d_SpectrumDeskModel_bigDivide_148 hl (by decide) rfl (fun ls hl => ?_)
                    refine lv_aload_n hx hb d_SpectrumDeskModel_bigDivide_150 rfl (lv_at hl 5 rfl) ?_
                    refine lv_iload_n hx hb d_SpectrumDeskModel_bigDivide_151 rfl (lv_at hl 6 rfl) ?_
                    refine lv_iload_n hx hb d_SpectrumDeskModel_bigDivide_152 rfl (lv_at hl 7 rfl) ?_
                    refine lv_lload hx hb d_SpectrumDeskModel_bigDivide_153 (lv_at hl 0 rfl) ?_
                    refine lv_iload hx hb d_SpectrumDeskModel_bigDivide_155 (lv_at hl 3 rfl) ?_
                    refine xr_topi (y := nI k) (nP_succ k) ?_
                    refine xr_callv (xr_runV (kc := 1) (kr := 2) (n := 4) (As := [.int (nI w), .int (nI u), .long (lN 1), .int (nI k)]) (rest := []) X I (by decide) (r183 ..) rfl (c_SpectrumDeskModel_bigLose (P := P3) (L := upd (upd L o (nI (mm + 1))) w (nI (k + n3))) (M := upd (upd M w 0) o 0) (n := n3) (b := b0 + 1) (up := k) (t := 1) hF hw hu huw (by omega) (by omega) (by omega) upd_s hL3u hk4 huo3 (by rw [hY3]; simpa using hT)) (xg k_7d22e87f20) (List.mem_cons_of_mem _ k_f6f3fa5a6e) (List.mem_cons_of_mem _ k_326628eb00) (List.mem_cons_of_mem _ k_5d8c4480b0) (List.mem_cons_of_mem _ k_30fa15c9ac) (by decide +kernel) (by decide) rfl hl.1 rfl (Nat.le_of_ble_eq_true rfl) d_SpectrumDeskModel_bigDivide_157) I (fun σ1 H locs hp I => ?_)
                    obtain ⟨P4, n4, rfl, z1, z2, z3, z4, z5⟩ := hp
                    rw [upd_upd] at I
                    rw [hY3] at z5
                    refine lv_lload hx hb d_SpectrumDeskModel_bigDivide_160 (lv_at hl 2 rfl) ?_
                    refine lv_lload hx hb d_SpectrumDeskModel_bigDivide_162 (lv_at hl 0 rfl) ?_
                    refine lv_ladd hx hb d_SpectrumDeskModel_bigDivide_164 ?_
                    refine xr_topl (y := lN (al + 1)) (lN_add al 1) ?_
                    refine lv_lstore (lv' := [(8, .long (lN (al + 1))), (12, .long (lN 1)), (10, .long (lN (y1 * 16777216 + x1))), (7, .int (nP (k + 1))), (5, .long (lN (dd + 1))), (0, .ref (ad 183)), (1, .int (nI w)), (2, .int (nI u)), (3, .int (nI o))]) hx hb d_SpectrumDeskModel_bigDivide_165 hl (by decide) rfl (fun ls hl => ?_)
                    refine lv_goto hx hb d_SpectrumDeskModel_bigDivide_167 rfl ?_
                    have hl := lv_sub hl [0, 3, 4, 5, 6, 7, 8] rfl
                    have hl : lv_has ls 14 [(8, .long (lN (al + 1))), (7, .int (nP (k + 1))), (5, .long (lN (dd + 1))), (0, .ref (ad 183)), (1, .int (nI w)), (2, .int (nI u)), (3, .int (nI o))] := hl
                    have hpos : 0 ≤ rg P (300 * u) (b0 + 1) * ((1 : Nat) : Int) * 16777216 ^ k := Int.mul_nonneg (Int.mul_nonneg (Int.le_of_lt hY0) (Int.natCast_nonneg _)) (Int.le_of_lt hBk)
                    exact jh (al + 1) n4 P4 ls H locs (by omega) (by omega) (fun j h1 h2 => (z2 j h1).trans (hk3 j h1 h2)) (fun j h1 h2 => (z2 j (by omega)).trans (hko j h1 h2)) z3 z4 (by rw [z5, ← hk6, Int.natCast_add, Int.add_mul, Int.mul_add, Int.mul_assoc]; omega) hl I
            exact inner 16777216 0 a2 P2 ls _ _ (by omega) hle9 hfr (fun _ _ _ => rfl) hok ht (by simp) hl I
      have hl := lv_sub hl [0, 1, 3, 4, 5, 6] rfl
      have hl : lv_has ls 14 [(7, .int (nI mm)), (5, .long (lN (dd + 1))), (0, .ref (ad 183)), (1, .int (nI w)), (2, .int (nI u)), (3, .int (nI o))] := hl
      have hs9 : rg P (300 * w) (mm + (b0 + 1)) < rg P (300 * u) (b0 + 1) * 16777216 ^ (mm + 1) := Int.lt_of_lt_of_le hra.2 (by rw [show mm + (b0 + 1) = b0 + (mm + 1) by omega, Int.pow_add]; exact Int.mul_le_mul_of_nonneg_right (rg_top huo (by omega) (hut (by omega))) (Int.le_of_lt (rg_B (mm + 1))))
      exact outer (mm + 1) (mm + (b0 + 1)) P ls _ _ (Nat.le_refl _) (Int.le_refl _) (fun _ _ _ => rfl) hwo hwt hs9 (fun j hj => by omega) (by rw [Nat.sub_self]; simp [rg]) (by rw [nP_succ]; exact hl) (by rw [upd_same ((upd_n how.symm).trans hLw)]; exact I)
    · exact absurd (nI_pos' (by omega)) hf
