/-! Arrays.fill; SpectrumDesk$Limbs: copy, assign, widen (written by wip/gen) -/
abbrev b_Arrays_fill2 : ByteArray := prog_26_method_103_code
abbrev y_Arrays_fill2 : MethodName := ⟨"java/util/Arrays", "fill", "([II)V"⟩
abbrev v_Arrays_fill2 : List Cond := Cond.code y_Arrays_fill2 b_Arrays_fill2 4 none :: AW
theorem d_Arrays_fill2_0 : decode b_Arrays_fill2 0 = .ok (.iconst 0, 1) := by decide +kernel
theorem d_Arrays_fill2_1 : decode b_Arrays_fill2 1 = .ok (.istore_n 2, 1) := by decide +kernel
theorem d_Arrays_fill2_2 : decode b_Arrays_fill2 2 = .ok (.aload_n 0, 1) := by decide +kernel
theorem d_Arrays_fill2_3 : decode b_Arrays_fill2 3 = .ok (.arraylength, 1) := by decide +kernel
theorem d_Arrays_fill2_4 : decode b_Arrays_fill2 4 = .ok (.istore_n 3, 1) := by decide +kernel
theorem d_Arrays_fill2_5 : decode b_Arrays_fill2 5 = .ok (.iload_n 2, 1) := by decide +kernel
theorem d_Arrays_fill2_6 : decode b_Arrays_fill2 6 = .ok (.iload_n 3, 1) := by decide +kernel
theorem d_Arrays_fill2_7 : decode b_Arrays_fill2 7 = .ok (.if_icmp .ge (13), 3) := by decide +kernel
theorem d_Arrays_fill2_10 : decode b_Arrays_fill2 10 = .ok (.aload_n 0, 1) := by decide +kernel
theorem d_Arrays_fill2_11 : decode b_Arrays_fill2 11 = .ok (.iload_n 2, 1) := by decide +kernel
theorem d_Arrays_fill2_12 : decode b_Arrays_fill2 12 = .ok (.iload_n 1, 1) := by decide +kernel
theorem d_Arrays_fill2_13 : decode b_Arrays_fill2 13 = .ok (.iastore, 1) := by decide +kernel
theorem d_Arrays_fill2_14 : decode b_Arrays_fill2 14 = .ok (.iinc 2 (1), 3) := by decide +kernel
theorem d_Arrays_fill2_17 : decode b_Arrays_fill2 17 = .ok (.goto (-12), 3) := by decide +kernel
theorem d_Arrays_fill2_20 : decode b_Arrays_fill2 20 = .ok (.return_, 1) := by decide +kernel
abbrev b_Arrays_rangeCheck : ByteArray := prog_26_method_30_code
abbrev y_Arrays_rangeCheck : MethodName := ⟨"java/util/Arrays", "rangeCheck", "(III)V"⟩
abbrev v_Arrays_rangeCheck : List Cond := Cond.code y_Arrays_rangeCheck b_Arrays_rangeCheck 3 none :: AW
theorem d_Arrays_rangeCheck_0 : decode b_Arrays_rangeCheck 0 = .ok (.iload_n 1, 1) := by decide +kernel
theorem d_Arrays_rangeCheck_1 : decode b_Arrays_rangeCheck 1 = .ok (.iload_n 2, 1) := by decide +kernel
theorem d_Arrays_rangeCheck_2 : decode b_Arrays_rangeCheck 2 = .ok (.if_icmp .le (44), 3) := by decide +kernel
theorem d_Arrays_rangeCheck_5 : decode b_Arrays_rangeCheck 5 = .ok (.new 43, 3) := by decide +kernel
theorem d_Arrays_rangeCheck_8 : decode b_Arrays_rangeCheck 8 = .ok (.dup, 1) := by decide +kernel
theorem d_Arrays_rangeCheck_9 : decode b_Arrays_rangeCheck 9 = .ok (.new 45, 3) := by decide +kernel
theorem d_Arrays_rangeCheck_12 : decode b_Arrays_rangeCheck 12 = .ok (.dup, 1) := by decide +kernel
theorem d_Arrays_rangeCheck_13 : decode b_Arrays_rangeCheck 13 = .ok (.invokespecial 47, 3) := by decide +kernel
theorem d_Arrays_rangeCheck_16 : decode b_Arrays_rangeCheck 16 = .ok (.ldc 48, 2) := by decide +kernel
theorem d_Arrays_rangeCheck_18 : decode b_Arrays_rangeCheck 18 = .ok (.invokevirtual 50, 3) := by decide +kernel
theorem d_Arrays_rangeCheck_21 : decode b_Arrays_rangeCheck 21 = .ok (.iload_n 1, 1) := by decide +kernel
theorem d_Arrays_rangeCheck_22 : decode b_Arrays_rangeCheck 22 = .ok (.invokevirtual 54, 3) := by decide +kernel
theorem d_Arrays_rangeCheck_25 : decode b_Arrays_rangeCheck 25 = .ok (.ldc 57, 2) := by decide +kernel
theorem d_Arrays_rangeCheck_27 : decode b_Arrays_rangeCheck 27 = .ok (.invokevirtual 50, 3) := by decide +kernel
theorem d_Arrays_rangeCheck_30 : decode b_Arrays_rangeCheck 30 = .ok (.iload_n 2, 1) := by decide +kernel
theorem d_Arrays_rangeCheck_31 : decode b_Arrays_rangeCheck 31 = .ok (.invokevirtual 54, 3) := by decide +kernel
theorem d_Arrays_rangeCheck_34 : decode b_Arrays_rangeCheck 34 = .ok (.ldc 59, 2) := by decide +kernel
theorem d_Arrays_rangeCheck_36 : decode b_Arrays_rangeCheck 36 = .ok (.invokevirtual 50, 3) := by decide +kernel
theorem d_Arrays_rangeCheck_39 : decode b_Arrays_rangeCheck 39 = .ok (.invokevirtual 61, 3) := by decide +kernel
theorem d_Arrays_rangeCheck_42 : decode b_Arrays_rangeCheck 42 = .ok (.invokespecial 65, 3) := by decide +kernel
theorem d_Arrays_rangeCheck_45 : decode b_Arrays_rangeCheck 45 = .ok (.athrow, 1) := by decide +kernel
theorem d_Arrays_rangeCheck_46 : decode b_Arrays_rangeCheck 46 = .ok (.iload_n 1, 1) := by decide +kernel
theorem d_Arrays_rangeCheck_47 : decode b_Arrays_rangeCheck 47 = .ok (.ifCond .ge (12), 3) := by decide +kernel
theorem d_Arrays_rangeCheck_50 : decode b_Arrays_rangeCheck 50 = .ok (.new 68, 3) := by decide +kernel
theorem d_Arrays_rangeCheck_53 : decode b_Arrays_rangeCheck 53 = .ok (.dup, 1) := by decide +kernel
theorem d_Arrays_rangeCheck_54 : decode b_Arrays_rangeCheck 54 = .ok (.iload_n 1, 1) := by decide +kernel
theorem d_Arrays_rangeCheck_55 : decode b_Arrays_rangeCheck 55 = .ok (.invokespecial 70, 3) := by decide +kernel
theorem d_Arrays_rangeCheck_58 : decode b_Arrays_rangeCheck 58 = .ok (.athrow, 1) := by decide +kernel
theorem d_Arrays_rangeCheck_59 : decode b_Arrays_rangeCheck 59 = .ok (.iload_n 2, 1) := by decide +kernel
theorem d_Arrays_rangeCheck_60 : decode b_Arrays_rangeCheck 60 = .ok (.iload_n 0, 1) := by decide +kernel
theorem d_Arrays_rangeCheck_61 : decode b_Arrays_rangeCheck 61 = .ok (.if_icmp .le (12), 3) := by decide +kernel
theorem d_Arrays_rangeCheck_64 : decode b_Arrays_rangeCheck 64 = .ok (.new 68, 3) := by decide +kernel
theorem d_Arrays_rangeCheck_67 : decode b_Arrays_rangeCheck 67 = .ok (.dup, 1) := by decide +kernel
theorem d_Arrays_rangeCheck_68 : decode b_Arrays_rangeCheck 68 = .ok (.iload_n 2, 1) := by decide +kernel
theorem d_Arrays_rangeCheck_69 : decode b_Arrays_rangeCheck 69 = .ok (.invokespecial 70, 3) := by decide +kernel
theorem d_Arrays_rangeCheck_72 : decode b_Arrays_rangeCheck 72 = .ok (.athrow, 1) := by decide +kernel
theorem d_Arrays_rangeCheck_73 : decode b_Arrays_rangeCheck 73 = .ok (.return_, 1) := by decide +kernel
abbrev b_Arrays_fill4 : ByteArray := prog_26_method_104_code
abbrev y_Arrays_fill4 : MethodName := ⟨"java/util/Arrays", "fill", "([IIII)V"⟩
abbrev v_Arrays_fill4 : List Cond := Cond.code y_Arrays_fill4 b_Arrays_fill4 5 none :: AW
theorem d_Arrays_fill4_0 : decode b_Arrays_fill4 0 = .ok (.aload_n 0, 1) := by decide +kernel
theorem d_Arrays_fill4_1 : decode b_Arrays_fill4 1 = .ok (.arraylength, 1) := by decide +kernel
theorem d_Arrays_fill4_2 : decode b_Arrays_fill4 2 = .ok (.iload_n 1, 1) := by decide +kernel
theorem d_Arrays_fill4_3 : decode b_Arrays_fill4 3 = .ok (.iload_n 2, 1) := by decide +kernel
theorem d_Arrays_fill4_4 : decode b_Arrays_fill4 4 = .ok (.invokestatic 13, 3) := by decide +kernel
theorem d_Arrays_fill4_7 : decode b_Arrays_fill4 7 = .ok (.iload_n 1, 1) := by decide +kernel
theorem d_Arrays_fill4_8 : decode b_Arrays_fill4 8 = .ok (.istore 4, 2) := by decide +kernel
theorem d_Arrays_fill4_10 : decode b_Arrays_fill4 10 = .ok (.iload 4, 2) := by decide +kernel
theorem d_Arrays_fill4_12 : decode b_Arrays_fill4 12 = .ok (.iload_n 2, 1) := by decide +kernel
theorem d_Arrays_fill4_13 : decode b_Arrays_fill4 13 = .ok (.if_icmp .ge (14), 3) := by decide +kernel
theorem d_Arrays_fill4_16 : decode b_Arrays_fill4 16 = .ok (.aload_n 0, 1) := by decide +kernel
theorem d_Arrays_fill4_17 : decode b_Arrays_fill4 17 = .ok (.iload 4, 2) := by decide +kernel
theorem d_Arrays_fill4_19 : decode b_Arrays_fill4 19 = .ok (.iload_n 3, 1) := by decide +kernel
theorem d_Arrays_fill4_20 : decode b_Arrays_fill4 20 = .ok (.iastore, 1) := by decide +kernel
theorem d_Arrays_fill4_21 : decode b_Arrays_fill4 21 = .ok (.iinc 4 (1), 3) := by decide +kernel
theorem d_Arrays_fill4_24 : decode b_Arrays_fill4 24 = .ok (.goto (-14), 3) := by decide +kernel
theorem d_Arrays_fill4_27 : decode b_Arrays_fill4 27 = .ok (.return_, 1) := by decide +kernel
abbrev b_Limbs_copy : ByteArray := prog_4_method_3_code
abbrev y_Limbs_copy : MethodName := ⟨"SpectrumDesk$Limbs", "copy", "([I[II)V"⟩
abbrev v_Limbs_copy : List Cond := Cond.code y_Limbs_copy b_Limbs_copy 3 none :: AW
theorem d_Limbs_copy_0 : decode b_Limbs_copy 0 = .ok (.aload_n 1, 1) := by decide +kernel
theorem d_Limbs_copy_1 : decode b_Limbs_copy 1 = .ok (.iconst 0, 1) := by decide +kernel
theorem d_Limbs_copy_2 : decode b_Limbs_copy 2 = .ok (.aload_n 0, 1) := by decide +kernel
theorem d_Limbs_copy_3 : decode b_Limbs_copy 3 = .ok (.iconst 0, 1) := by decide +kernel
theorem d_Limbs_copy_4 : decode b_Limbs_copy 4 = .ok (.iload_n 2, 1) := by decide +kernel
theorem d_Limbs_copy_5 : decode b_Limbs_copy 5 = .ok (.invokestatic 16, 3) := by decide +kernel
theorem d_Limbs_copy_8 : decode b_Limbs_copy 8 = .ok (.return_, 1) := by decide +kernel
abbrev b_Limbs_assign : ByteArray := prog_4_method_2_code
abbrev y_Limbs_assign : MethodName := ⟨"SpectrumDesk$Limbs", "assign", "([II)V"⟩
abbrev v_Limbs_assign : List Cond := Cond.code y_Limbs_assign b_Limbs_assign 2 none :: AW
theorem d_Limbs_assign_0 : decode b_Limbs_assign 0 = .ok (.aload_n 0, 1) := by decide +kernel
theorem d_Limbs_assign_1 : decode b_Limbs_assign 1 = .ok (.iload_n 1, 1) := by decide +kernel
theorem d_Limbs_assign_2 : decode b_Limbs_assign 2 = .ok (.ifCond .ge (8), 3) := by decide +kernel
theorem d_Limbs_assign_5 : decode b_Limbs_assign 5 = .ok (.ldc 9, 2) := by decide +kernel
theorem d_Limbs_assign_7 : decode b_Limbs_assign 7 = .ok (.goto (4), 3) := by decide +kernel
theorem d_Limbs_assign_10 : decode b_Limbs_assign 10 = .ok (.iconst 0, 1) := by decide +kernel
theorem d_Limbs_assign_11 : decode b_Limbs_assign 11 = .ok (.invokestatic 10, 3) := by decide +kernel
theorem d_Limbs_assign_14 : decode b_Limbs_assign 14 = .ok (.aload_n 0, 1) := by decide +kernel
theorem d_Limbs_assign_15 : decode b_Limbs_assign 15 = .ok (.iconst 0, 1) := by decide +kernel
theorem d_Limbs_assign_16 : decode b_Limbs_assign 16 = .ok (.iload_n 1, 1) := by decide +kernel
theorem d_Limbs_assign_17 : decode b_Limbs_assign 17 = .ok (.ldc 9, 2) := by decide +kernel
theorem d_Limbs_assign_19 : decode b_Limbs_assign 19 = .ok (.iand, 1) := by decide +kernel
theorem d_Limbs_assign_20 : decode b_Limbs_assign 20 = .ok (.iastore, 1) := by decide +kernel
theorem d_Limbs_assign_21 : decode b_Limbs_assign 21 = .ok (.return_, 1) := by decide +kernel
abbrev b_Limbs_widen : ByteArray := prog_4_method_4_code
abbrev y_Limbs_widen : MethodName := ⟨"SpectrumDesk$Limbs", "widen", "([II[II)V"⟩
abbrev v_Limbs_widen : List Cond := Cond.code y_Limbs_widen b_Limbs_widen 5 none :: AW
theorem d_Limbs_widen_0 : decode b_Limbs_widen 0 = .ok (.iload_n 1, 1) := by decide +kernel
theorem d_Limbs_widen_1 : decode b_Limbs_widen 1 = .ok (.iload_n 3, 1) := by decide +kernel
theorem d_Limbs_widen_2 : decode b_Limbs_widen 2 = .ok (.invokestatic 22, 3) := by decide +kernel
theorem d_Limbs_widen_5 : decode b_Limbs_widen 5 = .ok (.istore 4, 2) := by decide +kernel
theorem d_Limbs_widen_7 : decode b_Limbs_widen 7 = .ok (.aload_n 2, 1) := by decide +kernel
theorem d_Limbs_widen_8 : decode b_Limbs_widen 8 = .ok (.iconst 0, 1) := by decide +kernel
theorem d_Limbs_widen_9 : decode b_Limbs_widen 9 = .ok (.aload_n 0, 1) := by decide +kernel
theorem d_Limbs_widen_10 : decode b_Limbs_widen 10 = .ok (.iconst 0, 1) := by decide +kernel
theorem d_Limbs_widen_11 : decode b_Limbs_widen 11 = .ok (.iload 4, 2) := by decide +kernel
theorem d_Limbs_widen_13 : decode b_Limbs_widen 13 = .ok (.invokestatic 16, 3) := by decide +kernel
theorem d_Limbs_widen_16 : decode b_Limbs_widen 16 = .ok (.iload_n 1, 1) := by decide +kernel
theorem d_Limbs_widen_17 : decode b_Limbs_widen 17 = .ok (.iload 4, 2) := by decide +kernel
theorem d_Limbs_widen_19 : decode b_Limbs_widen 19 = .ok (.if_icmp .le (27), 3) := by decide +kernel
theorem d_Limbs_widen_22 : decode b_Limbs_widen 22 = .ok (.aload_n 0, 1) := by decide +kernel
theorem d_Limbs_widen_23 : decode b_Limbs_widen 23 = .ok (.iload 4, 2) := by decide +kernel
theorem d_Limbs_widen_25 : decode b_Limbs_widen 25 = .ok (.iload_n 1, 1) := by decide +kernel
theorem d_Limbs_widen_26 : decode b_Limbs_widen 26 = .ok (.aload_n 2, 1) := by decide +kernel
theorem d_Limbs_widen_27 : decode b_Limbs_widen 27 = .ok (.iload 4, 2) := by decide +kernel
theorem d_Limbs_widen_29 : decode b_Limbs_widen 29 = .ok (.iconst 1, 1) := by decide +kernel
theorem d_Limbs_widen_30 : decode b_Limbs_widen 30 = .ok (.isub, 1) := by decide +kernel
theorem d_Limbs_widen_31 : decode b_Limbs_widen 31 = .ok (.iaload, 1) := by decide +kernel
theorem d_Limbs_widen_32 : decode b_Limbs_widen 32 = .ok (.ldc 28, 2) := by decide +kernel
theorem d_Limbs_widen_34 : decode b_Limbs_widen 34 = .ok (.if_icmp .lt (8), 3) := by decide +kernel
theorem d_Limbs_widen_37 : decode b_Limbs_widen 37 = .ok (.ldc 9, 2) := by decide +kernel
theorem d_Limbs_widen_39 : decode b_Limbs_widen 39 = .ok (.goto (4), 3) := by decide +kernel
theorem d_Limbs_widen_42 : decode b_Limbs_widen 42 = .ok (.iconst 0, 1) := by decide +kernel
theorem d_Limbs_widen_43 : decode b_Limbs_widen 43 = .ok (.invokestatic 29, 3) := by decide +kernel
theorem d_Limbs_widen_46 : decode b_Limbs_widen 46 = .ok (.return_, 1) := by decide +kernel
theorem k_ebd95465e3 : (Jvm.Cond.methodLink "java/util/Arrays" (13 : Nat) ({ cls := "java/util/Arrays", name := "rangeCheck", desc := "(III)V" } : Jvm.MethodName)) ∈ AW := aw_2 (List.mem_of_getElem? (i := 78) (by decide +kernel)) (by decide +kernel)
theorem k_e3e2c9b0c7 : (Jvm.Cond.static ({ cls := "java/util/Arrays", name := "rangeCheck", desc := "(III)V" } : Jvm.MethodName)) ∈ AW := aw_2 (List.mem_of_getElem? (i := 79) (by decide +kernel)) (by decide +kernel)
theorem k_9b51368402 : (Jvm.Cond.initialized "java/util/Arrays") ∈ AW := aw_1 (List.mem_of_getElem? (i := 6) (by decide +kernel)) (by decide +kernel)
theorem k_c20c33e3e4 : (Jvm.Cond.methodLink "SpectrumDesk$Limbs" (16 : Nat) ({ cls := "java/lang/System", name := "arraycopy", desc := "(Ljava/lang/Object;ILjava/lang/Object;II)V" } : Jvm.MethodName)) ∈ AW := aw_2 (List.mem_of_getElem? (i := 45) (by decide +kernel)) (by decide +kernel)
theorem k_44962a2e0f : (Jvm.Cond.native ({ cls := "java/lang/System", name := "arraycopy", desc := "(Ljava/lang/Object;ILjava/lang/Object;II)V" } : Jvm.MethodName)) ∈ AW := aw_2 (List.mem_of_getElem? (i := 47) (by decide +kernel)) (by decide +kernel)
theorem k_021bd90bb8 : (Jvm.Cond.static ({ cls := "java/lang/System", name := "arraycopy", desc := "(Ljava/lang/Object;ILjava/lang/Object;II)V" } : Jvm.MethodName)) ∈ AW := aw_2 (List.mem_of_getElem? (i := 46) (by decide +kernel)) (by decide +kernel)
theorem k_49263667dd : (Jvm.Cond.initialized "java/lang/System") ∈ AW := aw_1 (List.mem_of_getElem? (i := 17) (by decide +kernel)) (by decide +kernel)
theorem k_67a4a4651d : (Jvm.Cond.constant "SpectrumDesk$Limbs" (9 : Nat) (1073741823 : Int32)) ∈ AW := aw_1 (List.mem_of_getElem? (i := 97) (by decide +kernel)) (by decide +kernel)
theorem k_7cf9be04ba : (Jvm.Cond.methodLink "SpectrumDesk$Limbs" (10 : Nat) ({ cls := "java/util/Arrays", name := "fill", desc := "([II)V" } : Jvm.MethodName)) ∈ AW := aw_1 (List.mem_of_getElem? (i := 98) (by decide +kernel)) (by decide +kernel)
theorem k_09018f8637 : (Jvm.Cond.static ({ cls := "java/util/Arrays", name := "fill", desc := "([II)V" } : Jvm.MethodName)) ∈ AW := aw_1 (List.mem_of_getElem? (i := 99) (by decide +kernel)) (by decide +kernel)
theorem k_5bec20fa46 : (Jvm.Cond.methodLink "SpectrumDesk$Limbs" (22 : Nat) ({ cls := "java/lang/Math", name := "min", desc := "(II)I" } : Jvm.MethodName)) ∈ AW := aw_2 (List.mem_of_getElem? (i := 71) (by decide +kernel)) (by decide +kernel)
theorem k_23a513c1b6 : (Jvm.Cond.static ({ cls := "java/lang/Math", name := "min", desc := "(II)I" } : Jvm.MethodName)) ∈ AW := aw_2 (List.mem_of_getElem? (i := 72) (by decide +kernel)) (by decide +kernel)
theorem k_fb0a1f8118 : (Jvm.Cond.initialized "java/lang/Math") ∈ AW := aw_1 (List.mem_of_getElem? (i := 16) (by decide +kernel)) (by decide +kernel)
theorem k_85de21bb8a : (Jvm.Cond.code ({ cls := "java/lang/Math", name := "min", desc := "(II)I" } : Jvm.MethodName) prog_18_method_69_code (2 : Nat) (Option.some Jvm.ClassFile.FieldType.int)) ∈ AW := aw_2 (List.mem_of_getElem? (i := 73) (by decide +kernel)) (by decide +kernel)
theorem k_48132fbf34 : (Jvm.Cond.methodLink "SpectrumDesk$Limbs" (29 : Nat) ({ cls := "java/util/Arrays", name := "fill", desc := "([IIII)V" } : Jvm.MethodName)) ∈ AW := aw_2 (List.mem_of_getElem? (i := 75) (by decide +kernel)) (by decide +kernel)
theorem k_f06b3a4574 : (Jvm.Cond.static ({ cls := "java/util/Arrays", name := "fill", desc := "([IIII)V" } : Jvm.MethodName)) ∈ AW := aw_2 (List.mem_of_getElem? (i := 76) (by decide +kernel)) (by decide +kernel)
theorem k_fe7515a6f7 : (Jvm.Cond.code ({ cls := "java/util/Arrays", name := "fill", desc := "([II)V" } : Jvm.MethodName) prog_26_method_103_code (4 : Nat) (Option.none : Option Jvm.ClassFile.FieldType)) ∈ AW := aw_1 (List.mem_of_getElem? (i := 100) (by decide +kernel)) (by decide +kernel)
theorem k_181db102db : (Jvm.Cond.code ({ cls := "java/util/Arrays", name := "rangeCheck", desc := "(III)V" } : Jvm.MethodName) prog_26_method_30_code (3 : Nat) (Option.none : Option Jvm.ClassFile.FieldType)) ∈ AW := aw_2 (List.mem_of_getElem? (i := 80) (by decide +kernel)) (by decide +kernel)
theorem k_0d10cb0081 : (Jvm.Cond.code ({ cls := "java/util/Arrays", name := "fill", desc := "([IIII)V" } : Jvm.MethodName) prog_26_method_104_code (5 : Nat) (Option.none : Option Jvm.ClassFile.FieldType)) ∈ AW := aw_2 (List.mem_of_getElem? (i := 77) (by decide +kernel)) (by decide +kernel)
theorem k_a09a60a57c : (Jvm.Cond.code ({ cls := "SpectrumDesk$Limbs", name := "copy", desc := "([I[II)V" } : Jvm.MethodName) prog_4_method_3_code (3 : Nat) (Option.none : Option Jvm.ClassFile.FieldType)) ∈ AW := aw_2 (List.mem_of_getElem? (i := 44) (by decide +kernel)) (by decide +kernel)
theorem k_987c15d378 : (Jvm.Cond.code ({ cls := "SpectrumDesk$Limbs", name := "assign", desc := "([II)V" } : Jvm.MethodName) prog_4_method_2_code (2 : Nat) (Option.none : Option Jvm.ClassFile.FieldType)) ∈ AW := aw_1 (List.mem_of_getElem? (i := 96) (by decide +kernel)) (by decide +kernel)
theorem k_c2ea1ab362 : (Jvm.Cond.code ({ cls := "SpectrumDesk$Limbs", name := "widen", desc := "([II[II)V" } : Jvm.MethodName) prog_4_method_4_code (5 : Nat) (Option.none : Option Jvm.ClassFile.FieldType)) ∈ AW := aw_2 (List.mem_of_getElem? (i := 70) (by decide +kernel)) (by decide +kernel)
set_option maxHeartbeats 4000000 in
set_option maxRecDepth 100000 in
theorem c_Arrays_fill2 {l : Launch} {D : va_G} {cI cJ cZ cC cG cP : ClassId} {N : Nat} {ad : Nat → Nat} {σ : Nat → va_E} {a La : Nat} {f : Nat → Int32} {v : Int32} (hNa : a < N) (hσa : σ a = .inl (cI, La, .inl f)) (hLa : La < 2 ^ 31) :
    Met l y_Arrays_fill2 v_Arrays_fill2 (xrm 0) (va_Pc [.ref (ad a), .int v] (xS D classes (xT cI cJ cZ cC cG cP) N ad σ)) (va_Qv (fun σ2 => ∃ f' : Nat → Int32, σ2 = va_up σ a (.inl (cI, La, .inl f')) ∧ (∀ j, j < La → f' j = v) ∧ ∀ j, La ≤ j → f' j = f j) (xS D classes (xT cI cJ cZ cC cG cP) N ad) (xA N ad)) 0 0 (xA N ad) := by
  refine xr_met rfl (Nat.le_of_ble_eq_true rfl) ?_
  intro p e s m args below meth c ls hx hb X hr hlk hl I
  have hl : lv_has ls 4 [(0, .ref (ad a)), (1, .int v)] := hl
  refine lv_iconst (v := nI 0) hx hb d_Arrays_fill2_0 (by decide) ?_
  refine lv_istore_n (lv' := [(2, .int (nI 0)), (0, .ref (ad a)), (1, .int v)]) hx hb d_Arrays_fill2_1 rfl hl (by decide) rfl (fun ls hl => ?_)
  refine lv_aload_n hx hb d_Arrays_fill2_2 rfl (lv_at hl 1 rfl) ?_
  refine xr_alen X I a 0 hNa hσa rfl d_Arrays_fill2_3 ?_
  refine lv_istore_n (lv' := [(3, .int (nI La)), (2, .int (nI 0)), (0, .ref (ad a)), (1, .int v)]) hx hb d_Arrays_fill2_4 rfl hl (by decide) rfl (fun ls hl => ?_)
  have loop : ∀ (k : Nat) (i : Nat) (f' : Nat → Int32) (ls : Array Slot) (H : Heap) (locs : List Loc), i + k = La → (∀ j, j < i → f' j = v) → (∀ j, i ≤ j → f' j = f j) → lv_has ls 4 [(3, .int (nI La)), (2, .int (nI i)), (0, .ref (ad a)), (1, .int v)] → xI D classes N ad s.heap (va_up σ a (.inl (cI, La, .inl f'))) H locs → W p l e (xrm 0) s m args below meth c H locs 0 0 (MQ below (va_Qv (fun σ2 => ∃ f' : Nat → Int32, σ2 = va_up σ a (.inl (cI, La, .inl f')) ∧ (∀ j, j < La → f' j = v) ∧ ∀ j, La ≤ j → f' j = f j) (xS D classes (xT cI cJ cZ cC cG cP) N ad) (xA N ad)) args s 0 0 (xA N ad)) (F0 m 5 ls []) := by
    intro k
    induction k with
    | zero =>
      intro i f' ls H locs hk hlo hhi hl I
      obtain rfl : i = La := by omega
      refine lv_iload_n hx hb d_Arrays_fill2_5 rfl (lv_at hl 1 rfl) ?_
      refine lv_iload_n hx hb d_Arrays_fill2_6 rfl (lv_at hl 0 rfl) ?_
      refine lv_icmp_ge hx hb d_Arrays_fill2_7 rfl (fun hc => ?_) (fun hc => ?_)
      · exact xr_vret X I hr hlk ⟨f', rfl, hlo, hhi⟩ d_Arrays_fill2_20
      · exact absurd (nI_le (Nat.le_refl _) (by omega)) hc
    | succ k ih =>
      intro i f' ls H locs hk hlo hhi hl I
      refine lv_iload_n hx hb d_Arrays_fill2_5 rfl (lv_at hl 1 rfl) ?_
      refine lv_iload_n hx hb d_Arrays_fill2_6 rfl (lv_at hl 0 rfl) ?_
      refine lv_icmp_ge hx hb d_Arrays_fill2_7 rfl (fun hc => ?_) (fun hc => ?_)
      · exact absurd hc (nI_ge (by omega) (by omega))
      · refine lv_aload_n hx hb d_Arrays_fill2_10 rfl (lv_at hl 2 rfl) ?_
        refine lv_iload_n hx hb d_Arrays_fill2_11 rfl (lv_at hl 1 rfl) ?_
        refine lv_iload_n hx hb d_Arrays_fill2_12 rfl (lv_at hl 3 rfl) ?_
        refine xr_iast X I a 0 hNa (va_up_self _ _ _) rfl (by omega) hLa d_Arrays_fill2_13 (fun H locs I => ?_)
        rw [va_up_up] at I
        refine lv_iinc (k := 1) (v := nI (i + 1)) (lv' := [(2, .int (nI (i + 1))), (3, .int (nI La)), (0, .ref (ad a)), (1, .int v)]) hx hb d_Arrays_fill2_14 hl rfl (nI_1 i) (by decide) rfl (fun ls hl => ?_)
        refine lv_goto hx hb d_Arrays_fill2_17 rfl ?_
        have hl := lv_sub hl [1, 0, 2, 3] rfl
        have hl : lv_has ls 4 [(3, .int (nI La)), (2, .int (nI (i + 1))), (0, .ref (ad a)), (1, .int v)] := hl
        refine ih (i + 1) (upd f' i v) ls H locs (by omega) (fun j hj => ?_) (fun j hj => (upd_n (by omega)).trans (hhi j (by omega))) hl I
        by_cases ej : j = i
        · rw [ej, upd_s]
        · rw [upd_n ej]; exact hlo j (by omega)
  exact loop La 0 f ls _ _ (by omega) (fun j hj => absurd hj (Nat.not_lt_zero _)) (fun _ _ => rfl) hl (by rw [va_up_same hσa]; exact I)
set_option maxHeartbeats 4000000 in
set_option maxRecDepth 100000 in
theorem c_Arrays_rangeCheck {l : Launch} {D : va_G} {cI cJ cZ cC cG cP : ClassId} {N : Nat} {ad : Nat → Nat} {σ : Nat → va_E} {La fr to : Nat} (h1 : fr ≤ to) (h2 : to ≤ La) (hLa : La < 2 ^ 31) :
    Met l y_Arrays_rangeCheck v_Arrays_rangeCheck (xrm 0) (va_Pc [.int (nI La), .int (nI fr), .int (nI to)] (xS D classes (xT cI cJ cZ cC cG cP) N ad σ)) (va_Qv (fun σ2 => σ2 = σ) (xS D classes (xT cI cJ cZ cC cG cP) N ad) (xA N ad)) 0 0 (xA N ad) := by
  refine xr_met rfl (Nat.le_of_ble_eq_true rfl) ?_
  intro p e s m args below meth c ls hx hb X hr hlk hl I
  have hl : lv_has ls 3 [(0, .int (nI La)), (1, .int (nI fr)), (2, .int (nI to))] := hl
  refine lv_iload_n hx hb d_Arrays_rangeCheck_0 rfl (lv_at hl 1 rfl) ?_
  refine lv_iload_n hx hb d_Arrays_rangeCheck_1 rfl (lv_at hl 2 rfl) ?_
  refine lv_icmp_le hx hb d_Arrays_rangeCheck_2 rfl (fun hc => ?_) (fun hc => ?_)
  · refine lv_iload_n hx hb d_Arrays_rangeCheck_46 rfl (lv_at hl 1 rfl) ?_
    refine lv_if_ge hx hb d_Arrays_rangeCheck_47 rfl (fun hc => ?_) (fun hc => ?_)
    · refine lv_iload_n hx hb d_Arrays_rangeCheck_59 rfl (lv_at hl 2 rfl) ?_
      refine lv_iload_n hx hb d_Arrays_rangeCheck_60 rfl (lv_at hl 0 rfl) ?_
      refine lv_icmp_le hx hb d_Arrays_rangeCheck_61 rfl (fun hc => ?_) (fun hc => ?_)
      · exact xr_vret X I hr hlk rfl d_Arrays_rangeCheck_73
      · exact absurd (nI_le h2 (by omega)) hc
    · exact absurd (nI_pos' (by omega)) hc
  · exact absurd (nI_le h1 (by omega)) hc
set_option maxHeartbeats 4000000 in
set_option maxRecDepth 100000 in
theorem c_Arrays_fill4 {l : Launch} {D : va_G} {cI cJ cZ cC cG cP : ClassId} {N : Nat} {ad : Nat → Nat} {σ : Nat → va_E} {a La fr to : Nat} {f : Nat → Int32} {v : Int32} (hNa : a < N) (hσa : σ a = .inl (cI, La, .inl f)) (h1 : fr ≤ to) (h2 : to ≤ La) (hLa : La < 2 ^ 31) :
    Met l y_Arrays_fill4 v_Arrays_fill4 (xrm 1) (va_Pc [.ref (ad a), .int (nI fr), .int (nI to), .int v] (xS D classes (xT cI cJ cZ cC cG cP) N ad σ)) (va_Qv (fun σ2 => ∃ f' : Nat → Int32, σ2 = va_up σ a (.inl (cI, La, .inl f')) ∧ (∀ j, fr ≤ j → j < to → f' j = v) ∧ ∀ j, j < fr ∨ to ≤ j → f' j = f j) (xS D classes (xT cI cJ cZ cC cG cP) N ad) (xA N ad)) 0 0 (xA N ad) := by
  refine xr_met rfl (Nat.le_of_ble_eq_true rfl) ?_
  intro p e s m args below meth c ls hx hb X hr hlk hl I
  have hl : lv_has ls 5 [(0, .ref (ad a)), (1, .int (nI fr)), (2, .int (nI to)), (3, .int v)] := hl
  refine lv_aload_n hx hb d_Arrays_fill4_0 rfl (lv_at hl 0 rfl) ?_
  refine xr_alen X I a 0 hNa hσa rfl d_Arrays_fill4_1 ?_
  refine lv_iload_n hx hb d_Arrays_fill4_2 rfl (lv_at hl 1 rfl) ?_
  refine lv_iload_n hx hb d_Arrays_fill4_3 rfl (lv_at hl 2 rfl) ?_
  refine xr_callv (xr_runS (kc := 0) (kr := 1) (n := 3) (As := [.int (nI La), .int (nI fr), .int (nI to)]) (rest := []) X I (c_Arrays_rangeCheck (σ := σ) h1 h2 hLa) (xg k_181db102db) (List.mem_cons_of_mem _ k_ebd95465e3) (List.mem_cons_of_mem _ k_e3e2c9b0c7) (List.mem_cons_of_mem _ k_9b51368402) (by decide +kernel) (by decide) rfl hl.1 rfl (Nat.le_of_ble_eq_true rfl) d_Arrays_fill4_4) I (fun σ1 H locs hp I => ?_)
  rw [hp] at I
  refine lv_iload_n hx hb d_Arrays_fill4_7 rfl (lv_at hl 1 rfl) ?_
  refine lv_istore (lv' := [(4, .int (nI fr)), (0, .ref (ad a)), (1, .int (nI fr)), (2, .int (nI to)), (3, .int v)]) hx hb d_Arrays_fill4_8 hl (by decide) rfl (fun ls hl => ?_)
  have loop : ∀ (k : Nat) (i : Nat) (f' : Nat → Int32) (ls : Array Slot) (H : Heap) (locs : List Loc), i + k = to → fr ≤ i → (∀ j, fr ≤ j → j < i → f' j = v) → (∀ j, j < fr ∨ i ≤ j → f' j = f j) → lv_has ls 5 [(4, .int (nI i)), (0, .ref (ad a)), (1, .int (nI fr)), (2, .int (nI to)), (3, .int v)] → xI D classes N ad s.heap (va_up σ a (.inl (cI, La, .inl f'))) H locs → W p l e (xrm 1) s m args below meth c H locs 0 0 (MQ below (va_Qv (fun σ2 => ∃ f' : Nat → Int32, σ2 = va_up σ a (.inl (cI, La, .inl f')) ∧ (∀ j, fr ≤ j → j < to → f' j = v) ∧ ∀ j, j < fr ∨ to ≤ j → f' j = f j) (xS D classes (xT cI cJ cZ cC cG cP) N ad) (xA N ad)) args s 0 0 (xA N ad)) (F0 m 10 ls []) := by
    intro k
    induction k with
    | zero =>
      intro i f' ls H locs hk hfi hlo hhi hl I
      obtain rfl : i = to := by omega
      refine lv_iload hx hb d_Arrays_fill4_10 (lv_at hl 0 rfl) ?_
      refine lv_iload_n hx hb d_Arrays_fill4_12 rfl (lv_at hl 3 rfl) ?_
      refine lv_icmp_ge hx hb d_Arrays_fill4_13 rfl (fun hc => ?_) (fun hc => ?_)
      · exact xr_vret X I hr hlk ⟨f', rfl, hlo, hhi⟩ d_Arrays_fill4_27
      · exact absurd (nI_le (Nat.le_refl _) (by omega)) hc
    | succ k ih =>
      intro i f' ls H locs hk hfi hlo hhi hl I
      refine lv_iload hx hb d_Arrays_fill4_10 (lv_at hl 0 rfl) ?_
      refine lv_iload_n hx hb d_Arrays_fill4_12 rfl (lv_at hl 3 rfl) ?_
      refine lv_icmp_ge hx hb d_Arrays_fill4_13 rfl (fun hc => ?_) (fun hc => ?_)
      · exact absurd hc (nI_ge (by omega) (by omega))
      · refine lv_aload_n hx hb d_Arrays_fill4_16 rfl (lv_at hl 1 rfl) ?_
        refine lv_iload hx hb d_Arrays_fill4_17 (lv_at hl 0 rfl) ?_
        refine lv_iload_n hx hb d_Arrays_fill4_19 rfl (lv_at hl 4 rfl) ?_
        refine xr_iast X I a 0 hNa (va_up_self _ _ _) rfl (by omega) hLa d_Arrays_fill4_20 (fun H locs I => ?_)
        rw [va_up_up] at I
        refine lv_iinc (k := 0) (v := nI (i + 1)) (lv' := [(4, .int (nI (i + 1))), (0, .ref (ad a)), (1, .int (nI fr)), (2, .int (nI to)), (3, .int v)]) hx hb d_Arrays_fill4_21 hl rfl (nI_1 i) (by decide) rfl (fun ls hl => ?_)
        refine lv_goto hx hb d_Arrays_fill4_24 rfl ?_
        refine ih (i + 1) (upd f' i v) ls H locs (by omega) (by omega) (fun j h3 hj => ?_) (fun j hj => (upd_n (by omega)).trans (hhi j (by omega))) hl I
        by_cases ej : j = i
        · rw [ej, upd_s]
        · rw [upd_n ej]; exact hlo j h3 (by omega)
  exact loop (to - fr) fr f ls _ _ (by omega) (Nat.le_refl _) (fun j h3 hj => by omega) (fun _ _ => rfl) hl (by rw [va_up_same hσa]; exact I)
set_option maxHeartbeats 4000000 in
set_option maxRecDepth 100000 in
theorem c_Limbs_copy {l : Launch} {D : va_G} {cI cJ cZ cC cG cP : ClassId} {N : Nat} {ad : Nat → Nat} {σ : Nat → va_E} {a b La Lb n : Nat} {f g : Nat → Int32} (hNa : a < N) (hNb : b < N) (hσa : σ a = .inl (cI, La, .inl f)) (hσb : σ b = .inl (cI, Lb, .inl g)) (hn : n ≤ La) (hLa : La < 2 ^ 31) (hnb : n ≤ Lb) (hLb : Lb < 2 ^ 31) :
    Met l y_Limbs_copy v_Limbs_copy (xrm 1) (va_Pc [.ref (ad a), .ref (ad b), .int (nI n)] (xS D classes (xT cI cJ cZ cC cG cP) N ad σ)) (va_Qv (fun σ2 => σ2 = va_up σ a (.inl (cI, La, .inl (va_cpy g f 0 0 n)))) (xS D classes (xT cI cJ cZ cC cG cP) N ad) (xA N ad)) 0 0 (xA N ad) := by
  refine xr_met rfl (Nat.le_of_ble_eq_true rfl) ?_
  intro p e s m args below meth c ls hx hb X hr hlk hl I
  have hl : lv_has ls 3 [(0, .ref (ad a)), (1, .ref (ad b)), (2, .int (nI n))] := hl
  refine lv_aload_n hx hb d_Limbs_copy_0 rfl (lv_at hl 1 rfl) ?_
  refine lv_iconst (v := nI 0) hx hb d_Limbs_copy_1 (by decide) ?_
  refine lv_aload_n hx hb d_Limbs_copy_2 rfl (lv_at hl 0 rfl) ?_
  refine lv_iconst (v := nI 0) hx hb d_Limbs_copy_3 (by decide) ?_
  refine lv_iload_n hx hb d_Limbs_copy_4 rfl (lv_at hl 2 rfl) ?_
  refine xr_copy X I hl.1 (List.mem_cons_of_mem _ k_c20c33e3e4) (List.mem_cons_of_mem _ k_44962a2e0f) (List.mem_cons_of_mem _ k_021bd90bb8) (List.mem_cons_of_mem _ k_49263667dd) b a 0 hNb hNa hσb hσa rfl (by omega) (by omega) hLb hLa (by decide) (Nat.le_of_ble_eq_true rfl) d_Limbs_copy_5 (fun H locs I => ?_)
  exact xr_vret X I hr hlk rfl d_Limbs_copy_8
set_option maxHeartbeats 4000000 in
set_option maxRecDepth 100000 in
theorem c_Limbs_assign {l : Launch} {D : va_G} {cI cJ cZ cC cG cP : ClassId} {N : Nat} {ad : Nat → Nat} {σ : Nat → va_E} {a La : Nat} {f : Nat → Int32} {v : Int32} (hNa : a < N) (hσa : σ a = .inl (cI, La, .inl f)) (hL0 : 0 < La) (hLa : La < 2 ^ 31) (hv : -1073741824 ≤ v.toInt ∧ v.toInt < 1073741824) :
    Met l y_Limbs_assign v_Limbs_assign (xrm 1) (va_Pc [.ref (ad a), .int v] (xS D classes (xT cI cJ cZ cC cG cP) N ad σ)) (va_Qv (lm_up σ a cI La f La v.toInt) (xS D classes (xT cI cJ cZ cC cG cP) N ad) (xA N ad)) 0 0 (xA N ad) := by
  obtain ⟨k, rfl⟩ : ∃ k, La = k + 1 := ⟨La - 1, by omega⟩
  refine xr_met rfl (Nat.le_of_ble_eq_true rfl) ?_
  intro p e s m args below meth c ls hx hb X hr hlk hl I
  have hl : lv_has ls 2 [(0, .ref (ad a)), (1, .int v)] := hl
  refine lv_aload_n hx hb d_Limbs_assign_0 rfl (lv_at hl 0 rfl) ?_
  refine lv_iload_n hx hb d_Limbs_assign_1 rfl (lv_at hl 1 rfl) ?_
  refine lv_if_ge hx hb d_Limbs_assign_2 rfl (fun hc => ?_) (fun hc => ?_)
  · have h0 : 0 ≤ v.toInt := Int32.le_iff_toInt_le.mp hc
    refine lv_iconst (v := nI 0) hx hb d_Limbs_assign_10 (by decide) ?_
    refine xr_callv (xr_runS (kc := 0) (kr := 1) (n := 2) (As := [.ref (ad a), .int (nI 0)]) (rest := []) X I (c_Arrays_fill2 (σ := σ) (v := nI 0) hNa hσa hLa) (xg k_fe7515a6f7) (List.mem_cons_of_mem _ k_7cf9be04ba) (List.mem_cons_of_mem _ k_09018f8637) (List.mem_cons_of_mem _ k_9b51368402) (by decide +kernel) (by decide) rfl hl.1 rfl (Nat.le_of_ble_eq_true rfl) d_Limbs_assign_11) I (fun σ1 H locs hp I => ?_)
    obtain ⟨f', rfl, h1, h2⟩ := hp
    refine lv_aload_n hx hb d_Limbs_assign_14 rfl (lv_at hl 0 rfl) ?_
    refine lv_iconst (v := nI 0) hx hb d_Limbs_assign_15 (by decide) ?_
    refine lv_iload_n hx hb d_Limbs_assign_16 rfl (lv_at hl 1 rfl) ?_
    refine lv_ldc (v := nI 1073741823) hx hb X.1.2.2.2.1 (X.1.2.2.2.2 _ (List.mem_cons_of_mem _ k_67a4a4651d)) d_Limbs_assign_17 ?_
    refine lv_iand hx hb d_Limbs_assign_19 ?_
    refine lv_topi (fun q eq => ?_)
    refine xr_iast X I a 0 hNa (va_up_self _ _ _) rfl (by omega) hLa d_Limbs_assign_20 (fun H locs I => ?_)
    rw [va_up_up] at I
    have hq : q.toInt = v.toInt % 1073741824 := by rw [eq]; exact q_iand30 v
    exact xr_vret X I hr hlk ⟨_, rfl, fun j hj => (upd_n (by omega)).trans (h2 j hj), lm_assign hv (by rw [upd_s]; exact hq) (fun j j1 j2 => ⟨fun h => by omega, fun _ => by rw [upd_n (by omega), h1 j (by omega)]; rfl⟩)⟩ d_Limbs_assign_21
  · have h0 : v.toInt < 0 := (Int.lt_or_le v.toInt 0).elim id (fun h => absurd (Int32.le_iff_toInt_le.mpr (show (0 : Int32).toInt ≤ v.toInt from h)) hc)
    refine lv_ldc (v := nI 1073741823) hx hb X.1.2.2.2.1 (X.1.2.2.2.2 _ (List.mem_cons_of_mem _ k_67a4a4651d)) d_Limbs_assign_5 ?_
    refine lv_goto hx hb d_Limbs_assign_7 rfl ?_
    refine xr_callv (xr_runS (kc := 0) (kr := 1) (n := 2) (As := [.ref (ad a), .int (nI 1073741823)]) (rest := []) X I (c_Arrays_fill2 (σ := σ) (v := nI 1073741823) hNa hσa hLa) (xg k_fe7515a6f7) (List.mem_cons_of_mem _ k_7cf9be04ba) (List.mem_cons_of_mem _ k_09018f8637) (List.mem_cons_of_mem _ k_9b51368402) (by decide +kernel) (by decide) rfl hl.1 rfl (Nat.le_of_ble_eq_true rfl) d_Limbs_assign_11) I (fun σ1 H locs hp I => ?_)
    obtain ⟨f', rfl, h1, h2⟩ := hp
    refine lv_aload_n hx hb d_Limbs_assign_14 rfl (lv_at hl 0 rfl) ?_
    refine lv_iconst (v := nI 0) hx hb d_Limbs_assign_15 (by decide) ?_
    refine lv_iload_n hx hb d_Limbs_assign_16 rfl (lv_at hl 1 rfl) ?_
    refine lv_ldc (v := nI 1073741823) hx hb X.1.2.2.2.1 (X.1.2.2.2.2 _ (List.mem_cons_of_mem _ k_67a4a4651d)) d_Limbs_assign_17 ?_
    refine lv_iand hx hb d_Limbs_assign_19 ?_
    refine lv_topi (fun q eq => ?_)
    refine xr_iast X I a 0 hNa (va_up_self _ _ _) rfl (by omega) hLa d_Limbs_assign_20 (fun H locs I => ?_)
    rw [va_up_up] at I
    have hq : q.toInt = v.toInt % 1073741824 := by rw [eq]; exact q_iand30 v
    exact xr_vret X I hr hlk ⟨_, rfl, fun j hj => (upd_n (by omega)).trans (h2 j hj), lm_assign hv (by rw [upd_s]; exact hq) (fun j j1 j2 => ⟨fun _ => by rw [upd_n (by omega), h1 j (by omega)]; decide, fun h => by omega⟩)⟩ d_Limbs_assign_21
set_option maxHeartbeats 4000000 in
set_option maxRecDepth 100000 in
theorem c_Limbs_widen {l : Launch} {D : va_G} {cI cJ cZ cC cG cP : ClassId} {N : Nat} {ad : Nat → Nat} {σ : Nat → va_E} {a b La Lb n k : Nat} {f g : Nat → Int32} {x : Int} (hNa : a < N) (hNb : b < N) (hσa : σ a = .inl (cI, La, .inl f)) (hσb : σ b = .inl (cI, Lb, .inl g)) (hba : b ≠ a) (hk0 : 0 < k) (hn : n ≤ La) (hLa : La < 2 ^ 31) (hk : k ≤ Lb) (hLb : Lb < 2 ^ 31) (hx0 : lm_si g k x) :
    Met l y_Limbs_widen v_Limbs_widen (xrm 2) (va_Pc [.ref (ad a), .int (nI n), .ref (ad b), .int (nI k)] (xS D classes (xT cI cJ cZ cC cG cP) N ad σ)) (va_Qv (lm_up σ a cI La f n x) (xS D classes (xT cI cJ cZ cC cG cP) N ad) (xA N ad)) 0 0 (xA N ad) := by
  refine xr_met rfl (Nat.le_of_ble_eq_true rfl) ?_
  intro p e s m args below meth c ls hx hb X hr hlk hl I
  have hl : lv_has ls 5 [(0, .ref (ad a)), (1, .int (nI n)), (2, .ref (ad b)), (3, .int (nI k))] := hl
  refine lv_iload_n hx hb d_Limbs_widen_0 rfl (lv_at hl 1 rfl) ?_
  refine lv_iload_n hx hb d_Limbs_widen_1 rfl (lv_at hl 3 rfl) ?_
  refine xr_min X hl.1 (List.mem_cons_of_mem _ k_5bec20fa46) (List.mem_cons_of_mem _ k_23a513c1b6) (List.mem_cons_of_mem _ k_fb0a1f8118) (List.mem_cons_of_mem _ k_85de21bb8a) (by decide) (Nat.le_of_ble_eq_true rfl) (by decide) (by decide) (by omega) (by omega) d_Limbs_widen_2 ?_
  refine lv_istore (lv' := [(4, .int (nI (min n k))), (0, .ref (ad a)), (1, .int (nI n)), (2, .ref (ad b)), (3, .int (nI k))]) hx hb d_Limbs_widen_5 hl (by decide) rfl (fun ls hl => ?_)
  refine lv_aload_n hx hb d_Limbs_widen_7 rfl (lv_at hl 3 rfl) ?_
  refine lv_iconst (v := nI 0) hx hb d_Limbs_widen_8 (by decide) ?_
  refine lv_aload_n hx hb d_Limbs_widen_9 rfl (lv_at hl 1 rfl) ?_
  refine lv_iconst (v := nI 0) hx hb d_Limbs_widen_10 (by decide) ?_
  refine lv_iload hx hb d_Limbs_widen_11 (lv_at hl 0 rfl) ?_
  refine xr_copy X I hl.1 (List.mem_cons_of_mem _ k_c20c33e3e4) (List.mem_cons_of_mem _ k_44962a2e0f) (List.mem_cons_of_mem _ k_021bd90bb8) (List.mem_cons_of_mem _ k_49263667dd) b a 0 hNb hNa hσb hσa rfl (by omega) (by omega) hLb hLa (by decide) (Nat.le_of_ble_eq_true rfl) d_Limbs_widen_13 (fun H locs I => ?_)
  refine lv_iload_n hx hb d_Limbs_widen_16 rfl (lv_at hl 2 rfl) ?_
  refine lv_iload hx hb d_Limbs_widen_17 (lv_at hl 0 rfl) ?_
  refine lv_icmp_le hx hb d_Limbs_widen_19 rfl (fun hc => ?_) (fun hc => ?_)
  · have h := (nI_leI (by omega) (by omega)).mp hc
    have hnk : n ≤ k := by omega
    exact xr_vret X I hr hlk ⟨_, rfl, fun j hj => pk_cpy_out (by omega), lm_is_congr (fun j hj => by rw [pk_cpy_in (by omega) (by omega)]; simp) (lm_is_le hx0.1 hnk)⟩ d_Limbs_widen_46
  · have hkn : ¬ n ≤ min n k := fun h => hc (nI_le h (by omega))
    have hm : min n k = k := by omega
    obtain ⟨k0, rfl⟩ : ∃ k0, k = k0 + 1 := ⟨k - 1, by omega⟩
    rw [hm] at I hl
    have htop := lm_si_top hx0
    refine lv_aload_n hx hb d_Limbs_widen_22 rfl (lv_at hl 1 rfl) ?_
    refine lv_iload hx hb d_Limbs_widen_23 (lv_at hl 0 rfl) ?_
    refine lv_iload_n hx hb d_Limbs_widen_25 rfl (lv_at hl 2 rfl) ?_
    refine lv_aload_n hx hb d_Limbs_widen_26 rfl (lv_at hl 3 rfl) ?_
    refine lv_iload hx hb d_Limbs_widen_27 (lv_at hl 0 rfl) ?_
    refine lv_iconst (v := nI 1) hx hb d_Limbs_widen_29 (by decide) ?_
    refine lv_isub hx hb d_Limbs_widen_30 (xr_topi (y := nI k0) (pk_sub (a := k0 + 1) (b := 1) (by omega)) ?_)
    refine xr_iald X I b 0 hNb ((va_up_ne _ _ hba).trans hσb) rfl (by omega) hLb d_Limbs_widen_31 ?_
    refine lv_ldc (v := nI 536870912) hx hb X.1.2.2.2.1 (X.1.2.2.2.2 _ (List.mem_cons_of_mem _ k_660c696ae3)) d_Limbs_widen_32 ?_
    refine lv_icmp_lt hx hb d_Limbs_widen_34 rfl (fun hc2 => ?_) (fun hc2 => ?_)
    · have hp0 : 0 ≤ x := by have h2 := Int32.lt_iff_toInt_lt.mp hc2; rw [nI_toInt (by decide)] at h2; omega
      refine lv_iconst (v := nI 0) hx hb d_Limbs_widen_42 (by decide) ?_
      refine xr_callv (xr_runS (kc := 1) (kr := 2) (n := 4) (As := [.ref (ad a), .int (nI (k0 + 1)), .int (nI n), .int (nI 0)]) (rest := []) X I (c_Arrays_fill4 (v := nI 0) hNa (va_up_self _ _ _) (show k0 + 1 ≤ n by omega) hn hLa) (xg k_0d10cb0081) (List.mem_cons_of_mem _ k_48132fbf34) (List.mem_cons_of_mem _ k_f06b3a4574) (List.mem_cons_of_mem _ k_9b51368402) (by decide +kernel) (by decide) rfl hl.1 rfl (Nat.le_of_ble_eq_true rfl) d_Limbs_widen_43) I (fun σ1 H locs hp I => ?_)
      obtain ⟨f', rfl, h1, h2⟩ := hp
      rw [va_up_up] at I
      exact xr_vret X I hr hlk ⟨f', rfl, fun j hj => (h2 j (by omega)).trans (pk_cpy_out (by omega)), lm_widen hx0 (by omega) (fun j hj => (h2 j (by omega)).trans (by rw [pk_cpy_in (by omega) (by omega)]; simp)) (fun j j1 j2 => ⟨fun h => by omega, fun _ => by rw [h1 j j1 j2]; rfl⟩)⟩ d_Limbs_widen_46
    · have hn0 : x < 0 := htop.mp (by have := Int32.le_iff_toInt_le.mp (Int32.not_lt.mp hc2); rw [nI_toInt (by decide)] at this; omega)
      refine lv_ldc (v := nI 1073741823) hx hb X.1.2.2.2.1 (X.1.2.2.2.2 _ (List.mem_cons_of_mem _ k_67a4a4651d)) d_Limbs_widen_37 ?_
      refine lv_goto hx hb d_Limbs_widen_39 rfl ?_
      refine xr_callv (xr_runS (kc := 1) (kr := 2) (n := 4) (As := [.ref (ad a), .int (nI (k0 + 1)), .int (nI n), .int (nI 1073741823)]) (rest := []) X I (c_Arrays_fill4 (v := nI 1073741823) hNa (va_up_self _ _ _) (show k0 + 1 ≤ n by omega) hn hLa) (xg k_0d10cb0081) (List.mem_cons_of_mem _ k_48132fbf34) (List.mem_cons_of_mem _ k_f06b3a4574) (List.mem_cons_of_mem _ k_9b51368402) (by decide +kernel) (by decide) rfl hl.1 rfl (Nat.le_of_ble_eq_true rfl) d_Limbs_widen_43) I (fun σ1 H locs hp I => ?_)
      obtain ⟨f', rfl, h1, h2⟩ := hp
      rw [va_up_up] at I
      exact xr_vret X I hr hlk ⟨f', rfl, fun j hj => (h2 j (by omega)).trans (pk_cpy_out (by omega)), lm_widen hx0 (by omega) (fun j hj => (h2 j (by omega)).trans (by rw [pk_cpy_in (by omega) (by omega)]; simp)) (fun j j1 j2 => ⟨fun _ => by rw [h1 j j1 j2]; decide, fun h => by omega⟩)⟩ d_Limbs_widen_46
