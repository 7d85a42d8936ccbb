/-! SpectrumDesk: characteristic, count, multiplicity, apart (written by wip/gen) -/
abbrev b_SpectrumDesk_characteristic : ByteArray := prog_1_method_9_code
abbrev y_SpectrumDesk_characteristic : MethodName := ⟨"SpectrumDesk", "characteristic", "(I)I"⟩
abbrev v_SpectrumDesk_characteristic : List Cond := Cond.code y_SpectrumDesk_characteristic b_SpectrumDesk_characteristic 2 (some .int) :: AW
theorem d_SpectrumDesk_characteristic_0 : decode b_SpectrumDesk_characteristic 0 = .ok (.iload_n 1, 1) := by decide +kernel
theorem d_SpectrumDesk_characteristic_1 : decode b_SpectrumDesk_characteristic 1 = .ok (.ifCond .lt (11), 3) := by decide +kernel
theorem d_SpectrumDesk_characteristic_4 : decode b_SpectrumDesk_characteristic 4 = .ok (.iload_n 1, 1) := by decide +kernel
theorem d_SpectrumDesk_characteristic_5 : decode b_SpectrumDesk_characteristic 5 = .ok (.aload_n 0, 1) := by decide +kernel
theorem d_SpectrumDesk_characteristic_6 : decode b_SpectrumDesk_characteristic 6 = .ok (.getfield 39, 3) := by decide +kernel
theorem d_SpectrumDesk_characteristic_9 : decode b_SpectrumDesk_characteristic 9 = .ok (.if_icmp .le (5), 3) := by decide +kernel
theorem d_SpectrumDesk_characteristic_12 : decode b_SpectrumDesk_characteristic 12 = .ok (.iconst (-1), 1) := by decide +kernel
theorem d_SpectrumDesk_characteristic_13 : decode b_SpectrumDesk_characteristic 13 = .ok (.ireturn, 1) := by decide +kernel
theorem d_SpectrumDesk_characteristic_14 : decode b_SpectrumDesk_characteristic 14 = .ok (.aload_n 0, 1) := by decide +kernel
theorem d_SpectrumDesk_characteristic_15 : decode b_SpectrumDesk_characteristic 15 = .ok (.getfield 35, 3) := by decide +kernel
theorem d_SpectrumDesk_characteristic_18 : decode b_SpectrumDesk_characteristic 18 = .ok (.aload_n 0, 1) := by decide +kernel
theorem d_SpectrumDesk_characteristic_19 : decode b_SpectrumDesk_characteristic 19 = .ok (.invokevirtual 92, 3) := by decide +kernel
theorem d_SpectrumDesk_characteristic_22 : decode b_SpectrumDesk_characteristic 22 = .ok (.getfield 96, 3) := by decide +kernel
theorem d_SpectrumDesk_characteristic_25 : decode b_SpectrumDesk_characteristic 25 = .ok (.aload_n 0, 1) := by decide +kernel
theorem d_SpectrumDesk_characteristic_26 : decode b_SpectrumDesk_characteristic 26 = .ok (.getfield 39, 3) := by decide +kernel
theorem d_SpectrumDesk_characteristic_29 : decode b_SpectrumDesk_characteristic 29 = .ok (.aaload, 1) := by decide +kernel
theorem d_SpectrumDesk_characteristic_30 : decode b_SpectrumDesk_characteristic 30 = .ok (.getfield 100, 3) := by decide +kernel
theorem d_SpectrumDesk_characteristic_33 : decode b_SpectrumDesk_characteristic 33 = .ok (.iload_n 1, 1) := by decide +kernel
theorem d_SpectrumDesk_characteristic_34 : decode b_SpectrumDesk_characteristic 34 = .ok (.aaload, 1) := by decide +kernel
theorem d_SpectrumDesk_characteristic_35 : decode b_SpectrumDesk_characteristic 35 = .ok (.invokevirtual 105, 3) := by decide +kernel
theorem d_SpectrumDesk_characteristic_38 : decode b_SpectrumDesk_characteristic 38 = .ok (.aload_n 0, 1) := by decide +kernel
theorem d_SpectrumDesk_characteristic_39 : decode b_SpectrumDesk_characteristic 39 = .ok (.getfield 35, 3) := by decide +kernel
theorem d_SpectrumDesk_characteristic_42 : decode b_SpectrumDesk_characteristic 42 = .ok (.getfield 109, 3) := by decide +kernel
theorem d_SpectrumDesk_characteristic_45 : decode b_SpectrumDesk_characteristic 45 = .ok (.ireturn, 1) := by decide +kernel
abbrev b_SpectrumDesk_count : ByteArray := prog_1_method_11_code
abbrev y_SpectrumDesk_count : MethodName := ⟨"SpectrumDesk", "count", "(IJJI)I"⟩
abbrev v_SpectrumDesk_count : List Cond := Cond.code y_SpectrumDesk_count b_SpectrumDesk_count 8 (some .int) :: AW
theorem d_SpectrumDesk_count_0 : decode b_SpectrumDesk_count 0 = .ok (.iload_n 1, 1) := by decide +kernel
theorem d_SpectrumDesk_count_1 : decode b_SpectrumDesk_count 1 = .ok (.iconst 1, 1) := by decide +kernel
theorem d_SpectrumDesk_count_2 : decode b_SpectrumDesk_count 2 = .ok (.if_icmp .lt (11), 3) := by decide +kernel
theorem d_SpectrumDesk_count_5 : decode b_SpectrumDesk_count 5 = .ok (.iload_n 1, 1) := by decide +kernel
theorem d_SpectrumDesk_count_6 : decode b_SpectrumDesk_count 6 = .ok (.aload_n 0, 1) := by decide +kernel
theorem d_SpectrumDesk_count_7 : decode b_SpectrumDesk_count 7 = .ok (.getfield 39, 3) := by decide +kernel
theorem d_SpectrumDesk_count_10 : decode b_SpectrumDesk_count 10 = .ok (.if_icmp .le (13), 3) := by decide +kernel
theorem d_SpectrumDesk_count_13 : decode b_SpectrumDesk_count 13 = .ok (.new 47, 3) := by decide +kernel
theorem d_SpectrumDesk_count_16 : decode b_SpectrumDesk_count 16 = .ok (.dup, 1) := by decide +kernel
theorem d_SpectrumDesk_count_17 : decode b_SpectrumDesk_count 17 = .ok (.ldc 116, 2) := by decide +kernel
theorem d_SpectrumDesk_count_19 : decode b_SpectrumDesk_count 19 = .ok (.invokespecial 51, 3) := by decide +kernel
theorem d_SpectrumDesk_count_22 : decode b_SpectrumDesk_count 22 = .ok (.athrow, 1) := by decide +kernel
theorem d_SpectrumDesk_count_23 : decode b_SpectrumDesk_count 23 = .ok (.iload 6, 2) := by decide +kernel
theorem d_SpectrumDesk_count_25 : decode b_SpectrumDesk_count 25 = .ok (.ifCond .lt (9), 3) := by decide +kernel
theorem d_SpectrumDesk_count_28 : decode b_SpectrumDesk_count 28 = .ok (.iload 6, 2) := by decide +kernel
theorem d_SpectrumDesk_count_30 : decode b_SpectrumDesk_count 30 = .ok (.iconst 2, 1) := by decide +kernel
theorem d_SpectrumDesk_count_31 : decode b_SpectrumDesk_count 31 = .ok (.if_icmp .le (13), 3) := by decide +kernel
theorem d_SpectrumDesk_count_34 : decode b_SpectrumDesk_count 34 = .ok (.new 47, 3) := by decide +kernel
theorem d_SpectrumDesk_count_37 : decode b_SpectrumDesk_count 37 = .ok (.dup, 1) := by decide +kernel
theorem d_SpectrumDesk_count_38 : decode b_SpectrumDesk_count 38 = .ok (.ldc 118, 2) := by decide +kernel
theorem d_SpectrumDesk_count_40 : decode b_SpectrumDesk_count 40 = .ok (.invokespecial 51, 3) := by decide +kernel
theorem d_SpectrumDesk_count_43 : decode b_SpectrumDesk_count 43 = .ok (.athrow, 1) := by decide +kernel
theorem d_SpectrumDesk_count_44 : decode b_SpectrumDesk_count 44 = .ok (.lload 4, 2) := by decide +kernel
theorem d_SpectrumDesk_count_46 : decode b_SpectrumDesk_count 46 = .ok (.lconst 0, 1) := by decide +kernel
theorem d_SpectrumDesk_count_47 : decode b_SpectrumDesk_count 47 = .ok (.lcmp, 1) := by decide +kernel
theorem d_SpectrumDesk_count_48 : decode b_SpectrumDesk_count 48 = .ok (.ifCond .gt (13), 3) := by decide +kernel
theorem d_SpectrumDesk_count_51 : decode b_SpectrumDesk_count 51 = .ok (.new 47, 3) := by decide +kernel
theorem d_SpectrumDesk_count_54 : decode b_SpectrumDesk_count 54 = .ok (.dup, 1) := by decide +kernel
theorem d_SpectrumDesk_count_55 : decode b_SpectrumDesk_count 55 = .ok (.ldc 120, 2) := by decide +kernel
theorem d_SpectrumDesk_count_57 : decode b_SpectrumDesk_count 57 = .ok (.invokespecial 51, 3) := by decide +kernel
theorem d_SpectrumDesk_count_60 : decode b_SpectrumDesk_count 60 = .ok (.athrow, 1) := by decide +kernel
theorem d_SpectrumDesk_count_61 : decode b_SpectrumDesk_count 61 = .ok (.aload_n 0, 1) := by decide +kernel
theorem d_SpectrumDesk_count_62 : decode b_SpectrumDesk_count 62 = .ok (.invokevirtual 92, 3) := by decide +kernel
theorem d_SpectrumDesk_count_65 : decode b_SpectrumDesk_count 65 = .ok (.iload_n 1, 1) := by decide +kernel
theorem d_SpectrumDesk_count_66 : decode b_SpectrumDesk_count 66 = .ok (.lload_n 2, 1) := by decide +kernel
theorem d_SpectrumDesk_count_67 : decode b_SpectrumDesk_count 67 = .ok (.lload 4, 2) := by decide +kernel
theorem d_SpectrumDesk_count_69 : decode b_SpectrumDesk_count 69 = .ok (.invokevirtual 122, 3) := by decide +kernel
theorem d_SpectrumDesk_count_72 : decode b_SpectrumDesk_count 72 = .ok (.astore 7, 2) := by decide +kernel
theorem d_SpectrumDesk_count_74 : decode b_SpectrumDesk_count 74 = .ok (.iload 6, 2) := by decide +kernel
theorem d_SpectrumDesk_count_76 : decode b_SpectrumDesk_count 76 = .ok (.ifCond .ne (9), 3) := by decide +kernel
theorem d_SpectrumDesk_count_79 : decode b_SpectrumDesk_count 79 = .ok (.aload 7, 2) := by decide +kernel
theorem d_SpectrumDesk_count_81 : decode b_SpectrumDesk_count 81 = .ok (.invokevirtual 126, 3) := by decide +kernel
theorem d_SpectrumDesk_count_84 : decode b_SpectrumDesk_count 84 = .ok (.ireturn, 1) := by decide +kernel
theorem d_SpectrumDesk_count_85 : decode b_SpectrumDesk_count 85 = .ok (.iload 6, 2) := by decide +kernel
theorem d_SpectrumDesk_count_87 : decode b_SpectrumDesk_count 87 = .ok (.iconst 1, 1) := by decide +kernel
theorem d_SpectrumDesk_count_88 : decode b_SpectrumDesk_count 88 = .ok (.if_icmp .ne (11), 3) := by decide +kernel
theorem d_SpectrumDesk_count_91 : decode b_SpectrumDesk_count 91 = .ok (.aload 7, 2) := by decide +kernel
theorem d_SpectrumDesk_count_93 : decode b_SpectrumDesk_count 93 = .ok (.invokevirtual 130, 3) := by decide +kernel
theorem d_SpectrumDesk_count_96 : decode b_SpectrumDesk_count 96 = .ok (.goto (8), 3) := by decide +kernel
theorem d_SpectrumDesk_count_99 : decode b_SpectrumDesk_count 99 = .ok (.aload 7, 2) := by decide +kernel
theorem d_SpectrumDesk_count_101 : decode b_SpectrumDesk_count 101 = .ok (.invokevirtual 133, 3) := by decide +kernel
theorem d_SpectrumDesk_count_104 : decode b_SpectrumDesk_count 104 = .ok (.ireturn, 1) := by decide +kernel
abbrev b_SpectrumDesk_multiplicity : ByteArray := prog_1_method_13_code
abbrev y_SpectrumDesk_multiplicity : MethodName := ⟨"SpectrumDesk", "multiplicity", "(I)I"⟩
abbrev v_SpectrumDesk_multiplicity : List Cond := Cond.code y_SpectrumDesk_multiplicity b_SpectrumDesk_multiplicity 3 (some .int) :: AW
theorem d_SpectrumDesk_multiplicity_0 : decode b_SpectrumDesk_multiplicity 0 = .ok (.aload_n 0, 1) := by decide +kernel
theorem d_SpectrumDesk_multiplicity_1 : decode b_SpectrumDesk_multiplicity 1 = .ok (.iload_n 1, 1) := by decide +kernel
theorem d_SpectrumDesk_multiplicity_2 : decode b_SpectrumDesk_multiplicity 2 = .ok (.invokevirtual 63, 3) := by decide +kernel
theorem d_SpectrumDesk_multiplicity_5 : decode b_SpectrumDesk_multiplicity 5 = .ok (.ifCond .ne (13), 3) := by decide +kernel
theorem d_SpectrumDesk_multiplicity_8 : decode b_SpectrumDesk_multiplicity 8 = .ok (.new 67, 3) := by decide +kernel
theorem d_SpectrumDesk_multiplicity_11 : decode b_SpectrumDesk_multiplicity 11 = .ok (.dup, 1) := by decide +kernel
theorem d_SpectrumDesk_multiplicity_12 : decode b_SpectrumDesk_multiplicity 12 = .ok (.ldc 136, 2) := by decide +kernel
theorem d_SpectrumDesk_multiplicity_14 : decode b_SpectrumDesk_multiplicity 14 = .ok (.invokespecial 71, 3) := by decide +kernel
theorem d_SpectrumDesk_multiplicity_17 : decode b_SpectrumDesk_multiplicity 17 = .ok (.athrow, 1) := by decide +kernel
theorem d_SpectrumDesk_multiplicity_18 : decode b_SpectrumDesk_multiplicity 18 = .ok (.aload_n 0, 1) := by decide +kernel
theorem d_SpectrumDesk_multiplicity_19 : decode b_SpectrumDesk_multiplicity 19 = .ok (.invokevirtual 92, 3) := by decide +kernel
theorem d_SpectrumDesk_multiplicity_22 : decode b_SpectrumDesk_multiplicity 22 = .ok (.astore_n 2, 1) := by decide +kernel
theorem d_SpectrumDesk_multiplicity_23 : decode b_SpectrumDesk_multiplicity 23 = .ok (.aload_n 2, 1) := by decide +kernel
theorem d_SpectrumDesk_multiplicity_24 : decode b_SpectrumDesk_multiplicity 24 = .ok (.invokevirtual 144, 3) := by decide +kernel
theorem d_SpectrumDesk_multiplicity_27 : decode b_SpectrumDesk_multiplicity 27 = .ok (.aload_n 2, 1) := by decide +kernel
theorem d_SpectrumDesk_multiplicity_28 : decode b_SpectrumDesk_multiplicity 28 = .ok (.iload_n 1, 1) := by decide +kernel
theorem d_SpectrumDesk_multiplicity_29 : decode b_SpectrumDesk_multiplicity 29 = .ok (.invokevirtual 147, 3) := by decide +kernel
theorem d_SpectrumDesk_multiplicity_32 : decode b_SpectrumDesk_multiplicity 32 = .ok (.ireturn, 1) := by decide +kernel
abbrev b_SpectrumDesk_apart : ByteArray := prog_1_method_16_code
abbrev y_SpectrumDesk_apart : MethodName := ⟨"SpectrumDesk", "apart", "()I"⟩
abbrev v_SpectrumDesk_apart : List Cond := Cond.code y_SpectrumDesk_apart b_SpectrumDesk_apart 3 (some .int) :: AW
theorem d_SpectrumDesk_apart_0 : decode b_SpectrumDesk_apart 0 = .ok (.aload_n 0, 1) := by decide +kernel
theorem d_SpectrumDesk_apart_1 : decode b_SpectrumDesk_apart 1 = .ok (.invokevirtual 92, 3) := by decide +kernel
theorem d_SpectrumDesk_apart_4 : decode b_SpectrumDesk_apart 4 = .ok (.astore_n 1, 1) := by decide +kernel
theorem d_SpectrumDesk_apart_5 : decode b_SpectrumDesk_apart 5 = .ok (.aload_n 1, 1) := by decide +kernel
theorem d_SpectrumDesk_apart_6 : decode b_SpectrumDesk_apart 6 = .ok (.invokevirtual 144, 3) := by decide +kernel
theorem d_SpectrumDesk_apart_9 : decode b_SpectrumDesk_apart 9 = .ok (.iconst 0, 1) := by decide +kernel
theorem d_SpectrumDesk_apart_10 : decode b_SpectrumDesk_apart 10 = .ok (.istore_n 2, 1) := by decide +kernel
theorem d_SpectrumDesk_apart_11 : decode b_SpectrumDesk_apart 11 = .ok (.iload_n 2, 1) := by decide +kernel
theorem d_SpectrumDesk_apart_12 : decode b_SpectrumDesk_apart 12 = .ok (.bipush (30), 2) := by decide +kernel
theorem d_SpectrumDesk_apart_14 : decode b_SpectrumDesk_apart 14 = .ok (.if_icmp .gt (23), 3) := by decide +kernel
theorem d_SpectrumDesk_apart_17 : decode b_SpectrumDesk_apart 17 = .ok (.aload_n 1, 1) := by decide +kernel
theorem d_SpectrumDesk_apart_18 : decode b_SpectrumDesk_apart 18 = .ok (.iload_n 2, 1) := by decide +kernel
theorem d_SpectrumDesk_apart_19 : decode b_SpectrumDesk_apart 19 = .ok (.invokevirtual 157, 3) := by decide +kernel
theorem d_SpectrumDesk_apart_22 : decode b_SpectrumDesk_apart 22 = .ok (.aload_n 1, 1) := by decide +kernel
theorem d_SpectrumDesk_apart_23 : decode b_SpectrumDesk_apart 23 = .ok (.invokevirtual 151, 3) := by decide +kernel
theorem d_SpectrumDesk_apart_26 : decode b_SpectrumDesk_apart 26 = .ok (.if_icmp .ne (5), 3) := by decide +kernel
theorem d_SpectrumDesk_apart_29 : decode b_SpectrumDesk_apart 29 = .ok (.iload_n 2, 1) := by decide +kernel
theorem d_SpectrumDesk_apart_30 : decode b_SpectrumDesk_apart 30 = .ok (.ireturn, 1) := by decide +kernel
theorem d_SpectrumDesk_apart_31 : decode b_SpectrumDesk_apart 31 = .ok (.iinc 2 (1), 3) := by decide +kernel
theorem d_SpectrumDesk_apart_34 : decode b_SpectrumDesk_apart 34 = .ok (.goto (-23), 3) := by decide +kernel
theorem d_SpectrumDesk_apart_37 : decode b_SpectrumDesk_apart 37 = .ok (.iconst (-1), 1) := by decide +kernel
theorem d_SpectrumDesk_apart_38 : decode b_SpectrumDesk_apart 38 = .ok (.ireturn, 1) := by decide +kernel
theorem k_355b9a726d : (Jvm.Cond.fieldLink "SpectrumDesk" (96 : Nat) "SpectrumDesk$Spectrum" "blocks" "[LSpectrumDesk$Polynomial;") ∈ AW := aw_1 (List.mem_of_getElem? (i := 134) (by decide +kernel)) (by decide +kernel)
theorem k_ef2cf6453c : (Jvm.Cond.fieldLink "SpectrumDesk" (100 : Nat) "SpectrumDesk$Polynomial" "c" "[[I") ∈ AW := aw_1 (List.mem_of_getElem? (i := 74) (by decide +kernel)) (by decide +kernel)
theorem k_05ea7f759f : (Jvm.Cond.methodLink "SpectrumDesk" (105 : Nat) ({ cls := "SpectrumDesk$Printer", name := "print", desc := "([I)V" } : Jvm.MethodName)) ∈ AW := aw_3 (List.mem_of_getElem? (i := 177) (by decide +kernel)) (by decide +kernel)
theorem k_e77bb7a8cf : (Jvm.Cond.instanceMethod ({ cls := "SpectrumDesk$Printer", name := "print", desc := "([I)V" } : Jvm.MethodName)) ∈ AW := aw_3 (List.mem_of_getElem? (i := 178) (by decide +kernel)) (by decide +kernel)
theorem k_b946803f0c : (Jvm.Cond.selects "SpectrumDesk$Printer" ({ cls := "SpectrumDesk$Printer", name := "print", desc := "([I)V" } : Jvm.MethodName) ({ cls := "SpectrumDesk$Printer", name := "print", desc := "([I)V" } : Jvm.MethodName)) ∈ AW := aw_3 (List.mem_of_getElem? (i := 179) (by decide +kernel)) (by decide +kernel)
theorem k_f771e60258 : (Jvm.Cond.methodLink "SpectrumDesk" (122 : Nat) ({ cls := "SpectrumDesk$Spectrum", name := "movedBlock", desc := "(IJJ)LSpectrumDesk$Polynomial;" } : Jvm.MethodName)) ∈ AW := aw_4 (List.mem_of_getElem? (i := 129) (by decide +kernel)) (by decide +kernel)
theorem k_4c774cfba9 : (Jvm.Cond.methodLink "SpectrumDesk" (133 : Nat) ({ cls := "SpectrumDesk$Polynomial", name := "rootsAbove", desc := "()I" } : Jvm.MethodName)) ∈ AW := aw_4 (List.mem_of_getElem? (i := 132) (by decide +kernel)) (by decide +kernel)
theorem k_b3fe07f682 : (Jvm.Cond.methodLink "SpectrumDesk" (130 : Nat) ({ cls := "SpectrumDesk$Polynomial", name := "rootsAtZero", desc := "()I" } : Jvm.MethodName)) ∈ AW := aw_4 (List.mem_of_getElem? (i := 131) (by decide +kernel)) (by decide +kernel)
theorem k_2e674bbb5a : (Jvm.Cond.methodLink "SpectrumDesk" (126 : Nat) ({ cls := "SpectrumDesk$Polynomial", name := "rootsBelow", desc := "()I" } : Jvm.MethodName)) ∈ AW := aw_4 (List.mem_of_getElem? (i := 130) (by decide +kernel)) (by decide +kernel)
theorem k_3147e43edf : (Jvm.Cond.methodLink "SpectrumDesk" (147 : Nat) ({ cls := "SpectrumDesk$Spectrum", name := "howManySame", desc := "(I)I" } : Jvm.MethodName)) ∈ AW := aw_4 (List.mem_of_getElem? (i := 150) (by decide +kernel)) (by decide +kernel)
theorem k_e9c72291af : (Jvm.Cond.instanceMethod ({ cls := "SpectrumDesk$Spectrum", name := "howManySame", desc := "(I)I" } : Jvm.MethodName)) ∈ AW := aw_4 (List.mem_of_getElem? (i := 151) (by decide +kernel)) (by decide +kernel)
theorem k_b55caedb77 : (Jvm.Cond.selects "SpectrumDesk$Spectrum" ({ cls := "SpectrumDesk$Spectrum", name := "howManySame", desc := "(I)I" } : Jvm.MethodName) ({ cls := "SpectrumDesk$Spectrum", name := "howManySame", desc := "(I)I" } : Jvm.MethodName)) ∈ AW := aw_4 (List.mem_of_getElem? (i := 152) (by decide +kernel)) (by decide +kernel)
theorem k_f125b78b27 : (Jvm.Cond.methodLink "SpectrumDesk" (157 : Nat) ({ cls := "SpectrumDesk$Spectrum", name := "cellsTaken", desc := "(I)I" } : Jvm.MethodName)) ∈ AW := aw_4 (List.mem_of_getElem? (i := 23) (by decide +kernel)) (by decide +kernel)
theorem k_8cd2579a11 : (Jvm.Cond.instanceMethod ({ cls := "SpectrumDesk$Spectrum", name := "cellsTaken", desc := "(I)I" } : Jvm.MethodName)) ∈ AW := aw_4 (List.mem_of_getElem? (i := 24) (by decide +kernel)) (by decide +kernel)
theorem k_2797480161 : (Jvm.Cond.selects "SpectrumDesk$Spectrum" ({ cls := "SpectrumDesk$Spectrum", name := "cellsTaken", desc := "(I)I" } : Jvm.MethodName) ({ cls := "SpectrumDesk$Spectrum", name := "cellsTaken", desc := "(I)I" } : Jvm.MethodName)) ∈ AW := aw_4 (List.mem_of_getElem? (i := 25) (by decide +kernel)) (by decide +kernel)
theorem k_19de140e33 : (Jvm.Cond.code ({ cls := "SpectrumDesk", name := "characteristic", desc := "(I)I" } : Jvm.MethodName) prog_1_method_9_code (2 : Nat) (Option.some Jvm.ClassFile.FieldType.int)) ∈ AW := aw_2 (List.mem_of_getElem? (i := 15) (by decide +kernel)) (by decide +kernel)
theorem k_67671de29f : (Jvm.Cond.code ({ cls := "SpectrumDesk", name := "count", desc := "(IJJI)I" } : Jvm.MethodName) prog_1_method_11_code (8 : Nat) (Option.some Jvm.ClassFile.FieldType.int)) ∈ AW := aw_4 (List.mem_of_getElem? (i := 125) (by decide +kernel)) (by decide +kernel)
theorem k_149da778ce : (Jvm.Cond.code ({ cls := "SpectrumDesk", name := "multiplicity", desc := "(I)I" } : Jvm.MethodName) prog_1_method_13_code (3 : Nat) (Option.some Jvm.ClassFile.FieldType.int)) ∈ AW := aw_4 (List.mem_of_getElem? (i := 149) (by decide +kernel)) (by decide +kernel)
theorem k_1b216cd663 : (Jvm.Cond.code ({ cls := "SpectrumDesk", name := "apart", desc := "()I" } : Jvm.MethodName) prog_1_method_16_code (3 : Nat) (Option.some Jvm.ClassFile.FieldType.int)) ∈ AW := aw_4 (List.mem_of_getElem? (i := 22) (by decide +kernel)) (by decide +kernel)
set_option maxHeartbeats 4000000 in
set_option maxRecDepth 100000 in
theorem c_SpectrumDesk_characteristic_bad {l : Launch} {D : va_G} {cI cJ cZ cC cG cP : ClassId} {N : Nat} {ad : Nat → Nat} {σ : Nat → va_E} {n : Nat} {st : Int32} (hN : N = 193) (hS0 : σ 0 = .inr (ciS, [.ref (ad 1), .ref (ad 8), .ref (ad 9), .ref (ad 18), .ref (ad 179), .int (nI n), .int st])) {v : Int32} (h1 : v < 0 ∨ nI n < v) :
    Met l y_SpectrumDesk_characteristic v_SpectrumDesk_characteristic (xrm 0) (va_Pc [.ref (ad 0), .int v] (xS D classes (xT cI cJ cZ cC cG cP) N ad σ)) (va_Qi (fun r σ2 => r = -1 ∧ σ2 = σ) (xS D classes (xT cI cJ cZ cC cG cP) N ad) (xA N ad)) 0 0 (xA N ad) := by
  refine xr_met rfl (Nat.le_of_ble_eq_true rfl) ?_
  intro p e s m args below meth c ls hx hb X hr hlk hl I
  have hl : lv_has ls 2 [(0, .ref (ad 0)), (1, .int v)] := hl
  refine lv_iload_n hx hb d_SpectrumDesk_characteristic_0 rfl (lv_at hl 1 rfl) ?_
  refine lv_if_lt hx hb d_SpectrumDesk_characteristic_1 rfl (fun hc => ?_) (fun hc => ?_)
  · refine lv_iconst (v := (-1)) hx hb d_SpectrumDesk_characteristic_12 (by decide) ?_
    exact xr_iret X I hr hlk ⟨rfl, rfl⟩ d_SpectrumDesk_characteristic_13
  · refine lv_iload_n hx hb d_SpectrumDesk_characteristic_4 rfl (lv_at hl 1 rfl) ?_
    refine lv_aload_n hx hb d_SpectrumDesk_characteristic_5 rfl (lv_at hl 0 rfl) ?_
    refine xr_get X I fin_S 0 (by omega) hS0 rfl 5 (by decide) (List.mem_cons_of_mem _ k_7fc62aa415) rfl rfl d_SpectrumDesk_characteristic_6 ?_
    refine lv_icmp_le hx hb d_SpectrumDesk_characteristic_9 rfl (fun hd => ?_) (fun hd => ?_)
    · exact absurd h1 (fun h => h.elim hc (fun h => q_le_lt hd h))
    · refine lv_iconst (v := (-1)) hx hb d_SpectrumDesk_characteristic_12 (by decide) ?_
      exact xr_iret X I hr hlk ⟨rfl, rfl⟩ d_SpectrumDesk_characteristic_13
set_option maxHeartbeats 4000000 in
set_option maxRecDepth 100000 in
theorem c_SpectrumDesk_characteristic_ok {l : Launch} {D : va_G} {cI cJ cZ cC cG cP : ClassId} {N : Nat} {ad : Nat → Nat} {σ : Nat → va_E} {n : Nat} {st : Int32} (hN : N = 193) (hS0 : σ 0 = .inr (ciS, [.ref (ad 1), .ref (ad 8), .ref (ad 9), .ref (ad 18), .ref (ad 179), .int (nI n), .int st])) {A : Nat → Nat → Int32} {V : Nat → Int} (h1n : 1 ≤ n) (hn : n ≤ 6) (hA : mat ad cI cG σ 1 2 A) (hsA : smA A) (hgd : gdM A n V) (hsp : spZ ad cI cG cP σ) (hst : (st = nI 0 ∧ ∃ rk, spV ad cI cJ cZ cG σ A n V rk) ∨ (st = nI 1 ∧ spN ad cI cJ cZ cG σ)) {k9 : Nat} {rw ln : Nat} {S Tx : Nat → Int32} {P : Nat → Nat → Int32} (hdk : dkR ad cI cC cG σ rw S P ln Tx) (h1 : k9 ≤ n) (hv : (pB (iA A) n k9).natAbs < 10 ^ 50) :
    Met l y_SpectrumDesk_characteristic v_SpectrumDesk_characteristic (xrm 8) (va_Pc [.ref (ad 0), .int (nI k9)] (xS D classes (xT cI cJ cZ cC cG cP) N ad σ)) (va_Qi (fun r σ2 => ∃ (rk : Int32) (k8 : Nat) (T' : Nat → Int32) (σ1 : Nat → va_E), upV ad cI cJ cZ cG cP σ A n V rk σ1 ∧ (∀ q, q < 179 ∨ 183 ≤ q → σ2 q = σ1 q) ∧ dl (pB (iA A) n k9).natAbs k8 ∧ r = nI ((if (pB (iA A) n k9) < 0 then 1 else 0) + k8) ∧ dkR ad cI cC cG σ2 rw S P ((if (pB (iA A) n k9) < 0 then 1 else 0) + k8) T' ∧ ((pB (iA A) n k9) < 0 → T' 0 = nI 45) ∧ ∀ j, j < k8 → T' ((if (pB (iA A) n k9) < 0 then 1 else 0) + j) = nI (48 + (pB (iA A) n k9).natAbs / 10 ^ (k8 - 1 - j) % 10)) (xS D classes (xT cI cJ cZ cC cG cP) N ad) (xA N ad)) 0 0 (xA N ad) := by
  refine xr_met rfl (Nat.le_of_ble_eq_true rfl) ?_
  intro p e s m args below meth c ls hx hb X hr hlk hl I
  have hl : lv_has ls 2 [(0, .ref (ad 0)), (1, .int (nI k9))] := hl
  refine lv_iload_n hx hb d_SpectrumDesk_characteristic_0 rfl (lv_at hl 1 rfl) ?_
  refine lv_if_lt hx hb d_SpectrumDesk_characteristic_1 rfl (fun hc => ?_) (fun hc => ?_)
  · exact absurd hc (nI_pos (by omega))
  · refine lv_iload_n hx hb d_SpectrumDesk_characteristic_4 rfl (lv_at hl 1 rfl) ?_
    refine lv_aload_n hx hb d_SpectrumDesk_characteristic_5 rfl (lv_at hl 0 rfl) ?_
    refine xr_get X I fin_S 0 (by omega) hS0 rfl 5 (by decide) (List.mem_cons_of_mem _ k_7fc62aa415) rfl rfl d_SpectrumDesk_characteristic_6 ?_
    refine lv_icmp_le hx hb d_SpectrumDesk_characteristic_9 rfl (fun hd => ?_) (fun hd => ?_)
    · refine lv_aload_n hx hb d_SpectrumDesk_characteristic_14 rfl (lv_at hl 0 rfl) ?_
      refine xr_get X I fin_S 0 (by omega) hS0 rfl 4 (by decide) (List.mem_cons_of_mem _ k_01728a6d8c) rfl rfl d_SpectrumDesk_characteristic_15 ?_
      refine lv_aload_n hx hb d_SpectrumDesk_characteristic_18 rfl (lv_at hl 0 rfl) ?_
      refine xr_callk (xr_runV (kc := 7) (kr := 8) (n := 0) (As := []) (rest := [.ref (ad 179)]) X I (by omega) hS0 rfl (c_SpectrumDesk_upToDate (A := A) (V := V) hN hS0 h1n hn hA hsA hgd hsp hst) (xg k_7fc044eb5f) (List.mem_cons_of_mem _ k_e6e30bc1cd) (List.mem_cons_of_mem _ k_d50a5cd376) (List.mem_cons_of_mem _ k_61afc8fd0f) (List.mem_cons_of_mem _ k_6836736ab7) (by decide +kernel) (by decide) rfl hl.1 rfl (Nat.le_of_ble_eq_true rfl) d_SpectrumDesk_characteristic_19) I (fun σ1 H locs hp I => ?_)
      obtain ⟨rk, hU1⟩ := hp
      obtain ⟨-, z0, ⟨a1, -, -, -, a5, -, -, -, -⟩, t9, lf, Cl, Kn, sf, Ff, b1, b2, b3, b4, b5, b6, b7, b8, b9, -⟩ := id hU1
      have hlf := hgd.2.1 lf b3
      obtain ⟨bb, -, -, -, hl2, hl12⟩ := b3
      have hbl := bdF_le (n := n) hsA hn n hn
      obtain ⟨Fn, sn, p1, p2⟩ := b4.1 n (Nat.le_refl _)
      have hdk1 := dkR_same hdk (fun q hq => hU1.1 q (by omega) (by omega))
      obtain ⟨⟨g, q1⟩, q2, q3, q4, q5, q6, ⟨g2, q7⟩, g3, q8⟩ := hdk1
      refine xr_get X I fin_E 18 (by omega) b1 rfl 0 (by decide) (List.mem_cons_of_mem _ k_355b9a726d) rfl rfl d_SpectrumDesk_characteristic_22 ?_
      refine lv_aload_n hx hb d_SpectrumDesk_characteristic_25 rfl (lv_at hl 0 rfl) ?_
      refine xr_get X I fin_S 0 (by omega) z0 rfl 5 (by decide) (List.mem_cons_of_mem _ k_7fc62aa415) rfl rfl d_SpectrumDesk_characteristic_26 ?_
      refine xr_aald X I 19 5 (by omega) a1 rfl rfl (by omega) (by decide) (bl_at (by omega)) d_SpectrumDesk_characteristic_29 ?_
      refine xr_get X I fin_P (20 + 10 * n) (by omega) (pl_o p1) rfl 0 (by decide) (List.mem_cons_of_mem _ k_ef2cf6453c) rfl rfl d_SpectrumDesk_characteristic_30 ?_
      refine lv_iload_n hx hb d_SpectrumDesk_characteristic_33 rfl (lv_at hl 1 rfl) ?_
      refine xr_aald X I (20 + 10 * n + 1) 4 (by omega) (pl_c p1) rfl rfl (by omega) (by decide) (pl_at (by omega)) d_SpectrumDesk_characteristic_34 ?_
      refine xr_callv (xr_runV (kc := 2) (kr := 8) (n := 1) (As := [.ref (ad (20 + 10 * n + 2 + k9))]) (rest := []) X I (by omega) q5 rfl (c_Printer_print (x9 := (pB (iA A) n k9)) (b := 20 + 10 * n + 2 + k9) hN q5 q7 q8 q6 (by omega) (pl_r p1 (by omega)) ⟨p2 k9 h1, hgd.1 n (Nat.le_refl _) k9 h1⟩ hv) (xg k_dda136cea5) (List.mem_cons_of_mem _ k_05ea7f759f) (List.mem_cons_of_mem _ k_e77bb7a8cf) (List.mem_cons_of_mem _ k_b946803f0c) (List.mem_cons_of_mem _ k_b565313e6f) (by decide +kernel) (by decide) rfl hl.1 rfl (Nat.le_of_ble_eq_true rfl) d_SpectrumDesk_characteristic_35) I (fun σ2 H locs hp I => ?_)
      obtain ⟨k8, T2, D2, R2, e1, e2, e3, e4, e5, e6, e7, e8⟩ := hp
      refine lv_aload_n hx hb d_SpectrumDesk_characteristic_38 rfl (lv_at hl 0 rfl) ?_
      refine xr_get X I fin_S 0 (by omega) ((e2 0 (by omega)).trans z0) rfl 4 (by decide) (List.mem_cons_of_mem _ k_01728a6d8c) rfl rfl d_SpectrumDesk_characteristic_39 ?_
      refine xr_get X I fin_R 179 (by omega) e3 rfl 3 (by decide) (List.mem_cons_of_mem _ k_f9a033385b) rfl rfl d_SpectrumDesk_characteristic_42 ?_
      exact xr_iret X I hr hlk ⟨rk, k8, T2, σ1, hU1, e2, e1, rfl, ⟨⟨g, (e2 8 (by omega)).trans q1⟩, (e2 9 (by omega)).trans q2, (e2 10 (by omega)).trans q3, mat_same q4 (e2 11 (by omega)) (fun q h1 h2 => e2 q (by omega)), e3, e4, ⟨D2, e5⟩, R2, e6⟩, e7, e8⟩ d_SpectrumDesk_characteristic_45
    · exact absurd (nI_le h1 (by omega)) hd
set_option maxHeartbeats 4000000 in
set_option maxRecDepth 100000 in
theorem c_SpectrumDesk_count_ok {l : Launch} {D : va_G} {cI cJ cZ cC cG cP : ClassId} {N : Nat} {ad : Nat → Nat} {σ : Nat → va_E} {n : Nat} {st : Int32} (hN : N = 193) (hS0 : σ 0 = .inr (ciS, [.ref (ad 1), .ref (ad 8), .ref (ad 9), .ref (ad 18), .ref (ad 179), .int (nI n), .int st])) {A : Nat → Nat → Int32} {V : Nat → Int} (h1n : 1 ≤ n) (hn : n ≤ 6) (hA : mat ad cI cG σ 1 2 A) (hsA : smA A) (hgd : gdM A n V) (hsp : spZ ad cI cG cP σ) (hst : (st = nI 0 ∧ ∃ rk, spV ad cI cJ cZ cG σ A n V rk) ∨ (st = nI 1 ∧ spN ad cI cJ cZ cG σ)) {k9 wy : Nat} {tp bt : Int64} (h1 : 1 ≤ k9) (h2 : k9 ≤ n) (h4 : wy ≤ 2) (h5 : 0 < bt) :
    Met l y_SpectrumDesk_count v_SpectrumDesk_count (xrm 8) (va_Pc [.ref (ad 0), .int (nI k9), .long tp, .long bt, .int (nI wy)] (xS D classes (xT cI cJ cZ cC cG cP) N ad σ)) (va_Qi (fun r σ2 => r = (if wy = 0 then lessI (low tp.toInt k9 (mulp bt.toInt k9 (pB (iA A) k9) k9) k9) k9 else if wy = 1 then nI (ez (low tp.toInt k9 (mulp bt.toInt k9 (pB (iA A) k9) k9) k9) 0 k9) else nI (ra (low tp.toInt k9 (mulp bt.toInt k9 (pB (iA A) k9) k9) k9) (nI 1) (k9 + 1))) ∧ ∃ rk, upV ad cI cJ cZ cG cP σ A n V rk σ2) (xS D classes (xT cI cJ cZ cC cG cP) N ad) (xA N ad)) 0 0 (xA N ad) := by
  refine xr_met rfl (Nat.le_of_ble_eq_true rfl) ?_
  intro p e s m args below meth c ls hx hb X hr hlk hl I
  have hl : lv_has ls 8 [(0, .ref (ad 0)), (1, .int (nI k9)), (2, .long tp), (4, .long bt), (6, .int (nI wy))] := hl
  refine lv_iload_n hx hb d_SpectrumDesk_count_0 rfl (lv_at hl 1 rfl) ?_
  refine lv_iconst (v := nI 1) hx hb d_SpectrumDesk_count_1 (by decide) ?_
  refine lv_icmp_lt hx hb d_SpectrumDesk_count_2 rfl (fun hc => ?_) (fun hc => ?_)
  · exact absurd hc (nI_nlt (by omega) (by omega))
  · refine lv_iload_n hx hb d_SpectrumDesk_count_5 rfl (lv_at hl 1 rfl) ?_
    refine lv_aload_n hx hb d_SpectrumDesk_count_6 rfl (lv_at hl 0 rfl) ?_
    refine xr_get X I fin_S 0 (by omega) hS0 rfl 5 (by decide) (List.mem_cons_of_mem _ k_7fc62aa415) rfl rfl d_SpectrumDesk_count_7 ?_
    refine lv_icmp_le hx hb d_SpectrumDesk_count_10 rfl (fun hd => ?_) (fun hd => ?_)
    · refine lv_iload hx hb d_SpectrumDesk_count_23 (lv_at hl 4 rfl) ?_
      refine lv_if_lt hx hb d_SpectrumDesk_count_25 rfl (fun hd => ?_) (fun hd => ?_)
      · exact absurd hd (nI_pos (by omega))
      · refine lv_iload hx hb d_SpectrumDesk_count_28 (lv_at hl 4 rfl) ?_
        refine lv_iconst (v := nI 2) hx hb d_SpectrumDesk_count_30 (by decide) ?_
        refine lv_icmp_le hx hb d_SpectrumDesk_count_31 rfl (fun hd => ?_) (fun hd => ?_)
        · refine lv_lload hx hb d_SpectrumDesk_count_44 (lv_at hl 3 rfl) ?_
          refine lv_lconst (v := 0) hx hb d_SpectrumDesk_count_46 (by decide) ?_
          refine W.lcmp hx hb d_SpectrumDesk_count_47 ?_
          refine lv_if_gt hx hb d_SpectrumDesk_count_48 rfl (fun hd => ?_) (fun hd => ?_)
          · refine lv_aload_n hx hb d_SpectrumDesk_count_61 rfl (lv_at hl 0 rfl) ?_
            refine xr_callk (xr_runV (kc := 7) (kr := 8) (n := 0) (As := []) (rest := []) X I (by omega) hS0 rfl (c_SpectrumDesk_upToDate (A := A) (V := V) hN hS0 h1n hn hA hsA hgd hsp hst) (xg k_7fc044eb5f) (List.mem_cons_of_mem _ k_e6e30bc1cd) (List.mem_cons_of_mem _ k_d50a5cd376) (List.mem_cons_of_mem _ k_61afc8fd0f) (List.mem_cons_of_mem _ k_6836736ab7) (by decide +kernel) (by decide) rfl hl.1 rfl (Nat.le_of_ble_eq_true rfl) d_SpectrumDesk_count_62) I (fun σ1 H locs hp I => ?_)
            obtain ⟨rk, hU1⟩ := hp
            obtain ⟨-, z0, ⟨a1, -, -, -, a5, -, -, -, -⟩, t9, lf, Cl, Kn, sf, Ff, b1, b2, b3, b4, b5, b6, b7, b8, b9, -⟩ := id hU1
            have hlf := hgd.2.1 lf b3
            obtain ⟨bb, -, -, -, hl2, hl12⟩ := b3
            have hbl := bdF_le (n := n) hsA hn n hn
            obtain ⟨Fk, sk, p1, p2⟩ := b4.1 k9 h2
            have hb0 : 0 < bt.toInt := Int64.lt_iff_toInt_lt.mp h5
            have hsz9 := hgd.2.2.2.2.1 k9 tp bt h2 hb0
            refine lv_iload_n hx hb d_SpectrumDesk_count_65 rfl (lv_at hl 1 rfl) ?_
            refine lv_lload_n hx hb d_SpectrumDesk_count_66 rfl (lv_at hl 2 rfl) ?_
            refine lv_lload hx hb d_SpectrumDesk_count_67 (lv_at hl 3 rfl) ?_
            refine xr_callk (xr_runV (kc := 4) (kr := 8) (n := 3) (As := [.int (nI k9), .long tp, .long bt]) (rest := []) X I (by omega) b1 rfl (c_Spectrum_movedBlock (k9 := k9) (tp := tp) (bt := bt) hN b1 a1 p1 a5 (by omega) p2 (hgd.1 k9 h2)) (xg k_95f0356f31) (List.mem_cons_of_mem _ k_f771e60258) (List.mem_cons_of_mem _ k_69fc3ab445) (List.mem_cons_of_mem _ k_c1bab79832) (List.mem_cons_of_mem _ k_c663d572ae) (by decide +kernel) (by decide) rfl hl.1 rfl (Nat.le_of_ble_eq_true rfl) d_SpectrumDesk_count_69) I (fun σ2 H locs hp I => ?_)
            obtain ⟨F2, s2, f2, c2, c3⟩ := hp
            have hU2 := upV_p hU1 hn f2 ⟨_, _, _, _, c2⟩
            refine lv_astore (lv' := [(7, .ref (ad 110)), (0, .ref (ad 0)), (1, .int (nI k9)), (2, .long tp), (4, .long bt), (6, .int (nI wy))]) hx hb d_SpectrumDesk_count_72 hl (by decide) rfl (fun ls hl => ?_)
            refine lv_iload hx hb d_SpectrumDesk_count_74 (lv_at hl 5 rfl) ?_
            refine lv_if_ne hx hb d_SpectrumDesk_count_76 rfl (fun hg => ?_) (fun hg => ?_)
            · have n0 : ¬ wy = 0 := fun h => hg (by rw [h]; rfl)
              refine lv_iload hx hb d_SpectrumDesk_count_85 (lv_at hl 5 rfl) ?_
              refine lv_iconst (v := nI 1) hx hb d_SpectrumDesk_count_87 (by decide) ?_
              refine lv_icmp_ne hx hb d_SpectrumDesk_count_88 rfl (fun hh => ?_) (fun hh => ?_)
              · have n1 : ¬ wy = 1 := fun h => hh (by rw [h])
                refine lv_aload hx hb d_SpectrumDesk_count_99 (lv_at hl 0 rfl) ?_
                refine xr_calli (xr_runV (kc := 1) (kr := 8) (n := 0) (As := []) (rest := []) X I (by omega) (pl_o c2) rfl (c_Polynomial_rootsAbove (i := 110) (by omega) c2 (by omega) (by decide) (by decide) (by decide) c3 hsz9) (xg k_98465b4a9e) (List.mem_cons_of_mem _ k_4c774cfba9) (List.mem_cons_of_mem _ k_44b0f8a482) (List.mem_cons_of_mem _ k_81d928149c) (List.mem_cons_of_mem _ k_a8ac99ee00) (by decide +kernel) (by decide) rfl hl.1 rfl (Nat.le_of_ble_eq_true rfl) d_SpectrumDesk_count_101) I (fun r1 σ3 H locs hp I => ?_)
                obtain ⟨rfl, h9⟩ := hp; rw [h9] at I; clear h9
                exact xr_iret X I hr hlk ⟨by rw [if_neg n0, if_neg n1], rk, hU2⟩ d_SpectrumDesk_count_104
              · have n1 : wy = 1 := (nI_eq (by omega) (by decide)).mp hh
                refine lv_aload hx hb d_SpectrumDesk_count_91 (lv_at hl 0 rfl) ?_
                refine xr_calli (xr_runV (kc := 1) (kr := 8) (n := 0) (As := []) (rest := []) X I (by omega) (pl_o c2) rfl (c_Polynomial_rootsAtZero (i := 110) (by omega) c2 (by omega) (by decide) (by decide) (by decide) c3 hsz9) (xg k_c5d340c79c) (List.mem_cons_of_mem _ k_b3fe07f682) (List.mem_cons_of_mem _ k_0f9ebc7ecf) (List.mem_cons_of_mem _ k_9a3567c35e) (List.mem_cons_of_mem _ k_a8ac99ee00) (by decide +kernel) (by decide) rfl hl.1 rfl (Nat.le_of_ble_eq_true rfl) d_SpectrumDesk_count_93) I (fun r1 σ3 H locs hp I => ?_)
                obtain ⟨rfl, h9⟩ := hp; rw [h9] at I; clear h9
                refine lv_goto hx hb d_SpectrumDesk_count_96 rfl ?_
                exact xr_iret X I hr hlk ⟨by rw [if_neg n0, if_pos n1], rk, hU2⟩ d_SpectrumDesk_count_104
            · have n0 : wy = 0 := (nI_eq (by omega) (by decide)).mp hg
              refine lv_aload hx hb d_SpectrumDesk_count_79 (lv_at hl 0 rfl) ?_
              refine xr_calli (xr_runV (kc := 2) (kr := 8) (n := 0) (As := []) (rest := []) X I (by omega) (pl_o c2) rfl (c_Polynomial_rootsBelow (i := 110) (by omega) c2 (by omega) (by decide) (by decide) (by decide) c3 hsz9) (xg k_78be9b3f0a) (List.mem_cons_of_mem _ k_2e674bbb5a) (List.mem_cons_of_mem _ k_29b5639176) (List.mem_cons_of_mem _ k_d43b154fc4) (List.mem_cons_of_mem _ k_a8ac99ee00) (by decide +kernel) (by decide) rfl hl.1 rfl (Nat.le_of_ble_eq_true rfl) d_SpectrumDesk_count_81) I (fun r1 σ3 H locs hp I => ?_)
              obtain ⟨rfl, h9⟩ := hp; rw [h9] at I; clear h9
              exact xr_iret X I hr hlk ⟨by rw [if_pos n0], rk, hU2⟩ d_SpectrumDesk_count_84
          · exact absurd ((lg_cmp_gt _ _).mpr h5) hd
        · exact absurd (nI_le h4 (by decide)) hd
    · exact absurd (nI_le h2 (by omega)) hd
set_option maxHeartbeats 4000000 in
set_option maxRecDepth 100000 in
theorem c_SpectrumDesk_multiplicity_ok {l : Launch} {D : va_G} {cI cJ cZ cC cG cP : ClassId} {N : Nat} {ad : Nat → Nat} {σ : Nat → va_E} {n : Nat} {st : Int32} (hN : N = 193) (hS0 : σ 0 = .inr (ciS, [.ref (ad 1), .ref (ad 8), .ref (ad 9), .ref (ad 18), .ref (ad 179), .int (nI n), .int st])) {A : Nat → Nat → Int32} {V : Nat → Int} (h1n : 1 ≤ n) (hn : n ≤ 6) (hA : mat ad cI cG σ 1 2 A) (hsA : smA A) (hgd : gdM A n V) (hsp : spZ ad cI cG cP σ) (hst : (st = nI 0 ∧ ∃ rk, spV ad cI cJ cZ cG σ A n V rk) ∨ (st = nI 1 ∧ spN ad cI cJ cZ cG σ)) {i : Nat} (hi : i < n) :
    Met l y_SpectrumDesk_multiplicity v_SpectrumDesk_multiplicity (xrm 8) (va_Pc [.ref (ad 0), .int (nI i)] (xS D classes (xT cI cJ cZ cC cG cP) N ad σ)) (va_Qi (fun r σ2 => r = (if (ceD (pB (iA A) n) n) = 0 then nI 1 else hmS n (ceD (pB (iA A) n) n) (nI i) 43 (low (V i) n (mulp 1073741824 n (pB (iA A) n) n) n) (low (V i) (ceD (pB (iA A) n) n) (mulp 1073741824 (ceD (pB (iA A) n) n) (ceF (pB (iA A) n) n) (ceD (pB (iA A) n) n)) (ceD (pB (iA A) n) n))) ∧ ∃ rk, upV ad cI cJ cZ cG cP σ A n V rk σ2) (xS D classes (xT cI cJ cZ cC cG cP) N ad) (xA N ad)) 0 0 (xA N ad) := by
  refine xr_met rfl (Nat.le_of_ble_eq_true rfl) ?_
  intro p e s m args below meth c ls hx hb X hr hlk hl I
  have hl : lv_has ls 3 [(0, .ref (ad 0)), (1, .int (nI i))] := hl
  refine lv_aload_n hx hb d_SpectrumDesk_multiplicity_0 rfl (lv_at hl 0 rfl) ?_
  refine lv_iload_n hx hb d_SpectrumDesk_multiplicity_1 rfl (lv_at hl 1 rfl) ?_
  refine xr_calli (xr_runV (kc := 0) (kr := 8) (n := 1) (As := [.int (nI i)]) (rest := []) X I (by omega) hS0 rfl (c_SpectrumDesk_isIndex_1 (i := i) hN hS0 hi hn) (xg k_c079286d93) (List.mem_cons_of_mem _ k_6f9ce34938) (List.mem_cons_of_mem _ k_61ce0833a3) (List.mem_cons_of_mem _ k_91970b1809) (List.mem_cons_of_mem _ k_6836736ab7) (by decide +kernel) (by decide) rfl hl.1 rfl (Nat.le_of_ble_eq_true rfl) d_SpectrumDesk_multiplicity_2) I (fun r1 σ9 H locs hp I => ?_)
  obtain ⟨rfl, h9⟩ := hp; rw [h9] at I; clear h9
  refine lv_if_ne hx hb d_SpectrumDesk_multiplicity_5 rfl (fun hc => ?_) (fun hc => ?_)
  · refine lv_aload_n hx hb d_SpectrumDesk_multiplicity_18 rfl (lv_at hl 0 rfl) ?_
    refine xr_callk (xr_runV (kc := 7) (kr := 8) (n := 0) (As := []) (rest := []) X I (by omega) hS0 rfl (c_SpectrumDesk_upToDate (A := A) (V := V) hN hS0 h1n hn hA hsA hgd hsp hst) (xg k_7fc044eb5f) (List.mem_cons_of_mem _ k_e6e30bc1cd) (List.mem_cons_of_mem _ k_d50a5cd376) (List.mem_cons_of_mem _ k_61afc8fd0f) (List.mem_cons_of_mem _ k_6836736ab7) (by decide +kernel) (by decide) rfl hl.1 rfl (Nat.le_of_ble_eq_true rfl) d_SpectrumDesk_multiplicity_19) I (fun σ1 H locs hp I => ?_)
    obtain ⟨rk, hU1⟩ := hp
    obtain ⟨_, _, _, _, _, _, bE, _⟩ : ∃ (t : Int64) (lf : Nat) (Cl : Nat → Int64) (Kn sf : Nat → Int32) (Ff : Nat → Nat → Int32), σ1 18 = .inr (ciE, eF ad rk (nI n) (nI (bdF A n n)) t) ∧ True := by obtain ⟨-, -, -, t, lf, Cl, Kn, sf, Ff, h, -⟩ := id hU1; exact ⟨t, lf, Cl, Kn, sf, Ff, h, trivial⟩
    refine lv_astore_n (lv' := [(2, .ref (ad 18)), (0, .ref (ad 0)), (1, .int (nI i))]) hx hb d_SpectrumDesk_multiplicity_22 rfl hl (by decide) rfl (fun ls hl => ?_)
    refine lv_aload_n hx hb d_SpectrumDesk_multiplicity_23 rfl (lv_at hl 0 rfl) ?_
    refine xr_callv (xr_runV (kc := 7) (kr := 8) (n := 0) (As := []) (rest := []) X I (by omega) bE rfl (c_Spectrum_findRepeated (σb := σ) hN h1n hn hsA hgd hU1) (xg k_889f80dfba) (List.mem_cons_of_mem _ k_e2a333427a) (List.mem_cons_of_mem _ k_1181b6d3ff) (List.mem_cons_of_mem _ k_553cd8a29c) (List.mem_cons_of_mem _ k_c663d572ae) (by decide +kernel) (by decide) rfl hl.1 rfl (Nat.le_of_ble_eq_true rfl) d_SpectrumDesk_multiplicity_24) I (fun σ2 H locs hp I => ?_)
    have hU2 := hp
    clear bE
    obtain ⟨-, z0, ⟨a1, -, -, -, a5, a6, a7, -, -⟩, t9, lf, Cl, Kn, sf, Ff, b1, b2, b3, b4, b5, b6, b7, b8, b9, c1⟩ := id hU2
    obtain ⟨-, F2, s2, c2, c3⟩ := c1.resolve_left (fun h => absurd h.1 (by decide))
    have hlf := hgd.2.1 lf b3
    obtain ⟨bb, -, -, -, hl2, hl12⟩ := b3
    have hbl := bdF_le (n := n) hsA hn n hn
    refine lv_aload_n hx hb d_SpectrumDesk_multiplicity_27 rfl (lv_at hl 0 rfl) ?_
    refine lv_iload_n hx hb d_SpectrumDesk_multiplicity_28 rfl (lv_at hl 2 rfl) ?_
    by_cases hd0 : (ceD (pB (iA A) n) n) = 0
    · rw [hd0] at c2
      refine xr_calli (xr_runV (kc := 6) (kr := 8) (n := 1) (As := [.int (nI i)]) (rest := []) X I (by omega) b1 rfl (c_Spectrum_howManySame_0 hN b1 c2) (xg k_6e95f760ae) (List.mem_cons_of_mem _ k_3147e43edf) (List.mem_cons_of_mem _ k_e9c72291af) (List.mem_cons_of_mem _ k_b55caedb77) (List.mem_cons_of_mem _ k_c663d572ae) (by decide +kernel) (by decide) rfl hl.1 rfl (Nat.le_of_ble_eq_true rfl) d_SpectrumDesk_multiplicity_29) I (fun x σ3 H locs hp I => ?_)
      obtain ⟨rfl, h9⟩ := hp; rw [h9] at I
      exact xr_iret X I hr hlk ⟨by rw [if_pos hd0], _, hU2⟩ d_SpectrumDesk_multiplicity_32
    · obtain ⟨Fn, sn, p1, p2⟩ := b4.1 n (Nat.le_refl _)
      have hdr6 : (ceD (pB (iA A) n) n) ≤ 6 := by have := euF_le (n - 1) (pB (iA A) n) (dF (pB (iA A) n)); rw [ceD]; omega
      refine xr_calli (xr_runV (kc := 6) (kr := 8) (n := 1) (As := [.int (nI i)]) (rest := []) X I (by omega) b1 rfl (c_Spectrum_howManySame (V := V) (i9 := i) (dr := (ceD (pB (iA A) n) n)) (pn := (pB (iA A) n)) (pr := ceF (pB (iA A) n) n) hN b1 b5 b6 b8 a5 hn hl2 hl12 b9 hlf.1 hbl hlf.2 hgd.2.2.1 b7 hgd.2.2.2.1 hi a1 p1 p2 (hgd.1 n (Nat.le_refl _)) c2 c3 hgd.2.2.2.2.2.2.2.2.1 hdr6 a6 a7 (by omega) (hgd.2.2.2.2.2.2.2.2.2 i hi (by omega))) (xg k_6e95f760ae) (List.mem_cons_of_mem _ k_3147e43edf) (List.mem_cons_of_mem _ k_e9c72291af) (List.mem_cons_of_mem _ k_b55caedb77) (List.mem_cons_of_mem _ k_c663d572ae) (by decide +kernel) (by decide) rfl hl.1 rfl (Nat.le_of_ble_eq_true rfl) d_SpectrumDesk_multiplicity_29) I (fun x σ3 H locs hp I => ?_)
      obtain ⟨ex, Cl3, Kn3, f3, d2, d3, d4, d5, d6, d7⟩ := hp
      exact xr_iret X I hr hlk ⟨by rw [if_neg hd0]; exact ex, _, upV_m hU2 hn f3 d2 d3 d4 d5 d6 d7⟩ d_SpectrumDesk_multiplicity_32
  · exact absurd hc (by decide)
set_option maxHeartbeats 4000000 in
set_option maxRecDepth 100000 in
theorem c_SpectrumDesk_apart {l : Launch} {D : va_G} {cI cJ cZ cC cG cP : ClassId} {N : Nat} {ad : Nat → Nat} {σ : Nat → va_E} {n : Nat} {st : Int32} (hN : N = 193) (hS0 : σ 0 = .inr (ciS, [.ref (ad 1), .ref (ad 8), .ref (ad 9), .ref (ad 18), .ref (ad 179), .int (nI n), .int st])) {A : Nat → Nat → Int32} {V : Nat → Int} (h1n : 1 ≤ n) (hn : n ≤ 6) (hA : mat ad cI cG σ 1 2 A) (hsA : smA A) (hgd : gdM A n V) (hsp : spZ ad cI cG cP σ) (hst : (st = nI 0 ∧ ∃ rk, spV ad cI cJ cZ cG σ A n V rk) ∨ (st = nI 1 ∧ spN ad cI cJ cZ cG σ)) :
    Met l y_SpectrumDesk_apart v_SpectrumDesk_apart (xrm 8) (va_Pc [.ref (ad 0)] (xS D classes (xT cI cJ cZ cC cG cP) N ad σ)) (va_Qi (fun r σ2 => ((∃ v, v ≤ 30 ∧ r = nI v ∧ nI (ctF V v (n - 1)) = nI n - nI (ceD (pB (iA A) n) n) ∧ ∀ u, u < v → ¬ nI (ctF V u (n - 1)) = nI n - nI (ceD (pB (iA A) n) n)) ∨ (r = -1 ∧ ∀ u, u ≤ 30 → ¬ nI (ctF V u (n - 1)) = nI n - nI (ceD (pB (iA A) n) n))) ∧ ∃ rk, upV ad cI cJ cZ cG cP σ A n V rk σ2) (xS D classes (xT cI cJ cZ cC cG cP) N ad) (xA N ad)) 0 0 (xA N ad) := by
  refine xr_met rfl (Nat.le_of_ble_eq_true rfl) ?_
  intro p e s m args below meth c ls hx hb X hr hlk hl I
  have hl : lv_has ls 3 [(0, .ref (ad 0))] := hl
  refine lv_aload_n hx hb d_SpectrumDesk_apart_0 rfl (lv_at hl 0 rfl) ?_
  refine xr_callk (xr_runV (kc := 7) (kr := 8) (n := 0) (As := []) (rest := []) X I (by omega) hS0 rfl (c_SpectrumDesk_upToDate (A := A) (V := V) hN hS0 h1n hn hA hsA hgd hsp hst) (xg k_7fc044eb5f) (List.mem_cons_of_mem _ k_e6e30bc1cd) (List.mem_cons_of_mem _ k_d50a5cd376) (List.mem_cons_of_mem _ k_61afc8fd0f) (List.mem_cons_of_mem _ k_6836736ab7) (by decide +kernel) (by decide) rfl hl.1 rfl (Nat.le_of_ble_eq_true rfl) d_SpectrumDesk_apart_1) I (fun σ1 H locs hp I => ?_)
  obtain ⟨rk, hU1⟩ := hp
  obtain ⟨_, _, _, _, _, _, bE, _⟩ : ∃ (t : Int64) (lf : Nat) (Cl : Nat → Int64) (Kn sf : Nat → Int32) (Ff : Nat → Nat → Int32), σ1 18 = .inr (ciE, eF ad rk (nI n) (nI (bdF A n n)) t) ∧ True := by obtain ⟨-, -, -, t, lf, Cl, Kn, sf, Ff, h, -⟩ := id hU1; exact ⟨t, lf, Cl, Kn, sf, Ff, h, trivial⟩
  refine lv_astore_n (lv' := [(1, .ref (ad 18)), (0, .ref (ad 0))]) hx hb d_SpectrumDesk_apart_4 rfl hl (by decide) rfl (fun ls hl => ?_)
  refine lv_aload_n hx hb d_SpectrumDesk_apart_5 rfl (lv_at hl 0 rfl) ?_
  refine xr_callv (xr_runV (kc := 7) (kr := 8) (n := 0) (As := []) (rest := []) X I (by omega) bE rfl (c_Spectrum_findRepeated (σb := σ) hN h1n hn hsA hgd hU1) (xg k_889f80dfba) (List.mem_cons_of_mem _ k_e2a333427a) (List.mem_cons_of_mem _ k_1181b6d3ff) (List.mem_cons_of_mem _ k_553cd8a29c) (List.mem_cons_of_mem _ k_c663d572ae) (by decide +kernel) (by decide) rfl hl.1 rfl (Nat.le_of_ble_eq_true rfl) d_SpectrumDesk_apart_6) I (fun σ2 H locs hp I => ?_)
  have hU2 := hp
  clear bE
  refine lv_iconst (v := nI 0) hx hb d_SpectrumDesk_apart_9 (by decide) ?_
  refine lv_istore_n (lv' := [(2, .int (nI 0)), (1, .ref (ad 18)), (0, .ref (ad 0))]) hx hb d_SpectrumDesk_apart_10 rfl hl (by decide) rfl (fun ls hl => ?_)
  have loop : ∀ (f : Nat) (v9 : Nat) (σ3 : Nat → va_E) (ls : Array Slot) (H : Heap) (locs : List Loc), v9 + f = 31 → (∀ u, u < v9 → ¬ nI (ctF V u (n - 1)) = nI n - nI (ceD (pB (iA A) n) n)) → upV ad cI cJ cZ cG cP σ A n V (nI 1) σ3 → lv_has ls 3 [(2, .int (nI v9)), (1, .ref (ad 18)), (0, .ref (ad 0))] → xI D classes N ad s.heap (σ3) H locs → W p l e (xrm 8) s m args below meth c H locs 0 0 (MQ below (va_Qi (fun r σ2 => ((∃ v, v ≤ 30 ∧ r = nI v ∧ nI (ctF V v (n - 1)) = nI n - nI (ceD (pB (iA A) n) n) ∧ ∀ u, u < v → ¬ nI (ctF V u (n - 1)) = nI n - nI (ceD (pB (iA A) n) n)) ∨ (r = -1 ∧ ∀ u, u ≤ 30 → ¬ nI (ctF V u (n - 1)) = nI n - nI (ceD (pB (iA A) n) n))) ∧ ∃ rk, upV ad cI cJ cZ cG cP σ A n V rk σ2) (xS D classes (xT cI cJ cZ cC cG cP) N ad) (xA N ad)) args s 0 0 (xA N ad)) (F0 m 11 ls []) := by
    intro f
    induction f with
    | zero =>
      intro v9 σ3 ls H locs hk hno hU3 hl I
      obtain rfl : v9 = 31 := by omega
      refine lv_iload_n hx hb d_SpectrumDesk_apart_11 rfl (lv_at hl 0 rfl) ?_
      refine lv_bipush (v := nI 30) hx hb d_SpectrumDesk_apart_12 (by decide) ?_
      refine lv_icmp_gt hx hb d_SpectrumDesk_apart_14 rfl (fun hc => ?_) (fun hc => ?_)
      · refine lv_iconst (v := (-1)) hx hb d_SpectrumDesk_apart_37 (by decide) ?_
        exact xr_iret X I hr hlk ⟨Or.inr ⟨rfl, fun u hu => hno u (by omega)⟩, _, hU3⟩ d_SpectrumDesk_apart_38
      · exact absurd (nI_lt (by decide) (by decide)) hc
    | succ f ih =>
      intro v9 σ3 ls H locs hk hno hU3 hl I
      refine lv_iload_n hx hb d_SpectrumDesk_apart_11 rfl (lv_at hl 0 rfl) ?_
      refine lv_bipush (v := nI 30) hx hb d_SpectrumDesk_apart_12 (by decide) ?_
      refine lv_icmp_gt hx hb d_SpectrumDesk_apart_14 rfl (fun hc => ?_) (fun hc => ?_)
      · exact absurd hc (nI_nlt (by omega) (by omega))
      · obtain ⟨-, z0, ⟨a1, -, -, -, a5, a6, a7, -, -⟩, t9, lf, Cl, Kn, sf, Ff, b1, b2, b3, b4, b5, b6, b7, b8, b9, c1⟩ := id hU3
        have hlf := hgd.2.1 lf b3
        obtain ⟨bb, -, -, -, hl2, hl12⟩ := b3
        have hbl := bdF_le (n := n) hsA hn n hn
        refine lv_aload_n hx hb d_SpectrumDesk_apart_17 rfl (lv_at hl 1 rfl) ?_
        refine lv_iload_n hx hb d_SpectrumDesk_apart_18 rfl (lv_at hl 0 rfl) ?_
        refine xr_calli (xr_runV (kc := 6) (kr := 8) (n := 1) (As := [.int (nI v9)]) (rest := []) X I (by omega) b1 rfl (c_Spectrum_cellsTaken (V := V) (w9 := v9) hN b1 b5 b6 b8 a5 hn hl2 hl12 b9 hlf.1 hbl hlf.2 hgd.2.2.1 b7 hgd.2.2.2.1 (by omega) h1n) (xg k_a92faac854) (List.mem_cons_of_mem _ k_f125b78b27) (List.mem_cons_of_mem _ k_8cd2579a11) (List.mem_cons_of_mem _ k_2797480161) (List.mem_cons_of_mem _ k_c663d572ae) (by decide +kernel) (by decide) rfl hl.1 rfl (Nat.le_of_ble_eq_true rfl) d_SpectrumDesk_apart_19) I (fun x σ4 H locs hp I => ?_)
        obtain ⟨ex, Cl4, Kn4, f4, d2, d3, d4, d5⟩ := hp
        have hU4 := upV_q hU3 hn f4 d2 d3 d4 d5
        subst ex
        obtain ⟨-, -, -, t8, lf8, Cl8, Kn8, sf8, Ff8, b1b, -, -, -, -, -, -, -, -, c1b⟩ := id hU4
        obtain ⟨-, F2, s2, c2, -⟩ := c1b.resolve_left (fun h => absurd h.1 (by decide))
        refine lv_aload_n hx hb d_SpectrumDesk_apart_22 rfl (lv_at hl 1 rfl) ?_
        refine xr_calli (xr_runV (kc := 0) (kr := 8) (n := 0) (As := []) (rest := [.int (nI (ctF V v9 (n - 1)))]) X I (by omega) b1b rfl (c_Spectrum_howManyDifferent hN b1b c2) (xg k_c88c46ce79) (List.mem_cons_of_mem _ k_09e2e7be1d) (List.mem_cons_of_mem _ k_057cf8b2da) (List.mem_cons_of_mem _ k_216379c982) (List.mem_cons_of_mem _ k_c663d572ae) (by decide +kernel) (by decide) rfl hl.1 rfl (Nat.le_of_ble_eq_true rfl) d_SpectrumDesk_apart_23) I (fun y σ5 H locs hp I => ?_)
        obtain ⟨rfl, h9⟩ := hp; rw [h9] at I; clear h9
        refine lv_icmp_ne hx hb d_SpectrumDesk_apart_26 rfl (fun hd => ?_) (fun hd => ?_)
        · refine lv_iinc (k := 0) (v := nI (v9 + 1)) (lv' := [(2, .int (nI (v9 + 1))), (1, .ref (ad 18)), (0, .ref (ad 0))]) hx hb d_SpectrumDesk_apart_31 hl rfl (nI_1 v9) (by decide) rfl (fun ls hl => ?_)
          refine lv_goto hx hb d_SpectrumDesk_apart_34 rfl ?_
          exact ih (v9 + 1) σ4 ls H locs (by omega) (fun u hu => by rcases Nat.lt_or_ge u v9 with h | h; exact hno u h; obtain rfl : u = v9 := (by omega); exact hd) hU4 hl I
        · refine lv_iload_n hx hb d_SpectrumDesk_apart_29 rfl (lv_at hl 0 rfl) ?_
          exact xr_iret X I hr hlk ⟨Or.inl ⟨v9, by omega, rfl, hd, hno⟩, _, hU4⟩ d_SpectrumDesk_apart_30
  exact loop 31 0 σ2 ls _ _ (by omega) (fun u hu => absurd hu (Nat.not_lt_zero _)) hU2 hl I
