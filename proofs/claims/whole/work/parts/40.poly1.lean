/-! SpectrumDesk$Polynomial: lowerRoots, multiplyRoots, rootsAtZero, rootsAbove, rootsBelow (written by wip/gen) -/
abbrev b_Polynomial_lowerRoots : ByteArray := prog_5_method_5_code
abbrev y_Polynomial_lowerRoots : MethodName := ⟨"SpectrumDesk$Polynomial", "lowerRoots", "(J)V"⟩
abbrev v_Polynomial_lowerRoots : List Cond := Cond.code y_Polynomial_lowerRoots b_Polynomial_lowerRoots 5 none :: AW
theorem d_Polynomial_lowerRoots_0 : decode b_Polynomial_lowerRoots 0 = .ok (.iconst 0, 1) := by decide +kernel
theorem d_Polynomial_lowerRoots_1 : decode b_Polynomial_lowerRoots 1 = .ok (.istore_n 3, 1) := by decide +kernel
theorem d_Polynomial_lowerRoots_2 : decode b_Polynomial_lowerRoots 2 = .ok (.iload_n 3, 1) := by decide +kernel
theorem d_Polynomial_lowerRoots_3 : decode b_Polynomial_lowerRoots 3 = .ok (.aload_n 0, 1) := by decide +kernel
theorem d_Polynomial_lowerRoots_4 : decode b_Polynomial_lowerRoots 4 = .ok (.getfield 24, 3) := by decide +kernel
theorem d_Polynomial_lowerRoots_7 : decode b_Polynomial_lowerRoots 7 = .ok (.if_icmp .ge (53), 3) := by decide +kernel
theorem d_Polynomial_lowerRoots_10 : decode b_Polynomial_lowerRoots 10 = .ok (.aload_n 0, 1) := by decide +kernel
theorem d_Polynomial_lowerRoots_11 : decode b_Polynomial_lowerRoots 11 = .ok (.getfield 24, 3) := by decide +kernel
theorem d_Polynomial_lowerRoots_14 : decode b_Polynomial_lowerRoots 14 = .ok (.iconst 1, 1) := by decide +kernel
theorem d_Polynomial_lowerRoots_15 : decode b_Polynomial_lowerRoots 15 = .ok (.isub, 1) := by decide +kernel
theorem d_Polynomial_lowerRoots_16 : decode b_Polynomial_lowerRoots 16 = .ok (.istore 4, 2) := by decide +kernel
theorem d_Polynomial_lowerRoots_18 : decode b_Polynomial_lowerRoots 18 = .ok (.iload 4, 2) := by decide +kernel
theorem d_Polynomial_lowerRoots_20 : decode b_Polynomial_lowerRoots 20 = .ok (.iload_n 3, 1) := by decide +kernel
theorem d_Polynomial_lowerRoots_21 : decode b_Polynomial_lowerRoots 21 = .ok (.if_icmp .lt (33), 3) := by decide +kernel
theorem d_Polynomial_lowerRoots_24 : decode b_Polynomial_lowerRoots 24 = .ok (.aload_n 0, 1) := by decide +kernel
theorem d_Polynomial_lowerRoots_25 : decode b_Polynomial_lowerRoots 25 = .ok (.getfield 11, 3) := by decide +kernel
theorem d_Polynomial_lowerRoots_28 : decode b_Polynomial_lowerRoots 28 = .ok (.iload 4, 2) := by decide +kernel
theorem d_Polynomial_lowerRoots_30 : decode b_Polynomial_lowerRoots 30 = .ok (.aaload, 1) := by decide +kernel
theorem d_Polynomial_lowerRoots_31 : decode b_Polynomial_lowerRoots 31 = .ok (.aload_n 0, 1) := by decide +kernel
theorem d_Polynomial_lowerRoots_32 : decode b_Polynomial_lowerRoots 32 = .ok (.getfield 11, 3) := by decide +kernel
theorem d_Polynomial_lowerRoots_35 : decode b_Polynomial_lowerRoots 35 = .ok (.iload 4, 2) := by decide +kernel
theorem d_Polynomial_lowerRoots_37 : decode b_Polynomial_lowerRoots 37 = .ok (.iconst 1, 1) := by decide +kernel
theorem d_Polynomial_lowerRoots_38 : decode b_Polynomial_lowerRoots 38 = .ok (.iadd, 1) := by decide +kernel
theorem d_Polynomial_lowerRoots_39 : decode b_Polynomial_lowerRoots 39 = .ok (.aaload, 1) := by decide +kernel
theorem d_Polynomial_lowerRoots_40 : decode b_Polynomial_lowerRoots 40 = .ok (.lload_n 1, 1) := by decide +kernel
theorem d_Polynomial_lowerRoots_41 : decode b_Polynomial_lowerRoots 41 = .ok (.aload_n 0, 1) := by decide +kernel
theorem d_Polynomial_lowerRoots_42 : decode b_Polynomial_lowerRoots 42 = .ok (.getfield 20, 3) := by decide +kernel
theorem d_Polynomial_lowerRoots_45 : decode b_Polynomial_lowerRoots 45 = .ok (.invokestatic 47, 3) := by decide +kernel
theorem d_Polynomial_lowerRoots_48 : decode b_Polynomial_lowerRoots 48 = .ok (.iinc 4 (-1), 3) := by decide +kernel
theorem d_Polynomial_lowerRoots_51 : decode b_Polynomial_lowerRoots 51 = .ok (.goto (-33), 3) := by decide +kernel
theorem d_Polynomial_lowerRoots_54 : decode b_Polynomial_lowerRoots 54 = .ok (.iinc 3 (1), 3) := by decide +kernel
theorem d_Polynomial_lowerRoots_57 : decode b_Polynomial_lowerRoots 57 = .ok (.goto (-55), 3) := by decide +kernel
theorem d_Polynomial_lowerRoots_60 : decode b_Polynomial_lowerRoots 60 = .ok (.return_, 1) := by decide +kernel
abbrev b_Polynomial_multiplyRoots : ByteArray := prog_5_method_4_code
abbrev y_Polynomial_multiplyRoots : MethodName := ⟨"SpectrumDesk$Polynomial", "multiplyRoots", "(J)V"⟩
abbrev v_Polynomial_multiplyRoots : List Cond := Cond.code y_Polynomial_multiplyRoots b_Polynomial_multiplyRoots 5 none :: AW
theorem d_Polynomial_multiplyRoots_0 : decode b_Polynomial_multiplyRoots 0 = .ok (.iconst 0, 1) := by decide +kernel
theorem d_Polynomial_multiplyRoots_1 : decode b_Polynomial_multiplyRoots 1 = .ok (.istore_n 3, 1) := by decide +kernel
theorem d_Polynomial_multiplyRoots_2 : decode b_Polynomial_multiplyRoots 2 = .ok (.iload_n 3, 1) := by decide +kernel
theorem d_Polynomial_multiplyRoots_3 : decode b_Polynomial_multiplyRoots 3 = .ok (.aload_n 0, 1) := by decide +kernel
theorem d_Polynomial_multiplyRoots_4 : decode b_Polynomial_multiplyRoots 4 = .ok (.getfield 24, 3) := by decide +kernel
theorem d_Polynomial_multiplyRoots_7 : decode b_Polynomial_multiplyRoots 7 = .ok (.if_icmp .ge (77), 3) := by decide +kernel
theorem d_Polynomial_multiplyRoots_10 : decode b_Polynomial_multiplyRoots 10 = .ok (.iload_n 3, 1) := by decide +kernel
theorem d_Polynomial_multiplyRoots_11 : decode b_Polynomial_multiplyRoots 11 = .ok (.istore 4, 2) := by decide +kernel
theorem d_Polynomial_multiplyRoots_13 : decode b_Polynomial_multiplyRoots 13 = .ok (.iload 4, 2) := by decide +kernel
theorem d_Polynomial_multiplyRoots_15 : decode b_Polynomial_multiplyRoots 15 = .ok (.aload_n 0, 1) := by decide +kernel
theorem d_Polynomial_multiplyRoots_16 : decode b_Polynomial_multiplyRoots 16 = .ok (.getfield 24, 3) := by decide +kernel
theorem d_Polynomial_multiplyRoots_19 : decode b_Polynomial_multiplyRoots 19 = .ok (.if_icmp .ge (59), 3) := by decide +kernel
theorem d_Polynomial_multiplyRoots_22 : decode b_Polynomial_multiplyRoots 22 = .ok (.aload_n 0, 1) := by decide +kernel
theorem d_Polynomial_multiplyRoots_23 : decode b_Polynomial_multiplyRoots 23 = .ok (.getfield 16, 3) := by decide +kernel
theorem d_Polynomial_multiplyRoots_26 : decode b_Polynomial_multiplyRoots 26 = .ok (.aload_n 0, 1) := by decide +kernel
theorem d_Polynomial_multiplyRoots_27 : decode b_Polynomial_multiplyRoots 27 = .ok (.getfield 11, 3) := by decide +kernel
theorem d_Polynomial_multiplyRoots_30 : decode b_Polynomial_multiplyRoots 30 = .ok (.iload_n 3, 1) := by decide +kernel
theorem d_Polynomial_multiplyRoots_31 : decode b_Polynomial_multiplyRoots 31 = .ok (.aaload, 1) := by decide +kernel
theorem d_Polynomial_multiplyRoots_32 : decode b_Polynomial_multiplyRoots 32 = .ok (.aload_n 0, 1) := by decide +kernel
theorem d_Polynomial_multiplyRoots_33 : decode b_Polynomial_multiplyRoots 33 = .ok (.getfield 20, 3) := by decide +kernel
theorem d_Polynomial_multiplyRoots_36 : decode b_Polynomial_multiplyRoots 36 = .ok (.invokestatic 43, 3) := by decide +kernel
theorem d_Polynomial_multiplyRoots_39 : decode b_Polynomial_multiplyRoots 39 = .ok (.aload_n 0, 1) := by decide +kernel
theorem d_Polynomial_multiplyRoots_40 : decode b_Polynomial_multiplyRoots 40 = .ok (.getfield 11, 3) := by decide +kernel
theorem d_Polynomial_multiplyRoots_43 : decode b_Polynomial_multiplyRoots 43 = .ok (.iload_n 3, 1) := by decide +kernel
theorem d_Polynomial_multiplyRoots_44 : decode b_Polynomial_multiplyRoots 44 = .ok (.aaload, 1) := by decide +kernel
theorem d_Polynomial_multiplyRoots_45 : decode b_Polynomial_multiplyRoots 45 = .ok (.iconst 0, 1) := by decide +kernel
theorem d_Polynomial_multiplyRoots_46 : decode b_Polynomial_multiplyRoots 46 = .ok (.aload_n 0, 1) := by decide +kernel
theorem d_Polynomial_multiplyRoots_47 : decode b_Polynomial_multiplyRoots 47 = .ok (.getfield 20, 3) := by decide +kernel
theorem d_Polynomial_multiplyRoots_50 : decode b_Polynomial_multiplyRoots 50 = .ok (.iconst 0, 1) := by decide +kernel
theorem d_Polynomial_multiplyRoots_51 : decode b_Polynomial_multiplyRoots 51 = .ok (.invokestatic 33, 3) := by decide +kernel
theorem d_Polynomial_multiplyRoots_54 : decode b_Polynomial_multiplyRoots 54 = .ok (.aload_n 0, 1) := by decide +kernel
theorem d_Polynomial_multiplyRoots_55 : decode b_Polynomial_multiplyRoots 55 = .ok (.getfield 11, 3) := by decide +kernel
theorem d_Polynomial_multiplyRoots_58 : decode b_Polynomial_multiplyRoots 58 = .ok (.iload_n 3, 1) := by decide +kernel
theorem d_Polynomial_multiplyRoots_59 : decode b_Polynomial_multiplyRoots 59 = .ok (.aaload, 1) := by decide +kernel
theorem d_Polynomial_multiplyRoots_60 : decode b_Polynomial_multiplyRoots 60 = .ok (.aload_n 0, 1) := by decide +kernel
theorem d_Polynomial_multiplyRoots_61 : decode b_Polynomial_multiplyRoots 61 = .ok (.getfield 16, 3) := by decide +kernel
theorem d_Polynomial_multiplyRoots_64 : decode b_Polynomial_multiplyRoots 64 = .ok (.lload_n 1, 1) := by decide +kernel
theorem d_Polynomial_multiplyRoots_65 : decode b_Polynomial_multiplyRoots 65 = .ok (.aload_n 0, 1) := by decide +kernel
theorem d_Polynomial_multiplyRoots_66 : decode b_Polynomial_multiplyRoots 66 = .ok (.getfield 20, 3) := by decide +kernel
theorem d_Polynomial_multiplyRoots_69 : decode b_Polynomial_multiplyRoots 69 = .ok (.invokestatic 47, 3) := by decide +kernel
theorem d_Polynomial_multiplyRoots_72 : decode b_Polynomial_multiplyRoots 72 = .ok (.iinc 4 (1), 3) := by decide +kernel
theorem d_Polynomial_multiplyRoots_75 : decode b_Polynomial_multiplyRoots 75 = .ok (.goto (-62), 3) := by decide +kernel
theorem d_Polynomial_multiplyRoots_78 : decode b_Polynomial_multiplyRoots 78 = .ok (.iinc 3 (1), 3) := by decide +kernel
theorem d_Polynomial_multiplyRoots_81 : decode b_Polynomial_multiplyRoots 81 = .ok (.goto (-79), 3) := by decide +kernel
theorem d_Polynomial_multiplyRoots_84 : decode b_Polynomial_multiplyRoots 84 = .ok (.return_, 1) := by decide +kernel
abbrev b_Polynomial_rootsAtZero : ByteArray := prog_5_method_6_code
abbrev y_Polynomial_rootsAtZero : MethodName := ⟨"SpectrumDesk$Polynomial", "rootsAtZero", "()I"⟩
abbrev v_Polynomial_rootsAtZero : List Cond := Cond.code y_Polynomial_rootsAtZero b_Polynomial_rootsAtZero 2 (some .int) :: AW
theorem d_Polynomial_rootsAtZero_0 : decode b_Polynomial_rootsAtZero 0 = .ok (.iconst 0, 1) := by decide +kernel
theorem d_Polynomial_rootsAtZero_1 : decode b_Polynomial_rootsAtZero 1 = .ok (.istore_n 1, 1) := by decide +kernel
theorem d_Polynomial_rootsAtZero_2 : decode b_Polynomial_rootsAtZero 2 = .ok (.iload_n 1, 1) := by decide +kernel
theorem d_Polynomial_rootsAtZero_3 : decode b_Polynomial_rootsAtZero 3 = .ok (.aload_n 0, 1) := by decide +kernel
theorem d_Polynomial_rootsAtZero_4 : decode b_Polynomial_rootsAtZero 4 = .ok (.getfield 24, 3) := by decide +kernel
theorem d_Polynomial_rootsAtZero_7 : decode b_Polynomial_rootsAtZero 7 = .ok (.if_icmp .ge (27), 3) := by decide +kernel
theorem d_Polynomial_rootsAtZero_10 : decode b_Polynomial_rootsAtZero 10 = .ok (.aload_n 0, 1) := by decide +kernel
theorem d_Polynomial_rootsAtZero_11 : decode b_Polynomial_rootsAtZero 11 = .ok (.getfield 11, 3) := by decide +kernel
theorem d_Polynomial_rootsAtZero_14 : decode b_Polynomial_rootsAtZero 14 = .ok (.iload_n 1, 1) := by decide +kernel
theorem d_Polynomial_rootsAtZero_15 : decode b_Polynomial_rootsAtZero 15 = .ok (.aaload, 1) := by decide +kernel
theorem d_Polynomial_rootsAtZero_16 : decode b_Polynomial_rootsAtZero 16 = .ok (.aload_n 0, 1) := by decide +kernel
theorem d_Polynomial_rootsAtZero_17 : decode b_Polynomial_rootsAtZero 17 = .ok (.getfield 20, 3) := by decide +kernel
theorem d_Polynomial_rootsAtZero_20 : decode b_Polynomial_rootsAtZero 20 = .ok (.invokestatic 51, 3) := by decide +kernel
theorem d_Polynomial_rootsAtZero_23 : decode b_Polynomial_rootsAtZero 23 = .ok (.ifCond .eq (5), 3) := by decide +kernel
theorem d_Polynomial_rootsAtZero_26 : decode b_Polynomial_rootsAtZero 26 = .ok (.iload_n 1, 1) := by decide +kernel
theorem d_Polynomial_rootsAtZero_27 : decode b_Polynomial_rootsAtZero 27 = .ok (.ireturn, 1) := by decide +kernel
theorem d_Polynomial_rootsAtZero_28 : decode b_Polynomial_rootsAtZero 28 = .ok (.iinc 1 (1), 3) := by decide +kernel
theorem d_Polynomial_rootsAtZero_31 : decode b_Polynomial_rootsAtZero 31 = .ok (.goto (-29), 3) := by decide +kernel
theorem d_Polynomial_rootsAtZero_34 : decode b_Polynomial_rootsAtZero 34 = .ok (.aload_n 0, 1) := by decide +kernel
theorem d_Polynomial_rootsAtZero_35 : decode b_Polynomial_rootsAtZero 35 = .ok (.getfield 24, 3) := by decide +kernel
theorem d_Polynomial_rootsAtZero_38 : decode b_Polynomial_rootsAtZero 38 = .ok (.ireturn, 1) := by decide +kernel
abbrev b_Polynomial_rootsAbove : ByteArray := prog_5_method_7_code
abbrev y_Polynomial_rootsAbove : MethodName := ⟨"SpectrumDesk$Polynomial", "rootsAbove", "()I"⟩
abbrev v_Polynomial_rootsAbove : List Cond := Cond.code y_Polynomial_rootsAbove b_Polynomial_rootsAbove 5 (some .int) :: AW
theorem d_Polynomial_rootsAbove_0 : decode b_Polynomial_rootsAbove 0 = .ok (.iconst 0, 1) := by decide +kernel
theorem d_Polynomial_rootsAbove_1 : decode b_Polynomial_rootsAbove 1 = .ok (.istore_n 1, 1) := by decide +kernel
theorem d_Polynomial_rootsAbove_2 : decode b_Polynomial_rootsAbove 2 = .ok (.iconst 1, 1) := by decide +kernel
theorem d_Polynomial_rootsAbove_3 : decode b_Polynomial_rootsAbove 3 = .ok (.istore_n 2, 1) := by decide +kernel
theorem d_Polynomial_rootsAbove_4 : decode b_Polynomial_rootsAbove 4 = .ok (.aload_n 0, 1) := by decide +kernel
theorem d_Polynomial_rootsAbove_5 : decode b_Polynomial_rootsAbove 5 = .ok (.getfield 24, 3) := by decide +kernel
theorem d_Polynomial_rootsAbove_8 : decode b_Polynomial_rootsAbove 8 = .ok (.istore_n 3, 1) := by decide +kernel
theorem d_Polynomial_rootsAbove_9 : decode b_Polynomial_rootsAbove 9 = .ok (.iload_n 3, 1) := by decide +kernel
theorem d_Polynomial_rootsAbove_10 : decode b_Polynomial_rootsAbove 10 = .ok (.ifCond .lt (37), 3) := by decide +kernel
theorem d_Polynomial_rootsAbove_13 : decode b_Polynomial_rootsAbove 13 = .ok (.aload_n 0, 1) := by decide +kernel
theorem d_Polynomial_rootsAbove_14 : decode b_Polynomial_rootsAbove 14 = .ok (.getfield 11, 3) := by decide +kernel
theorem d_Polynomial_rootsAbove_17 : decode b_Polynomial_rootsAbove 17 = .ok (.iload_n 3, 1) := by decide +kernel
theorem d_Polynomial_rootsAbove_18 : decode b_Polynomial_rootsAbove 18 = .ok (.aaload, 1) := by decide +kernel
theorem d_Polynomial_rootsAbove_19 : decode b_Polynomial_rootsAbove 19 = .ok (.aload_n 0, 1) := by decide +kernel
theorem d_Polynomial_rootsAbove_20 : decode b_Polynomial_rootsAbove 20 = .ok (.getfield 20, 3) := by decide +kernel
theorem d_Polynomial_rootsAbove_23 : decode b_Polynomial_rootsAbove 23 = .ok (.invokestatic 51, 3) := by decide +kernel
theorem d_Polynomial_rootsAbove_26 : decode b_Polynomial_rootsAbove 26 = .ok (.istore 4, 2) := by decide +kernel
theorem d_Polynomial_rootsAbove_28 : decode b_Polynomial_rootsAbove 28 = .ok (.iload 4, 2) := by decide +kernel
theorem d_Polynomial_rootsAbove_30 : decode b_Polynomial_rootsAbove 30 = .ok (.iload_n 2, 1) := by decide +kernel
theorem d_Polynomial_rootsAbove_31 : decode b_Polynomial_rootsAbove 31 = .ok (.ineg, 1) := by decide +kernel
theorem d_Polynomial_rootsAbove_32 : decode b_Polynomial_rootsAbove 32 = .ok (.if_icmp .ne (9), 3) := by decide +kernel
theorem d_Polynomial_rootsAbove_35 : decode b_Polynomial_rootsAbove 35 = .ok (.iinc 1 (1), 3) := by decide +kernel
theorem d_Polynomial_rootsAbove_38 : decode b_Polynomial_rootsAbove 38 = .ok (.iload 4, 2) := by decide +kernel
theorem d_Polynomial_rootsAbove_40 : decode b_Polynomial_rootsAbove 40 = .ok (.istore_n 2, 1) := by decide +kernel
theorem d_Polynomial_rootsAbove_41 : decode b_Polynomial_rootsAbove 41 = .ok (.iinc 3 (-1), 3) := by decide +kernel
theorem d_Polynomial_rootsAbove_44 : decode b_Polynomial_rootsAbove 44 = .ok (.goto (-35), 3) := by decide +kernel
theorem d_Polynomial_rootsAbove_47 : decode b_Polynomial_rootsAbove 47 = .ok (.iload_n 1, 1) := by decide +kernel
theorem d_Polynomial_rootsAbove_48 : decode b_Polynomial_rootsAbove 48 = .ok (.ireturn, 1) := by decide +kernel
abbrev b_Polynomial_rootsBelow : ByteArray := prog_5_method_8_code
abbrev y_Polynomial_rootsBelow : MethodName := ⟨"SpectrumDesk$Polynomial", "rootsBelow", "()I"⟩
abbrev v_Polynomial_rootsBelow : List Cond := Cond.code y_Polynomial_rootsBelow b_Polynomial_rootsBelow 1 (some .int) :: AW
theorem d_Polynomial_rootsBelow_0 : decode b_Polynomial_rootsBelow 0 = .ok (.aload_n 0, 1) := by decide +kernel
theorem d_Polynomial_rootsBelow_1 : decode b_Polynomial_rootsBelow 1 = .ok (.getfield 24, 3) := by decide +kernel
theorem d_Polynomial_rootsBelow_4 : decode b_Polynomial_rootsBelow 4 = .ok (.aload_n 0, 1) := by decide +kernel
theorem d_Polynomial_rootsBelow_5 : decode b_Polynomial_rootsBelow 5 = .ok (.invokevirtual 55, 3) := by decide +kernel
theorem d_Polynomial_rootsBelow_8 : decode b_Polynomial_rootsBelow 8 = .ok (.isub, 1) := by decide +kernel
theorem d_Polynomial_rootsBelow_9 : decode b_Polynomial_rootsBelow 9 = .ok (.aload_n 0, 1) := by decide +kernel
theorem d_Polynomial_rootsBelow_10 : decode b_Polynomial_rootsBelow 10 = .ok (.invokevirtual 59, 3) := by decide +kernel
theorem d_Polynomial_rootsBelow_13 : decode b_Polynomial_rootsBelow 13 = .ok (.isub, 1) := by decide +kernel
theorem d_Polynomial_rootsBelow_14 : decode b_Polynomial_rootsBelow 14 = .ok (.ireturn, 1) := by decide +kernel
theorem k_d20440e3eb : (Jvm.Cond.fieldLink "SpectrumDesk$Polynomial" (24 : Nat) "SpectrumDesk$Polynomial" "degree" "I") ∈ AW := aw_1 (List.mem_of_getElem? (i := 79) (by decide +kernel)) (by decide +kernel)
theorem k_fc34798cd9 : (Jvm.Cond.fieldLink "SpectrumDesk$Polynomial" (11 : Nat) "SpectrumDesk$Polynomial" "c" "[[I") ∈ AW := aw_1 (List.mem_of_getElem? (i := 70) (by decide +kernel)) (by decide +kernel)
theorem k_e72feda95c : (Jvm.Cond.fieldLink "SpectrumDesk$Polynomial" (20 : Nat) "SpectrumDesk$Polynomial" "limbs" "I") ∈ AW := aw_1 (List.mem_of_getElem? (i := 81) (by decide +kernel)) (by decide +kernel)
theorem k_e71ddd0730 : (Jvm.Cond.methodLink "SpectrumDesk$Polynomial" (47 : Nat) ({ cls := "SpectrumDesk$Limbs", name := "addLongTimes", desc := "([I[IJI)V" } : Jvm.MethodName)) ∈ AW := aw_3 (List.mem_of_getElem? (i := 171) (by decide +kernel)) (by decide +kernel)
theorem k_f18c53f766 : (Jvm.Cond.static ({ cls := "SpectrumDesk$Limbs", name := "addLongTimes", desc := "([I[IJI)V" } : Jvm.MethodName)) ∈ AW := aw_3 (List.mem_of_getElem? (i := 172) (by decide +kernel)) (by decide +kernel)
theorem k_d6e97a041f : (Jvm.Cond.fieldLink "SpectrumDesk$Polynomial" (16 : Nat) "SpectrumDesk$Polynomial" "spare" "[I") ∈ AW := aw_1 (List.mem_of_getElem? (i := 75) (by decide +kernel)) (by decide +kernel)
theorem k_d1c055e526 : (Jvm.Cond.methodLink "SpectrumDesk$Polynomial" (43 : Nat) ({ cls := "SpectrumDesk$Limbs", name := "copy", desc := "([I[II)V" } : Jvm.MethodName)) ∈ AW := aw_3 (List.mem_of_getElem? (i := 169) (by decide +kernel)) (by decide +kernel)
theorem k_d700ff4995 : (Jvm.Cond.static ({ cls := "SpectrumDesk$Limbs", name := "copy", desc := "([I[II)V" } : Jvm.MethodName)) ∈ AW := aw_2 (List.mem_of_getElem? (i := 43) (by decide +kernel)) (by decide +kernel)
theorem k_337ad15048 : (Jvm.Cond.methodLink "SpectrumDesk$Polynomial" (33 : Nat) ({ cls := "java/util/Arrays", name := "fill", desc := "([IIII)V" } : Jvm.MethodName)) ∈ AW := aw_3 (List.mem_of_getElem? (i := 170) (by decide +kernel)) (by decide +kernel)
theorem k_96ffd26084 : (Jvm.Cond.methodLink "SpectrumDesk$Polynomial" (51 : Nat) ({ cls := "SpectrumDesk$Limbs", name := "sign", desc := "([II)I" } : Jvm.MethodName)) ∈ AW := aw_4 (List.mem_of_getElem? (i := 48) (by decide +kernel)) (by decide +kernel)
theorem k_7f7b95cb8b : (Jvm.Cond.static ({ cls := "SpectrumDesk$Limbs", name := "sign", desc := "([II)I" } : Jvm.MethodName)) ∈ AW := aw_3 (List.mem_of_getElem? (i := 182) (by decide +kernel)) (by decide +kernel)
theorem k_bd6ea5fac5 : (Jvm.Cond.methodLink "SpectrumDesk$Polynomial" (55 : Nat) ({ cls := "SpectrumDesk$Polynomial", name := "rootsAtZero", desc := "()I" } : Jvm.MethodName)) ∈ AW := aw_4 (List.mem_of_getElem? (i := 44) (by decide +kernel)) (by decide +kernel)
theorem k_0f9ebc7ecf : (Jvm.Cond.instanceMethod ({ cls := "SpectrumDesk$Polynomial", name := "rootsAtZero", desc := "()I" } : Jvm.MethodName)) ∈ AW := aw_4 (List.mem_of_getElem? (i := 45) (by decide +kernel)) (by decide +kernel)
theorem k_9a3567c35e : (Jvm.Cond.selects "SpectrumDesk$Polynomial" ({ cls := "SpectrumDesk$Polynomial", name := "rootsAtZero", desc := "()I" } : Jvm.MethodName) ({ cls := "SpectrumDesk$Polynomial", name := "rootsAtZero", desc := "()I" } : Jvm.MethodName)) ∈ AW := aw_4 (List.mem_of_getElem? (i := 46) (by decide +kernel)) (by decide +kernel)
theorem k_a8ac99ee00 : (Jvm.Cond.initialized "SpectrumDesk$Polynomial") ∈ AW := aw_1 (List.mem_of_getElem? (i := 4) (by decide +kernel)) (by decide +kernel)
theorem k_2f6b9b0ef3 : (Jvm.Cond.methodLink "SpectrumDesk$Polynomial" (59 : Nat) ({ cls := "SpectrumDesk$Polynomial", name := "rootsAbove", desc := "()I" } : Jvm.MethodName)) ∈ AW := aw_4 (List.mem_of_getElem? (i := 49) (by decide +kernel)) (by decide +kernel)
theorem k_44b0f8a482 : (Jvm.Cond.instanceMethod ({ cls := "SpectrumDesk$Polynomial", name := "rootsAbove", desc := "()I" } : Jvm.MethodName)) ∈ AW := aw_4 (List.mem_of_getElem? (i := 50) (by decide +kernel)) (by decide +kernel)
theorem k_81d928149c : (Jvm.Cond.selects "SpectrumDesk$Polynomial" ({ cls := "SpectrumDesk$Polynomial", name := "rootsAbove", desc := "()I" } : Jvm.MethodName) ({ cls := "SpectrumDesk$Polynomial", name := "rootsAbove", desc := "()I" } : Jvm.MethodName)) ∈ AW := aw_4 (List.mem_of_getElem? (i := 51) (by decide +kernel)) (by decide +kernel)
theorem k_f8d403c61a : (Jvm.Cond.code ({ cls := "SpectrumDesk$Polynomial", name := "lowerRoots", desc := "(J)V" } : Jvm.MethodName) prog_5_method_5_code (5 : Nat) (Option.none : Option Jvm.ClassFile.FieldType)) ∈ AW := aw_4 (List.mem_of_getElem? (i := 39) (by decide +kernel)) (by decide +kernel)
theorem k_68ed1cfc4a : (Jvm.Cond.code ({ cls := "SpectrumDesk$Polynomial", name := "multiplyRoots", desc := "(J)V" } : Jvm.MethodName) prog_5_method_4_code (5 : Nat) (Option.none : Option Jvm.ClassFile.FieldType)) ∈ AW := aw_3 (List.mem_of_getElem? (i := 168) (by decide +kernel)) (by decide +kernel)
theorem k_c5d340c79c : (Jvm.Cond.code ({ cls := "SpectrumDesk$Polynomial", name := "rootsAtZero", desc := "()I" } : Jvm.MethodName) prog_5_method_6_code (2 : Nat) (Option.some Jvm.ClassFile.FieldType.int)) ∈ AW := aw_4 (List.mem_of_getElem? (i := 47) (by decide +kernel)) (by decide +kernel)
theorem k_98465b4a9e : (Jvm.Cond.code ({ cls := "SpectrumDesk$Polynomial", name := "rootsAbove", desc := "()I" } : Jvm.MethodName) prog_5_method_7_code (5 : Nat) (Option.some Jvm.ClassFile.FieldType.int)) ∈ AW := aw_4 (List.mem_of_getElem? (i := 52) (by decide +kernel)) (by decide +kernel)
theorem k_78be9b3f0a : (Jvm.Cond.code ({ cls := "SpectrumDesk$Polynomial", name := "rootsBelow", desc := "()I" } : Jvm.MethodName) prog_5_method_8_code (1 : Nat) (Option.some Jvm.ClassFile.FieldType.int)) ∈ AW := aw_4 (List.mem_of_getElem? (i := 43) (by decide +kernel)) (by decide +kernel)
set_option maxHeartbeats 4000000 in
set_option maxRecDepth 100000 in
theorem c_Polynomial_lowerRoots {l : Launch} {D : va_G} {cI cJ cZ cC cG cP : ClassId} {N : Nat} {ad : Nat → Nat} {σ : Nat → va_E} {i most dgr lbs : Nat} {F : Nat → Nat → Int32} {sp : Nat → Int32} {p0 : Nat → Int} (hN : i + 10 ≤ N) (hp0 : pl ad cI cG σ i most dgr lbs F sp) (hdg : dgr ≤ 6) (hm : most < 2 ^ 31) (hlm : lbs ≤ most) (hl2 : 2 ≤ lbs) (hpi : pl_is F dgr lbs p0) {v : Int64} :
    Met l y_Polynomial_lowerRoots v_Polynomial_lowerRoots (xrm 2) (va_Pc [.ref (ad i), .long v] (xS D classes (xT cI cJ cZ cC cG cP) N ad σ)) (va_Qv (pl_up ad cI cG σ i most dgr lbs (low v.toInt dgr p0 dgr)) (xS D classes (xT cI cJ cZ cC cG cP) N ad) (xA N ad)) 0 0 (xA N ad) := by
  refine xr_met rfl (Nat.le_of_ble_eq_true rfl) ?_
  intro p e s m args below meth c ls hx hb X hr hlk hl I
  have hl : lv_has ls 5 [(0, .ref (ad i)), (1, .long v)] := hl
  refine lv_iconst (v := nI 0) hx hb d_Polynomial_lowerRoots_0 (by decide) ?_
  refine lv_istore_n (lv' := [(3, .int (nI 0)), (0, .ref (ad i)), (1, .long v)]) hx hb d_Polynomial_lowerRoots_1 rfl hl (by decide) rfl (fun ls hl => ?_)
  have outer : ∀ (k : Nat) (a : Nat) (σ1 : Nat → va_E) (F1 : Nat → Nat → Int32) (sp1 : Nat → Int32) (ls : Array Slot) (H : Heap) (locs : List Loc), a + k = dgr → pl_fr σ σ1 i → pl ad cI cG σ1 i most dgr lbs F1 sp1 → pl_is F1 dgr lbs (low v.toInt dgr p0 a) → lv_has ls 5 [(3, .int (nI a)), (0, .ref (ad i)), (1, .long v)] → xI D classes N ad s.heap (σ1) H locs → W p l e (xrm 2) s m args below meth c H locs 0 0 (MQ below (va_Qv (pl_up ad cI cG σ i most dgr lbs (low v.toInt dgr p0 dgr)) (xS D classes (xT cI cJ cZ cC cG cP) N ad) (xA N ad)) args s 0 0 (xA N ad)) (F0 m 2 ls []) := by
    intro k
    induction k with
    | zero =>
      intro a σ1 F1 sp1 ls H locs hk hfr h1 h2 hl I
      obtain rfl : a = dgr := by omega
      refine lv_iload_n hx hb d_Polynomial_lowerRoots_2 rfl (lv_at hl 0 rfl) ?_
      refine lv_aload_n hx hb d_Polynomial_lowerRoots_3 rfl (lv_at hl 1 rfl) ?_
      refine xr_get X I fin_P i (by omega) (pl_o h1) rfl 2 (by decide) (List.mem_cons_of_mem _ k_d20440e3eb) rfl rfl d_Polynomial_lowerRoots_4 ?_
      refine lv_icmp_ge hx hb d_Polynomial_lowerRoots_7 rfl (fun hc => ?_) (fun hc => ?_)
      · exact xr_vret X I hr hlk ⟨F1, sp1, hfr, h1, h2⟩ d_Polynomial_lowerRoots_60
      · exact absurd (nI_le (Nat.le_refl _) (by omega)) hc
    | succ k ih =>
      intro a σ1 F1 sp1 ls H locs hk hfr h1 h2 hl I
      refine lv_iload_n hx hb d_Polynomial_lowerRoots_2 rfl (lv_at hl 0 rfl) ?_
      refine lv_aload_n hx hb d_Polynomial_lowerRoots_3 rfl (lv_at hl 1 rfl) ?_
      refine xr_get X I fin_P i (by omega) (pl_o h1) rfl 2 (by decide) (List.mem_cons_of_mem _ k_d20440e3eb) rfl rfl d_Polynomial_lowerRoots_4 ?_
      refine lv_icmp_ge hx hb d_Polynomial_lowerRoots_7 rfl (fun hc => ?_) (fun hc => ?_)
      · exact absurd hc (nI_ge (by omega) (by omega))
      · refine lv_aload_n hx hb d_Polynomial_lowerRoots_10 rfl (lv_at hl 1 rfl) ?_
        refine xr_get X I fin_P i (by omega) (pl_o h1) rfl 2 (by decide) (List.mem_cons_of_mem _ k_d20440e3eb) rfl rfl d_Polynomial_lowerRoots_11 ?_
        refine lv_iconst (v := nI 1) hx hb d_Polynomial_lowerRoots_14 (by decide) ?_
        refine lv_isub hx hb d_Polynomial_lowerRoots_15 ?_
        refine xr_topi (y := nP dgr) rfl ?_
        refine lv_istore (lv' := [(4, .int (nP dgr)), (3, .int (nI a)), (0, .ref (ad i)), (1, .long v)]) hx hb d_Polynomial_lowerRoots_16 hl (by decide) rfl (fun ls hl => ?_)
        have inner : ∀ (k2 : Nat) (b : Nat) (σ2 : Nat → va_E) (F2 : Nat → Nat → Int32) (sp2 : Nat → Int32) (ls : Array Slot) (H : Heap) (locs : List Loc), b = a + k2 → b ≤ dgr → pl_fr σ σ2 i → pl ad cI cG σ2 i most dgr lbs F2 sp2 → pl_is F2 dgr lbs (swp v.toInt dgr (low v.toInt dgr p0 a) (dgr - b)) → lv_has ls 5 [(4, .int (nP b)), (3, .int (nI a)), (0, .ref (ad i)), (1, .long v)] → xI D classes N ad s.heap (σ2) H locs → W p l e (xrm 2) s m args below meth c H locs 0 0 (MQ below (va_Qv (pl_up ad cI cG σ i most dgr lbs (low v.toInt dgr p0 dgr)) (xS D classes (xT cI cJ cZ cC cG cP) N ad) (xA N ad)) args s 0 0 (xA N ad)) (F0 m 18 ls []) := by
          intro k2
          induction k2 with
          | zero =>
            intro b σ2 F2 sp2 ls H locs hb2 hbd gfr g1 g2 hl I
            obtain rfl : b = a := by omega
            refine lv_iload hx hb d_Polynomial_lowerRoots_18 (lv_at hl 0 rfl) ?_
            refine lv_iload_n hx hb d_Polynomial_lowerRoots_20 rfl (lv_at hl 1 rfl) ?_
            refine lv_icmp_lt hx hb d_Polynomial_lowerRoots_21 rfl (fun hd => ?_) (fun hd => ?_)
            · refine lv_iinc (k := 1) (v := nI (b + 1)) (lv' := [(3, .int (nI (b + 1))), (4, .int (nP b)), (0, .ref (ad i)), (1, .long v)]) hx hb d_Polynomial_lowerRoots_54 hl rfl (nI_1 b) (by decide) rfl (fun ls hl => ?_)
              refine lv_goto hx hb d_Polynomial_lowerRoots_57 rfl ?_
              have hl := lv_sub hl [0, 2, 3] rfl
              have hl : lv_has ls 5 [(3, .int (nI (b + 1))), (0, .ref (ad i)), (1, .long v)] := hl
              exact ih (b + 1) σ2 F2 sp2 ls H locs (by omega) gfr g1 (by have e : low v.toInt dgr p0 (b + 1) = swp v.toInt dgr (low v.toInt dgr p0 b) (dgr - b) := rfl; rw [e]; exact g2) hl I
            · exact absurd (nP_lt (by omega)) hd
          | succ k2 jh =>
            intro b σ2 F2 sp2 ls H locs hb2 hbd gfr g1 g2 hl I
            obtain ⟨b0, rfl⟩ : ∃ b0, b = b0 + 1 := ⟨b - 1, by omega⟩
            refine lv_iload hx hb d_Polynomial_lowerRoots_18 (lv_at hl 0 rfl) ?_
            refine xr_topi (y := nI b0) (nP_succ b0) ?_
            refine lv_iload_n hx hb d_Polynomial_lowerRoots_20 rfl (lv_at hl 1 rfl) ?_
            refine lv_icmp_lt hx hb d_Polynomial_lowerRoots_21 rfl (fun hd => ?_) (fun hd => ?_)
            · exact absurd hd (nI_nlt (by omega) (by omega))
            · refine lv_aload_n hx hb d_Polynomial_lowerRoots_24 rfl (lv_at hl 2 rfl) ?_
              refine xr_get X I fin_P i (by omega) (pl_o g1) rfl 0 (by decide) (List.mem_cons_of_mem _ k_fc34798cd9) rfl rfl d_Polynomial_lowerRoots_25 ?_
              refine lv_iload hx hb d_Polynomial_lowerRoots_28 (lv_at hl 0 rfl) ?_
              refine xr_topi (y := nI b0) (nP_succ b0) ?_
              refine xr_aald X I (i + 1) 4 (by omega) (pl_c g1) rfl rfl (by omega) (by decide) (pl_at (by omega)) d_Polynomial_lowerRoots_30 ?_
              refine lv_aload_n hx hb d_Polynomial_lowerRoots_31 rfl (lv_at hl 2 rfl) ?_
              refine xr_get X I fin_P i (by omega) (pl_o g1) rfl 0 (by decide) (List.mem_cons_of_mem _ k_fc34798cd9) rfl rfl d_Polynomial_lowerRoots_32 ?_
              refine lv_iload hx hb d_Polynomial_lowerRoots_35 (lv_at hl 0 rfl) ?_
              refine xr_topi (y := nI b0) (nP_succ b0) ?_
              refine lv_iconst (v := nI 1) hx hb d_Polynomial_lowerRoots_37 (by decide) ?_
              refine lv_iadd hx hb d_Polynomial_lowerRoots_38 (xr_topi (y := nI (b0 + 1)) (nI_add b0 1) ?_)
              refine xr_aald X I (i + 1) 4 (by omega) (pl_c g1) rfl rfl (by omega) (by decide) (pl_at (by omega)) d_Polynomial_lowerRoots_39 ?_
              refine lv_lload_n hx hb d_Polynomial_lowerRoots_40 rfl (lv_at hl 3 rfl) ?_
              refine lv_aload_n hx hb d_Polynomial_lowerRoots_41 rfl (lv_at hl 2 rfl) ?_
              refine xr_get X I fin_P i (by omega) (pl_o g1) rfl 3 (by decide) (List.mem_cons_of_mem _ k_e72feda95c) rfl rfl d_Polynomial_lowerRoots_42 ?_
              refine xr_callv (xr_runS (kc := 1) (kr := 2) (n := 4) (As := [.ref (ad (i + 2 + b0)), .ref (ad (i + 2 + (b0 + 1))), .long v, .int (nI lbs)]) (rest := []) X I (c_Limbs_addLongTimes (σ := σ2) (show i + 2 + b0 < N by omega) (show i + 2 + (b0 + 1) < N by omega) (pl_r g1 (by omega)) (pl_r g1 (by omega)) (by omega) hl2 hlm hm hlm hm (g2 b0 (by omega)) (g2 (b0 + 1) (by omega))) (xg k_f8f2a75ec6) (List.mem_cons_of_mem _ k_e71ddd0730) (List.mem_cons_of_mem _ k_f18c53f766) (List.mem_cons_of_mem _ k_b15d0305ca) (by decide +kernel) (by decide) rfl hl.1 rfl (Nat.le_of_ble_eq_true rfl) d_Polynomial_lowerRoots_45) I (fun σ3 H locs hp I => ?_)
              obtain ⟨f2, rfl, h3, h4⟩ := hp
              refine lv_iinc (k := 0) (v := nP b0) (lv' := [(4, .int (nP b0)), (3, .int (nI a)), (0, .ref (ad i)), (1, .long v)]) hx hb d_Polynomial_lowerRoots_48 hl rfl (nP_dec b0) (by decide) rfl (fun ls hl => ?_)
              refine lv_goto hx hb d_Polynomial_lowerRoots_51 rfl ?_
              refine jh b0 _ _ sp2 ls H locs (by omega) (by omega) (pl_fr_up gfr (by omega)) (pl_row g1 (by omega) f2) ?_ hl I
              rw [show dgr - b0 = (dgr - (b0 + 1)) + 1 by omega, swp, show dgr - 1 - (dgr - (b0 + 1)) = b0 by omega, show dgr - (dgr - (b0 + 1)) = b0 + 1 by omega]
              intro k hk
              by_cases ek : k = b0
              · subst ek; rw [va_up_self, va_up_self]; exact h4
              · rw [va_up_ne _ _ ek, va_up_ne _ _ ek]; exact g2 k hk
        exact inner (dgr - a) dgr σ1 F1 sp1 ls _ _ (by omega) (Nat.le_refl _) hfr h1 (by rw [Nat.sub_self]; exact h2) hl I
  exact outer dgr 0 σ F sp ls _ _ (by omega) pl_fr_rf hp0 hpi hl I
set_option maxHeartbeats 4000000 in
set_option maxRecDepth 100000 in
theorem c_Polynomial_multiplyRoots {l : Launch} {D : va_G} {cI cJ cZ cC cG cP : ClassId} {N : Nat} {ad : Nat → Nat} {σ : Nat → va_E} {i most dgr lbs : Nat} {F : Nat → Nat → Int32} {sp : Nat → Int32} {p0 : Nat → Int} (hN : i + 10 ≤ N) (hp0 : pl ad cI cG σ i most dgr lbs F sp) (hdg : dgr ≤ 6) (hm : most < 2 ^ 31) (hlm : lbs ≤ most) (hl2 : 2 ≤ lbs) (hpi : pl_is F dgr lbs p0) {v : Int64} :
    Met l y_Polynomial_multiplyRoots v_Polynomial_multiplyRoots (xrm 2) (va_Pc [.ref (ad i), .long v] (xS D classes (xT cI cJ cZ cC cG cP) N ad σ)) (va_Qv (pl_up ad cI cG σ i most dgr lbs (mulp v.toInt dgr p0 dgr)) (xS D classes (xT cI cJ cZ cC cG cP) N ad) (xA N ad)) 0 0 (xA N ad) := by
  refine xr_met rfl (Nat.le_of_ble_eq_true rfl) ?_
  intro p e s m args below meth c ls hx hb X hr hlk hl I
  have hl : lv_has ls 5 [(0, .ref (ad i)), (1, .long v)] := hl
  refine lv_iconst (v := nI 0) hx hb d_Polynomial_multiplyRoots_0 (by decide) ?_
  refine lv_istore_n (lv' := [(3, .int (nI 0)), (0, .ref (ad i)), (1, .long v)]) hx hb d_Polynomial_multiplyRoots_1 rfl hl (by decide) rfl (fun ls hl => ?_)
  have outer : ∀ (k : Nat) (a : Nat) (σ1 : Nat → va_E) (F1 : Nat → Nat → Int32) (sp1 : Nat → Int32) (ls : Array Slot) (H : Heap) (locs : List Loc), a + k = dgr → pl_fr σ σ1 i → pl ad cI cG σ1 i most dgr lbs F1 sp1 → pl_is F1 dgr lbs (mulp v.toInt dgr p0 a) → lv_has ls 5 [(3, .int (nI a)), (0, .ref (ad i)), (1, .long v)] → xI D classes N ad s.heap (σ1) H locs → W p l e (xrm 2) s m args below meth c H locs 0 0 (MQ below (va_Qv (pl_up ad cI cG σ i most dgr lbs (mulp v.toInt dgr p0 dgr)) (xS D classes (xT cI cJ cZ cC cG cP) N ad) (xA N ad)) args s 0 0 (xA N ad)) (F0 m 2 ls []) := by
    intro k
    induction k with
    | zero =>
      intro a σ1 F1 sp1 ls H locs hk hfr h1 h2 hl I
      obtain rfl : a = dgr := by omega
      refine lv_iload_n hx hb d_Polynomial_multiplyRoots_2 rfl (lv_at hl 0 rfl) ?_
      refine lv_aload_n hx hb d_Polynomial_multiplyRoots_3 rfl (lv_at hl 1 rfl) ?_
      refine xr_get X I fin_P i (by omega) (pl_o h1) rfl 2 (by decide) (List.mem_cons_of_mem _ k_d20440e3eb) rfl rfl d_Polynomial_multiplyRoots_4 ?_
      refine lv_icmp_ge hx hb d_Polynomial_multiplyRoots_7 rfl (fun hc => ?_) (fun hc => ?_)
      · exact xr_vret X I hr hlk ⟨F1, sp1, hfr, h1, h2⟩ d_Polynomial_multiplyRoots_84
      · exact absurd (nI_le (Nat.le_refl _) (by omega)) hc
    | succ k ih =>
      intro a σ1 F1 sp1 ls H locs hk hfr h1 h2 hl I
      refine lv_iload_n hx hb d_Polynomial_multiplyRoots_2 rfl (lv_at hl 0 rfl) ?_
      refine lv_aload_n hx hb d_Polynomial_multiplyRoots_3 rfl (lv_at hl 1 rfl) ?_
      refine xr_get X I fin_P i (by omega) (pl_o h1) rfl 2 (by decide) (List.mem_cons_of_mem _ k_d20440e3eb) rfl rfl d_Polynomial_multiplyRoots_4 ?_
      refine lv_icmp_ge hx hb d_Polynomial_multiplyRoots_7 rfl (fun hc => ?_) (fun hc => ?_)
      · exact absurd hc (nI_ge (by omega) (by omega))
      · refine lv_iload_n hx hb d_Polynomial_multiplyRoots_10 rfl (lv_at hl 0 rfl) ?_
        refine lv_istore (lv' := [(4, .int (nI a)), (3, .int (nI a)), (0, .ref (ad i)), (1, .long v)]) hx hb d_Polynomial_multiplyRoots_11 hl (by decide) rfl (fun ls hl => ?_)
        have inner : ∀ (k2 : Nat) (b : Nat) (σ2 : Nat → va_E) (F2 : Nat → Nat → Int32) (sp2 : Nat → Int32) (ls : Array Slot) (H : Heap) (locs : List Loc), b + k2 = dgr → a ≤ b → pl_fr σ σ2 i → pl ad cI cG σ2 i most dgr lbs F2 sp2 → pl_is F2 dgr lbs (va_up (mulp v.toInt dgr p0 a) a (p0 a * v.toInt ^ (b - a))) → lv_has ls 5 [(4, .int (nI b)), (3, .int (nI a)), (0, .ref (ad i)), (1, .long v)] → xI D classes N ad s.heap (σ2) H locs → W p l e (xrm 2) s m args below meth c H locs 0 0 (MQ below (va_Qv (pl_up ad cI cG σ i most dgr lbs (mulp v.toInt dgr p0 dgr)) (xS D classes (xT cI cJ cZ cC cG cP) N ad) (xA N ad)) args s 0 0 (xA N ad)) (F0 m 13 ls []) := by
          intro k2
          induction k2 with
          | zero =>
            intro b σ2 F2 sp2 ls H locs hb2 hab gfr g1 g2 hl I
            obtain rfl : b = dgr := by omega
            refine lv_iload hx hb d_Polynomial_multiplyRoots_13 (lv_at hl 0 rfl) ?_
            refine lv_aload_n hx hb d_Polynomial_multiplyRoots_15 rfl (lv_at hl 2 rfl) ?_
            refine xr_get X I fin_P i (by omega) (pl_o g1) rfl 2 (by decide) (List.mem_cons_of_mem _ k_d20440e3eb) rfl rfl d_Polynomial_multiplyRoots_16 ?_
            refine lv_icmp_ge hx hb d_Polynomial_multiplyRoots_19 rfl (fun hd => ?_) (fun hd => ?_)
            · refine lv_iinc (k := 1) (v := nI (a + 1)) (lv' := [(3, .int (nI (a + 1))), (4, .int (nI b)), (0, .ref (ad i)), (1, .long v)]) hx hb d_Polynomial_multiplyRoots_78 hl rfl (nI_1 a) (by decide) rfl (fun ls hl => ?_)
              refine lv_goto hx hb d_Polynomial_multiplyRoots_81 rfl ?_
              have hl := lv_sub hl [0, 2, 3] rfl
              have hl : lv_has ls 5 [(3, .int (nI (a + 1))), (0, .ref (ad i)), (1, .long v)] := hl
              refine ih (a + 1) σ2 F2 sp2 ls H locs (by omega) gfr g1 (fun k9 hk9 => ?_) hl I
              have h9 := g2 k9 hk9
              simp only [va_up, mulp] at h9 ⊢
              by_cases e1 : k9 = a
              · subst e1; rw [if_pos rfl] at h9; rw [if_pos (by omega)]; exact h9
              · rw [if_neg e1] at h9; by_cases e2 : k9 < a
                · rw [if_pos e2] at h9; rw [if_pos (by omega)]; exact h9
                · rw [if_neg e2] at h9; rw [if_neg (by omega)]; exact h9
            · exact absurd (nI_le (Nat.le_refl _) (by omega)) hd
          | succ k2 jh =>
            intro b σ2 F2 sp2 ls H locs hb2 hab gfr g1 g2 hl I
            refine lv_iload hx hb d_Polynomial_multiplyRoots_13 (lv_at hl 0 rfl) ?_
            refine lv_aload_n hx hb d_Polynomial_multiplyRoots_15 rfl (lv_at hl 2 rfl) ?_
            refine xr_get X I fin_P i (by omega) (pl_o g1) rfl 2 (by decide) (List.mem_cons_of_mem _ k_d20440e3eb) rfl rfl d_Polynomial_multiplyRoots_16 ?_
            refine lv_icmp_ge hx hb d_Polynomial_multiplyRoots_19 rfl (fun hd => ?_) (fun hd => ?_)
            · exact absurd hd (nI_ge (by omega) (by omega))
            · refine lv_aload_n hx hb d_Polynomial_multiplyRoots_22 rfl (lv_at hl 2 rfl) ?_
              refine xr_get X I fin_P i (by omega) (pl_o g1) rfl 1 (by decide) (List.mem_cons_of_mem _ k_d6e97a041f) rfl rfl d_Polynomial_multiplyRoots_23 ?_
              refine lv_aload_n hx hb d_Polynomial_multiplyRoots_26 rfl (lv_at hl 2 rfl) ?_
              refine xr_get X I fin_P i (by omega) (pl_o g1) rfl 0 (by decide) (List.mem_cons_of_mem _ k_fc34798cd9) rfl rfl d_Polynomial_multiplyRoots_27 ?_
              refine lv_iload_n hx hb d_Polynomial_multiplyRoots_30 rfl (lv_at hl 1 rfl) ?_
              refine xr_aald X I (i + 1) 4 (by omega) (pl_c g1) rfl rfl (by omega) (by decide) (pl_at (by omega)) d_Polynomial_multiplyRoots_31 ?_
              refine lv_aload_n hx hb d_Polynomial_multiplyRoots_32 rfl (lv_at hl 2 rfl) ?_
              refine xr_get X I fin_P i (by omega) (pl_o g1) rfl 3 (by decide) (List.mem_cons_of_mem _ k_e72feda95c) rfl rfl d_Polynomial_multiplyRoots_33 ?_
              refine xr_callv (xr_runS (kc := 1) (kr := 2) (n := 3) (As := [.ref (ad (i + 9)), .ref (ad (i + 2 + a)), .int (nI lbs)]) (rest := []) X I (c_Limbs_copy (σ := σ2) (show i + 9 < N by omega) (show i + 2 + a < N by omega) (pl_s g1) (pl_r g1 (by omega)) hlm hm hlm hm) (xg k_a09a60a57c) (List.mem_cons_of_mem _ k_d1c055e526) (List.mem_cons_of_mem _ k_d700ff4995) (List.mem_cons_of_mem _ k_b15d0305ca) (by decide +kernel) (by decide) rfl hl.1 rfl (Nat.le_of_ble_eq_true rfl) d_Polynomial_multiplyRoots_36) I (fun σ3 H locs hp I => ?_)
              obtain rfl := hp
              have g3 := pl_spare g1 (va_cpy (F2 a) sp2 0 0 lbs)
              refine lv_aload_n hx hb d_Polynomial_multiplyRoots_39 rfl (lv_at hl 2 rfl) ?_
              refine xr_get X I fin_P i (by omega) (pl_o g3) rfl 0 (by decide) (List.mem_cons_of_mem _ k_fc34798cd9) rfl rfl d_Polynomial_multiplyRoots_40 ?_
              refine lv_iload_n hx hb d_Polynomial_multiplyRoots_43 rfl (lv_at hl 1 rfl) ?_
              refine xr_aald X I (i + 1) 4 (by omega) (pl_c g3) rfl rfl (by omega) (by decide) (pl_at (by omega)) d_Polynomial_multiplyRoots_44 ?_
              refine lv_iconst (v := nI 0) hx hb d_Polynomial_multiplyRoots_45 (by decide) ?_
              refine lv_aload_n hx hb d_Polynomial_multiplyRoots_46 rfl (lv_at hl 2 rfl) ?_
              refine xr_get X I fin_P i (by omega) (pl_o g3) rfl 3 (by decide) (List.mem_cons_of_mem _ k_e72feda95c) rfl rfl d_Polynomial_multiplyRoots_47 ?_
              refine lv_iconst (v := nI 0) hx hb d_Polynomial_multiplyRoots_50 (by decide) ?_
              refine xr_callv (xr_runS (kc := 1) (kr := 2) (n := 4) (As := [.ref (ad (i + 2 + a)), .int (nI 0), .int (nI lbs), .int (nI 0)]) (rest := []) X I (c_Arrays_fill4 (v := nI 0) (fr := 0) (to := lbs) (show i + 2 + a < N by omega) (pl_r g3 (by omega)) (Nat.zero_le _) hlm hm) (xg k_0d10cb0081) (List.mem_cons_of_mem _ k_337ad15048) (List.mem_cons_of_mem _ k_f06b3a4574) (List.mem_cons_of_mem _ k_9b51368402) (by decide +kernel) (by decide) rfl hl.1 rfl (Nat.le_of_ble_eq_true rfl) d_Polynomial_multiplyRoots_51) I (fun σ3 H locs hp I => ?_)
              obtain ⟨f3, rfl, f4, f5⟩ := hp
              have g4 := pl_row g3 (show a < 7 by omega) f3
              refine lv_aload_n hx hb d_Polynomial_multiplyRoots_54 rfl (lv_at hl 2 rfl) ?_
              refine xr_get X I fin_P i (by omega) (pl_o g4) rfl 0 (by decide) (List.mem_cons_of_mem _ k_fc34798cd9) rfl rfl d_Polynomial_multiplyRoots_55 ?_
              refine lv_iload_n hx hb d_Polynomial_multiplyRoots_58 rfl (lv_at hl 1 rfl) ?_
              refine xr_aald X I (i + 1) 4 (by omega) (pl_c g4) rfl rfl (by omega) (by decide) (pl_at (by omega)) d_Polynomial_multiplyRoots_59 ?_
              refine lv_aload_n hx hb d_Polynomial_multiplyRoots_60 rfl (lv_at hl 2 rfl) ?_
              refine xr_get X I fin_P i (by omega) (pl_o g4) rfl 1 (by decide) (List.mem_cons_of_mem _ k_d6e97a041f) rfl rfl d_Polynomial_multiplyRoots_61 ?_
              refine lv_lload_n hx hb d_Polynomial_multiplyRoots_64 rfl (lv_at hl 3 rfl) ?_
              refine lv_aload_n hx hb d_Polynomial_multiplyRoots_65 rfl (lv_at hl 2 rfl) ?_
              refine xr_get X I fin_P i (by omega) (pl_o g4) rfl 3 (by decide) (List.mem_cons_of_mem _ k_e72feda95c) rfl rfl d_Polynomial_multiplyRoots_66 ?_
              have ha := g2 a (by omega)
              rw [va_up_self] at ha
              have hcp : lm_is (va_cpy (F2 a) sp2 0 0 lbs) lbs (p0 a * v.toInt ^ (b - a)) := lm_is_congr (fun j hj => by rw [pk_cpy_in (by omega) (by omega)]; simp) ha
              refine xr_callv (xr_runS (kc := 1) (kr := 2) (n := 4) (As := [.ref (ad (i + 2 + a)), .ref (ad (i + 9)), .long v, .int (nI lbs)]) (rest := []) X I (c_Limbs_addLongTimes (x := 0) (show i + 2 + a < N by omega) (show i + 9 < N by omega) ((pl_r g4 (show a < 7 by omega)).trans (by rw [va_up_self])) (pl_s g4) (by omega) hl2 hlm hm hlm hm (lm_is_zero (fun j hj => f4 j (Nat.zero_le _) hj)) hcp) (xg k_f8f2a75ec6) (List.mem_cons_of_mem _ k_e71ddd0730) (List.mem_cons_of_mem _ k_f18c53f766) (List.mem_cons_of_mem _ k_b15d0305ca) (by decide +kernel) (by decide) rfl hl.1 rfl (Nat.le_of_ble_eq_true rfl) d_Polynomial_multiplyRoots_69) I (fun σ3 H locs hp I => ?_)
              obtain ⟨f6, rfl, f7, f8⟩ := hp
              have g5 := pl_row g4 (show a < 7 by omega) f6
              refine lv_iinc (k := 0) (v := nI (b + 1)) (lv' := [(4, .int (nI (b + 1))), (3, .int (nI a)), (0, .ref (ad i)), (1, .long v)]) hx hb d_Polynomial_multiplyRoots_72 hl rfl (nI_1 b) (by decide) rfl (fun ls hl => ?_)
              refine lv_goto hx hb d_Polynomial_multiplyRoots_75 rfl ?_
              refine jh (b + 1) _ _ _ ls H locs (by omega) (by omega) (pl_fr_up (pl_fr_up (pl_fr_up gfr (by omega)) (by omega)) (by omega)) g5 (fun k9 hk9 => ?_) hl I
              by_cases e1 : k9 = a
              · subst e1; rw [va_up_self, va_up_self, show b + 1 - k9 = (b - k9) + 1 by omega, Int.pow_succ]; exact lm_is_mod f8 0 (by grind)
              · rw [va_up_ne _ _ e1, va_up_ne _ _ e1, va_up_ne _ _ e1]; have h9 := g2 k9 hk9; rw [va_up_ne _ _ e1] at h9; exact h9
        exact inner (dgr - a) a σ1 F1 sp1 ls _ _ (by omega) (Nat.le_refl _) hfr h1 (by rw [Nat.sub_self, va_up_same (by simp [mulp])]; exact h2) hl I
  exact outer dgr 0 σ F sp ls _ _ (by omega) pl_fr_rf hp0 (by rw [show mulp v.toInt dgr p0 0 = p0 from by funext k; simp [mulp]]; exact hpi) hl I
set_option maxHeartbeats 4000000 in
set_option maxRecDepth 100000 in
theorem c_Polynomial_rootsAtZero {l : Launch} {D : va_G} {cI cJ cZ cC cG cP : ClassId} {N : Nat} {ad : Nat → Nat} {σ : Nat → va_E} {i most dgr lbs : Nat} {F : Nat → Nat → Int32} {sp : Nat → Int32} {p0 : Nat → Int} (hN : i + 10 ≤ N) (hp0 : pl ad cI cG σ i most dgr lbs F sp) (hdg : dgr ≤ 6) (hm : most < 2 ^ 31) (hlm : lbs ≤ most) (hl2 : 2 ≤ lbs) (hpi : pl_is F dgr lbs p0) (hsz : pl_sz dgr lbs p0) :
    Met l y_Polynomial_rootsAtZero v_Polynomial_rootsAtZero (xrm 1) (va_Pc [.ref (ad i)] (xS D classes (xT cI cJ cZ cC cG cP) N ad σ)) (va_Qi (fun r σ2 => r = nI (ez p0 0 dgr) ∧ σ2 = σ) (xS D classes (xT cI cJ cZ cC cG cP) N ad) (xA N ad)) 0 0 (xA N ad) := by
  refine xr_met rfl (Nat.le_of_ble_eq_true rfl) ?_
  intro p e s m args below meth c ls hx hb X hr hlk hl I
  have hl : lv_has ls 2 [(0, .ref (ad i))] := hl
  refine lv_iconst (v := nI 0) hx hb d_Polynomial_rootsAtZero_0 (by decide) ?_
  refine lv_istore_n (lv' := [(1, .int (nI 0)), (0, .ref (ad i))]) hx hb d_Polynomial_rootsAtZero_1 rfl hl (by decide) rfl (fun ls hl => ?_)
  have loop : ∀ (k : Nat) (a : Nat) (ls : Array Slot) (H : Heap) (locs : List Loc), a + k = dgr → ez p0 0 dgr = ez p0 a k → lv_has ls 2 [(1, .int (nI a)), (0, .ref (ad i))] → xI D classes N ad s.heap (σ) H locs → W p l e (xrm 1) s m args below meth c H locs 0 0 (MQ below (va_Qi (fun r σ2 => r = nI (ez p0 0 dgr) ∧ σ2 = σ) (xS D classes (xT cI cJ cZ cC cG cP) N ad) (xA N ad)) args s 0 0 (xA N ad)) (F0 m 2 ls []) := by
    intro k
    induction k with
    | zero =>
      intro a ls H locs hk he hl I
      obtain rfl : a = dgr := by omega
      refine lv_iload_n hx hb d_Polynomial_rootsAtZero_2 rfl (lv_at hl 0 rfl) ?_
      refine lv_aload_n hx hb d_Polynomial_rootsAtZero_3 rfl (lv_at hl 1 rfl) ?_
      refine xr_get X I fin_P i (by omega) (pl_o hp0) rfl 2 (by decide) (List.mem_cons_of_mem _ k_d20440e3eb) rfl rfl d_Polynomial_rootsAtZero_4 ?_
      refine lv_icmp_ge hx hb d_Polynomial_rootsAtZero_7 rfl (fun hc => ?_) (fun hc => ?_)
      · refine lv_aload_n hx hb d_Polynomial_rootsAtZero_34 rfl (lv_at hl 1 rfl) ?_
        refine xr_get X I fin_P i (by omega) (pl_o hp0) rfl 2 (by decide) (List.mem_cons_of_mem _ k_d20440e3eb) rfl rfl d_Polynomial_rootsAtZero_35 ?_
        exact xr_iret X I hr hlk ⟨by rw [he]; rfl, rfl⟩ d_Polynomial_rootsAtZero_38
      · exact absurd (nI_le (Nat.le_refl _) (by omega)) hc
    | succ k ih =>
      intro a ls H locs hk he hl I
      refine lv_iload_n hx hb d_Polynomial_rootsAtZero_2 rfl (lv_at hl 0 rfl) ?_
      refine lv_aload_n hx hb d_Polynomial_rootsAtZero_3 rfl (lv_at hl 1 rfl) ?_
      refine xr_get X I fin_P i (by omega) (pl_o hp0) rfl 2 (by decide) (List.mem_cons_of_mem _ k_d20440e3eb) rfl rfl d_Polynomial_rootsAtZero_4 ?_
      refine lv_icmp_ge hx hb d_Polynomial_rootsAtZero_7 rfl (fun hc => ?_) (fun hc => ?_)
      · exact absurd hc (nI_ge (by omega) (by omega))
      · refine lv_aload_n hx hb d_Polynomial_rootsAtZero_10 rfl (lv_at hl 1 rfl) ?_
        refine xr_get X I fin_P i (by omega) (pl_o hp0) rfl 0 (by decide) (List.mem_cons_of_mem _ k_fc34798cd9) rfl rfl d_Polynomial_rootsAtZero_11 ?_
        refine lv_iload_n hx hb d_Polynomial_rootsAtZero_14 rfl (lv_at hl 0 rfl) ?_
        refine xr_aald X I (i + 1) 4 (by omega) (pl_c hp0) rfl rfl (by omega) (by decide) (pl_at (by omega)) d_Polynomial_rootsAtZero_15 ?_
        refine lv_aload_n hx hb d_Polynomial_rootsAtZero_16 rfl (lv_at hl 1 rfl) ?_
        refine xr_get X I fin_P i (by omega) (pl_o hp0) rfl 3 (by decide) (List.mem_cons_of_mem _ k_e72feda95c) rfl rfl d_Polynomial_rootsAtZero_17 ?_
        refine xr_calli (xr_runS (kc := 0) (kr := 1) (n := 2) (As := [.ref (ad (i + 2 + a)), .int (nI lbs)]) (rest := []) X I (c_Limbs_sign (σ := σ) (show i + 2 + a < N by omega) (pl_r hp0 (by omega)) (by omega) hlm hm ⟨hpi a (by omega), hsz a (by omega)⟩) (xg k_507de67514) (List.mem_cons_of_mem _ k_96ffd26084) (List.mem_cons_of_mem _ k_7f7b95cb8b) (List.mem_cons_of_mem _ k_b15d0305ca) (by decide +kernel) (by decide) rfl hl.1 rfl (Nat.le_of_ble_eq_true rfl) d_Polynomial_rootsAtZero_20) I (fun r σ3 H locs hp I => ?_)
        obtain ⟨rfl, h9⟩ := hp; rw [h9] at I
        refine lv_if_eq hx hb d_Polynomial_rootsAtZero_23 rfl (fun hd => ?_) (fun hd => ?_)
        · have hz := sg_zero.mp hd
          refine lv_iinc (k := 0) (v := nI (a + 1)) (lv' := [(1, .int (nI (a + 1))), (0, .ref (ad i))]) hx hb d_Polynomial_rootsAtZero_28 hl rfl (nI_1 a) (by decide) rfl (fun ls hl => ?_)
          refine lv_goto hx hb d_Polynomial_rootsAtZero_31 rfl ?_
          exact ih (a + 1) ls H locs (by omega) (by rw [he, ez, if_pos hz]) hl I
        · have hz : ¬ p0 a = 0 := fun h => hd (sg_zero.mpr h)
          refine lv_iload_n hx hb d_Polynomial_rootsAtZero_26 rfl (lv_at hl 0 rfl) ?_
          exact xr_iret X I hr hlk ⟨by rw [he, ez, if_neg hz], rfl⟩ d_Polynomial_rootsAtZero_27
  exact loop dgr 0 ls _ _ (by omega) rfl hl I
set_option maxHeartbeats 4000000 in
set_option maxRecDepth 100000 in
theorem c_Polynomial_rootsAbove {l : Launch} {D : va_G} {cI cJ cZ cC cG cP : ClassId} {N : Nat} {ad : Nat → Nat} {σ : Nat → va_E} {i most dgr lbs : Nat} {F : Nat → Nat → Int32} {sp : Nat → Int32} {p0 : Nat → Int} (hN : i + 10 ≤ N) (hp0 : pl ad cI cG σ i most dgr lbs F sp) (hdg : dgr ≤ 6) (hm : most < 2 ^ 31) (hlm : lbs ≤ most) (hl2 : 2 ≤ lbs) (hpi : pl_is F dgr lbs p0) (hsz : pl_sz dgr lbs p0) :
    Met l y_Polynomial_rootsAbove v_Polynomial_rootsAbove (xrm 1) (va_Pc [.ref (ad i)] (xS D classes (xT cI cJ cZ cC cG cP) N ad σ)) (va_Qi (fun r σ2 => r = nI (ra p0 (nI 1) (dgr + 1)) ∧ σ2 = σ) (xS D classes (xT cI cJ cZ cC cG cP) N ad) (xA N ad)) 0 0 (xA N ad) := by
  refine xr_met rfl (Nat.le_of_ble_eq_true rfl) ?_
  intro p e s m args below meth c ls hx hb X hr hlk hl I
  have hl : lv_has ls 5 [(0, .ref (ad i))] := hl
  refine lv_iconst (v := nI 0) hx hb d_Polynomial_rootsAbove_0 (by decide) ?_
  refine lv_istore_n (lv' := [(1, .int (nI 0)), (0, .ref (ad i))]) hx hb d_Polynomial_rootsAbove_1 rfl hl (by decide) rfl (fun ls hl => ?_)
  refine lv_iconst (v := nI 1) hx hb d_Polynomial_rootsAbove_2 (by decide) ?_
  refine lv_istore_n (lv' := [(2, .int (nI 1)), (1, .int (nI 0)), (0, .ref (ad i))]) hx hb d_Polynomial_rootsAbove_3 rfl hl (by decide) rfl (fun ls hl => ?_)
  refine lv_aload_n hx hb d_Polynomial_rootsAbove_4 rfl (lv_at hl 2 rfl) ?_
  refine xr_get X I fin_P i (by omega) (pl_o hp0) rfl 2 (by decide) (List.mem_cons_of_mem _ k_d20440e3eb) rfl rfl d_Polynomial_rootsAbove_5 ?_
  refine xr_topi (y := nP (dgr + 1)) (nP_succ dgr).symm ?_
  refine lv_istore_n (lv' := [(3, .int (nP (dgr + 1))), (2, .int (nI 1)), (1, .int (nI 0)), (0, .ref (ad i))]) hx hb d_Polynomial_rootsAbove_8 rfl hl (by decide) rfl (fun ls hl => ?_)
  have loop : ∀ (k : Nat) (lt : Int32) (ch : Nat) (ls : Array Slot) (H : Heap) (locs : List Loc), k ≤ dgr + 1 → ra p0 (nI 1) (dgr + 1) = ch + ra p0 lt k → lv_has ls 5 [(3, .int (nP k)), (2, .int lt), (1, .int (nI ch)), (0, .ref (ad i))] → xI D classes N ad s.heap (σ) H locs → W p l e (xrm 1) s m args below meth c H locs 0 0 (MQ below (va_Qi (fun r σ2 => r = nI (ra p0 (nI 1) (dgr + 1)) ∧ σ2 = σ) (xS D classes (xT cI cJ cZ cC cG cP) N ad) (xA N ad)) args s 0 0 (xA N ad)) (F0 m 9 ls []) := by
    intro k
    induction k with
    | zero =>
      intro lt ch ls H locs hk he hl I
      refine lv_iload_n hx hb d_Polynomial_rootsAbove_9 rfl (lv_at hl 0 rfl) ?_
      refine lv_if_lt hx hb d_Polynomial_rootsAbove_10 rfl (fun hc => ?_) (fun hc => ?_)
      · refine lv_iload_n hx hb d_Polynomial_rootsAbove_47 rfl (lv_at hl 2 rfl) ?_
        exact xr_iret X I hr hlk ⟨by rw [he]; rfl, rfl⟩ d_Polynomial_rootsAbove_48
      · exact absurd nP_0 hc
    | succ k ih =>
      intro lt ch ls H locs hk he hl I
      refine lv_iload_n hx hb d_Polynomial_rootsAbove_9 rfl (lv_at hl 0 rfl) ?_
      refine xr_topi (y := nI k) (nP_succ k) ?_
      refine lv_if_lt hx hb d_Polynomial_rootsAbove_10 rfl (fun hc => ?_) (fun hc => ?_)
      · exact absurd hc (nI_pos (by omega))
      · refine lv_aload_n hx hb d_Polynomial_rootsAbove_13 rfl (lv_at hl 3 rfl) ?_
        refine xr_get X I fin_P i (by omega) (pl_o hp0) rfl 0 (by decide) (List.mem_cons_of_mem _ k_fc34798cd9) rfl rfl d_Polynomial_rootsAbove_14 ?_
        refine lv_iload_n hx hb d_Polynomial_rootsAbove_17 rfl (lv_at hl 0 rfl) ?_
        refine xr_topi (y := nI k) (nP_succ k) ?_
        refine xr_aald X I (i + 1) 4 (by omega) (pl_c hp0) rfl rfl (by omega) (by decide) (pl_at (by omega)) d_Polynomial_rootsAbove_18 ?_
        refine lv_aload_n hx hb d_Polynomial_rootsAbove_19 rfl (lv_at hl 3 rfl) ?_
        refine xr_get X I fin_P i (by omega) (pl_o hp0) rfl 3 (by decide) (List.mem_cons_of_mem _ k_e72feda95c) rfl rfl d_Polynomial_rootsAbove_20 ?_
        refine xr_calli (xr_runS (kc := 0) (kr := 1) (n := 2) (As := [.ref (ad (i + 2 + k)), .int (nI lbs)]) (rest := []) X I (c_Limbs_sign (σ := σ) (show i + 2 + k < N by omega) (pl_r hp0 (by omega)) (by omega) hlm hm ⟨hpi k (by omega), hsz k (by omega)⟩) (xg k_507de67514) (List.mem_cons_of_mem _ k_96ffd26084) (List.mem_cons_of_mem _ k_7f7b95cb8b) (List.mem_cons_of_mem _ k_b15d0305ca) (by decide +kernel) (by decide) rfl hl.1 rfl (Nat.le_of_ble_eq_true rfl) d_Polynomial_rootsAbove_23) I (fun r σ3 H locs hp I => ?_)
        obtain ⟨rfl, h9⟩ := hp; rw [h9] at I
        refine lv_istore (lv' := [(4, .int (sg (p0 k))), (3, .int (nP (k + 1))), (2, .int lt), (1, .int (nI ch)), (0, .ref (ad i))]) hx hb d_Polynomial_rootsAbove_26 hl (by decide) rfl (fun ls hl => ?_)
        refine lv_iload hx hb d_Polynomial_rootsAbove_28 (lv_at hl 0 rfl) ?_
        refine lv_iload_n hx hb d_Polynomial_rootsAbove_30 rfl (lv_at hl 2 rfl) ?_
        refine lv_ineg hx hb d_Polynomial_rootsAbove_31 ?_
        refine lv_icmp_ne hx hb d_Polynomial_rootsAbove_32 rfl (fun hd => ?_) (fun hd => ?_)
        · refine lv_iinc (k := 1) (v := nP k) (lv' := [(3, .int (nP k)), (4, .int (sg (p0 k))), (2, .int lt), (1, .int (nI ch)), (0, .ref (ad i))]) hx hb d_Polynomial_rootsAbove_41 hl rfl (nP_dec k) (by decide) rfl (fun ls hl => ?_)
          refine lv_goto hx hb d_Polynomial_rootsAbove_44 rfl ?_
          have hl := lv_sub hl [0, 2, 3, 4] rfl
          have hl : lv_has ls 5 [(3, .int (nP k)), (2, .int lt), (1, .int (nI ch)), (0, .ref (ad i))] := hl
          exact ih lt ch ls H locs (by omega) (by rw [he, ra, if_neg hd]) hl I
        · refine lv_iinc (k := 3) (v := nI (ch + 1)) (lv' := [(1, .int (nI (ch + 1))), (4, .int (sg (p0 k))), (3, .int (nP (k + 1))), (2, .int lt), (0, .ref (ad i))]) hx hb d_Polynomial_rootsAbove_35 hl rfl (nI_1 ch) (by decide) rfl (fun ls hl => ?_)
          refine lv_iload hx hb d_Polynomial_rootsAbove_38 (lv_at hl 1 rfl) ?_
          refine lv_istore_n (lv' := [(2, .int (sg (p0 k))), (1, .int (nI (ch + 1))), (4, .int (sg (p0 k))), (3, .int (nP (k + 1))), (0, .ref (ad i))]) hx hb d_Polynomial_rootsAbove_40 rfl hl (by decide) rfl (fun ls hl => ?_)
          refine lv_iinc (k := 3) (v := nP k) (lv' := [(3, .int (nP k)), (2, .int (sg (p0 k))), (1, .int (nI (ch + 1))), (4, .int (sg (p0 k))), (0, .ref (ad i))]) hx hb d_Polynomial_rootsAbove_41 hl rfl (nP_dec k) (by decide) rfl (fun ls hl => ?_)
          refine lv_goto hx hb d_Polynomial_rootsAbove_44 rfl ?_
          have hl := lv_sub hl [0, 1, 2, 4] rfl
          have hl : lv_has ls 5 [(3, .int (nP k)), (2, .int (sg (p0 k))), (1, .int (nI (ch + 1))), (0, .ref (ad i))] := hl
          exact ih (sg (p0 k)) (ch + 1) ls H locs (by omega) (by rw [he, ra, if_pos hd]; omega) hl I
  exact loop (dgr + 1) (nI 1) 0 ls _ _ (Nat.le_refl _) (by omega) hl I
set_option maxHeartbeats 4000000 in
set_option maxRecDepth 100000 in
theorem c_Polynomial_rootsBelow {l : Launch} {D : va_G} {cI cJ cZ cC cG cP : ClassId} {N : Nat} {ad : Nat → Nat} {σ : Nat → va_E} {i most dgr lbs : Nat} {F : Nat → Nat → Int32} {sp : Nat → Int32} {p0 : Nat → Int} (hN : i + 10 ≤ N) (hp0 : pl ad cI cG σ i most dgr lbs F sp) (hdg : dgr ≤ 6) (hm : most < 2 ^ 31) (hlm : lbs ≤ most) (hl2 : 2 ≤ lbs) (hpi : pl_is F dgr lbs p0) (hsz : pl_sz dgr lbs p0) :
    Met l y_Polynomial_rootsBelow v_Polynomial_rootsBelow (xrm 2) (va_Pc [.ref (ad i)] (xS D classes (xT cI cJ cZ cC cG cP) N ad σ)) (va_Qi (fun r σ2 => r = lessI p0 dgr ∧ σ2 = σ) (xS D classes (xT cI cJ cZ cC cG cP) N ad) (xA N ad)) 0 0 (xA N ad) := by
  refine xr_met rfl (Nat.le_of_ble_eq_true rfl) ?_
  intro p e s m args below meth c ls hx hb X hr hlk hl I
  have hl : lv_has ls 1 [(0, .ref (ad i))] := hl
  refine lv_aload_n hx hb d_Polynomial_rootsBelow_0 rfl (lv_at hl 0 rfl) ?_
  refine xr_get X I fin_P i (by omega) (pl_o hp0) rfl 2 (by decide) (List.mem_cons_of_mem _ k_d20440e3eb) rfl rfl d_Polynomial_rootsBelow_1 ?_
  refine lv_aload_n hx hb d_Polynomial_rootsBelow_4 rfl (lv_at hl 0 rfl) ?_
  refine xr_calli (xr_runV (kc := 1) (kr := 2) (n := 0) (As := []) (rest := [.int (nI dgr)]) X I (show i < N by omega) (pl_o hp0) rfl (c_Polynomial_rootsAtZero hN hp0 hdg hm hlm hl2 hpi hsz) (xg k_c5d340c79c) (List.mem_cons_of_mem _ k_bd6ea5fac5) (List.mem_cons_of_mem _ k_0f9ebc7ecf) (List.mem_cons_of_mem _ k_9a3567c35e) (List.mem_cons_of_mem _ k_a8ac99ee00) (by decide +kernel) (by decide) rfl hl.1 rfl (Nat.le_of_ble_eq_true rfl) d_Polynomial_rootsBelow_5) I (fun r σ3 H locs hp I => ?_)
  obtain ⟨rfl, h9⟩ := hp; rw [h9] at I
  refine lv_isub hx hb d_Polynomial_rootsBelow_8 ?_
  refine lv_aload_n hx hb d_Polynomial_rootsBelow_9 rfl (lv_at hl 0 rfl) ?_
  refine xr_calli (xr_runV (kc := 1) (kr := 2) (n := 0) (As := []) (rest := [.int ((nI dgr) - (nI (ez p0 0 dgr)))]) X I (show i < N by omega) (pl_o hp0) rfl (c_Polynomial_rootsAbove hN hp0 hdg hm hlm hl2 hpi hsz) (xg k_98465b4a9e) (List.mem_cons_of_mem _ k_2f6b9b0ef3) (List.mem_cons_of_mem _ k_44b0f8a482) (List.mem_cons_of_mem _ k_81d928149c) (List.mem_cons_of_mem _ k_a8ac99ee00) (by decide +kernel) (by decide) rfl hl.1 rfl (Nat.le_of_ble_eq_true rfl) d_Polynomial_rootsBelow_10) I (fun r σ3 H locs hp I => ?_)
  obtain ⟨rfl, h9⟩ := hp; rw [h9] at I
  refine lv_isub hx hb d_Polynomial_rootsBelow_13 ?_
  exact xr_iret X I hr hlk ⟨rfl, rfl⟩ d_Polynomial_rootsBelow_14
