/-! the reference: count, cell, whole (written by wip/gen) -/
abbrev b_SpectrumDeskModel_count : ByteArray := prog_10_method_39_code
abbrev y_SpectrumDeskModel_count : MethodName := ⟨"SpectrumDeskModel", "count", "(IJJI)I"⟩
abbrev v_SpectrumDeskModel_count : List Cond := Cond.code y_SpectrumDeskModel_count b_SpectrumDeskModel_count 7 (some .int) :: AW
theorem d_SpectrumDeskModel_count_0 : decode b_SpectrumDeskModel_count 0 = .ok (.aload_n 0, 1) := by decide +kernel
theorem d_SpectrumDeskModel_count_1 : decode b_SpectrumDeskModel_count 1 = .ok (.iload_n 1, 1) := by decide +kernel
theorem d_SpectrumDeskModel_count_2 : decode b_SpectrumDeskModel_count 2 = .ok (.iconst 1, 1) := by decide +kernel
theorem d_SpectrumDeskModel_count_3 : decode b_SpectrumDeskModel_count 3 = .ok (.if_icmp .lt (33), 3) := by decide +kernel
theorem d_SpectrumDeskModel_count_6 : decode b_SpectrumDeskModel_count 6 = .ok (.iload_n 1, 1) := by decide +kernel
theorem d_SpectrumDeskModel_count_7 : decode b_SpectrumDeskModel_count 7 = .ok (.aload_n 0, 1) := by decide +kernel
theorem d_SpectrumDeskModel_count_8 : decode b_SpectrumDeskModel_count 8 = .ok (.getfield 63, 3) := by decide +kernel
theorem d_SpectrumDeskModel_count_11 : decode b_SpectrumDeskModel_count 11 = .ok (.if_icmp .gt (25), 3) := by decide +kernel
theorem d_SpectrumDeskModel_count_14 : decode b_SpectrumDeskModel_count 14 = .ok (.iload 6, 2) := by decide +kernel
theorem d_SpectrumDeskModel_count_16 : decode b_SpectrumDeskModel_count 16 = .ok (.ifCond .lt (20), 3) := by decide +kernel
theorem d_SpectrumDeskModel_count_19 : decode b_SpectrumDeskModel_count 19 = .ok (.iload 6, 2) := by decide +kernel
theorem d_SpectrumDeskModel_count_21 : decode b_SpectrumDeskModel_count 21 = .ok (.iconst 2, 1) := by decide +kernel
theorem d_SpectrumDeskModel_count_22 : decode b_SpectrumDeskModel_count 22 = .ok (.if_icmp .gt (14), 3) := by decide +kernel
theorem d_SpectrumDeskModel_count_25 : decode b_SpectrumDeskModel_count 25 = .ok (.lload 4, 2) := by decide +kernel
theorem d_SpectrumDeskModel_count_27 : decode b_SpectrumDeskModel_count 27 = .ok (.lconst 0, 1) := by decide +kernel
theorem d_SpectrumDeskModel_count_28 : decode b_SpectrumDeskModel_count 28 = .ok (.lcmp, 1) := by decide +kernel
theorem d_SpectrumDeskModel_count_29 : decode b_SpectrumDeskModel_count 29 = .ok (.ifCond .le (7), 3) := by decide +kernel
theorem d_SpectrumDeskModel_count_32 : decode b_SpectrumDeskModel_count 32 = .ok (.iconst 0, 1) := by decide +kernel
theorem d_SpectrumDeskModel_count_33 : decode b_SpectrumDeskModel_count 33 = .ok (.goto (4), 3) := by decide +kernel
theorem d_SpectrumDeskModel_count_36 : decode b_SpectrumDeskModel_count 36 = .ok (.iconst 1, 1) := by decide +kernel
theorem d_SpectrumDeskModel_count_37 : decode b_SpectrumDeskModel_count 37 = .ok (.putfield 79, 3) := by decide +kernel
theorem d_SpectrumDeskModel_count_40 : decode b_SpectrumDeskModel_count 40 = .ok (.aload_n 0, 1) := by decide +kernel
theorem d_SpectrumDeskModel_count_41 : decode b_SpectrumDeskModel_count 41 = .ok (.getfield 79, 3) := by decide +kernel
theorem d_SpectrumDeskModel_count_44 : decode b_SpectrumDeskModel_count 44 = .ok (.ifCond .le (5), 3) := by decide +kernel
theorem d_SpectrumDeskModel_count_47 : decode b_SpectrumDeskModel_count 47 = .ok (.iconst 0, 1) := by decide +kernel
theorem d_SpectrumDeskModel_count_48 : decode b_SpectrumDeskModel_count 48 = .ok (.ireturn, 1) := by decide +kernel
theorem d_SpectrumDeskModel_count_49 : decode b_SpectrumDeskModel_count 49 = .ok (.aload_n 0, 1) := by decide +kernel
theorem d_SpectrumDeskModel_count_50 : decode b_SpectrumDeskModel_count 50 = .ok (.iload_n 1, 1) := by decide +kernel
theorem d_SpectrumDeskModel_count_51 : decode b_SpectrumDeskModel_count 51 = .ok (.iconst 0, 1) := by decide +kernel
theorem d_SpectrumDeskModel_count_52 : decode b_SpectrumDeskModel_count 52 = .ok (.invokevirtual 121, 3) := by decide +kernel
theorem d_SpectrumDeskModel_count_55 : decode b_SpectrumDeskModel_count 55 = .ok (.aload_n 0, 1) := by decide +kernel
theorem d_SpectrumDeskModel_count_56 : decode b_SpectrumDeskModel_count 56 = .ok (.bipush (108), 2) := by decide +kernel
theorem d_SpectrumDeskModel_count_58 : decode b_SpectrumDeskModel_count 58 = .ok (.lload_n 2, 1) := by decide +kernel
theorem d_SpectrumDeskModel_count_59 : decode b_SpectrumDeskModel_count 59 = .ok (.invokevirtual 104, 3) := by decide +kernel
theorem d_SpectrumDeskModel_count_62 : decode b_SpectrumDeskModel_count 62 = .ok (.aload_n 0, 1) := by decide +kernel
theorem d_SpectrumDeskModel_count_63 : decode b_SpectrumDeskModel_count 63 = .ok (.bipush (109), 2) := by decide +kernel
theorem d_SpectrumDeskModel_count_65 : decode b_SpectrumDeskModel_count 65 = .ok (.lload 4, 2) := by decide +kernel
theorem d_SpectrumDeskModel_count_67 : decode b_SpectrumDeskModel_count 67 = .ok (.invokevirtual 104, 3) := by decide +kernel
theorem d_SpectrumDeskModel_count_70 : decode b_SpectrumDeskModel_count 70 = .ok (.aload_n 0, 1) := by decide +kernel
theorem d_SpectrumDeskModel_count_71 : decode b_SpectrumDeskModel_count 71 = .ok (.iconst 0, 1) := by decide +kernel
theorem d_SpectrumDeskModel_count_72 : decode b_SpectrumDeskModel_count 72 = .ok (.invokevirtual 139, 3) := by decide +kernel
theorem d_SpectrumDeskModel_count_75 : decode b_SpectrumDeskModel_count 75 = .ok (.iload 6, 2) := by decide +kernel
theorem d_SpectrumDeskModel_count_77 : decode b_SpectrumDeskModel_count 77 = .ok (.ifCond .ne (10), 3) := by decide +kernel
theorem d_SpectrumDeskModel_count_80 : decode b_SpectrumDeskModel_count 80 = .ok (.aload_n 0, 1) := by decide +kernel
theorem d_SpectrumDeskModel_count_81 : decode b_SpectrumDeskModel_count 81 = .ok (.getfield 136, 3) := by decide +kernel
theorem d_SpectrumDeskModel_count_84 : decode b_SpectrumDeskModel_count 84 = .ok (.goto (27), 3) := by decide +kernel
theorem d_SpectrumDeskModel_count_87 : decode b_SpectrumDeskModel_count 87 = .ok (.iload 6, 2) := by decide +kernel
theorem d_SpectrumDeskModel_count_89 : decode b_SpectrumDeskModel_count 89 = .ok (.iconst 1, 1) := by decide +kernel
theorem d_SpectrumDeskModel_count_90 : decode b_SpectrumDeskModel_count 90 = .ok (.if_icmp .ne (10), 3) := by decide +kernel
theorem d_SpectrumDeskModel_count_93 : decode b_SpectrumDeskModel_count 93 = .ok (.aload_n 0, 1) := by decide +kernel
theorem d_SpectrumDeskModel_count_94 : decode b_SpectrumDeskModel_count 94 = .ok (.getfield 133, 3) := by decide +kernel
theorem d_SpectrumDeskModel_count_97 : decode b_SpectrumDeskModel_count 97 = .ok (.goto (14), 3) := by decide +kernel
theorem d_SpectrumDeskModel_count_100 : decode b_SpectrumDeskModel_count 100 = .ok (.iload_n 1, 1) := by decide +kernel
theorem d_SpectrumDeskModel_count_101 : decode b_SpectrumDeskModel_count 101 = .ok (.aload_n 0, 1) := by decide +kernel
theorem d_SpectrumDeskModel_count_102 : decode b_SpectrumDeskModel_count 102 = .ok (.getfield 136, 3) := by decide +kernel
theorem d_SpectrumDeskModel_count_105 : decode b_SpectrumDeskModel_count 105 = .ok (.isub, 1) := by decide +kernel
theorem d_SpectrumDeskModel_count_106 : decode b_SpectrumDeskModel_count 106 = .ok (.aload_n 0, 1) := by decide +kernel
theorem d_SpectrumDeskModel_count_107 : decode b_SpectrumDeskModel_count 107 = .ok (.getfield 133, 3) := by decide +kernel
theorem d_SpectrumDeskModel_count_110 : decode b_SpectrumDeskModel_count 110 = .ok (.isub, 1) := by decide +kernel
theorem d_SpectrumDeskModel_count_111 : decode b_SpectrumDeskModel_count 111 = .ok (.ireturn, 1) := by decide +kernel
abbrev b_SpectrumDeskModel_cell : ByteArray := prog_10_method_45_code
abbrev y_SpectrumDeskModel_cell : MethodName := ⟨"SpectrumDeskModel", "cell", "(II)J"⟩
abbrev v_SpectrumDeskModel_cell : List Cond := Cond.code y_SpectrumDeskModel_cell b_SpectrumDeskModel_cell 3 (some .long) :: AW
theorem d_SpectrumDeskModel_cell_0 : decode b_SpectrumDeskModel_cell 0 = .ok (.aload_n 0, 1) := by decide +kernel
theorem d_SpectrumDeskModel_cell_1 : decode b_SpectrumDeskModel_cell 1 = .ok (.iload_n 1, 1) := by decide +kernel
theorem d_SpectrumDeskModel_cell_2 : decode b_SpectrumDeskModel_cell 2 = .ok (.ifCond .lt (11), 3) := by decide +kernel
theorem d_SpectrumDeskModel_cell_5 : decode b_SpectrumDeskModel_cell 5 = .ok (.iload_n 1, 1) := by decide +kernel
theorem d_SpectrumDeskModel_cell_6 : decode b_SpectrumDeskModel_cell 6 = .ok (.aload_n 0, 1) := by decide +kernel
theorem d_SpectrumDeskModel_cell_7 : decode b_SpectrumDeskModel_cell 7 = .ok (.getfield 63, 3) := by decide +kernel
theorem d_SpectrumDeskModel_cell_10 : decode b_SpectrumDeskModel_cell 10 = .ok (.if_icmp .lt (7), 3) := by decide +kernel
theorem d_SpectrumDeskModel_cell_13 : decode b_SpectrumDeskModel_cell 13 = .ok (.iconst 1, 1) := by decide +kernel
theorem d_SpectrumDeskModel_cell_14 : decode b_SpectrumDeskModel_cell 14 = .ok (.goto (18), 3) := by decide +kernel
theorem d_SpectrumDeskModel_cell_17 : decode b_SpectrumDeskModel_cell 17 = .ok (.iload_n 2, 1) := by decide +kernel
theorem d_SpectrumDeskModel_cell_18 : decode b_SpectrumDeskModel_cell 18 = .ok (.ifCond .lt (9), 3) := by decide +kernel
theorem d_SpectrumDeskModel_cell_21 : decode b_SpectrumDeskModel_cell 21 = .ok (.iload_n 2, 1) := by decide +kernel
theorem d_SpectrumDeskModel_cell_22 : decode b_SpectrumDeskModel_cell 22 = .ok (.bipush (30), 2) := by decide +kernel
theorem d_SpectrumDeskModel_cell_24 : decode b_SpectrumDeskModel_cell 24 = .ok (.if_icmp .le (7), 3) := by decide +kernel
theorem d_SpectrumDeskModel_cell_27 : decode b_SpectrumDeskModel_cell 27 = .ok (.iconst 2, 1) := by decide +kernel
theorem d_SpectrumDeskModel_cell_28 : decode b_SpectrumDeskModel_cell 28 = .ok (.goto (4), 3) := by decide +kernel
theorem d_SpectrumDeskModel_cell_31 : decode b_SpectrumDeskModel_cell 31 = .ok (.iconst 0, 1) := by decide +kernel
theorem d_SpectrumDeskModel_cell_32 : decode b_SpectrumDeskModel_cell 32 = .ok (.putfield 79, 3) := by decide +kernel
theorem d_SpectrumDeskModel_cell_35 : decode b_SpectrumDeskModel_cell 35 = .ok (.aload_n 0, 1) := by decide +kernel
theorem d_SpectrumDeskModel_cell_36 : decode b_SpectrumDeskModel_cell 36 = .ok (.getfield 79, 3) := by decide +kernel
theorem d_SpectrumDeskModel_cell_39 : decode b_SpectrumDeskModel_cell 39 = .ok (.ifCond .le (5), 3) := by decide +kernel
theorem d_SpectrumDeskModel_cell_42 : decode b_SpectrumDeskModel_cell 42 = .ok (.lconst 0, 1) := by decide +kernel
theorem d_SpectrumDeskModel_cell_43 : decode b_SpectrumDeskModel_cell 43 = .ok (.lreturn, 1) := by decide +kernel
theorem d_SpectrumDeskModel_cell_44 : decode b_SpectrumDeskModel_cell 44 = .ok (.aload_n 0, 1) := by decide +kernel
theorem d_SpectrumDeskModel_cell_45 : decode b_SpectrumDeskModel_cell 45 = .ok (.aload_n 0, 1) := by decide +kernel
theorem d_SpectrumDeskModel_cell_46 : decode b_SpectrumDeskModel_cell 46 = .ok (.getfield 63, 3) := by decide +kernel
theorem d_SpectrumDeskModel_cell_49 : decode b_SpectrumDeskModel_cell 49 = .ok (.iconst 0, 1) := by decide +kernel
theorem d_SpectrumDeskModel_cell_50 : decode b_SpectrumDeskModel_cell 50 = .ok (.invokevirtual 121, 3) := by decide +kernel
theorem d_SpectrumDeskModel_cell_53 : decode b_SpectrumDeskModel_cell 53 = .ok (.aload_n 0, 1) := by decide +kernel
theorem d_SpectrumDeskModel_cell_54 : decode b_SpectrumDeskModel_cell 54 = .ok (.iload_n 1, 1) := by decide +kernel
theorem d_SpectrumDeskModel_cell_55 : decode b_SpectrumDeskModel_cell 55 = .ok (.iload_n 2, 1) := by decide +kernel
theorem d_SpectrumDeskModel_cell_56 : decode b_SpectrumDeskModel_cell 56 = .ok (.invokevirtual 165, 3) := by decide +kernel
theorem d_SpectrumDeskModel_cell_59 : decode b_SpectrumDeskModel_cell 59 = .ok (.lreturn, 1) := by decide +kernel
abbrev b_SpectrumDeskModel_whole : ByteArray := prog_10_method_50_code
abbrev y_SpectrumDeskModel_whole : MethodName := ⟨"SpectrumDeskModel", "whole", "(I)Z"⟩
abbrev v_SpectrumDeskModel_whole : List Cond := Cond.code y_SpectrumDeskModel_whole b_SpectrumDeskModel_whole 2 (some .boolean) :: AW
theorem d_SpectrumDeskModel_whole_0 : decode b_SpectrumDeskModel_whole 0 = .ok (.aload_n 0, 1) := by decide +kernel
theorem d_SpectrumDeskModel_whole_1 : decode b_SpectrumDeskModel_whole 1 = .ok (.iload_n 1, 1) := by decide +kernel
theorem d_SpectrumDeskModel_whole_2 : decode b_SpectrumDeskModel_whole 2 = .ok (.ifCond .lt (11), 3) := by decide +kernel
theorem d_SpectrumDeskModel_whole_5 : decode b_SpectrumDeskModel_whole 5 = .ok (.iload_n 1, 1) := by decide +kernel
theorem d_SpectrumDeskModel_whole_6 : decode b_SpectrumDeskModel_whole 6 = .ok (.aload_n 0, 1) := by decide +kernel
theorem d_SpectrumDeskModel_whole_7 : decode b_SpectrumDeskModel_whole 7 = .ok (.getfield 63, 3) := by decide +kernel
theorem d_SpectrumDeskModel_whole_10 : decode b_SpectrumDeskModel_whole 10 = .ok (.if_icmp .lt (7), 3) := by decide +kernel
theorem d_SpectrumDeskModel_whole_13 : decode b_SpectrumDeskModel_whole 13 = .ok (.iconst 1, 1) := by decide +kernel
theorem d_SpectrumDeskModel_whole_14 : decode b_SpectrumDeskModel_whole 14 = .ok (.goto (4), 3) := by decide +kernel
theorem d_SpectrumDeskModel_whole_17 : decode b_SpectrumDeskModel_whole 17 = .ok (.iconst 0, 1) := by decide +kernel
theorem d_SpectrumDeskModel_whole_18 : decode b_SpectrumDeskModel_whole 18 = .ok (.putfield 79, 3) := by decide +kernel
theorem d_SpectrumDeskModel_whole_21 : decode b_SpectrumDeskModel_whole 21 = .ok (.aload_n 0, 1) := by decide +kernel
theorem d_SpectrumDeskModel_whole_22 : decode b_SpectrumDeskModel_whole 22 = .ok (.getfield 79, 3) := by decide +kernel
theorem d_SpectrumDeskModel_whole_25 : decode b_SpectrumDeskModel_whole 25 = .ok (.ifCond .le (5), 3) := by decide +kernel
theorem d_SpectrumDeskModel_whole_28 : decode b_SpectrumDeskModel_whole 28 = .ok (.iconst 0, 1) := by decide +kernel
theorem d_SpectrumDeskModel_whole_29 : decode b_SpectrumDeskModel_whole 29 = .ok (.ireturn, 1) := by decide +kernel
theorem d_SpectrumDeskModel_whole_30 : decode b_SpectrumDeskModel_whole 30 = .ok (.aload_n 0, 1) := by decide +kernel
theorem d_SpectrumDeskModel_whole_31 : decode b_SpectrumDeskModel_whole 31 = .ok (.aload_n 0, 1) := by decide +kernel
theorem d_SpectrumDeskModel_whole_32 : decode b_SpectrumDeskModel_whole 32 = .ok (.getfield 63, 3) := by decide +kernel
theorem d_SpectrumDeskModel_whole_35 : decode b_SpectrumDeskModel_whole 35 = .ok (.iconst 0, 1) := by decide +kernel
theorem d_SpectrumDeskModel_whole_36 : decode b_SpectrumDeskModel_whole 36 = .ok (.invokevirtual 121, 3) := by decide +kernel
theorem d_SpectrumDeskModel_whole_39 : decode b_SpectrumDeskModel_whole 39 = .ok (.aload_n 0, 1) := by decide +kernel
theorem d_SpectrumDeskModel_whole_40 : decode b_SpectrumDeskModel_whole 40 = .ok (.bipush (108), 2) := by decide +kernel
theorem d_SpectrumDeskModel_whole_42 : decode b_SpectrumDeskModel_whole 42 = .ok (.aload_n 0, 1) := by decide +kernel
theorem d_SpectrumDeskModel_whole_43 : decode b_SpectrumDeskModel_whole 43 = .ok (.iload_n 1, 1) := by decide +kernel
theorem d_SpectrumDeskModel_whole_44 : decode b_SpectrumDeskModel_whole 44 = .ok (.iconst 0, 1) := by decide +kernel
theorem d_SpectrumDeskModel_whole_45 : decode b_SpectrumDeskModel_whole 45 = .ok (.invokevirtual 165, 3) := by decide +kernel
theorem d_SpectrumDeskModel_whole_48 : decode b_SpectrumDeskModel_whole 48 = .ok (.invokevirtual 104, 3) := by decide +kernel
theorem d_SpectrumDeskModel_whole_51 : decode b_SpectrumDeskModel_whole 51 = .ok (.aload_n 0, 1) := by decide +kernel
theorem d_SpectrumDeskModel_whole_52 : decode b_SpectrumDeskModel_whole 52 = .ok (.bipush (109), 2) := by decide +kernel
theorem d_SpectrumDeskModel_whole_54 : decode b_SpectrumDeskModel_whole 54 = .ok (.lconst 1, 1) := by decide +kernel
theorem d_SpectrumDeskModel_whole_55 : decode b_SpectrumDeskModel_whole 55 = .ok (.invokevirtual 104, 3) := by decide +kernel
theorem d_SpectrumDeskModel_whole_58 : decode b_SpectrumDeskModel_whole 58 = .ok (.aload_n 0, 1) := by decide +kernel
theorem d_SpectrumDeskModel_whole_59 : decode b_SpectrumDeskModel_whole 59 = .ok (.iconst 0, 1) := by decide +kernel
theorem d_SpectrumDeskModel_whole_60 : decode b_SpectrumDeskModel_whole 60 = .ok (.invokevirtual 139, 3) := by decide +kernel
theorem d_SpectrumDeskModel_whole_63 : decode b_SpectrumDeskModel_whole 63 = .ok (.iload_n 1, 1) := by decide +kernel
theorem d_SpectrumDeskModel_whole_64 : decode b_SpectrumDeskModel_whole 64 = .ok (.aload_n 0, 1) := by decide +kernel
theorem d_SpectrumDeskModel_whole_65 : decode b_SpectrumDeskModel_whole 65 = .ok (.getfield 136, 3) := by decide +kernel
theorem d_SpectrumDeskModel_whole_68 : decode b_SpectrumDeskModel_whole 68 = .ok (.if_icmp .lt (20), 3) := by decide +kernel
theorem d_SpectrumDeskModel_whole_71 : decode b_SpectrumDeskModel_whole 71 = .ok (.iload_n 1, 1) := by decide +kernel
theorem d_SpectrumDeskModel_whole_72 : decode b_SpectrumDeskModel_whole 72 = .ok (.aload_n 0, 1) := by decide +kernel
theorem d_SpectrumDeskModel_whole_73 : decode b_SpectrumDeskModel_whole 73 = .ok (.getfield 136, 3) := by decide +kernel
theorem d_SpectrumDeskModel_whole_76 : decode b_SpectrumDeskModel_whole 76 = .ok (.aload_n 0, 1) := by decide +kernel
theorem d_SpectrumDeskModel_whole_77 : decode b_SpectrumDeskModel_whole 77 = .ok (.getfield 133, 3) := by decide +kernel
theorem d_SpectrumDeskModel_whole_80 : decode b_SpectrumDeskModel_whole 80 = .ok (.iadd, 1) := by decide +kernel
theorem d_SpectrumDeskModel_whole_81 : decode b_SpectrumDeskModel_whole 81 = .ok (.if_icmp .ge (7), 3) := by decide +kernel
theorem d_SpectrumDeskModel_whole_84 : decode b_SpectrumDeskModel_whole 84 = .ok (.iconst 1, 1) := by decide +kernel
theorem d_SpectrumDeskModel_whole_85 : decode b_SpectrumDeskModel_whole 85 = .ok (.goto (4), 3) := by decide +kernel
theorem d_SpectrumDeskModel_whole_88 : decode b_SpectrumDeskModel_whole 88 = .ok (.iconst 0, 1) := by decide +kernel
theorem d_SpectrumDeskModel_whole_89 : decode b_SpectrumDeskModel_whole 89 = .ok (.ireturn, 1) := by decide +kernel
theorem k_b1bcd2b30f : (Jvm.Cond.methodLink "SpectrumDeskModel" (121 : Nat) ({ cls := "SpectrumDeskModel", name := "characterize", desc := "(II)V" } : Jvm.MethodName)) ∈ AW := aw_5 (List.mem_of_getElem? (i := 32) (by decide +kernel)) (by decide +kernel)
theorem k_fa61ed523e : (Jvm.Cond.instanceMethod ({ cls := "SpectrumDeskModel", name := "characterize", desc := "(II)V" } : Jvm.MethodName)) ∈ AW := aw_5 (List.mem_of_getElem? (i := 34) (by decide +kernel)) (by decide +kernel)
theorem k_f9f61292df : (Jvm.Cond.selects "SpectrumDeskModel" ({ cls := "SpectrumDeskModel", name := "characterize", desc := "(II)V" } : Jvm.MethodName) ({ cls := "SpectrumDeskModel", name := "characterize", desc := "(II)V" } : Jvm.MethodName)) ∈ AW := aw_p (by decide +kernel) (by decide +kernel)
theorem k_8d731b7043 : (Jvm.Cond.methodLink "SpectrumDeskModel" (165 : Nat) ({ cls := "SpectrumDeskModel", name := "cellOf", desc := "(II)J" } : Jvm.MethodName)) ∈ AW := aw_5 (List.mem_of_getElem? (i := 113) (by decide +kernel)) (by decide +kernel)
theorem k_2cbf681f5a : (Jvm.Cond.instanceMethod ({ cls := "SpectrumDeskModel", name := "cellOf", desc := "(II)J" } : Jvm.MethodName)) ∈ AW := aw_5 (List.mem_of_getElem? (i := 115) (by decide +kernel)) (by decide +kernel)
theorem k_9c8bf9c5aa : (Jvm.Cond.selects "SpectrumDeskModel" ({ cls := "SpectrumDeskModel", name := "cellOf", desc := "(II)J" } : Jvm.MethodName) ({ cls := "SpectrumDeskModel", name := "cellOf", desc := "(II)J" } : Jvm.MethodName)) ∈ AW := aw_p (by decide +kernel) (by decide +kernel)
theorem k_bc348f59a0 : (Jvm.Cond.code ({ cls := "SpectrumDeskModel", name := "count", desc := "(IJJI)I" } : Jvm.MethodName) prog_10_method_39_code (7 : Nat) (Option.some Jvm.ClassFile.FieldType.int)) ∈ AW := aw_5 (List.mem_of_getElem? (i := 100) (by decide +kernel)) (by decide +kernel)
theorem k_e1277267b6 : (Jvm.Cond.code ({ cls := "SpectrumDeskModel", name := "cell", desc := "(II)J" } : Jvm.MethodName) prog_10_method_45_code (3 : Nat) (Option.some Jvm.ClassFile.FieldType.long)) ∈ AW := aw_5 (List.mem_of_getElem? (i := 112) (by decide +kernel)) (by decide +kernel)
theorem k_6758589847 : (Jvm.Cond.code ({ cls := "SpectrumDeskModel", name := "whole", desc := "(I)Z" } : Jvm.MethodName) prog_10_method_50_code (2 : Nat) (Option.some Jvm.ClassFile.FieldType.boolean)) ∈ AW := aw_5 (List.mem_of_getElem? (i := 174) (by decide +kernel)) (by decide +kernel)
set_option maxHeartbeats 4000000 in
set_option maxRecDepth 100000 in
theorem c_SpectrumDeskModel_count_ok {l : Launch} {D : va_G} {cI cJ cZ cC cG cP : ClassId} {ad : Nat → Nat} {σ σb : Nat → va_E} {th : Int32} {n : Nat} {A9 : Nat → Int32} {rw : Nat} {Dt : Nat → Int32} {ps : Nat} {Pr : Nat → Int32} (hS : mS ad cI cZ σb th n A9 rw Dt ps Pr σ) {k9 wy : Nat} {tp bt : Int64} (h1 : 1 ≤ k9) (h2 : k9 ≤ n) (h3 : n ≤ 6) (h4 : wy ≤ 2) (h5 : 0 < bt) (hAb : ∀ i j, i < 6 → j < 6 → bd 1000000 ((A9 (6 * i + j)).toInt)) :
    Met l y_SpectrumDeskModel_count v_SpectrumDeskModel_count (xrm 5) (va_Pc [.ref (ad 183), .int (nI k9), .long tp, .long bt, .int (nI wy)] (xS D classes (xT cI cJ cZ cC cG cP) 193 ad σ)) (va_Qi (fun r σ2 => r = (if wy = 0 then wL tp.toInt bt.toInt k9 (chF (fun i j => (A9 (6 * i + j)).toInt) k9 (2 ^ k9)) else if wy = 1 then nI (wE tp.toInt bt.toInt k9 (chF (fun i j => (A9 (6 * i + j)).toInt) k9 (2 ^ k9))) else nI k9 - wL tp.toInt bt.toInt k9 (chF (fun i j => (A9 (6 * i + j)).toInt) k9 (2 ^ k9)) - nI (wE tp.toInt bt.toInt k9 (chF (fun i j => (A9 (6 * i + j)).toInt) k9 (2 ^ k9)))) ∧ mS ad cI cZ σb (nI 0) n A9 rw Dt ps Pr σ2) (xS D classes (xT cI cJ cZ cC cG cP) 193 ad) (xA 193 ad)) 0 0 (xA 193 ad) := by
  obtain ⟨s0, G, Dg, P, L, M, Z, le, eq, rfl, h187, h188, h189, h190, h191, hfb, hB⟩ := hS
  refine xr_met rfl (Nat.le_of_ble_eq_true rfl) ?_
  intro p e s m args below meth c ls hx hb X hr hlk hl I
  have hl : lv_has ls 7 [(0, .ref (ad 183)), (1, .int (nI k9)), (2, .long tp), (4, .long bt), (6, .int (nI wy))] := hl
  refine lv_aload_n hx hb d_SpectrumDeskModel_count_0 rfl (lv_at hl 0 rfl) ?_
  refine lv_iload_n hx hb d_SpectrumDeskModel_count_1 rfl (lv_at hl 1 rfl) ?_
  refine lv_iconst (v := nI 1) hx hb d_SpectrumDeskModel_count_2 (by decide) ?_
  refine lv_icmp_lt hx hb d_SpectrumDeskModel_count_3 rfl (fun hc => ?_) (fun hc => ?_)
  · exact absurd hc (nI_nlt (by omega) (by omega))
  · refine lv_iload_n hx hb d_SpectrumDeskModel_count_6 rfl (lv_at hl 1 rfl) ?_
    refine lv_aload_n hx hb d_SpectrumDeskModel_count_7 rfl (lv_at hl 0 rfl) ?_
    refine xr_get X I fin_M 183 (by decide) (r183 ..) rfl 5 (by decide) (List.mem_cons_of_mem _ k_b1a46e2c09) rfl rfl d_SpectrumDeskModel_count_8 ?_
    refine lv_icmp_gt hx hb d_SpectrumDeskModel_count_11 rfl (fun hc => ?_) (fun hc => ?_)
    · exact absurd hc (nI_nlt (by omega) (by omega))
    · refine lv_iload hx hb d_SpectrumDeskModel_count_14 (lv_at hl 4 rfl) ?_
      refine lv_if_lt hx hb d_SpectrumDeskModel_count_16 rfl (fun hc => ?_) (fun hc => ?_)
      · exact absurd hc (nI_pos (by omega))
      · refine lv_iload hx hb d_SpectrumDeskModel_count_19 (lv_at hl 4 rfl) ?_
        refine lv_iconst (v := nI 2) hx hb d_SpectrumDeskModel_count_21 (by decide) ?_
        refine lv_icmp_gt hx hb d_SpectrumDeskModel_count_22 rfl (fun hc => ?_) (fun hc => ?_)
        · exact absurd hc (nI_nlt (by omega) (by omega))
        · refine lv_lload hx hb d_SpectrumDeskModel_count_25 (lv_at hl 3 rfl) ?_
          refine lv_lconst (v := 0) hx hb d_SpectrumDeskModel_count_27 (by decide) ?_
          refine W.lcmp hx hb d_SpectrumDeskModel_count_28 ?_
          refine lv_if_le hx hb d_SpectrumDeskModel_count_29 rfl (fun hc => ?_) (fun hc => ?_)
          · exact absurd ((lg_cmp_le _ _).mp hc) (Int64.not_le.mpr h5)
          · refine lv_iconst (v := nI 0) hx hb d_SpectrumDeskModel_count_32 (by decide) ?_
            refine lv_goto hx hb d_SpectrumDeskModel_count_33 rfl ?_
            refine xr_put (ty := .int) X I fin_M t_M t_M_ok n_M 183 (by decide) (r183 ..) rfl 4 (by decide) (List.mem_cons_of_mem _ k_90bbbe5d04) rfl rfl (by decide +kernel) rfl rfl (Nat.le_of_ble_eq_true rfl) d_SpectrumDeskModel_count_37 (fun H locs I => ?_)
            rw [rw3_F] at I
            have I : xI D classes 193 ad s.heap (rw3 s0 ciM cI cZ (mfs ad (nI 0) (nI n) (nI rw) (nI ps) le eq) P L M) H locs := I
            refine lv_aload_n hx hb d_SpectrumDeskModel_count_40 rfl (lv_at hl 0 rfl) ?_
            refine xr_get X I fin_M 183 (by decide) (r183 ..) rfl 4 (by decide) (List.mem_cons_of_mem _ k_90bbbe5d04) rfl rfl d_SpectrumDeskModel_count_41 ?_
            refine lv_if_le hx hb d_SpectrumDeskModel_count_44 rfl (fun hc => ?_) (fun hc => ?_)
            · refine lv_aload_n hx hb d_SpectrumDeskModel_count_49 rfl (lv_at hl 0 rfl) ?_
              refine lv_iload_n hx hb d_SpectrumDeskModel_count_50 rfl (lv_at hl 1 rfl) ?_
              refine lv_iconst (v := nI 0) hx hb d_SpectrumDeskModel_count_51 (by decide) ?_
              refine xr_callv (xr_runV (kc := 4) (kr := 5) (n := 2) (As := [.int (nI k9), .int (nI 0)]) (rest := []) X I (by decide) (r183 ..) rfl (c_SpectrumDeskModel_characterize (k9 := k9) h187 hB (by omega) h188 hAb) (xg k_65cc42cfc5) (List.mem_cons_of_mem _ k_b1bcd2b30f) (List.mem_cons_of_mem _ k_fa61ed523e) (List.mem_cons_of_mem _ k_f9f61292df) (List.mem_cons_of_mem _ k_30fa15c9ac) (by decide +kernel) (by decide) rfl hl.1 rfl (Nat.le_of_ble_eq_true rfl) d_SpectrumDeskModel_count_52) I (fun σ9 H locs hp I => ?_)
              obtain ⟨Pc, Lc, Mc, Zc, rfl, hBc, hZc, hZo⟩ := hp
              refine lv_aload_n hx hb d_SpectrumDeskModel_count_55 rfl (lv_at hl 0 rfl) ?_
              refine lv_bipush (v := nI 108) hx hb d_SpectrumDeskModel_count_56 (by decide) ?_
              refine lv_lload_n hx hb d_SpectrumDeskModel_count_58 rfl (lv_at hl 2 rfl) ?_
              refine xr_callv (xr_runV (kc := 0) (kr := 5) (n := 2) (As := [.int (nI 108), .long tp]) (rest := []) X I (by decide) (r183 ..) rfl (c_SpectrumDeskModel_bigSet (w := 108) (v := tp) mfs_ok (by decide)) (xg k_5f300b8d49) (List.mem_cons_of_mem _ k_7a89662665) (List.mem_cons_of_mem _ k_203da126f2) (List.mem_cons_of_mem _ k_e2b6114fa3) (List.mem_cons_of_mem _ k_30fa15c9ac) (by decide +kernel) (by decide) rfl hl.1 rfl (Nat.le_of_ble_eq_true rfl) d_SpectrumDeskModel_count_59) I (fun σ9 H locs hp I => ?_)
              obtain ⟨P5, L5, M5, rfl, hf5, hx5⟩ := hp
              have hB5 := RB_up hBc hf5 hx5
              generalize eZ5 : va_up Zc 108 tp.toInt = Z5 at hB5
              refine lv_aload_n hx hb d_SpectrumDeskModel_count_62 rfl (lv_at hl 0 rfl) ?_
              refine lv_bipush (v := nI 109) hx hb d_SpectrumDeskModel_count_63 (by decide) ?_
              refine lv_lload hx hb d_SpectrumDeskModel_count_65 (lv_at hl 3 rfl) ?_
              refine xr_callv (xr_runV (kc := 0) (kr := 5) (n := 2) (As := [.int (nI 109), .long bt]) (rest := []) X I (by decide) (r183 ..) rfl (c_SpectrumDeskModel_bigSet (w := 109) (v := bt) mfs_ok (by decide)) (xg k_5f300b8d49) (List.mem_cons_of_mem _ k_7a89662665) (List.mem_cons_of_mem _ k_203da126f2) (List.mem_cons_of_mem _ k_e2b6114fa3) (List.mem_cons_of_mem _ k_30fa15c9ac) (by decide +kernel) (by decide) rfl hl.1 rfl (Nat.le_of_ble_eq_true rfl) d_SpectrumDeskModel_count_67) I (fun σ9 H locs hp I => ?_)
              obtain ⟨P6, L6, M6, rfl, hf6, hx6⟩ := hp
              have hB6 := RB_up hB5 hf6 hx6
              generalize eZ6 : va_up Z5 109 bt.toInt = Z6 at hB6
              have z108 : Z6 108 = tp.toInt := by rw [← eZ6, va_up_ne _ _ (by decide), ← eZ5, va_up_self]
              have z109 : Z6 109 = bt.toInt := by rw [← eZ6, va_up_self]
              have hpp : ∀ k, k ≤ k9 → Z6 (8 * 0 + k) = (chF (fun i j => (A9 (6 * i + j)).toInt) k9 (2 ^ k9)) k := fun k hk => by rw [Nat.mul_zero, Nat.zero_add, ← eZ6, va_up_ne _ _ (by omega), ← eZ5, va_up_ne _ _ (by omega)]; exact hZc k hk
              have hH : wH (Z6 108) (Z6 109) k9 (chF (fun i j => (A9 (6 * i + j)).toInt) k9 (2 ^ k9)) := by rw [z108, z109]; exact wH_of (by omega) (bd_64 tp) (bd_64 bt) (fun k _ => bd_up (by decide) (chF_sm hAb (Nat.pow_le_pow_right (by decide) (show k9 ≤ 6 by omega) (n := 2))))
              refine lv_aload_n hx hb d_SpectrumDeskModel_count_70 rfl (lv_at hl 0 rfl) ?_
              refine lv_iconst (v := nI 0) hx hb d_SpectrumDeskModel_count_71 (by decide) ?_
              refine xr_callv (xr_runV (kc := 3) (kr := 5) (n := 1) (As := [.int (nI 0)]) (rest := []) X I (by decide) (r183 ..) rfl (c_SpectrumDeskModel_weigh (b := 0) (dd := k9) (p0 := (chF (fun i j => (A9 (6 * i + j)).toInt) k9 (2 ^ k9))) (va_up_self _ _ _) hB6 (by decide) (by omega) upd_s hpp hH.1 hH.2.1 hH.2.2.1 hH.2.2.2) (xg k_0500b0c175) (List.mem_cons_of_mem _ k_608a9280a6) (List.mem_cons_of_mem _ k_9be29ce48e) (List.mem_cons_of_mem _ k_f13629996f) (List.mem_cons_of_mem _ k_30fa15c9ac) (by decide +kernel) (by decide) rfl hl.1 rfl (Nat.le_of_ble_eq_true rfl) d_SpectrumDeskModel_count_72) I (fun σ9 H locs hp I => ?_)
              obtain ⟨Pw, Lw, Mw, Zw, rfl, hBw, hEw⟩ := hp
              rw [z108, z109] at I
              have I : xI D classes 193 ad s.heap (rw3 (va_up (va_up s0 187 (.inl (cI, 5, .inl (upd G 0 (nI k9))))) 187 (.inl (cI, 5, .inl (upd (upd G 0 (nI k9)) 4 (nI k9))))) ciM cI cZ (mfs ad (nI 0) (nI n) (nI rw) (nI ps) (wL (tp.toInt) (bt.toInt) k9 (chF (fun i j => (A9 (6 * i + j)).toInt) k9 (2 ^ k9))) (nI (wE (tp.toInt) (bt.toInt) k9 (chF (fun i j => (A9 (6 * i + j)).toInt) k9 (2 ^ k9))))) Pw Lw Mw) H locs := I
              refine lv_iload hx hb d_SpectrumDeskModel_count_75 (lv_at hl 4 rfl) ?_
              refine lv_if_ne hx hb d_SpectrumDeskModel_count_77 rfl (fun hg => ?_) (fun hg => ?_)
              · have n0 : ¬ wy = 0 := fun h => hg (by rw [h]; rfl)
                refine lv_iload hx hb d_SpectrumDeskModel_count_87 (lv_at hl 4 rfl) ?_
                refine lv_iconst (v := nI 1) hx hb d_SpectrumDeskModel_count_89 (by decide) ?_
                refine lv_icmp_ne hx hb d_SpectrumDeskModel_count_90 rfl (fun hh => ?_) (fun hh => ?_)
                · have n1 : ¬ wy = 1 := fun h => hh (by rw [h])
                  refine lv_iload_n hx hb d_SpectrumDeskModel_count_100 rfl (lv_at hl 1 rfl) ?_
                  refine lv_aload_n hx hb d_SpectrumDeskModel_count_101 rfl (lv_at hl 0 rfl) ?_
                  refine xr_get X I fin_M 183 (by decide) (r183 ..) rfl 12 (by decide) (List.mem_cons_of_mem _ k_15947873ae) rfl rfl d_SpectrumDeskModel_count_102 ?_
                  refine lv_isub hx hb d_SpectrumDeskModel_count_105 ?_
                  refine lv_aload_n hx hb d_SpectrumDeskModel_count_106 rfl (lv_at hl 0 rfl) ?_
                  refine xr_get X I fin_M 183 (by decide) (r183 ..) rfl 13 (by decide) (List.mem_cons_of_mem _ k_e06fbbb633) rfl rfl d_SpectrumDeskModel_count_107 ?_
                  refine lv_isub hx hb d_SpectrumDeskModel_count_110 ?_
                  exact xr_iret X I hr hlk ⟨by rw [if_neg n0, if_neg n1], ⟨va_up (va_up s0 187 (.inl (cI, 5, .inl (upd G 0 (nI k9))))) 187 (.inl (cI, 5, .inl (upd (upd G 0 (nI k9)) 4 (nI k9)))), (upd (upd G 0 (nI k9)) 4 (nI k9)), Dg, Pw, Lw, Mw, Zw, wL (tp.toInt) (bt.toInt) k9 (chF (fun i j => (A9 (6 * i + j)).toInt) k9 (2 ^ k9)), nI (wE (tp.toInt) (bt.toInt) k9 (chF (fun i j => (A9 (6 * i + j)).toInt) k9 (2 ^ k9))), rfl, (va_up_self _ _ _), ((va_up_ne _ _ (by decide)).trans ((va_up_ne _ _ (by decide)).trans h188)), ((va_up_ne _ _ (by decide)).trans ((va_up_ne _ _ (by decide)).trans h189)), ((va_up_ne _ _ (by decide)).trans ((va_up_ne _ _ (by decide)).trans h190)), ((va_up_ne _ _ (by decide)).trans ((va_up_ne _ _ (by decide)).trans h191)), (fun q hq => (va_up_ne _ _ (by omega)).trans ((fun q hq => (va_up_ne _ _ (by omega)).trans (hfb q hq)) q hq)), hBw⟩⟩ d_SpectrumDeskModel_count_111
                · have n1 : wy = 1 := (nI_eq (by omega) (by decide)).mp hh
                  refine lv_aload_n hx hb d_SpectrumDeskModel_count_93 rfl (lv_at hl 0 rfl) ?_
                  refine xr_get X I fin_M 183 (by decide) (r183 ..) rfl 13 (by decide) (List.mem_cons_of_mem _ k_e06fbbb633) rfl rfl d_SpectrumDeskModel_count_94 ?_
                  refine lv_goto hx hb d_SpectrumDeskModel_count_97 rfl ?_
                  exact xr_iret X I hr hlk ⟨by rw [if_neg n0, if_pos n1], ⟨va_up (va_up s0 187 (.inl (cI, 5, .inl (upd G 0 (nI k9))))) 187 (.inl (cI, 5, .inl (upd (upd G 0 (nI k9)) 4 (nI k9)))), (upd (upd G 0 (nI k9)) 4 (nI k9)), Dg, Pw, Lw, Mw, Zw, wL (tp.toInt) (bt.toInt) k9 (chF (fun i j => (A9 (6 * i + j)).toInt) k9 (2 ^ k9)), nI (wE (tp.toInt) (bt.toInt) k9 (chF (fun i j => (A9 (6 * i + j)).toInt) k9 (2 ^ k9))), rfl, (va_up_self _ _ _), ((va_up_ne _ _ (by decide)).trans ((va_up_ne _ _ (by decide)).trans h188)), ((va_up_ne _ _ (by decide)).trans ((va_up_ne _ _ (by decide)).trans h189)), ((va_up_ne _ _ (by decide)).trans ((va_up_ne _ _ (by decide)).trans h190)), ((va_up_ne _ _ (by decide)).trans ((va_up_ne _ _ (by decide)).trans h191)), (fun q hq => (va_up_ne _ _ (by omega)).trans ((fun q hq => (va_up_ne _ _ (by omega)).trans (hfb q hq)) q hq)), hBw⟩⟩ d_SpectrumDeskModel_count_111
              · have n0 : wy = 0 := (nI_eq (by omega) (by decide)).mp hg
                refine lv_aload_n hx hb d_SpectrumDeskModel_count_80 rfl (lv_at hl 0 rfl) ?_
                refine xr_get X I fin_M 183 (by decide) (r183 ..) rfl 12 (by decide) (List.mem_cons_of_mem _ k_15947873ae) rfl rfl d_SpectrumDeskModel_count_81 ?_
                refine lv_goto hx hb d_SpectrumDeskModel_count_84 rfl ?_
                exact xr_iret X I hr hlk ⟨by rw [if_pos n0], ⟨va_up (va_up s0 187 (.inl (cI, 5, .inl (upd G 0 (nI k9))))) 187 (.inl (cI, 5, .inl (upd (upd G 0 (nI k9)) 4 (nI k9)))), (upd (upd G 0 (nI k9)) 4 (nI k9)), Dg, Pw, Lw, Mw, Zw, wL (tp.toInt) (bt.toInt) k9 (chF (fun i j => (A9 (6 * i + j)).toInt) k9 (2 ^ k9)), nI (wE (tp.toInt) (bt.toInt) k9 (chF (fun i j => (A9 (6 * i + j)).toInt) k9 (2 ^ k9))), rfl, (va_up_self _ _ _), ((va_up_ne _ _ (by decide)).trans ((va_up_ne _ _ (by decide)).trans h188)), ((va_up_ne _ _ (by decide)).trans ((va_up_ne _ _ (by decide)).trans h189)), ((va_up_ne _ _ (by decide)).trans ((va_up_ne _ _ (by decide)).trans h190)), ((va_up_ne _ _ (by decide)).trans ((va_up_ne _ _ (by decide)).trans h191)), (fun q hq => (va_up_ne _ _ (by omega)).trans ((fun q hq => (va_up_ne _ _ (by omega)).trans (hfb q hq)) q hq)), hBw⟩⟩ d_SpectrumDeskModel_count_111
            · exact absurd (by decide) hc
set_option maxHeartbeats 4000000 in
set_option maxRecDepth 100000 in
theorem c_SpectrumDeskModel_count_bad {l : Launch} {D : va_G} {cI cJ cZ cC cG cP : ClassId} {ad : Nat → Nat} {σ σb : Nat → va_E} {th : Int32} {n : Nat} {A9 : Nat → Int32} {rw : Nat} {Dt : Nat → Int32} {ps : Nat} {Pr : Nat → Int32} (hS : mS ad cI cZ σb th n A9 rw Dt ps Pr σ) {k9 wy : Int32} {tp bt : Int64} (h1 : k9 < nI 1 ∨ nI n < k9 ∨ wy < 0 ∨ nI 2 < wy ∨ bt ≤ 0) :
    Met l y_SpectrumDeskModel_count v_SpectrumDeskModel_count (xrm 0) (va_Pc [.ref (ad 183), .int k9, .long tp, .long bt, .int wy] (xS D classes (xT cI cJ cZ cC cG cP) 193 ad σ)) (va_Qi (fun r σ2 => r = nI 0 ∧ mS ad cI cZ σb (nI 1) n A9 rw Dt ps Pr σ2) (xS D classes (xT cI cJ cZ cC cG cP) 193 ad) (xA 193 ad)) 0 0 (xA 193 ad) := by
  obtain ⟨s0, G, Dg, P, L, M, Z, le, eq, rfl, h187, h188, h189, h190, h191, hfb, hB⟩ := hS
  refine xr_met rfl (Nat.le_of_ble_eq_true rfl) ?_
  intro p e s m args below meth c ls hx hb X hr hlk hl I
  have hl : lv_has ls 7 [(0, .ref (ad 183)), (1, .int k9), (2, .long tp), (4, .long bt), (6, .int wy)] := hl
  refine lv_aload_n hx hb d_SpectrumDeskModel_count_0 rfl (lv_at hl 0 rfl) ?_
  refine lv_iload_n hx hb d_SpectrumDeskModel_count_1 rfl (lv_at hl 1 rfl) ?_
  refine lv_iconst (v := nI 1) hx hb d_SpectrumDeskModel_count_2 (by decide) ?_
  refine lv_icmp_lt hx hb d_SpectrumDeskModel_count_3 rfl (fun q1 => ?_) (fun q1 => ?_)
  · refine lv_iconst (v := nI 1) hx hb d_SpectrumDeskModel_count_36 (by decide) ?_
    refine xr_put (ty := .int) X I fin_M t_M t_M_ok n_M 183 (by decide) (r183 ..) rfl 4 (by decide) (List.mem_cons_of_mem _ k_90bbbe5d04) rfl rfl (by decide +kernel) rfl rfl (Nat.le_of_ble_eq_true rfl) d_SpectrumDeskModel_count_37 (fun H locs I => ?_)
    rw [rw3_F] at I
    have I : xI D classes 193 ad s.heap (rw3 s0 ciM cI cZ (mfs ad (nI 1) (nI n) (nI rw) (nI ps) le eq) P L M) H locs := I
    refine lv_aload_n hx hb d_SpectrumDeskModel_count_40 rfl (lv_at hl 0 rfl) ?_
    refine xr_get X I fin_M 183 (by decide) (r183 ..) rfl 4 (by decide) (List.mem_cons_of_mem _ k_90bbbe5d04) rfl rfl d_SpectrumDeskModel_count_41 ?_
    refine lv_if_le hx hb d_SpectrumDeskModel_count_44 rfl (fun hz => ?_) (fun hz => ?_)
    · exact absurd hz (by decide)
    · refine lv_iconst (v := nI 0) hx hb d_SpectrumDeskModel_count_47 (by decide) ?_
      exact xr_iret X I hr hlk ⟨rfl, ⟨s0, G, Dg, P, L, M, Z, le, eq, rfl, h187, h188, h189, h190, h191, hfb, hB⟩⟩ d_SpectrumDeskModel_count_48
  · refine lv_iload_n hx hb d_SpectrumDeskModel_count_6 rfl (lv_at hl 1 rfl) ?_
    refine lv_aload_n hx hb d_SpectrumDeskModel_count_7 rfl (lv_at hl 0 rfl) ?_
    refine xr_get X I fin_M 183 (by decide) (r183 ..) rfl 5 (by decide) (List.mem_cons_of_mem _ k_b1a46e2c09) rfl rfl d_SpectrumDeskModel_count_8 ?_
    refine lv_icmp_gt hx hb d_SpectrumDeskModel_count_11 rfl (fun q2 => ?_) (fun q2 => ?_)
    · refine lv_iconst (v := nI 1) hx hb d_SpectrumDeskModel_count_36 (by decide) ?_
      refine xr_put (ty := .int) X I fin_M t_M t_M_ok n_M 183 (by decide) (r183 ..) rfl 4 (by decide) (List.mem_cons_of_mem _ k_90bbbe5d04) rfl rfl (by decide +kernel) rfl rfl (Nat.le_of_ble_eq_true rfl) d_SpectrumDeskModel_count_37 (fun H locs I => ?_)
      rw [rw3_F] at I
      have I : xI D classes 193 ad s.heap (rw3 s0 ciM cI cZ (mfs ad (nI 1) (nI n) (nI rw) (nI ps) le eq) P L M) H locs := I
      refine lv_aload_n hx hb d_SpectrumDeskModel_count_40 rfl (lv_at hl 0 rfl) ?_
      refine xr_get X I fin_M 183 (by decide) (r183 ..) rfl 4 (by decide) (List.mem_cons_of_mem _ k_90bbbe5d04) rfl rfl d_SpectrumDeskModel_count_41 ?_
      refine lv_if_le hx hb d_SpectrumDeskModel_count_44 rfl (fun hz => ?_) (fun hz => ?_)
      · exact absurd hz (by decide)
      · refine lv_iconst (v := nI 0) hx hb d_SpectrumDeskModel_count_47 (by decide) ?_
        exact xr_iret X I hr hlk ⟨rfl, ⟨s0, G, Dg, P, L, M, Z, le, eq, rfl, h187, h188, h189, h190, h191, hfb, hB⟩⟩ d_SpectrumDeskModel_count_48
    · refine lv_iload hx hb d_SpectrumDeskModel_count_14 (lv_at hl 4 rfl) ?_
      refine lv_if_lt hx hb d_SpectrumDeskModel_count_16 rfl (fun q3 => ?_) (fun q3 => ?_)
      · refine lv_iconst (v := nI 1) hx hb d_SpectrumDeskModel_count_36 (by decide) ?_
        refine xr_put (ty := .int) X I fin_M t_M t_M_ok n_M 183 (by decide) (r183 ..) rfl 4 (by decide) (List.mem_cons_of_mem _ k_90bbbe5d04) rfl rfl (by decide +kernel) rfl rfl (Nat.le_of_ble_eq_true rfl) d_SpectrumDeskModel_count_37 (fun H locs I => ?_)
        rw [rw3_F] at I
        have I : xI D classes 193 ad s.heap (rw3 s0 ciM cI cZ (mfs ad (nI 1) (nI n) (nI rw) (nI ps) le eq) P L M) H locs := I
        refine lv_aload_n hx hb d_SpectrumDeskModel_count_40 rfl (lv_at hl 0 rfl) ?_
        refine xr_get X I fin_M 183 (by decide) (r183 ..) rfl 4 (by decide) (List.mem_cons_of_mem _ k_90bbbe5d04) rfl rfl d_SpectrumDeskModel_count_41 ?_
        refine lv_if_le hx hb d_SpectrumDeskModel_count_44 rfl (fun hz => ?_) (fun hz => ?_)
        · exact absurd hz (by decide)
        · refine lv_iconst (v := nI 0) hx hb d_SpectrumDeskModel_count_47 (by decide) ?_
          exact xr_iret X I hr hlk ⟨rfl, ⟨s0, G, Dg, P, L, M, Z, le, eq, rfl, h187, h188, h189, h190, h191, hfb, hB⟩⟩ d_SpectrumDeskModel_count_48
      · refine lv_iload hx hb d_SpectrumDeskModel_count_19 (lv_at hl 4 rfl) ?_
        refine lv_iconst (v := nI 2) hx hb d_SpectrumDeskModel_count_21 (by decide) ?_
        refine lv_icmp_gt hx hb d_SpectrumDeskModel_count_22 rfl (fun q4 => ?_) (fun q4 => ?_)
        · refine lv_iconst (v := nI 1) hx hb d_SpectrumDeskModel_count_36 (by decide) ?_
          refine xr_put (ty := .int) X I fin_M t_M t_M_ok n_M 183 (by decide) (r183 ..) rfl 4 (by decide) (List.mem_cons_of_mem _ k_90bbbe5d04) rfl rfl (by decide +kernel) rfl rfl (Nat.le_of_ble_eq_true rfl) d_SpectrumDeskModel_count_37 (fun H locs I => ?_)
          rw [rw3_F] at I
          have I : xI D classes 193 ad s.heap (rw3 s0 ciM cI cZ (mfs ad (nI 1) (nI n) (nI rw) (nI ps) le eq) P L M) H locs := I
          refine lv_aload_n hx hb d_SpectrumDeskModel_count_40 rfl (lv_at hl 0 rfl) ?_
          refine xr_get X I fin_M 183 (by decide) (r183 ..) rfl 4 (by decide) (List.mem_cons_of_mem _ k_90bbbe5d04) rfl rfl d_SpectrumDeskModel_count_41 ?_
          refine lv_if_le hx hb d_SpectrumDeskModel_count_44 rfl (fun hz => ?_) (fun hz => ?_)
          · exact absurd hz (by decide)
          · refine lv_iconst (v := nI 0) hx hb d_SpectrumDeskModel_count_47 (by decide) ?_
            exact xr_iret X I hr hlk ⟨rfl, ⟨s0, G, Dg, P, L, M, Z, le, eq, rfl, h187, h188, h189, h190, h191, hfb, hB⟩⟩ d_SpectrumDeskModel_count_48
        · refine lv_lload hx hb d_SpectrumDeskModel_count_25 (lv_at hl 3 rfl) ?_
          refine lv_lconst (v := 0) hx hb d_SpectrumDeskModel_count_27 (by decide) ?_
          refine W.lcmp hx hb d_SpectrumDeskModel_count_28 ?_
          refine lv_if_le hx hb d_SpectrumDeskModel_count_29 rfl (fun q5 => ?_) (fun q5 => ?_)
          · refine lv_iconst (v := nI 1) hx hb d_SpectrumDeskModel_count_36 (by decide) ?_
            refine xr_put (ty := .int) X I fin_M t_M t_M_ok n_M 183 (by decide) (r183 ..) rfl 4 (by decide) (List.mem_cons_of_mem _ k_90bbbe5d04) rfl rfl (by decide +kernel) rfl rfl (Nat.le_of_ble_eq_true rfl) d_SpectrumDeskModel_count_37 (fun H locs I => ?_)
            rw [rw3_F] at I
            have I : xI D classes 193 ad s.heap (rw3 s0 ciM cI cZ (mfs ad (nI 1) (nI n) (nI rw) (nI ps) le eq) P L M) H locs := I
            refine lv_aload_n hx hb d_SpectrumDeskModel_count_40 rfl (lv_at hl 0 rfl) ?_
            refine xr_get X I fin_M 183 (by decide) (r183 ..) rfl 4 (by decide) (List.mem_cons_of_mem _ k_90bbbe5d04) rfl rfl d_SpectrumDeskModel_count_41 ?_
            refine lv_if_le hx hb d_SpectrumDeskModel_count_44 rfl (fun hz => ?_) (fun hz => ?_)
            · exact absurd hz (by decide)
            · refine lv_iconst (v := nI 0) hx hb d_SpectrumDeskModel_count_47 (by decide) ?_
              exact xr_iret X I hr hlk ⟨rfl, ⟨s0, G, Dg, P, L, M, Z, le, eq, rfl, h187, h188, h189, h190, h191, hfb, hB⟩⟩ d_SpectrumDeskModel_count_48
          · rcases h1 with h | h | h | h | h; exact absurd h q1; exact absurd h q2; exact absurd h q3; exact absurd h q4; exact absurd ((lg_cmp_le _ _).mpr h) q5
set_option maxHeartbeats 4000000 in
set_option maxRecDepth 100000 in
theorem c_SpectrumDeskModel_cell_ok {l : Launch} {D : va_G} {cI cJ cZ cC cG cP : ClassId} {ad : Nat → Nat} {σ σb : Nat → va_E} {th : Int32} {n : Nat} {A9 : Nat → Int32} {rw : Nat} {Dt : Nat → Int32} {ps : Nat} {Pr : Nat → Int32} (hS : mS ad cI cZ σb th n A9 rw Dt ps Pr σ) {i9 w9 : Nat} (h1 : i9 < n) (h2 : w9 ≤ 30) (h3 : n ≤ 6) (hAb : ∀ i j, i < 6 → j < 6 → bd 1000000 ((A9 (6 * i + j)).toInt)) :
    Met l y_SpectrumDeskModel_cell v_SpectrumDeskModel_cell (xrm 7) (va_Pc [.ref (ad 183), .int (nI i9), .int (nI w9)] (xS D classes (xT cI cJ cZ cC cG cP) 193 ad σ)) (va_Ql (fun r σ2 => cellP (chF (fun i j => (A9 (6 * i + j)).toInt) n (2 ^ n)) n w9 (nI i9) r ∧ mS ad cI cZ σb (nI 0) n A9 rw Dt ps Pr σ2) (xS D classes (xT cI cJ cZ cC cG cP) 193 ad) (xA 193 ad)) 0 0 (xA 193 ad) := by
  obtain ⟨s0, G, Dg, P, L, M, Z, le, eq, rfl, h187, h188, h189, h190, h191, hfb, hB⟩ := hS
  refine xr_met rfl (Nat.le_of_ble_eq_true rfl) ?_
  intro p e s m args below meth c ls hx hb X hr hlk hl I
  have hl : lv_has ls 3 [(0, .ref (ad 183)), (1, .int (nI i9)), (2, .int (nI w9))] := hl
  refine lv_aload_n hx hb d_SpectrumDeskModel_cell_0 rfl (lv_at hl 0 rfl) ?_
  refine lv_iload_n hx hb d_SpectrumDeskModel_cell_1 rfl (lv_at hl 1 rfl) ?_
  refine lv_if_lt hx hb d_SpectrumDeskModel_cell_2 rfl (fun hc => ?_) (fun hc => ?_)
  · exact absurd hc (nI_pos (by omega))
  · refine lv_iload_n hx hb d_SpectrumDeskModel_cell_5 rfl (lv_at hl 1 rfl) ?_
    refine lv_aload_n hx hb d_SpectrumDeskModel_cell_6 rfl (lv_at hl 0 rfl) ?_
    refine xr_get X I fin_M 183 (by decide) (r183 ..) rfl 5 (by decide) (List.mem_cons_of_mem _ k_b1a46e2c09) rfl rfl d_SpectrumDeskModel_cell_7 ?_
    refine lv_icmp_lt hx hb d_SpectrumDeskModel_cell_10 rfl (fun hc => ?_) (fun hc => ?_)
    · refine lv_iload_n hx hb d_SpectrumDeskModel_cell_17 rfl (lv_at hl 2 rfl) ?_
      refine lv_if_lt hx hb d_SpectrumDeskModel_cell_18 rfl (fun hc => ?_) (fun hc => ?_)
      · exact absurd hc (nI_pos (by omega))
      · refine lv_iload_n hx hb d_SpectrumDeskModel_cell_21 rfl (lv_at hl 2 rfl) ?_
        refine lv_bipush (v := nI 30) hx hb d_SpectrumDeskModel_cell_22 (by decide) ?_
        refine lv_icmp_le hx hb d_SpectrumDeskModel_cell_24 rfl (fun hc => ?_) (fun hc => ?_)
        · refine lv_iconst (v := nI 0) hx hb d_SpectrumDeskModel_cell_31 (by decide) ?_
          refine xr_put (ty := .int) X I fin_M t_M t_M_ok n_M 183 (by decide) (r183 ..) rfl 4 (by decide) (List.mem_cons_of_mem _ k_90bbbe5d04) rfl rfl (by decide +kernel) rfl rfl (Nat.le_of_ble_eq_true rfl) d_SpectrumDeskModel_cell_32 (fun H locs I => ?_)
          rw [rw3_F] at I
          have I : xI D classes 193 ad s.heap (rw3 s0 ciM cI cZ (mfs ad (nI 0) (nI n) (nI rw) (nI ps) le eq) P L M) H locs := I
          refine lv_aload_n hx hb d_SpectrumDeskModel_cell_35 rfl (lv_at hl 0 rfl) ?_
          refine xr_get X I fin_M 183 (by decide) (r183 ..) rfl 4 (by decide) (List.mem_cons_of_mem _ k_90bbbe5d04) rfl rfl d_SpectrumDeskModel_cell_36 ?_
          refine lv_if_le hx hb d_SpectrumDeskModel_cell_39 rfl (fun hc => ?_) (fun hc => ?_)
          · refine lv_aload_n hx hb d_SpectrumDeskModel_cell_44 rfl (lv_at hl 0 rfl) ?_
            refine lv_aload_n hx hb d_SpectrumDeskModel_cell_45 rfl (lv_at hl 0 rfl) ?_
            refine xr_get X I fin_M 183 (by decide) (r183 ..) rfl 5 (by decide) (List.mem_cons_of_mem _ k_b1a46e2c09) rfl rfl d_SpectrumDeskModel_cell_46 ?_
            refine lv_iconst (v := nI 0) hx hb d_SpectrumDeskModel_cell_49 (by decide) ?_
            refine xr_callv (xr_runV (kc := 4) (kr := 7) (n := 2) (As := [.int (nI n), .int (nI 0)]) (rest := []) X I (by decide) (r183 ..) rfl (c_SpectrumDeskModel_characterize (k9 := n) h187 hB h3 h188 hAb) (xg k_65cc42cfc5) (List.mem_cons_of_mem _ k_b1bcd2b30f) (List.mem_cons_of_mem _ k_fa61ed523e) (List.mem_cons_of_mem _ k_f9f61292df) (List.mem_cons_of_mem _ k_30fa15c9ac) (by decide +kernel) (by decide) rfl hl.1 rfl (Nat.le_of_ble_eq_true rfl) d_SpectrumDeskModel_cell_50) I (fun σ9 H locs hp I => ?_)
            obtain ⟨Pc, Lc, Mc, Zc, rfl, hBc, hZc, hZo⟩ := hp
            refine lv_aload_n hx hb d_SpectrumDeskModel_cell_53 rfl (lv_at hl 0 rfl) ?_
            refine lv_iload_n hx hb d_SpectrumDeskModel_cell_54 rfl (lv_at hl 1 rfl) ?_
            refine lv_iload_n hx hb d_SpectrumDeskModel_cell_55 rfl (lv_at hl 2 rfl) ?_
            refine xr_calll (xr_runV (kc := 6) (kr := 7) (n := 2) (As := [.int (nI i9), .int (nI w9)]) (rest := []) X I (by decide) (r183 ..) rfl (c_SpectrumDeskModel_cellOf (dd := n) (w9 := w9) (p0 := (chF (fun i j => (A9 (6 * i + j)).toInt) n (2 ^ n))) (i := nI i9) (va_up_self _ _ _) hBc h2 h3 upd_s hZc (fun k _ => bd_up (by decide) (chF_sm hAb (Nat.pow_le_pow_right (by decide) h3 (n := 2))))) (xg k_f126756040) (List.mem_cons_of_mem _ k_8d731b7043) (List.mem_cons_of_mem _ k_2cbf681f5a) (List.mem_cons_of_mem _ k_9c8bf9c5aa) (List.mem_cons_of_mem _ k_30fa15c9ac) (by decide +kernel) (by decide) rfl hl.1 rfl (Nat.le_of_ble_eq_true rfl) d_SpectrumDeskModel_cell_56) I (fun x σ9 H locs hp I => ?_)
            obtain ⟨hcl9, se, Ge, Pe, Le, Me, Ze, lee, eqe, rfl, hGe, hse, hge, hBe, hze⟩ := hp
            exact xr_lret X I hr hlk ⟨hcl9, ⟨se, Ge, Dg, Pe, Le, Me, Ze, lee, eqe, rfl, hGe, ((hse _ (by decide)).trans ((va_up_ne _ _ (by decide)).trans h188)), ((hse _ (by decide)).trans ((va_up_ne _ _ (by decide)).trans h189)), ((hse _ (by decide)).trans ((va_up_ne _ _ (by decide)).trans h190)), ((hse _ (by decide)).trans ((va_up_ne _ _ (by decide)).trans h191)), (fun q hq => (hse q (by omega)).trans ((fun q hq => (va_up_ne _ _ (by omega)).trans (hfb q hq)) q hq)), hBe⟩⟩ d_SpectrumDeskModel_cell_59
          · exact absurd (by decide) hc
        · exact absurd (nI_le h2 (by decide)) hc
    · exact absurd (nI_lt h1 (by omega)) hc
set_option maxHeartbeats 4000000 in
set_option maxRecDepth 100000 in
theorem c_SpectrumDeskModel_cell_bad1 {l : Launch} {D : va_G} {cI cJ cZ cC cG cP : ClassId} {ad : Nat → Nat} {σ σb : Nat → va_E} {th : Int32} {n : Nat} {A9 : Nat → Int32} {rw : Nat} {Dt : Nat → Int32} {ps : Nat} {Pr : Nat → Int32} (hS : mS ad cI cZ σb th n A9 rw Dt ps Pr σ) {i9 w9 : Int32} (h1 : i9 < 0 ∨ nI n ≤ i9) :
    Met l y_SpectrumDeskModel_cell v_SpectrumDeskModel_cell (xrm 0) (va_Pc [.ref (ad 183), .int i9, .int w9] (xS D classes (xT cI cJ cZ cC cG cP) 193 ad σ)) (va_Ql (fun r σ2 => r = 0 ∧ mS ad cI cZ σb (nI 1) n A9 rw Dt ps Pr σ2) (xS D classes (xT cI cJ cZ cC cG cP) 193 ad) (xA 193 ad)) 0 0 (xA 193 ad) := by
  obtain ⟨s0, G, Dg, P, L, M, Z, le, eq, rfl, h187, h188, h189, h190, h191, hfb, hB⟩ := hS
  refine xr_met rfl (Nat.le_of_ble_eq_true rfl) ?_
  intro p e s m args below meth c ls hx hb X hr hlk hl I
  have hl : lv_has ls 3 [(0, .ref (ad 183)), (1, .int i9), (2, .int w9)] := hl
  refine lv_aload_n hx hb d_SpectrumDeskModel_cell_0 rfl (lv_at hl 0 rfl) ?_
  refine lv_iload_n hx hb d_SpectrumDeskModel_cell_1 rfl (lv_at hl 1 rfl) ?_
  refine lv_if_lt hx hb d_SpectrumDeskModel_cell_2 rfl (fun hc => ?_) (fun hc => ?_)
  · refine lv_iconst (v := nI 1) hx hb d_SpectrumDeskModel_cell_13 (by decide) ?_
    refine lv_goto hx hb d_SpectrumDeskModel_cell_14 rfl ?_
    refine xr_put (ty := .int) X I fin_M t_M t_M_ok n_M 183 (by decide) (r183 ..) rfl 4 (by decide) (List.mem_cons_of_mem _ k_90bbbe5d04) rfl rfl (by decide +kernel) rfl rfl (Nat.le_of_ble_eq_true rfl) d_SpectrumDeskModel_cell_32 (fun H locs I => ?_)
    rw [rw3_F] at I
    have I : xI D classes 193 ad s.heap (rw3 s0 ciM cI cZ (mfs ad (nI 1) (nI n) (nI rw) (nI ps) le eq) P L M) H locs := I
    refine lv_aload_n hx hb d_SpectrumDeskModel_cell_35 rfl (lv_at hl 0 rfl) ?_
    refine xr_get X I fin_M 183 (by decide) (r183 ..) rfl 4 (by decide) (List.mem_cons_of_mem _ k_90bbbe5d04) rfl rfl d_SpectrumDeskModel_cell_36 ?_
    refine lv_if_le hx hb d_SpectrumDeskModel_cell_39 rfl (fun hz => ?_) (fun hz => ?_)
    · exact absurd hz (by decide)
    · refine lv_lconst (v := 0) hx hb d_SpectrumDeskModel_cell_42 (by decide) ?_
      exact xr_lret X I hr hlk ⟨rfl, ⟨s0, G, Dg, P, L, M, Z, le, eq, rfl, h187, h188, h189, h190, h191, hfb, hB⟩⟩ d_SpectrumDeskModel_cell_43
  · refine lv_iload_n hx hb d_SpectrumDeskModel_cell_5 rfl (lv_at hl 1 rfl) ?_
    refine lv_aload_n hx hb d_SpectrumDeskModel_cell_6 rfl (lv_at hl 0 rfl) ?_
    refine xr_get X I fin_M 183 (by decide) (r183 ..) rfl 5 (by decide) (List.mem_cons_of_mem _ k_b1a46e2c09) rfl rfl d_SpectrumDeskModel_cell_7 ?_
    refine lv_icmp_lt hx hb d_SpectrumDeskModel_cell_10 rfl (fun hd => ?_) (fun hd => ?_)
    · exact absurd h1 (fun h => h.elim hc (fun h => q_le_lt h hd))
    · refine lv_iconst (v := nI 1) hx hb d_SpectrumDeskModel_cell_13 (by decide) ?_
      refine lv_goto hx hb d_SpectrumDeskModel_cell_14 rfl ?_
      refine xr_put (ty := .int) X I fin_M t_M t_M_ok n_M 183 (by decide) (r183 ..) rfl 4 (by decide) (List.mem_cons_of_mem _ k_90bbbe5d04) rfl rfl (by decide +kernel) rfl rfl (Nat.le_of_ble_eq_true rfl) d_SpectrumDeskModel_cell_32 (fun H locs I => ?_)
      rw [rw3_F] at I
      have I : xI D classes 193 ad s.heap (rw3 s0 ciM cI cZ (mfs ad (nI 1) (nI n) (nI rw) (nI ps) le eq) P L M) H locs := I
      refine lv_aload_n hx hb d_SpectrumDeskModel_cell_35 rfl (lv_at hl 0 rfl) ?_
      refine xr_get X I fin_M 183 (by decide) (r183 ..) rfl 4 (by decide) (List.mem_cons_of_mem _ k_90bbbe5d04) rfl rfl d_SpectrumDeskModel_cell_36 ?_
      refine lv_if_le hx hb d_SpectrumDeskModel_cell_39 rfl (fun hz => ?_) (fun hz => ?_)
      · exact absurd hz (by decide)
      · refine lv_lconst (v := 0) hx hb d_SpectrumDeskModel_cell_42 (by decide) ?_
        exact xr_lret X I hr hlk ⟨rfl, ⟨s0, G, Dg, P, L, M, Z, le, eq, rfl, h187, h188, h189, h190, h191, hfb, hB⟩⟩ d_SpectrumDeskModel_cell_43
set_option maxHeartbeats 4000000 in
set_option maxRecDepth 100000 in
theorem c_SpectrumDeskModel_cell_bad2 {l : Launch} {D : va_G} {cI cJ cZ cC cG cP : ClassId} {ad : Nat → Nat} {σ σb : Nat → va_E} {th : Int32} {n : Nat} {A9 : Nat → Int32} {rw : Nat} {Dt : Nat → Int32} {ps : Nat} {Pr : Nat → Int32} (hS : mS ad cI cZ σb th n A9 rw Dt ps Pr σ) {i9 w9 : Int32} (h0 : ¬ i9 < 0 ∧ i9 < nI n) (h1 : w9 < 0 ∨ nI 30 < w9) :
    Met l y_SpectrumDeskModel_cell v_SpectrumDeskModel_cell (xrm 0) (va_Pc [.ref (ad 183), .int i9, .int w9] (xS D classes (xT cI cJ cZ cC cG cP) 193 ad σ)) (va_Ql (fun r σ2 => r = 0 ∧ mS ad cI cZ σb (nI 2) n A9 rw Dt ps Pr σ2) (xS D classes (xT cI cJ cZ cC cG cP) 193 ad) (xA 193 ad)) 0 0 (xA 193 ad) := by
  obtain ⟨s0, G, Dg, P, L, M, Z, le, eq, rfl, h187, h188, h189, h190, h191, hfb, hB⟩ := hS
  refine xr_met rfl (Nat.le_of_ble_eq_true rfl) ?_
  intro p e s m args below meth c ls hx hb X hr hlk hl I
  have hl : lv_has ls 3 [(0, .ref (ad 183)), (1, .int i9), (2, .int w9)] := hl
  refine lv_aload_n hx hb d_SpectrumDeskModel_cell_0 rfl (lv_at hl 0 rfl) ?_
  refine lv_iload_n hx hb d_SpectrumDeskModel_cell_1 rfl (lv_at hl 1 rfl) ?_
  refine lv_if_lt hx hb d_SpectrumDeskModel_cell_2 rfl (fun hc => ?_) (fun hc => ?_)
  · exact absurd hc h0.1
  · refine lv_iload_n hx hb d_SpectrumDeskModel_cell_5 rfl (lv_at hl 1 rfl) ?_
    refine lv_aload_n hx hb d_SpectrumDeskModel_cell_6 rfl (lv_at hl 0 rfl) ?_
    refine xr_get X I fin_M 183 (by decide) (r183 ..) rfl 5 (by decide) (List.mem_cons_of_mem _ k_b1a46e2c09) rfl rfl d_SpectrumDeskModel_cell_7 ?_
    refine lv_icmp_lt hx hb d_SpectrumDeskModel_cell_10 rfl (fun hd => ?_) (fun hd => ?_)
    · refine lv_iload_n hx hb d_SpectrumDeskModel_cell_17 rfl (lv_at hl 2 rfl) ?_
      refine lv_if_lt hx hb d_SpectrumDeskModel_cell_18 rfl (fun he => ?_) (fun he => ?_)
      · refine lv_iconst (v := nI 2) hx hb d_SpectrumDeskModel_cell_27 (by decide) ?_
        refine lv_goto hx hb d_SpectrumDeskModel_cell_28 rfl ?_
        refine xr_put (ty := .int) X I fin_M t_M t_M_ok n_M 183 (by decide) (r183 ..) rfl 4 (by decide) (List.mem_cons_of_mem _ k_90bbbe5d04) rfl rfl (by decide +kernel) rfl rfl (Nat.le_of_ble_eq_true rfl) d_SpectrumDeskModel_cell_32 (fun H locs I => ?_)
        rw [rw3_F] at I
        have I : xI D classes 193 ad s.heap (rw3 s0 ciM cI cZ (mfs ad (nI 2) (nI n) (nI rw) (nI ps) le eq) P L M) H locs := I
        refine lv_aload_n hx hb d_SpectrumDeskModel_cell_35 rfl (lv_at hl 0 rfl) ?_
        refine xr_get X I fin_M 183 (by decide) (r183 ..) rfl 4 (by decide) (List.mem_cons_of_mem _ k_90bbbe5d04) rfl rfl d_SpectrumDeskModel_cell_36 ?_
        refine lv_if_le hx hb d_SpectrumDeskModel_cell_39 rfl (fun hz => ?_) (fun hz => ?_)
        · exact absurd hz (by decide)
        · refine lv_lconst (v := 0) hx hb d_SpectrumDeskModel_cell_42 (by decide) ?_
          exact xr_lret X I hr hlk ⟨rfl, ⟨s0, G, Dg, P, L, M, Z, le, eq, rfl, h187, h188, h189, h190, h191, hfb, hB⟩⟩ d_SpectrumDeskModel_cell_43
      · refine lv_iload_n hx hb d_SpectrumDeskModel_cell_21 rfl (lv_at hl 2 rfl) ?_
        refine lv_bipush (v := nI 30) hx hb d_SpectrumDeskModel_cell_22 (by decide) ?_
        refine lv_icmp_le hx hb d_SpectrumDeskModel_cell_24 rfl (fun hf => ?_) (fun hf => ?_)
        · exact absurd h1 (fun h => h.elim he (fun h => q_le_lt hf h))
        · refine lv_iconst (v := nI 2) hx hb d_SpectrumDeskModel_cell_27 (by decide) ?_
          refine lv_goto hx hb d_SpectrumDeskModel_cell_28 rfl ?_
          refine xr_put (ty := .int) X I fin_M t_M t_M_ok n_M 183 (by decide) (r183 ..) rfl 4 (by decide) (List.mem_cons_of_mem _ k_90bbbe5d04) rfl rfl (by decide +kernel) rfl rfl (Nat.le_of_ble_eq_true rfl) d_SpectrumDeskModel_cell_32 (fun H locs I => ?_)
          rw [rw3_F] at I
          have I : xI D classes 193 ad s.heap (rw3 s0 ciM cI cZ (mfs ad (nI 2) (nI n) (nI rw) (nI ps) le eq) P L M) H locs := I
          refine lv_aload_n hx hb d_SpectrumDeskModel_cell_35 rfl (lv_at hl 0 rfl) ?_
          refine xr_get X I fin_M 183 (by decide) (r183 ..) rfl 4 (by decide) (List.mem_cons_of_mem _ k_90bbbe5d04) rfl rfl d_SpectrumDeskModel_cell_36 ?_
          refine lv_if_le hx hb d_SpectrumDeskModel_cell_39 rfl (fun hz => ?_) (fun hz => ?_)
          · exact absurd hz (by decide)
          · refine lv_lconst (v := 0) hx hb d_SpectrumDeskModel_cell_42 (by decide) ?_
            exact xr_lret X I hr hlk ⟨rfl, ⟨s0, G, Dg, P, L, M, Z, le, eq, rfl, h187, h188, h189, h190, h191, hfb, hB⟩⟩ d_SpectrumDeskModel_cell_43
    · exact absurd h0.2 hd
set_option maxHeartbeats 4000000 in
set_option maxRecDepth 100000 in
theorem c_SpectrumDeskModel_whole_bad {l : Launch} {D : va_G} {cI cJ cZ cC cG cP : ClassId} {ad : Nat → Nat} {σ σb : Nat → va_E} {th : Int32} {n : Nat} {A9 : Nat → Int32} {rw : Nat} {Dt : Nat → Int32} {ps : Nat} {Pr : Nat → Int32} (hS : mS ad cI cZ σb th n A9 rw Dt ps Pr σ) {i9 : Int32} (h1 : i9 < 0 ∨ nI n ≤ i9) :
    Met l y_SpectrumDeskModel_whole v_SpectrumDeskModel_whole (xrm 0) (va_Pc [.ref (ad 183), .int i9] (xS D classes (xT cI cJ cZ cC cG cP) 193 ad σ)) (va_Qi (fun r σ2 => r = nI 0 ∧ mS ad cI cZ σb (nI 1) n A9 rw Dt ps Pr σ2) (xS D classes (xT cI cJ cZ cC cG cP) 193 ad) (xA 193 ad)) 0 0 (xA 193 ad) := by
  obtain ⟨s0, G, Dg, P, L, M, Z, le, eq, rfl, h187, h188, h189, h190, h191, hfb, hB⟩ := hS
  refine xr_met rfl (Nat.le_of_ble_eq_true rfl) ?_
  intro p e s m args below meth c ls hx hb X hr hlk hl I
  have hl : lv_has ls 2 [(0, .ref (ad 183)), (1, .int i9)] := hl
  refine lv_aload_n hx hb d_SpectrumDeskModel_whole_0 rfl (lv_at hl 0 rfl) ?_
  refine lv_iload_n hx hb d_SpectrumDeskModel_whole_1 rfl (lv_at hl 1 rfl) ?_
  refine lv_if_lt hx hb d_SpectrumDeskModel_whole_2 rfl (fun hc => ?_) (fun hc => ?_)
  · refine lv_iconst (v := nI 1) hx hb d_SpectrumDeskModel_whole_13 (by decide) ?_
    refine lv_goto hx hb d_SpectrumDeskModel_whole_14 rfl ?_
    refine xr_put (ty := .int) X I fin_M t_M t_M_ok n_M 183 (by decide) (r183 ..) rfl 4 (by decide) (List.mem_cons_of_mem _ k_90bbbe5d04) rfl rfl (by decide +kernel) rfl rfl (Nat.le_of_ble_eq_true rfl) d_SpectrumDeskModel_whole_18 (fun H locs I => ?_)
    rw [rw3_F] at I
    have I : xI D classes 193 ad s.heap (rw3 s0 ciM cI cZ (mfs ad (nI 1) (nI n) (nI rw) (nI ps) le eq) P L M) H locs := I
    refine lv_aload_n hx hb d_SpectrumDeskModel_whole_21 rfl (lv_at hl 0 rfl) ?_
    refine xr_get X I fin_M 183 (by decide) (r183 ..) rfl 4 (by decide) (List.mem_cons_of_mem _ k_90bbbe5d04) rfl rfl d_SpectrumDeskModel_whole_22 ?_
    refine lv_if_le hx hb d_SpectrumDeskModel_whole_25 rfl (fun hz => ?_) (fun hz => ?_)
    · exact absurd hz (by decide)
    · refine lv_iconst (v := nI 0) hx hb d_SpectrumDeskModel_whole_28 (by decide) ?_
      exact xr_zret X I hr hlk (by decide +kernel) ⟨rfl, ⟨s0, G, Dg, P, L, M, Z, le, eq, rfl, h187, h188, h189, h190, h191, hfb, hB⟩⟩ d_SpectrumDeskModel_whole_29
  · refine lv_iload_n hx hb d_SpectrumDeskModel_whole_5 rfl (lv_at hl 1 rfl) ?_
    refine lv_aload_n hx hb d_SpectrumDeskModel_whole_6 rfl (lv_at hl 0 rfl) ?_
    refine xr_get X I fin_M 183 (by decide) (r183 ..) rfl 5 (by decide) (List.mem_cons_of_mem _ k_b1a46e2c09) rfl rfl d_SpectrumDeskModel_whole_7 ?_
    refine lv_icmp_lt hx hb d_SpectrumDeskModel_whole_10 rfl (fun hd => ?_) (fun hd => ?_)
    · exact absurd h1 (fun h => h.elim hc (fun h => q_le_lt h hd))
    · refine lv_iconst (v := nI 1) hx hb d_SpectrumDeskModel_whole_13 (by decide) ?_
      refine lv_goto hx hb d_SpectrumDeskModel_whole_14 rfl ?_
      refine xr_put (ty := .int) X I fin_M t_M t_M_ok n_M 183 (by decide) (r183 ..) rfl 4 (by decide) (List.mem_cons_of_mem _ k_90bbbe5d04) rfl rfl (by decide +kernel) rfl rfl (Nat.le_of_ble_eq_true rfl) d_SpectrumDeskModel_whole_18 (fun H locs I => ?_)
      rw [rw3_F] at I
      have I : xI D classes 193 ad s.heap (rw3 s0 ciM cI cZ (mfs ad (nI 1) (nI n) (nI rw) (nI ps) le eq) P L M) H locs := I
      refine lv_aload_n hx hb d_SpectrumDeskModel_whole_21 rfl (lv_at hl 0 rfl) ?_
      refine xr_get X I fin_M 183 (by decide) (r183 ..) rfl 4 (by decide) (List.mem_cons_of_mem _ k_90bbbe5d04) rfl rfl d_SpectrumDeskModel_whole_22 ?_
      refine lv_if_le hx hb d_SpectrumDeskModel_whole_25 rfl (fun hz => ?_) (fun hz => ?_)
      · exact absurd hz (by decide)
      · refine lv_iconst (v := nI 0) hx hb d_SpectrumDeskModel_whole_28 (by decide) ?_
        exact xr_zret X I hr hlk (by decide +kernel) ⟨rfl, ⟨s0, G, Dg, P, L, M, Z, le, eq, rfl, h187, h188, h189, h190, h191, hfb, hB⟩⟩ d_SpectrumDeskModel_whole_29
set_option maxHeartbeats 4000000 in
set_option maxRecDepth 100000 in
theorem c_SpectrumDeskModel_whole_ok {l : Launch} {D : va_G} {cI cJ cZ cC cG cP : ClassId} {ad : Nat → Nat} {σ σb : Nat → va_E} {th : Int32} {n : Nat} {A9 : Nat → Int32} {rw : Nat} {Dt : Nat → Int32} {ps : Nat} {Pr : Nat → Int32} (hS : mS ad cI cZ σb th n A9 rw Dt ps Pr σ) {i9 : Nat} (h1 : i9 < n) (h3 : n ≤ 6) (hAb : ∀ i j, i < 6 → j < 6 → bd 1000000 ((A9 (6 * i + j)).toInt)) :
    Met l y_SpectrumDeskModel_whole v_SpectrumDeskModel_whole (xrm 7) (va_Pc [.ref (ad 183), .int (nI i9)] (xS D classes (xT cI cJ cZ cC cG cP) 193 ad σ)) (va_Qi (fun r σ2 => ∃ x : Int64, cellP (chF (fun i j => (A9 (6 * i + j)).toInt) n (2 ^ n)) n 0 (nI i9) x ∧ r = (if ¬ nI i9 < wL x.toInt 1 n (chF (fun i j => (A9 (6 * i + j)).toInt) n (2 ^ n)) ∧ nI i9 < wL x.toInt 1 n (chF (fun i j => (A9 (6 * i + j)).toInt) n (2 ^ n)) + nI (wE x.toInt 1 n (chF (fun i j => (A9 (6 * i + j)).toInt) n (2 ^ n))) then nI 1 else nI 0) ∧ mS ad cI cZ σb (nI 0) n A9 rw Dt ps Pr σ2) (xS D classes (xT cI cJ cZ cC cG cP) 193 ad) (xA 193 ad)) 0 0 (xA 193 ad) := by
  obtain ⟨s0, G, Dg, P, L, M, Z, le, eq, rfl, h187, h188, h189, h190, h191, hfb, hB⟩ := hS
  refine xr_met rfl (Nat.le_of_ble_eq_true rfl) ?_
  intro p e s m args below meth c ls hx hb X hr hlk hl I
  have hl : lv_has ls 2 [(0, .ref (ad 183)), (1, .int (nI i9))] := hl
  refine lv_aload_n hx hb d_SpectrumDeskModel_whole_0 rfl (lv_at hl 0 rfl) ?_
  refine lv_iload_n hx hb d_SpectrumDeskModel_whole_1 rfl (lv_at hl 1 rfl) ?_
  refine lv_if_lt hx hb d_SpectrumDeskModel_whole_2 rfl (fun hc => ?_) (fun hc => ?_)
  · exact absurd hc (nI_pos (by omega))
  · refine lv_iload_n hx hb d_SpectrumDeskModel_whole_5 rfl (lv_at hl 1 rfl) ?_
    refine lv_aload_n hx hb d_SpectrumDeskModel_whole_6 rfl (lv_at hl 0 rfl) ?_
    refine xr_get X I fin_M 183 (by decide) (r183 ..) rfl 5 (by decide) (List.mem_cons_of_mem _ k_b1a46e2c09) rfl rfl d_SpectrumDeskModel_whole_7 ?_
    refine lv_icmp_lt hx hb d_SpectrumDeskModel_whole_10 rfl (fun hc => ?_) (fun hc => ?_)
    · refine lv_iconst (v := nI 0) hx hb d_SpectrumDeskModel_whole_17 (by decide) ?_
      refine xr_put (ty := .int) X I fin_M t_M t_M_ok n_M 183 (by decide) (r183 ..) rfl 4 (by decide) (List.mem_cons_of_mem _ k_90bbbe5d04) rfl rfl (by decide +kernel) rfl rfl (Nat.le_of_ble_eq_true rfl) d_SpectrumDeskModel_whole_18 (fun H locs I => ?_)
      rw [rw3_F] at I
      have I : xI D classes 193 ad s.heap (rw3 s0 ciM cI cZ (mfs ad (nI 0) (nI n) (nI rw) (nI ps) le eq) P L M) H locs := I
      refine lv_aload_n hx hb d_SpectrumDeskModel_whole_21 rfl (lv_at hl 0 rfl) ?_
      refine xr_get X I fin_M 183 (by decide) (r183 ..) rfl 4 (by decide) (List.mem_cons_of_mem _ k_90bbbe5d04) rfl rfl d_SpectrumDeskModel_whole_22 ?_
      refine lv_if_le hx hb d_SpectrumDeskModel_whole_25 rfl (fun hc => ?_) (fun hc => ?_)
      · refine lv_aload_n hx hb d_SpectrumDeskModel_whole_30 rfl (lv_at hl 0 rfl) ?_
        refine lv_aload_n hx hb d_SpectrumDeskModel_whole_31 rfl (lv_at hl 0 rfl) ?_
        refine xr_get X I fin_M 183 (by decide) (r183 ..) rfl 5 (by decide) (List.mem_cons_of_mem _ k_b1a46e2c09) rfl rfl d_SpectrumDeskModel_whole_32 ?_
        refine lv_iconst (v := nI 0) hx hb d_SpectrumDeskModel_whole_35 (by decide) ?_
        refine xr_callv (xr_runV (kc := 4) (kr := 7) (n := 2) (As := [.int (nI n), .int (nI 0)]) (rest := []) X I (by decide) (r183 ..) rfl (c_SpectrumDeskModel_characterize (k9 := n) h187 hB h3 h188 hAb) (xg k_65cc42cfc5) (List.mem_cons_of_mem _ k_b1bcd2b30f) (List.mem_cons_of_mem _ k_fa61ed523e) (List.mem_cons_of_mem _ k_f9f61292df) (List.mem_cons_of_mem _ k_30fa15c9ac) (by decide +kernel) (by decide) rfl hl.1 rfl (Nat.le_of_ble_eq_true rfl) d_SpectrumDeskModel_whole_36) I (fun σ9 H locs hp I => ?_)
        obtain ⟨Pc, Lc, Mc, Zc, rfl, hBc, hZc, hZo⟩ := hp
        refine lv_aload_n hx hb d_SpectrumDeskModel_whole_39 rfl (lv_at hl 0 rfl) ?_
        refine lv_bipush (v := nI 108) hx hb d_SpectrumDeskModel_whole_40 (by decide) ?_
        refine lv_aload_n hx hb d_SpectrumDeskModel_whole_42 rfl (lv_at hl 0 rfl) ?_
        refine lv_iload_n hx hb d_SpectrumDeskModel_whole_43 rfl (lv_at hl 1 rfl) ?_
        refine lv_iconst (v := nI 0) hx hb d_SpectrumDeskModel_whole_44 (by decide) ?_
        refine xr_calll (xr_runV (kc := 6) (kr := 7) (n := 2) (As := [.int (nI i9), .int (nI 0)]) (rest := [.int (nI 108), .ref (ad 183)]) X I (by decide) (r183 ..) rfl (c_SpectrumDeskModel_cellOf (dd := n) (w9 := 0) (p0 := (chF (fun i j => (A9 (6 * i + j)).toInt) n (2 ^ n))) (i := nI i9) (va_up_self _ _ _) hBc (by decide) h3 upd_s hZc (fun k _ => bd_up (by decide) (chF_sm hAb (Nat.pow_le_pow_right (by decide) h3 (n := 2))))) (xg k_f126756040) (List.mem_cons_of_mem _ k_8d731b7043) (List.mem_cons_of_mem _ k_2cbf681f5a) (List.mem_cons_of_mem _ k_9c8bf9c5aa) (List.mem_cons_of_mem _ k_30fa15c9ac) (by decide +kernel) (by decide) rfl hl.1 rfl (Nat.le_of_ble_eq_true rfl) d_SpectrumDeskModel_whole_45) I (fun x σ9 H locs hp I => ?_)
        obtain ⟨hcl9, se, Ge, Pe, Le, Me, Ze, lee, eqe, rfl, hGe, hse, hge, hBe, hze⟩ := hp
        refine xr_callv (xr_runV (kc := 0) (kr := 7) (n := 2) (As := [.int (nI 108), .long x]) (rest := []) X I (by decide) (r183 ..) rfl (c_SpectrumDeskModel_bigSet (w := 108) (v := x) mfs_ok (by decide)) (xg k_5f300b8d49) (List.mem_cons_of_mem _ k_7a89662665) (List.mem_cons_of_mem _ k_203da126f2) (List.mem_cons_of_mem _ k_e2b6114fa3) (List.mem_cons_of_mem _ k_30fa15c9ac) (by decide +kernel) (by decide) rfl hl.1 rfl (Nat.le_of_ble_eq_true rfl) d_SpectrumDeskModel_whole_48) I (fun σ9 H locs hp I => ?_)
        obtain ⟨P5, L5, M5, rfl, hf5, hx5⟩ := hp
        have hB5 := RB_up hBe hf5 hx5
        generalize eZ5 : va_up Ze 108 x.toInt = Z5 at hB5
        refine lv_aload_n hx hb d_SpectrumDeskModel_whole_51 rfl (lv_at hl 0 rfl) ?_
        refine lv_bipush (v := nI 109) hx hb d_SpectrumDeskModel_whole_52 (by decide) ?_
        refine lv_lconst (v := 1) hx hb d_SpectrumDeskModel_whole_54 (by decide) ?_
        refine xr_callv (xr_runV (kc := 0) (kr := 7) (n := 2) (As := [.int (nI 109), .long 1]) (rest := []) X I (by decide) (r183 ..) rfl (c_SpectrumDeskModel_bigSet (w := 109) (v := (1 : Int64)) mfs_ok (by decide)) (xg k_5f300b8d49) (List.mem_cons_of_mem _ k_7a89662665) (List.mem_cons_of_mem _ k_203da126f2) (List.mem_cons_of_mem _ k_e2b6114fa3) (List.mem_cons_of_mem _ k_30fa15c9ac) (by decide +kernel) (by decide) rfl hl.1 rfl (Nat.le_of_ble_eq_true rfl) d_SpectrumDeskModel_whole_55) I (fun σ9 H locs hp I => ?_)
        obtain ⟨P6, L6, M6, rfl, hf6, hx6⟩ := hp
        have hB6 := RB_up hB5 hf6 hx6
        generalize eZ6 : va_up Z5 109 ((1 : Int64)).toInt = Z6 at hB6
        have z108 : Z6 108 = x.toInt := by rw [← eZ6, va_up_ne _ _ (by decide), ← eZ5, va_up_self]
        have z109 : Z6 109 = 1 := by rw [← eZ6, va_up_self]; decide
        have hpp : ∀ k, k ≤ n → Z6 (8 * 0 + k) = (chF (fun i j => (A9 (6 * i + j)).toInt) n (2 ^ n)) k := fun k hk => by rw [Nat.mul_zero, Nat.zero_add, ← eZ6, va_up_ne _ _ (by omega), ← eZ5, va_up_ne _ _ (by omega)]; exact (hze k (by omega)).trans (hZc k hk)
        have hH : wH (Z6 108) (Z6 109) n (chF (fun i j => (A9 (6 * i + j)).toInt) n (2 ^ n)) := by rw [z108, z109]; exact wH_of (by omega) (bd_64 x) (bd_53 (by decide) (by decide)) (fun k _ => bd_up (by decide) (chF_sm hAb (Nat.pow_le_pow_right (by decide) h3 (n := 2))))
        refine lv_aload_n hx hb d_SpectrumDeskModel_whole_58 rfl (lv_at hl 0 rfl) ?_
        refine lv_iconst (v := nI 0) hx hb d_SpectrumDeskModel_whole_59 (by decide) ?_
        refine xr_callv (xr_runV (kc := 3) (kr := 7) (n := 1) (As := [.int (nI 0)]) (rest := []) X I (by decide) (r183 ..) rfl (c_SpectrumDeskModel_weigh (b := 0) (dd := n) (p0 := (chF (fun i j => (A9 (6 * i + j)).toInt) n (2 ^ n))) hGe hB6 (by decide) h3 ((hge 0 (by decide)).trans upd_s) hpp hH.1 hH.2.1 hH.2.2.1 hH.2.2.2) (xg k_0500b0c175) (List.mem_cons_of_mem _ k_608a9280a6) (List.mem_cons_of_mem _ k_9be29ce48e) (List.mem_cons_of_mem _ k_f13629996f) (List.mem_cons_of_mem _ k_30fa15c9ac) (by decide +kernel) (by decide) rfl hl.1 rfl (Nat.le_of_ble_eq_true rfl) d_SpectrumDeskModel_whole_60) I (fun σ9 H locs hp I => ?_)
        obtain ⟨Pw, Lw, Mw, Zw, rfl, hBw, hEw⟩ := hp
        rw [z108, z109] at I
        have I : xI D classes 193 ad s.heap (rw3 (va_up se 187 (.inl (cI, 5, .inl (upd Ge 4 (nI n))))) ciM cI cZ (mfs ad (nI 0) (nI n) (nI rw) (nI ps) (wL (x.toInt) 1 n (chF (fun i j => (A9 (6 * i + j)).toInt) n (2 ^ n))) (nI (wE (x.toInt) 1 n (chF (fun i j => (A9 (6 * i + j)).toInt) n (2 ^ n))))) Pw Lw Mw) H locs := I
        refine lv_iload_n hx hb d_SpectrumDeskModel_whole_63 rfl (lv_at hl 1 rfl) ?_
        refine lv_aload_n hx hb d_SpectrumDeskModel_whole_64 rfl (lv_at hl 0 rfl) ?_
        refine xr_get X I fin_M 183 (by decide) (r183 ..) rfl 12 (by decide) (List.mem_cons_of_mem _ k_15947873ae) rfl rfl d_SpectrumDeskModel_whole_65 ?_
        refine lv_icmp_lt hx hb d_SpectrumDeskModel_whole_68 rfl (fun hg => ?_) (fun hg => ?_)
        · refine lv_iconst (v := nI 0) hx hb d_SpectrumDeskModel_whole_88 (by decide) ?_
          exact xr_zret X I hr hlk (by decide +kernel) ⟨x, hcl9, by rw [if_neg (fun h => h.1 hg)], ⟨va_up se 187 (.inl (cI, 5, .inl (upd Ge 4 (nI n)))), (upd Ge 4 (nI n)), Dg, Pw, Lw, Mw, Zw, wL (x.toInt) 1 n (chF (fun i j => (A9 (6 * i + j)).toInt) n (2 ^ n)), nI (wE (x.toInt) 1 n (chF (fun i j => (A9 (6 * i + j)).toInt) n (2 ^ n))), rfl, (va_up_self _ _ _), ((va_up_ne _ _ (by decide)).trans ((hse _ (by decide)).trans ((va_up_ne _ _ (by decide)).trans h188))), ((va_up_ne _ _ (by decide)).trans ((hse _ (by decide)).trans ((va_up_ne _ _ (by decide)).trans h189))), ((va_up_ne _ _ (by decide)).trans ((hse _ (by decide)).trans ((va_up_ne _ _ (by decide)).trans h190))), ((va_up_ne _ _ (by decide)).trans ((hse _ (by decide)).trans ((va_up_ne _ _ (by decide)).trans h191))), (fun q hq => (va_up_ne _ _ (by omega)).trans ((fun q hq => (hse q (by omega)).trans ((fun q hq => (va_up_ne _ _ (by omega)).trans (hfb q hq)) q hq)) q hq)), hBw⟩⟩ d_SpectrumDeskModel_whole_89
        · refine lv_iload_n hx hb d_SpectrumDeskModel_whole_71 rfl (lv_at hl 1 rfl) ?_
          refine lv_aload_n hx hb d_SpectrumDeskModel_whole_72 rfl (lv_at hl 0 rfl) ?_
          refine xr_get X I fin_M 183 (by decide) (r183 ..) rfl 12 (by decide) (List.mem_cons_of_mem _ k_15947873ae) rfl rfl d_SpectrumDeskModel_whole_73 ?_
          refine lv_aload_n hx hb d_SpectrumDeskModel_whole_76 rfl (lv_at hl 0 rfl) ?_
          refine xr_get X I fin_M 183 (by decide) (r183 ..) rfl 13 (by decide) (List.mem_cons_of_mem _ k_e06fbbb633) rfl rfl d_SpectrumDeskModel_whole_77 ?_
          refine lv_iadd hx hb d_SpectrumDeskModel_whole_80 ?_
          refine lv_icmp_ge hx hb d_SpectrumDeskModel_whole_81 rfl (fun hh => ?_) (fun hh => ?_)
          · refine lv_iconst (v := nI 0) hx hb d_SpectrumDeskModel_whole_88 (by decide) ?_
            exact xr_zret X I hr hlk (by decide +kernel) ⟨x, hcl9, by rw [if_neg (fun h => q_le_lt hh h.2)], ⟨va_up se 187 (.inl (cI, 5, .inl (upd Ge 4 (nI n)))), (upd Ge 4 (nI n)), Dg, Pw, Lw, Mw, Zw, wL (x.toInt) 1 n (chF (fun i j => (A9 (6 * i + j)).toInt) n (2 ^ n)), nI (wE (x.toInt) 1 n (chF (fun i j => (A9 (6 * i + j)).toInt) n (2 ^ n))), rfl, (va_up_self _ _ _), ((va_up_ne _ _ (by decide)).trans ((hse _ (by decide)).trans ((va_up_ne _ _ (by decide)).trans h188))), ((va_up_ne _ _ (by decide)).trans ((hse _ (by decide)).trans ((va_up_ne _ _ (by decide)).trans h189))), ((va_up_ne _ _ (by decide)).trans ((hse _ (by decide)).trans ((va_up_ne _ _ (by decide)).trans h190))), ((va_up_ne _ _ (by decide)).trans ((hse _ (by decide)).trans ((va_up_ne _ _ (by decide)).trans h191))), (fun q hq => (va_up_ne _ _ (by omega)).trans ((fun q hq => (hse q (by omega)).trans ((fun q hq => (va_up_ne _ _ (by omega)).trans (hfb q hq)) q hq)) q hq)), hBw⟩⟩ d_SpectrumDeskModel_whole_89
          · refine lv_iconst (v := nI 1) hx hb d_SpectrumDeskModel_whole_84 (by decide) ?_
            refine lv_goto hx hb d_SpectrumDeskModel_whole_85 rfl ?_
            exact xr_zret X I hr hlk (by decide +kernel) ⟨x, hcl9, by rw [if_pos ⟨hg, q_nge hh⟩], ⟨va_up se 187 (.inl (cI, 5, .inl (upd Ge 4 (nI n)))), (upd Ge 4 (nI n)), Dg, Pw, Lw, Mw, Zw, wL (x.toInt) 1 n (chF (fun i j => (A9 (6 * i + j)).toInt) n (2 ^ n)), nI (wE (x.toInt) 1 n (chF (fun i j => (A9 (6 * i + j)).toInt) n (2 ^ n))), rfl, (va_up_self _ _ _), ((va_up_ne _ _ (by decide)).trans ((hse _ (by decide)).trans ((va_up_ne _ _ (by decide)).trans h188))), ((va_up_ne _ _ (by decide)).trans ((hse _ (by decide)).trans ((va_up_ne _ _ (by decide)).trans h189))), ((va_up_ne _ _ (by decide)).trans ((hse _ (by decide)).trans ((va_up_ne _ _ (by decide)).trans h190))), ((va_up_ne _ _ (by decide)).trans ((hse _ (by decide)).trans ((va_up_ne _ _ (by decide)).trans h191))), (fun q hq => (va_up_ne _ _ (by omega)).trans ((fun q hq => (hse q (by omega)).trans ((fun q hq => (va_up_ne _ _ (by omega)).trans (hfb q hq)) q hq)) q hq)), hBw⟩⟩ d_SpectrumDeskModel_whole_89
      · exact absurd (by decide) hc
    · exact absurd (nI_lt h1 (by omega)) hc
