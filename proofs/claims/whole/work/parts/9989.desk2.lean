/-! SpectrumDesk: upToDate, cell, whole, check, distinct; Spectrum.findRepeated (written by wip/gen) -/
abbrev b_SpectrumDesk_upToDate : ByteArray := prog_1_method_20_code
abbrev y_SpectrumDesk_upToDate : MethodName := ⟨"SpectrumDesk", "upToDate", "()LSpectrumDesk$Spectrum;"⟩
abbrev v_SpectrumDesk_upToDate : List Cond := Cond.code y_SpectrumDesk_upToDate b_SpectrumDesk_upToDate 1 (some (.object "SpectrumDesk$Spectrum")) :: AW
theorem d_SpectrumDesk_upToDate_0 : decode b_SpectrumDesk_upToDate 0 = .ok (.aload_n 0, 1) := by decide +kernel
theorem d_SpectrumDesk_upToDate_1 : decode b_SpectrumDesk_upToDate 1 = .ok (.getfield 43, 3) := by decide +kernel
theorem d_SpectrumDesk_upToDate_4 : decode b_SpectrumDesk_upToDate 4 = .ok (.ifCond .eq (23), 3) := by decide +kernel
theorem d_SpectrumDesk_upToDate_7 : decode b_SpectrumDesk_upToDate 7 = .ok (.aload_n 0, 1) := by decide +kernel
theorem d_SpectrumDesk_upToDate_8 : decode b_SpectrumDesk_upToDate 8 = .ok (.getfield 28, 3) := by decide +kernel
theorem d_SpectrumDesk_upToDate_11 : decode b_SpectrumDesk_upToDate 11 = .ok (.aload_n 0, 1) := by decide +kernel
theorem d_SpectrumDesk_upToDate_12 : decode b_SpectrumDesk_upToDate 12 = .ok (.getfield 11, 3) := by decide +kernel
theorem d_SpectrumDesk_upToDate_15 : decode b_SpectrumDesk_upToDate 15 = .ok (.aload_n 0, 1) := by decide +kernel
theorem d_SpectrumDesk_upToDate_16 : decode b_SpectrumDesk_upToDate 16 = .ok (.getfield 39, 3) := by decide +kernel
theorem d_SpectrumDesk_upToDate_19 : decode b_SpectrumDesk_upToDate 19 = .ok (.invokevirtual 167, 3) := by decide +kernel
theorem d_SpectrumDesk_upToDate_22 : decode b_SpectrumDesk_upToDate 22 = .ok (.aload_n 0, 1) := by decide +kernel
theorem d_SpectrumDesk_upToDate_23 : decode b_SpectrumDesk_upToDate 23 = .ok (.iconst 0, 1) := by decide +kernel
theorem d_SpectrumDesk_upToDate_24 : decode b_SpectrumDesk_upToDate 24 = .ok (.putfield 43, 3) := by decide +kernel
theorem d_SpectrumDesk_upToDate_27 : decode b_SpectrumDesk_upToDate 27 = .ok (.aload_n 0, 1) := by decide +kernel
theorem d_SpectrumDesk_upToDate_28 : decode b_SpectrumDesk_upToDate 28 = .ok (.getfield 28, 3) := by decide +kernel
theorem d_SpectrumDesk_upToDate_31 : decode b_SpectrumDesk_upToDate 31 = .ok (.areturn, 1) := by decide +kernel
abbrev b_SpectrumDesk_cell : ByteArray := prog_1_method_12_code
abbrev y_SpectrumDesk_cell : MethodName := ⟨"SpectrumDesk", "cell", "(II)J"⟩
abbrev v_SpectrumDesk_cell : List Cond := Cond.code y_SpectrumDesk_cell b_SpectrumDesk_cell 3 (some .long) :: AW
theorem d_SpectrumDesk_cell_0 : decode b_SpectrumDesk_cell 0 = .ok (.aload_n 0, 1) := by decide +kernel
theorem d_SpectrumDesk_cell_1 : decode b_SpectrumDesk_cell 1 = .ok (.iload_n 1, 1) := by decide +kernel
theorem d_SpectrumDesk_cell_2 : decode b_SpectrumDesk_cell 2 = .ok (.invokevirtual 63, 3) := by decide +kernel
theorem d_SpectrumDesk_cell_5 : decode b_SpectrumDesk_cell 5 = .ok (.ifCond .ne (13), 3) := by decide +kernel
theorem d_SpectrumDesk_cell_8 : decode b_SpectrumDesk_cell 8 = .ok (.new 67, 3) := by decide +kernel
theorem d_SpectrumDesk_cell_11 : decode b_SpectrumDesk_cell 11 = .ok (.dup, 1) := by decide +kernel
theorem d_SpectrumDesk_cell_12 : decode b_SpectrumDesk_cell 12 = .ok (.ldc 136, 2) := by decide +kernel
theorem d_SpectrumDesk_cell_14 : decode b_SpectrumDesk_cell 14 = .ok (.invokespecial 71, 3) := by decide +kernel
theorem d_SpectrumDesk_cell_17 : decode b_SpectrumDesk_cell 17 = .ok (.athrow, 1) := by decide +kernel
theorem d_SpectrumDesk_cell_18 : decode b_SpectrumDesk_cell 18 = .ok (.iload_n 2, 1) := by decide +kernel
theorem d_SpectrumDesk_cell_19 : decode b_SpectrumDesk_cell 19 = .ok (.ifCond .lt (9), 3) := by decide +kernel
theorem d_SpectrumDesk_cell_22 : decode b_SpectrumDesk_cell 22 = .ok (.iload_n 2, 1) := by decide +kernel
theorem d_SpectrumDesk_cell_23 : decode b_SpectrumDesk_cell 23 = .ok (.bipush (30), 2) := by decide +kernel
theorem d_SpectrumDesk_cell_25 : decode b_SpectrumDesk_cell 25 = .ok (.if_icmp .le (13), 3) := by decide +kernel
theorem d_SpectrumDesk_cell_28 : decode b_SpectrumDesk_cell 28 = .ok (.new 47, 3) := by decide +kernel
theorem d_SpectrumDesk_cell_31 : decode b_SpectrumDesk_cell 31 = .ok (.dup, 1) := by decide +kernel
theorem d_SpectrumDesk_cell_32 : decode b_SpectrumDesk_cell 32 = .ok (.ldc 138, 2) := by decide +kernel
theorem d_SpectrumDesk_cell_34 : decode b_SpectrumDesk_cell 34 = .ok (.invokespecial 51, 3) := by decide +kernel
theorem d_SpectrumDesk_cell_37 : decode b_SpectrumDesk_cell 37 = .ok (.athrow, 1) := by decide +kernel
theorem d_SpectrumDesk_cell_38 : decode b_SpectrumDesk_cell 38 = .ok (.aload_n 0, 1) := by decide +kernel
theorem d_SpectrumDesk_cell_39 : decode b_SpectrumDesk_cell 39 = .ok (.invokevirtual 92, 3) := by decide +kernel
theorem d_SpectrumDesk_cell_42 : decode b_SpectrumDesk_cell 42 = .ok (.iload_n 1, 1) := by decide +kernel
theorem d_SpectrumDesk_cell_43 : decode b_SpectrumDesk_cell 43 = .ok (.invokevirtual 140, 3) := by decide +kernel
theorem d_SpectrumDesk_cell_46 : decode b_SpectrumDesk_cell 46 = .ok (.bipush (30), 2) := by decide +kernel
theorem d_SpectrumDesk_cell_48 : decode b_SpectrumDesk_cell 48 = .ok (.iload_n 2, 1) := by decide +kernel
theorem d_SpectrumDesk_cell_49 : decode b_SpectrumDesk_cell 49 = .ok (.isub, 1) := by decide +kernel
theorem d_SpectrumDesk_cell_50 : decode b_SpectrumDesk_cell 50 = .ok (.lshr, 1) := by decide +kernel
theorem d_SpectrumDesk_cell_51 : decode b_SpectrumDesk_cell 51 = .ok (.lreturn, 1) := by decide +kernel
abbrev b_SpectrumDesk_whole : ByteArray := prog_1_method_15_code
abbrev y_SpectrumDesk_whole : MethodName := ⟨"SpectrumDesk", "whole", "(I)Z"⟩
abbrev v_SpectrumDesk_whole : List Cond := Cond.code y_SpectrumDesk_whole b_SpectrumDesk_whole 2 (some .boolean) :: AW
theorem d_SpectrumDesk_whole_0 : decode b_SpectrumDesk_whole 0 = .ok (.aload_n 0, 1) := by decide +kernel
theorem d_SpectrumDesk_whole_1 : decode b_SpectrumDesk_whole 1 = .ok (.iload_n 1, 1) := by decide +kernel
theorem d_SpectrumDesk_whole_2 : decode b_SpectrumDesk_whole 2 = .ok (.invokevirtual 63, 3) := by decide +kernel
theorem d_SpectrumDesk_whole_5 : decode b_SpectrumDesk_whole 5 = .ok (.ifCond .ne (13), 3) := by decide +kernel
theorem d_SpectrumDesk_whole_8 : decode b_SpectrumDesk_whole 8 = .ok (.new 67, 3) := by decide +kernel
theorem d_SpectrumDesk_whole_11 : decode b_SpectrumDesk_whole 11 = .ok (.dup, 1) := by decide +kernel
theorem d_SpectrumDesk_whole_12 : decode b_SpectrumDesk_whole 12 = .ok (.ldc 136, 2) := by decide +kernel
theorem d_SpectrumDesk_whole_14 : decode b_SpectrumDesk_whole 14 = .ok (.invokespecial 71, 3) := by decide +kernel
theorem d_SpectrumDesk_whole_17 : decode b_SpectrumDesk_whole 17 = .ok (.athrow, 1) := by decide +kernel
theorem d_SpectrumDesk_whole_18 : decode b_SpectrumDesk_whole 18 = .ok (.aload_n 0, 1) := by decide +kernel
theorem d_SpectrumDesk_whole_19 : decode b_SpectrumDesk_whole 19 = .ok (.invokevirtual 92, 3) := by decide +kernel
theorem d_SpectrumDesk_whole_22 : decode b_SpectrumDesk_whole 22 = .ok (.iload_n 1, 1) := by decide +kernel
theorem d_SpectrumDesk_whole_23 : decode b_SpectrumDesk_whole 23 = .ok (.invokevirtual 154, 3) := by decide +kernel
theorem d_SpectrumDesk_whole_26 : decode b_SpectrumDesk_whole 26 = .ok (.ireturn, 1) := by decide +kernel
abbrev b_SpectrumDesk_check : ByteArray := prog_1_method_17_code
abbrev y_SpectrumDesk_check : MethodName := ⟨"SpectrumDesk", "check", "()I"⟩
abbrev v_SpectrumDesk_check : List Cond := Cond.code y_SpectrumDesk_check b_SpectrumDesk_check 2 (some .int) :: AW
theorem d_SpectrumDesk_check_0 : decode b_SpectrumDesk_check 0 = .ok (.aload_n 0, 1) := by decide +kernel
theorem d_SpectrumDesk_check_1 : decode b_SpectrumDesk_check 1 = .ok (.invokevirtual 92, 3) := by decide +kernel
theorem d_SpectrumDesk_check_4 : decode b_SpectrumDesk_check 4 = .ok (.astore_n 1, 1) := by decide +kernel
theorem d_SpectrumDesk_check_5 : decode b_SpectrumDesk_check 5 = .ok (.aload_n 1, 1) := by decide +kernel
theorem d_SpectrumDesk_check_6 : decode b_SpectrumDesk_check 6 = .ok (.invokevirtual 160, 3) := by decide +kernel
theorem d_SpectrumDesk_check_9 : decode b_SpectrumDesk_check 9 = .ok (.ifCond .eq (14), 3) := by decide +kernel
theorem d_SpectrumDesk_check_12 : decode b_SpectrumDesk_check 12 = .ok (.aload_n 1, 1) := by decide +kernel
theorem d_SpectrumDesk_check_13 : decode b_SpectrumDesk_check 13 = .ok (.invokevirtual 164, 3) := by decide +kernel
theorem d_SpectrumDesk_check_16 : decode b_SpectrumDesk_check 16 = .ok (.ifCond .eq (7), 3) := by decide +kernel
theorem d_SpectrumDesk_check_19 : decode b_SpectrumDesk_check 19 = .ok (.iconst 1, 1) := by decide +kernel
theorem d_SpectrumDesk_check_20 : decode b_SpectrumDesk_check 20 = .ok (.goto (4), 3) := by decide +kernel
theorem d_SpectrumDesk_check_23 : decode b_SpectrumDesk_check 23 = .ok (.iconst 0, 1) := by decide +kernel
theorem d_SpectrumDesk_check_24 : decode b_SpectrumDesk_check 24 = .ok (.ireturn, 1) := by decide +kernel
abbrev b_SpectrumDesk_distinct : ByteArray := prog_1_method_14_code
abbrev y_SpectrumDesk_distinct : MethodName := ⟨"SpectrumDesk", "distinct", "()I"⟩
abbrev v_SpectrumDesk_distinct : List Cond := Cond.code y_SpectrumDesk_distinct b_SpectrumDesk_distinct 2 (some .int) :: AW
theorem d_SpectrumDesk_distinct_0 : decode b_SpectrumDesk_distinct 0 = .ok (.aload_n 0, 1) := by decide +kernel
theorem d_SpectrumDesk_distinct_1 : decode b_SpectrumDesk_distinct 1 = .ok (.invokevirtual 92, 3) := by decide +kernel
theorem d_SpectrumDesk_distinct_4 : decode b_SpectrumDesk_distinct 4 = .ok (.astore_n 1, 1) := by decide +kernel
theorem d_SpectrumDesk_distinct_5 : decode b_SpectrumDesk_distinct 5 = .ok (.aload_n 1, 1) := by decide +kernel
theorem d_SpectrumDesk_distinct_6 : decode b_SpectrumDesk_distinct 6 = .ok (.invokevirtual 144, 3) := by decide +kernel
theorem d_SpectrumDesk_distinct_9 : decode b_SpectrumDesk_distinct 9 = .ok (.aload_n 1, 1) := by decide +kernel
theorem d_SpectrumDesk_distinct_10 : decode b_SpectrumDesk_distinct 10 = .ok (.invokevirtual 151, 3) := by decide +kernel
theorem d_SpectrumDesk_distinct_13 : decode b_SpectrumDesk_distinct 13 = .ok (.ireturn, 1) := by decide +kernel
abbrev b_Spectrum_findRepeated : ByteArray := prog_7_method_10_code
abbrev y_Spectrum_findRepeated : MethodName := ⟨"SpectrumDesk$Spectrum", "findRepeated", "()V"⟩
abbrev v_Spectrum_findRepeated : List Cond := Cond.code y_Spectrum_findRepeated b_Spectrum_findRepeated 1 none :: AW
theorem d_Spectrum_findRepeated_0 : decode b_Spectrum_findRepeated 0 = .ok (.aload_n 0, 1) := by decide +kernel
theorem d_Spectrum_findRepeated_1 : decode b_Spectrum_findRepeated 1 = .ok (.getfield 80, 3) := by decide +kernel
theorem d_Spectrum_findRepeated_4 : decode b_Spectrum_findRepeated 4 = .ok (.ifCond .ne (32), 3) := by decide +kernel
theorem d_Spectrum_findRepeated_7 : decode b_Spectrum_findRepeated 7 = .ok (.aload_n 0, 1) := by decide +kernel
theorem d_Spectrum_findRepeated_8 : decode b_Spectrum_findRepeated 8 = .ok (.getfield 56, 3) := by decide +kernel
theorem d_Spectrum_findRepeated_11 : decode b_Spectrum_findRepeated 11 = .ok (.aload_n 0, 1) := by decide +kernel
theorem d_Spectrum_findRepeated_12 : decode b_Spectrum_findRepeated 12 = .ok (.getfield 11, 3) := by decide +kernel
theorem d_Spectrum_findRepeated_15 : decode b_Spectrum_findRepeated 15 = .ok (.aload_n 0, 1) := by decide +kernel
theorem d_Spectrum_findRepeated_16 : decode b_Spectrum_findRepeated 16 = .ok (.getfield 68, 3) := by decide +kernel
theorem d_Spectrum_findRepeated_19 : decode b_Spectrum_findRepeated 19 = .ok (.aaload, 1) := by decide +kernel
theorem d_Spectrum_findRepeated_20 : decode b_Spectrum_findRepeated 20 = .ok (.aload_n 0, 1) := by decide +kernel
theorem d_Spectrum_findRepeated_21 : decode b_Spectrum_findRepeated 21 = .ok (.getfield 30, 3) := by decide +kernel
theorem d_Spectrum_findRepeated_24 : decode b_Spectrum_findRepeated 24 = .ok (.aload_n 0, 1) := by decide +kernel
theorem d_Spectrum_findRepeated_25 : decode b_Spectrum_findRepeated 25 = .ok (.getfield 98, 3) := by decide +kernel
theorem d_Spectrum_findRepeated_28 : decode b_Spectrum_findRepeated 28 = .ok (.invokevirtual 140, 3) := by decide +kernel
theorem d_Spectrum_findRepeated_31 : decode b_Spectrum_findRepeated 31 = .ok (.aload_n 0, 1) := by decide +kernel
theorem d_Spectrum_findRepeated_32 : decode b_Spectrum_findRepeated 32 = .ok (.iconst 1, 1) := by decide +kernel
theorem d_Spectrum_findRepeated_33 : decode b_Spectrum_findRepeated 33 = .ok (.putfield 80, 3) := by decide +kernel
theorem d_Spectrum_findRepeated_36 : decode b_Spectrum_findRepeated 36 = .ok (.return_, 1) := by decide +kernel
theorem k_e7657df075 : (Jvm.Cond.fieldLink "SpectrumDesk" (28 : Nat) "SpectrumDesk" "spectrum" "LSpectrumDesk$Spectrum;") ∈ AW := aw_1 (List.mem_of_getElem? (i := 204) (by decide +kernel)) (by decide +kernel)
theorem k_13c6a100df : (Jvm.Cond.methodLink "SpectrumDesk" (167 : Nat) ({ cls := "SpectrumDesk$Spectrum", name := "read", desc := "([[II)V" } : Jvm.MethodName)) ∈ AW := aw_2 (List.mem_of_getElem? (i := 20) (by decide +kernel)) (by decide +kernel)
theorem k_ffd62b8494 : (Jvm.Cond.instanceMethod ({ cls := "SpectrumDesk$Spectrum", name := "read", desc := "([[II)V" } : Jvm.MethodName)) ∈ AW := aw_2 (List.mem_of_getElem? (i := 21) (by decide +kernel)) (by decide +kernel)
theorem k_b8e7d14fed : (Jvm.Cond.selects "SpectrumDesk$Spectrum" ({ cls := "SpectrumDesk$Spectrum", name := "read", desc := "([[II)V" } : Jvm.MethodName) ({ cls := "SpectrumDesk$Spectrum", name := "read", desc := "([[II)V" } : Jvm.MethodName)) ∈ AW := aw_2 (List.mem_of_getElem? (i := 22) (by decide +kernel)) (by decide +kernel)
theorem k_f4f8fc426e : (Jvm.Cond.fieldLink "SpectrumDesk$Spectrum" (56 : Nat) "SpectrumDesk$Spectrum" "euclid" "LSpectrumDesk$Euclid;") ∈ AW := aw_1 (List.mem_of_getElem? (i := 141) (by decide +kernel)) (by decide +kernel)
theorem k_a026e8ac9c : (Jvm.Cond.methodLink "SpectrumDesk$Spectrum" (140 : Nat) ({ cls := "SpectrumDesk$Euclid", name := "findCommon", desc := "(LSpectrumDesk$Polynomial;LSpectrumDesk$Polynomial;I)V" } : Jvm.MethodName)) ∈ AW := aw_3 (List.mem_of_getElem? (i := 207) (by decide +kernel)) (by decide +kernel)
theorem k_024eeb4ea7 : (Jvm.Cond.instanceMethod ({ cls := "SpectrumDesk$Euclid", name := "findCommon", desc := "(LSpectrumDesk$Polynomial;LSpectrumDesk$Polynomial;I)V" } : Jvm.MethodName)) ∈ AW := aw_3 (List.mem_of_getElem? (i := 208) (by decide +kernel)) (by decide +kernel)
theorem k_1c7c9574a6 : (Jvm.Cond.selects "SpectrumDesk$Euclid" ({ cls := "SpectrumDesk$Euclid", name := "findCommon", desc := "(LSpectrumDesk$Polynomial;LSpectrumDesk$Polynomial;I)V" } : Jvm.MethodName) ({ cls := "SpectrumDesk$Euclid", name := "findCommon", desc := "(LSpectrumDesk$Polynomial;LSpectrumDesk$Polynomial;I)V" } : Jvm.MethodName)) ∈ AW := aw_3 (List.mem_of_getElem? (i := 209) (by decide +kernel)) (by decide +kernel)
theorem k_e6e30bc1cd : (Jvm.Cond.methodLink "SpectrumDesk" (92 : Nat) ({ cls := "SpectrumDesk", name := "upToDate", desc := "()LSpectrumDesk$Spectrum;" } : Jvm.MethodName)) ∈ AW := aw_2 (List.mem_of_getElem? (i := 16) (by decide +kernel)) (by decide +kernel)
theorem k_d50a5cd376 : (Jvm.Cond.instanceMethod ({ cls := "SpectrumDesk", name := "upToDate", desc := "()LSpectrumDesk$Spectrum;" } : Jvm.MethodName)) ∈ AW := aw_2 (List.mem_of_getElem? (i := 18) (by decide +kernel)) (by decide +kernel)
theorem k_61afc8fd0f : (Jvm.Cond.selects "SpectrumDesk" ({ cls := "SpectrumDesk", name := "upToDate", desc := "()LSpectrumDesk$Spectrum;" } : Jvm.MethodName) ({ cls := "SpectrumDesk", name := "upToDate", desc := "()LSpectrumDesk$Spectrum;" } : Jvm.MethodName)) ∈ AW := aw_p (by decide +kernel) (by decide +kernel)
theorem k_b08ae9ffde : (Jvm.Cond.methodLink "SpectrumDesk" (140 : Nat) ({ cls := "SpectrumDesk$Spectrum", name := "finestCell", desc := "(I)J" } : Jvm.MethodName)) ∈ AW := aw_4 (List.mem_of_getElem? (i := 142) (by decide +kernel)) (by decide +kernel)
theorem k_66f0f6b00e : (Jvm.Cond.methodLink "SpectrumDesk" (154 : Nat) ({ cls := "SpectrumDesk$Spectrum", name := "isWhole", desc := "(I)Z" } : Jvm.MethodName)) ∈ AW := aw_4 (List.mem_of_getElem? (i := 168) (by decide +kernel)) (by decide +kernel)
theorem k_55848dcbbb : (Jvm.Cond.instanceMethod ({ cls := "SpectrumDesk$Spectrum", name := "isWhole", desc := "(I)Z" } : Jvm.MethodName)) ∈ AW := aw_4 (List.mem_of_getElem? (i := 169) (by decide +kernel)) (by decide +kernel)
theorem k_d03086ec20 : (Jvm.Cond.selects "SpectrumDesk$Spectrum" ({ cls := "SpectrumDesk$Spectrum", name := "isWhole", desc := "(I)Z" } : Jvm.MethodName) ({ cls := "SpectrumDesk$Spectrum", name := "isWhole", desc := "(I)Z" } : Jvm.MethodName)) ∈ AW := aw_4 (List.mem_of_getElem? (i := 170) (by decide +kernel)) (by decide +kernel)
theorem k_31839ea43c : (Jvm.Cond.methodLink "SpectrumDesk" (160 : Nat) ({ cls := "SpectrumDesk$Spectrum", name := "traceFits", desc := "()Z" } : Jvm.MethodName)) ∈ AW := aw_4 (List.mem_of_getElem? (i := 57) (by decide +kernel)) (by decide +kernel)
theorem k_48362e2807 : (Jvm.Cond.instanceMethod ({ cls := "SpectrumDesk$Spectrum", name := "traceFits", desc := "()Z" } : Jvm.MethodName)) ∈ AW := aw_4 (List.mem_of_getElem? (i := 58) (by decide +kernel)) (by decide +kernel)
theorem k_0f77b78e91 : (Jvm.Cond.selects "SpectrumDesk$Spectrum" ({ cls := "SpectrumDesk$Spectrum", name := "traceFits", desc := "()Z" } : Jvm.MethodName) ({ cls := "SpectrumDesk$Spectrum", name := "traceFits", desc := "()Z" } : Jvm.MethodName)) ∈ AW := aw_4 (List.mem_of_getElem? (i := 59) (by decide +kernel)) (by decide +kernel)
theorem k_dd100cd1b7 : (Jvm.Cond.methodLink "SpectrumDesk" (164 : Nat) ({ cls := "SpectrumDesk$Spectrum", name := "blocksInterlace", desc := "()Z" } : Jvm.MethodName)) ∈ AW := aw_4 (List.mem_of_getElem? (i := 61) (by decide +kernel)) (by decide +kernel)
theorem k_9b11bb3723 : (Jvm.Cond.instanceMethod ({ cls := "SpectrumDesk$Spectrum", name := "blocksInterlace", desc := "()Z" } : Jvm.MethodName)) ∈ AW := aw_4 (List.mem_of_getElem? (i := 62) (by decide +kernel)) (by decide +kernel)
theorem k_86f907f71a : (Jvm.Cond.selects "SpectrumDesk$Spectrum" ({ cls := "SpectrumDesk$Spectrum", name := "blocksInterlace", desc := "()Z" } : Jvm.MethodName) ({ cls := "SpectrumDesk$Spectrum", name := "blocksInterlace", desc := "()Z" } : Jvm.MethodName)) ∈ AW := aw_4 (List.mem_of_getElem? (i := 63) (by decide +kernel)) (by decide +kernel)
theorem k_e2a333427a : (Jvm.Cond.methodLink "SpectrumDesk" (144 : Nat) ({ cls := "SpectrumDesk$Spectrum", name := "findRepeated", desc := "()V" } : Jvm.MethodName)) ∈ AW := aw_3 (List.mem_of_getElem? (i := 203) (by decide +kernel)) (by decide +kernel)
theorem k_1181b6d3ff : (Jvm.Cond.instanceMethod ({ cls := "SpectrumDesk$Spectrum", name := "findRepeated", desc := "()V" } : Jvm.MethodName)) ∈ AW := aw_3 (List.mem_of_getElem? (i := 204) (by decide +kernel)) (by decide +kernel)
theorem k_553cd8a29c : (Jvm.Cond.selects "SpectrumDesk$Spectrum" ({ cls := "SpectrumDesk$Spectrum", name := "findRepeated", desc := "()V" } : Jvm.MethodName) ({ cls := "SpectrumDesk$Spectrum", name := "findRepeated", desc := "()V" } : Jvm.MethodName)) ∈ AW := aw_3 (List.mem_of_getElem? (i := 205) (by decide +kernel)) (by decide +kernel)
theorem k_09e2e7be1d : (Jvm.Cond.methodLink "SpectrumDesk" (151 : Nat) ({ cls := "SpectrumDesk$Spectrum", name := "howManyDifferent", desc := "()I" } : Jvm.MethodName)) ∈ AW := aw_4 (List.mem_of_getElem? (i := 15) (by decide +kernel)) (by decide +kernel)
theorem k_057cf8b2da : (Jvm.Cond.instanceMethod ({ cls := "SpectrumDesk$Spectrum", name := "howManyDifferent", desc := "()I" } : Jvm.MethodName)) ∈ AW := aw_4 (List.mem_of_getElem? (i := 16) (by decide +kernel)) (by decide +kernel)
theorem k_216379c982 : (Jvm.Cond.selects "SpectrumDesk$Spectrum" ({ cls := "SpectrumDesk$Spectrum", name := "howManyDifferent", desc := "()I" } : Jvm.MethodName) ({ cls := "SpectrumDesk$Spectrum", name := "howManyDifferent", desc := "()I" } : Jvm.MethodName)) ∈ AW := aw_4 (List.mem_of_getElem? (i := 17) (by decide +kernel)) (by decide +kernel)
theorem k_7fc044eb5f : (Jvm.Cond.code ({ cls := "SpectrumDesk", name := "upToDate", desc := "()LSpectrumDesk$Spectrum;" } : Jvm.MethodName) prog_1_method_20_code (1 : Nat) (Option.some (Jvm.ClassFile.FieldType.object "SpectrumDesk$Spectrum"))) ∈ AW := aw_2 (List.mem_of_getElem? (i := 19) (by decide +kernel)) (by decide +kernel)
theorem k_8c8e09c5aa : (Jvm.Cond.code ({ cls := "SpectrumDesk", name := "cell", desc := "(II)J" } : Jvm.MethodName) prog_1_method_12_code (3 : Nat) (Option.some Jvm.ClassFile.FieldType.long)) ∈ AW := aw_4 (List.mem_of_getElem? (i := 139) (by decide +kernel)) (by decide +kernel)
theorem k_3e457abe36 : (Jvm.Cond.code ({ cls := "SpectrumDesk", name := "whole", desc := "(I)Z" } : Jvm.MethodName) prog_1_method_15_code (2 : Nat) (Option.some Jvm.ClassFile.FieldType.boolean)) ∈ AW := aw_4 (List.mem_of_getElem? (i := 167) (by decide +kernel)) (by decide +kernel)
theorem k_c2d377dba2 : (Jvm.Cond.code ({ cls := "SpectrumDesk", name := "check", desc := "()I" } : Jvm.MethodName) prog_1_method_17_code (2 : Nat) (Option.some Jvm.ClassFile.FieldType.int)) ∈ AW := aw_4 (List.mem_of_getElem? (i := 56) (by decide +kernel)) (by decide +kernel)
theorem k_72fcff8cca : (Jvm.Cond.code ({ cls := "SpectrumDesk", name := "distinct", desc := "()I" } : Jvm.MethodName) prog_1_method_14_code (2 : Nat) (Option.some Jvm.ClassFile.FieldType.int)) ∈ AW := aw_3 (List.mem_of_getElem? (i := 202) (by decide +kernel)) (by decide +kernel)
theorem k_889f80dfba : (Jvm.Cond.code ({ cls := "SpectrumDesk$Spectrum", name := "findRepeated", desc := "()V" } : Jvm.MethodName) prog_7_method_10_code (1 : Nat) (Option.none : Option Jvm.ClassFile.FieldType)) ∈ AW := aw_3 (List.mem_of_getElem? (i := 206) (by decide +kernel)) (by decide +kernel)
set_option maxHeartbeats 4000000 in
set_option maxRecDepth 100000 in
theorem c_SpectrumDesk_upToDate {l : Launch} {D : va_G} {cI cJ cZ cC cG cP : ClassId} {N : Nat} {ad : Nat → Nat} {σ : Nat → va_E} {n : Nat} {st : Int32} (hN : N = 193) (hS0 : σ 0 = .inr (ciS, [.ref (ad 1), .ref (ad 8), .ref (ad 9), .ref (ad 18), .ref (ad 179), .int (nI n), .int st])) {A : Nat → Nat → Int32} {V : Nat → Int} (h1n : 1 ≤ n) (hn : n ≤ 6) (hA : mat ad cI cG σ 1 2 A) (hsA : smA A) (hgd : gdM A n V) (hsp : spZ ad cI cG cP σ) (hst : (st = nI 0 ∧ ∃ rk, spV ad cI cJ cZ cG σ A n V rk) ∨ (st = nI 1 ∧ spN ad cI cJ cZ cG σ)) :
    Met l y_SpectrumDesk_upToDate v_SpectrumDesk_upToDate (xrm 7) (va_Pc [.ref (ad 0)] (xS D classes (xT cI cJ cZ cC cG cP) N ad σ)) (xQk ad 18 (fun σ2 => ∃ rk, upV ad cI cJ cZ cG cP σ A n V rk σ2) (xS D classes (xT cI cJ cZ cC cG cP) N ad) (xA N ad)) 0 0 (xA N ad) := by
  refine xr_met rfl (Nat.le_of_ble_eq_true rfl) ?_
  intro p e s m args below meth c ls hx hb X hr hlk hl I
  have hl : lv_has ls 1 [(0, .ref (ad 0))] := hl
  refine lv_aload_n hx hb d_SpectrumDesk_upToDate_0 rfl (lv_at hl 0 rfl) ?_
  refine xr_get X I fin_S 0 (by omega) hS0 rfl 6 (by decide) (List.mem_cons_of_mem _ k_96c8c183a8) rfl rfl d_SpectrumDesk_upToDate_1 ?_
  refine lv_if_eq hx hb d_SpectrumDesk_upToDate_4 rfl (fun hc => ?_) (fun hc => ?_)
  · obtain ⟨rfl, rk, hV⟩ : st = nI 0 ∧ ∃ rk, spV ad cI cJ cZ cG σ A n V rk := hst.resolve_right (fun h => absurd (h.1.symm.trans hc) (by decide))
    refine lv_aload_n hx hb d_SpectrumDesk_upToDate_27 rfl (lv_at hl 0 rfl) ?_
    refine xr_get X I fin_S 0 (by omega) hS0 rfl 3 (by decide) (List.mem_cons_of_mem _ k_e7657df075) rfl rfl d_SpectrumDesk_upToDate_28 ?_
    exact xr_aret X I hr hlk ⟨rk, fun _ _ _ => rfl, hS0, hsp, hV⟩ d_SpectrumDesk_upToDate_31
  · obtain ⟨rfl, hNw⟩ : st = nI 1 ∧ spN ad cI cJ cZ cG σ := hst.resolve_left (fun h => hc h.1)
    obtain ⟨a1, a2, ⟨Vf, a3⟩, ⟨Xf, a4⟩, a5, a6, a7, a8, a9⟩ := hsp
    obtain ⟨rk0, nn0, bo0, t0, d0, l0, d2, Cl, Kn, sf0, s2, Ff0, F2, b1, b2, b3, b4, b5, b6⟩ := hNw
    refine lv_aload_n hx hb d_SpectrumDesk_upToDate_7 rfl (lv_at hl 0 rfl) ?_
    refine xr_get X I fin_S 0 (by omega) hS0 rfl 3 (by decide) (List.mem_cons_of_mem _ k_e7657df075) rfl rfl d_SpectrumDesk_upToDate_8 ?_
    refine lv_aload_n hx hb d_SpectrumDesk_upToDate_11 rfl (lv_at hl 0 rfl) ?_
    refine xr_get X I fin_S 0 (by omega) hS0 rfl 0 (by decide) (List.mem_cons_of_mem _ k_c7908b049a) rfl rfl d_SpectrumDesk_upToDate_12 ?_
    refine lv_aload_n hx hb d_SpectrumDesk_upToDate_15 rfl (lv_at hl 0 rfl) ?_
    refine xr_get X I fin_S 0 (by omega) hS0 rfl 5 (by decide) (List.mem_cons_of_mem _ k_7fc62aa415) rfl rfl d_SpectrumDesk_upToDate_16 ?_
    have hb0 : bkU ad cI cG σ (fun i j => (A i j).toInt) 0 := bkU_0 b2 (by decide)
    refine xr_callv (xr_runV (kc := 6) (kr := 7) (n := 2) (As := [.ref (ad 1), .int (nI n)]) (rest := []) X I (by omega) b1 rfl (c_Spectrum_read (n := n) (A := A) hN b1 a1 h1n hn hA a2 a3 a4 b4 hb0 b5 (hgd.1 n (Nat.le_refl _)) hsA) (xg k_c402171c53) (List.mem_cons_of_mem _ k_13c6a100df) (List.mem_cons_of_mem _ k_ffd62b8494) (List.mem_cons_of_mem _ k_b8e7d14fed) (List.mem_cons_of_mem _ k_c663d572ae) (by decide +kernel) (by decide) rfl hl.1 rfl (Nat.le_of_ble_eq_true rfl) d_SpectrumDesk_upToDate_19) I (fun σ1 H locs hp I => ?_)
    obtain ⟨t9, b, lf, K9, V9, X9, Ff, sf, e1, e2, e3, e4, e5, e6, e7, e8, e9, g1, g2, g3, g4, g5, g6⟩ := hp
    refine lv_aload_n hx hb d_SpectrumDesk_upToDate_22 rfl (lv_at hl 0 rfl) ?_
    refine lv_iconst (v := nI 0) hx hb d_SpectrumDesk_upToDate_23 (by decide) ?_
    refine xr_put (ty := .boolean) X I fin_S t_S t_S_ok n_S 0 (by omega) ((e7 0 (by omega)).trans hS0) rfl 6 (by decide) (List.mem_cons_of_mem _ k_96c8c183a8) rfl rfl (by decide +kernel) rfl rfl (Nat.le_of_ble_eq_true rfl) d_SpectrumDesk_upToDate_24 (fun H locs I => ?_)
    have I : xI D classes N ad s.heap (va_up σ1 0 (.inr (ciS, [.ref (ad 1), .ref (ad 8), .ref (ad 9), .ref (ad 18), .ref (ad 179), .int (nI n), .int (nI 0)]))) H locs := I
    obtain ⟨σ2, hσ2⟩ : ∃ s2, s2 = va_up σ1 0 (.inr (ciS, [.ref (ad 1), .ref (ad 8), .ref (ad 9), .ref (ad 18), .ref (ad 179), .int (nI n), .int (nI 0)])) := ⟨_, rfl⟩
    rw [← hσ2] at I
    have k0 : σ2 0 = .inr (ciS, dF0 ad n (nI 0)) := by rw [hσ2]; exact va_up_self _ _ _
    have k1 : ∀ q, q ≠ 0 → σ2 q = σ1 q := fun q hq => by rw [hσ2]; exact va_up_ne _ _ hq
    clear hσ2
    refine lv_aload_n hx hb d_SpectrumDesk_upToDate_27 rfl (lv_at hl 0 rfl) ?_
    refine xr_get X I fin_S 0 (by omega) k0 rfl 3 (by decide) (List.mem_cons_of_mem _ k_e7657df075) rfl rfl d_SpectrumDesk_upToDate_28 ?_
    have k2 : ∀ q, q ≠ 0 → q < 18 ∨ q = 19 ∨ (90 ≤ q ∧ q < 100) ∨ (110 ≤ q ∧ q < 141) ∨ (155 ≤ q ∧ q ≠ 178) → σ2 q = σ q := fun q h1 h2 => (k1 q h1).trans (e7 q h2)
    refine xr_aret X I hr hlk ⟨nI 0, fun q h1 h2 => k2 q h1 (by omega), k0, ⟨(k2 19 (by decide) (by omega)).trans a1, (k2 140 (by decide) (by omega)).trans a2, ⟨V9, mat_same g1 (k1 141 (by decide)) (fun q h1 h2 => k1 q (by omega))⟩, ⟨X9, mat_same g2 (k1 148 (by decide)) (fun q h1 h2 => k1 q (by omega))⟩, pr2_same a5 (fun q h1 h2 => k2 q (by omega) (by omega)), pr2_same a6 (fun q h1 h2 => k2 q (by omega) (by omega)), pr2_same a7 (fun q h1 h2 => k2 q (by omega) (by omega)), (k2 155 (by decide) (by omega)).trans a8, euE_same a9 (fun q h1 h2 => k2 q (by omega) (by omega))⟩, ?_⟩ d_SpectrumDesk_upToDate_31
    exact ⟨t9, lf, Cl, K9, sf, Ff, (k1 18 (by decide)).trans e8, e1, ⟨b, e2, e3, e4, e5, e6⟩, bkU_keep e9 hn (fun q h1 h2 => k1 q (by omega)), (k2 177 (by decide) (by omega)).trans b3, (k1 178 (by decide)).trans g3, fun j hj => Or.inl (g4 j hj), pl_same g5 (fun q h1 h2 => k1 q (by omega)), g6, Or.inl ⟨rfl, d2, F2, s2, pl_same b6 (fun q h1 h2 => k2 q (by omega) (by omega))⟩⟩
set_option maxHeartbeats 4000000 in
set_option maxRecDepth 100000 in
theorem c_Spectrum_findRepeated {l : Launch} {D : va_G} {cI cJ cZ cC cG cP : ClassId} {N : Nat} {ad : Nat → Nat} {σ : Nat → va_E} {n : Nat} {σb : Nat → va_E} {A : Nat → Nat → Int32} {V : Nat → Int} {rk : Int32} (hN : N = 193) (h1n : 1 ≤ n) (hn : n ≤ 6) (hsA : smA A) (hgd : gdM A n V) (hU : upV ad cI cJ cZ cG cP σb A n V rk σ) :
    Met l y_Spectrum_findRepeated v_Spectrum_findRepeated (xrm 7) (va_Pc [.ref (ad 18)] (xS D classes (xT cI cJ cZ cC cG cP) N ad σ)) (va_Qv (fun σ2 => upV ad cI cJ cZ cG cP σb A n V (nI 1) σ2) (xS D classes (xT cI cJ cZ cC cG cP) N ad) (xA N ad)) 0 0 (xA N ad) := by
  refine xr_met rfl (Nat.le_of_ble_eq_true rfl) ?_
  intro p e s m args below meth c ls hx hb X hr hlk hl I
  have hl : lv_has ls 1 [(0, .ref (ad 18))] := hl
  obtain ⟨u1, u2, ⟨a1, a2, a3, a4, a5, a6, a7, a8, a9⟩, t9, lf, Cl, Kn, sf, Ff, b1, b2, b3, b4, b5, b6, b7, b8, b9, c1⟩ := hU
  refine lv_aload_n hx hb d_Spectrum_findRepeated_0 rfl (lv_at hl 0 rfl) ?_
  refine xr_get X I fin_E 18 (by omega) b1 rfl 10 (by decide) (List.mem_cons_of_mem _ k_85f06032a7) rfl rfl d_Spectrum_findRepeated_1 ?_
  refine lv_if_ne hx hb d_Spectrum_findRepeated_4 rfl (fun hc => ?_) (fun hc => ?_)
  · obtain ⟨rfl, c2⟩ := c1.resolve_left (fun h => hc (by rw [h.1]; rfl))
    exact xr_vret X I hr hlk ⟨u1, u2, ⟨a1, a2, a3, a4, a5, a6, a7, a8, a9⟩, t9, lf, Cl, Kn, sf, Ff, b1, b2, b3, b4, b5, b6, b7, b8, b9, Or.inr ⟨rfl, c2⟩⟩ d_Spectrum_findRepeated_36
  · obtain ⟨rfl, d2, F2, s2, c2⟩ := c1.resolve_right (fun h => absurd (h.1.symm.trans hc) (by decide))
    obtain ⟨Fn, sn, p1, p2⟩ := b4.1 n (Nat.le_refl _)
    have hbl := bdF_le (n := n) hsA hn n hn
    refine lv_aload_n hx hb d_Spectrum_findRepeated_7 rfl (lv_at hl 0 rfl) ?_
    refine xr_get X I fin_E 18 (by omega) b1 rfl 7 (by decide) (List.mem_cons_of_mem _ k_f4f8fc426e) rfl rfl d_Spectrum_findRepeated_8 ?_
    refine lv_aload_n hx hb d_Spectrum_findRepeated_11 rfl (lv_at hl 0 rfl) ?_
    refine xr_get X I fin_E 18 (by omega) b1 rfl 0 (by decide) (List.mem_cons_of_mem _ k_453373e9e7) rfl rfl d_Spectrum_findRepeated_12 ?_
    refine lv_aload_n hx hb d_Spectrum_findRepeated_15 rfl (lv_at hl 0 rfl) ?_
    refine xr_get X I fin_E 18 (by omega) b1 rfl 11 (by decide) (List.mem_cons_of_mem _ k_d4fb48ecc0) rfl rfl d_Spectrum_findRepeated_16 ?_
    refine xr_aald X I 19 5 (by omega) a1 rfl rfl (by omega) (by decide) (bl_at (by omega)) d_Spectrum_findRepeated_19 ?_
    refine lv_aload_n hx hb d_Spectrum_findRepeated_20 rfl (lv_at hl 0 rfl) ?_
    refine xr_get X I fin_E 18 (by omega) b1 rfl 1 (by decide) (List.mem_cons_of_mem _ k_c500482549) rfl rfl d_Spectrum_findRepeated_21 ?_
    refine lv_aload_n hx hb d_Spectrum_findRepeated_24 rfl (lv_at hl 0 rfl) ?_
    refine xr_get X I fin_E 18 (by omega) b1 rfl 12 (by decide) (List.mem_cons_of_mem _ k_8a8601670a) rfl rfl d_Spectrum_findRepeated_25 ?_
    refine xr_callv (xr_runV (kc := 6) (kr := 7) (n := 3) (As := [.ref (ad (20 + 10 * n)), .ref (ad 90), .int (nI (bdF A n n))]) (rest := []) X I (by omega) a8 rfl (c_Euclid_findCommon (n := n) (pi := 20 + 10 * n) (bo := bdF A n n) (p0 := pB (iA A) n) hN a8 (by omega) p1 p2 (hgd.1 n (Nat.le_refl _)) h1n hn hbl c2 a9 hgd.2.2.2.2.2.2.2.1) (xg k_c50cf660cb) (List.mem_cons_of_mem _ k_a026e8ac9c) (List.mem_cons_of_mem _ k_024eeb4ea7) (List.mem_cons_of_mem _ k_1c7c9574a6) (List.mem_cons_of_mem _ k_29b988b263) (by decide +kernel) (by decide) rfl hl.1 rfl (Nat.le_of_ble_eq_true rfl) d_Spectrum_findRepeated_28) I (fun σ1 H locs hp I => ?_)
    obtain ⟨F3, s3, e1, e2, e3, e4⟩ := hp
    refine lv_aload_n hx hb d_Spectrum_findRepeated_31 rfl (lv_at hl 0 rfl) ?_
    refine lv_iconst (v := nI 1) hx hb d_Spectrum_findRepeated_32 (by decide) ?_
    refine xr_put (ty := .boolean) X I fin_E t_E t_E_ok n_E 18 (by omega) ((e1 18 (by omega)).trans b1) rfl 10 (by decide) (List.mem_cons_of_mem _ k_85f06032a7) rfl rfl (by decide +kernel) rfl rfl (Nat.le_of_ble_eq_true rfl) d_Spectrum_findRepeated_33 (fun H locs I => ?_)
    have I : xI D classes N ad s.heap (va_up σ1 18 (.inr (ciE, eF ad (nI 1) (nI n) (nI (bdF A n n)) t9))) H locs := I
    obtain ⟨σ2, hσ2⟩ : ∃ s2, s2 = va_up σ1 18 (.inr (ciE, eF ad (nI 1) (nI n) (nI (bdF A n n)) t9)) := ⟨_, rfl⟩
    rw [← hσ2] at I
    have k0 : σ2 18 = .inr (ciE, eF ad (nI 1) (nI n) (nI (bdF A n n)) t9) := by rw [hσ2]; exact va_up_self _ _ _
    have k1 : ∀ q, q ≠ 18 → σ2 q = σ1 q := fun q hq => by rw [hσ2]; exact va_up_ne _ _ hq
    clear hσ2
    have k2 : ∀ q, q ≠ 18 → q < 90 ∨ (100 ≤ q ∧ q < 156) ∨ 177 ≤ q → σ2 q = σ q := fun q h1 h2 => (k1 q h1).trans (e1 q h2)
    obtain ⟨V9, a3⟩ := a3
    obtain ⟨X9, a4⟩ := a4
    refine xr_vret X I hr hlk ⟨fun q h1 h2 => (k2 q (by omega) (by omega)).trans (u1 q h1 h2), (k2 0 (by decide) (by omega)).trans u2, ⟨(k2 19 (by decide) (by omega)).trans a1, (k2 140 (by decide) (by omega)).trans a2, ⟨V9, mat_same a3 (k2 141 (by decide) (by omega)) (fun q h1 h2 => k2 q (by omega) (by omega))⟩, ⟨X9, mat_same a4 (k2 148 (by decide) (by omega)) (fun q h1 h2 => k2 q (by omega) (by omega))⟩, pr2_same a5 (fun q h1 h2 => k2 q (by omega) (by omega)), pr2_same a6 (fun q h1 h2 => k2 q (by omega) (by omega)), pr2_same a7 (fun q h1 h2 => k2 q (by omega) (by omega)), (k2 155 (by decide) (by omega)).trans a8, euE_same e4 (fun q h1 h2 => k1 q (by omega))⟩, ?_⟩ d_Spectrum_findRepeated_36
    exact ⟨t9, lf, Cl, Kn, sf, Ff, k0, b2, b3, bkU_keep b4 hn (fun q h1 h2 => k2 q (by omega) (by omega)), (k2 177 (by decide) (by omega)).trans b5, (k2 178 (by decide) (by omega)).trans b6, b7, pl_same b8 (fun q h1 h2 => k2 q (by omega) (by omega)), b9, Or.inr ⟨rfl, F3, s3, pl_same e2 (fun q h1 h2 => k1 q (by omega)), e3⟩⟩
set_option maxHeartbeats 4000000 in
set_option maxRecDepth 100000 in
theorem c_SpectrumDesk_cell_ok {l : Launch} {D : va_G} {cI cJ cZ cC cG cP : ClassId} {N : Nat} {ad : Nat → Nat} {σ : Nat → va_E} {n : Nat} {st : Int32} (hN : N = 193) (hS0 : σ 0 = .inr (ciS, [.ref (ad 1), .ref (ad 8), .ref (ad 9), .ref (ad 18), .ref (ad 179), .int (nI n), .int st])) {A : Nat → Nat → Int32} {V : Nat → Int} (h1n : 1 ≤ n) (hn : n ≤ 6) (hA : mat ad cI cG σ 1 2 A) (hsA : smA A) (hgd : gdM A n V) (hsp : spZ ad cI cG cP σ) (hst : (st = nI 0 ∧ ∃ rk, spV ad cI cJ cZ cG σ A n V rk) ∨ (st = nI 1 ∧ spN ad cI cJ cZ cG σ)) {i w9 : Nat} (hi : i < n) (hw : w9 ≤ 30) :
    Met l y_SpectrumDesk_cell v_SpectrumDesk_cell (xrm 8) (va_Pc [.ref (ad 0), .int (nI i), .int (nI w9)] (xS D classes (xT cI cJ cZ cC cG cP) N ad σ)) (va_Ql (fun r σ2 => r.toInt = V i / 2 ^ (30 - w9) ∧ ∃ rk, upV ad cI cJ cZ cG cP σ A n V rk σ2) (xS D classes (xT cI cJ cZ cC cG cP) N ad) (xA N ad)) 0 0 (xA N ad) := by
  refine xr_met rfl (Nat.le_of_ble_eq_true rfl) ?_
  intro p e s m args below meth c ls hx hb X hr hlk hl I
  have hl : lv_has ls 3 [(0, .ref (ad 0)), (1, .int (nI i)), (2, .int (nI w9))] := hl
  refine lv_aload_n hx hb d_SpectrumDesk_cell_0 rfl (lv_at hl 0 rfl) ?_
  refine lv_iload_n hx hb d_SpectrumDesk_cell_1 rfl (lv_at hl 1 rfl) ?_
  refine xr_calli (xr_runV (kc := 0) (kr := 8) (n := 1) (As := [.int (nI i)]) (rest := []) X I (by omega) hS0 rfl (c_SpectrumDesk_isIndex_1 (i := i) hN hS0 hi hn) (xg k_c079286d93) (List.mem_cons_of_mem _ k_6f9ce34938) (List.mem_cons_of_mem _ k_61ce0833a3) (List.mem_cons_of_mem _ k_91970b1809) (List.mem_cons_of_mem _ k_6836736ab7) (by decide +kernel) (by decide) rfl hl.1 rfl (Nat.le_of_ble_eq_true rfl) d_SpectrumDesk_cell_2) I (fun r1 σ9 H locs hp I => ?_)
  obtain ⟨rfl, h9⟩ := hp; rw [h9] at I; clear h9
  refine lv_if_ne hx hb d_SpectrumDesk_cell_5 rfl (fun hc => ?_) (fun hc => ?_)
  · refine lv_iload_n hx hb d_SpectrumDesk_cell_18 rfl (lv_at hl 2 rfl) ?_
    refine lv_if_lt hx hb d_SpectrumDesk_cell_19 rfl (fun hd => ?_) (fun hd => ?_)
    · exact absurd hd (nI_pos (by omega))
    · refine lv_iload_n hx hb d_SpectrumDesk_cell_22 rfl (lv_at hl 2 rfl) ?_
      refine lv_bipush (v := nI 30) hx hb d_SpectrumDesk_cell_23 (by decide) ?_
      refine lv_icmp_le hx hb d_SpectrumDesk_cell_25 rfl (fun he => ?_) (fun he => ?_)
      · refine lv_aload_n hx hb d_SpectrumDesk_cell_38 rfl (lv_at hl 0 rfl) ?_
        refine xr_callk (xr_runV (kc := 7) (kr := 8) (n := 0) (As := []) (rest := []) X I (by omega) hS0 rfl (c_SpectrumDesk_upToDate (A := A) (V := V) hN hS0 h1n hn hA hsA hgd hsp hst) (xg k_7fc044eb5f) (List.mem_cons_of_mem _ k_e6e30bc1cd) (List.mem_cons_of_mem _ k_d50a5cd376) (List.mem_cons_of_mem _ k_61afc8fd0f) (List.mem_cons_of_mem _ k_6836736ab7) (by decide +kernel) (by decide) rfl hl.1 rfl (Nat.le_of_ble_eq_true rfl) d_SpectrumDesk_cell_39) I (fun σ1 H locs hp I => ?_)
        obtain ⟨rk, hU1⟩ := hp
        obtain ⟨-, z0, ⟨a1, -, -, -, a5, -, -, -, -⟩, t9, lf, Cl, Kn, sf, Ff, b1, b2, b3, b4, b5, b6, b7, b8, b9, -⟩ := id hU1
        have hlf := hgd.2.1 lf b3
        obtain ⟨bb, -, -, -, hl2, hl12⟩ := b3
        have hbl := bdF_le (n := n) hsA hn n hn
        refine lv_iload_n hx hb d_SpectrumDesk_cell_42 rfl (lv_at hl 1 rfl) ?_
        refine xr_calll (xr_runV (kc := 5) (kr := 8) (n := 1) (As := [.int (nI i)]) (rest := []) X I (by omega) b1 rfl (c_Spectrum_finestCell (V := V) (i9 := i) hN b1 b5 b6 b8 a5 hn hl2 hl12 b9 hlf.1 hbl hlf.2 hgd.2.2.1 b7 hi) (xg k_15467f5cf6) (List.mem_cons_of_mem _ k_b08ae9ffde) (List.mem_cons_of_mem _ k_fa0ad0c072) (List.mem_cons_of_mem _ k_38a2eed932) (List.mem_cons_of_mem _ k_c663d572ae) (by decide +kernel) (by decide) rfl hl.1 rfl (Nat.le_of_ble_eq_true rfl) d_SpectrumDesk_cell_43) I (fun x σ2 H locs hp I => ?_)
        obtain ⟨ex, Cl2, Kn2, f2, c2, c3, c4, c5⟩ := hp
        obtain ⟨v1, v2⟩ := hgd.2.2.2.1 i hi
        refine lv_bipush (v := nI 30) hx hb d_SpectrumDesk_cell_46 (by decide) ?_
        refine lv_iload_n hx hb d_SpectrumDesk_cell_48 rfl (lv_at hl 2 rfl) ?_
        refine lv_isub hx hb d_SpectrumDesk_cell_49 (xr_topi (y := nI (30 - w9)) (pk_sub hw) ?_)
        refine lv_lshr hx hb d_SpectrumDesk_cell_50 rfl ?_
        refine lv_topl (fun y ey => ?_)
        have hy : y.toInt = V i / 2 ^ (30 - w9) := by rw [ey, q_shr (by omega), ex, q_oT (by omega) (by omega)]
        exact xr_lret X I hr hlk ⟨hy, rk, upV_q hU1 hn f2 c2 c3 c4 c5⟩ d_SpectrumDesk_cell_51
      · exact absurd (nI_le hw (by decide)) he
  · exact absurd hc (by decide)
set_option maxHeartbeats 4000000 in
set_option maxRecDepth 100000 in
theorem c_SpectrumDesk_whole_ok {l : Launch} {D : va_G} {cI cJ cZ cC cG cP : ClassId} {N : Nat} {ad : Nat → Nat} {σ : Nat → va_E} {n : Nat} {st : Int32} (hN : N = 193) (hS0 : σ 0 = .inr (ciS, [.ref (ad 1), .ref (ad 8), .ref (ad 9), .ref (ad 18), .ref (ad 179), .int (nI n), .int st])) {A : Nat → Nat → Int32} {V : Nat → Int} (h1n : 1 ≤ n) (hn : n ≤ 6) (hA : mat ad cI cG σ 1 2 A) (hsA : smA A) (hgd : gdM A n V) (hsp : spZ ad cI cG cP σ) (hst : (st = nI 0 ∧ ∃ rk, spV ad cI cJ cZ cG σ A n V rk) ∨ (st = nI 1 ∧ spN ad cI cJ cZ cG σ)) {i : Nat} (hi : i < n) :
    Met l y_SpectrumDesk_whole v_SpectrumDesk_whole (xrm 8) (va_Pc [.ref (ad 0), .int (nI i)] (xS D classes (xT cI cJ cZ cC cG cP) N ad σ)) (va_Qi (fun r σ2 => r = (if V i % 1073741824 = 0 ∧ nI i < lessI (low (V i) n (pfF A n) n) n + nI (ez (low (V i) n (pfF A n) n) 0 n) then nI 1 else nI 0) ∧ ∃ rk, upV ad cI cJ cZ cG cP σ A n V rk σ2) (xS D classes (xT cI cJ cZ cC cG cP) N ad) (xA N ad)) 0 0 (xA N ad) := by
  refine xr_met rfl (Nat.le_of_ble_eq_true rfl) ?_
  intro p e s m args below meth c ls hx hb X hr hlk hl I
  have hl : lv_has ls 2 [(0, .ref (ad 0)), (1, .int (nI i))] := hl
  refine lv_aload_n hx hb d_SpectrumDesk_whole_0 rfl (lv_at hl 0 rfl) ?_
  refine lv_iload_n hx hb d_SpectrumDesk_whole_1 rfl (lv_at hl 1 rfl) ?_
  refine xr_calli (xr_runV (kc := 0) (kr := 8) (n := 1) (As := [.int (nI i)]) (rest := []) X I (by omega) hS0 rfl (c_SpectrumDesk_isIndex_1 (i := i) hN hS0 hi hn) (xg k_c079286d93) (List.mem_cons_of_mem _ k_6f9ce34938) (List.mem_cons_of_mem _ k_61ce0833a3) (List.mem_cons_of_mem _ k_91970b1809) (List.mem_cons_of_mem _ k_6836736ab7) (by decide +kernel) (by decide) rfl hl.1 rfl (Nat.le_of_ble_eq_true rfl) d_SpectrumDesk_whole_2) I (fun r1 σ9 H locs hp I => ?_)
  obtain ⟨rfl, h9⟩ := hp; rw [h9] at I; clear h9
  refine lv_if_ne hx hb d_SpectrumDesk_whole_5 rfl (fun hc => ?_) (fun hc => ?_)
  · refine lv_aload_n hx hb d_SpectrumDesk_whole_18 rfl (lv_at hl 0 rfl) ?_
    refine xr_callk (xr_runV (kc := 7) (kr := 8) (n := 0) (As := []) (rest := []) X I (by omega) hS0 rfl (c_SpectrumDesk_upToDate (A := A) (V := V) hN hS0 h1n hn hA hsA hgd hsp hst) (xg k_7fc044eb5f) (List.mem_cons_of_mem _ k_e6e30bc1cd) (List.mem_cons_of_mem _ k_d50a5cd376) (List.mem_cons_of_mem _ k_61afc8fd0f) (List.mem_cons_of_mem _ k_6836736ab7) (by decide +kernel) (by decide) rfl hl.1 rfl (Nat.le_of_ble_eq_true rfl) d_SpectrumDesk_whole_19) I (fun σ1 H locs hp I => ?_)
    obtain ⟨rk, hU1⟩ := hp
    obtain ⟨-, z0, ⟨a1, -, -, -, a5, -, -, -, -⟩, t9, lf, Cl, Kn, sf, Ff, b1, b2, b3, b4, b5, b6, b7, b8, b9, -⟩ := id hU1
    have hlf := hgd.2.1 lf b3
    obtain ⟨bb, -, -, -, hl2, hl12⟩ := b3
    have hbl := bdF_le (n := n) hsA hn n hn
    refine lv_iload_n hx hb d_SpectrumDesk_whole_22 rfl (lv_at hl 1 rfl) ?_
    refine xr_calli (xr_runV (kc := 6) (kr := 8) (n := 1) (As := [.int (nI i)]) (rest := []) X I (by omega) b1 rfl (c_Spectrum_isWhole (V := V) (i9 := i) hN b1 b5 b6 b8 a5 hn hl2 hl12 b9 hlf.1 hbl hlf.2 hgd.2.2.1 b7 hgd.2.2.2.1 hi) (xg k_8fa0e0a9a1) (List.mem_cons_of_mem _ k_66f0f6b00e) (List.mem_cons_of_mem _ k_55848dcbbb) (List.mem_cons_of_mem _ k_d03086ec20) (List.mem_cons_of_mem _ k_c663d572ae) (by decide +kernel) (by decide) rfl hl.1 rfl (Nat.le_of_ble_eq_true rfl) d_SpectrumDesk_whole_23) I (fun x σ2 H locs hp I => ?_)
    obtain ⟨ex, Cl2, Kn2, f2, c2, c3, c4, c5⟩ := hp
    exact xr_zret X I hr hlk (by rw [ex]; split <;> decide +kernel) ⟨ex, rk, upV_q hU1 hn f2 c2 c3 c4 c5⟩ d_SpectrumDesk_whole_26
  · exact absurd hc (by decide)
set_option maxHeartbeats 4000000 in
set_option maxRecDepth 100000 in
theorem c_SpectrumDesk_check {l : Launch} {D : va_G} {cI cJ cZ cC cG cP : ClassId} {N : Nat} {ad : Nat → Nat} {σ : Nat → va_E} {n : Nat} {st : Int32} (hN : N = 193) (hS0 : σ 0 = .inr (ciS, [.ref (ad 1), .ref (ad 8), .ref (ad 9), .ref (ad 18), .ref (ad 179), .int (nI n), .int st])) {A : Nat → Nat → Int32} {V : Nat → Int} (h1n : 1 ≤ n) (hn : n ≤ 6) (hA : mat ad cI cG σ 1 2 A) (hsA : smA A) (hgd : gdM A n V) (hsp : spZ ad cI cG cP σ) (hst : (st = nI 0 ∧ ∃ rk, spV ad cI cJ cZ cG σ A n V rk) ∨ (st = nI 1 ∧ spN ad cI cJ cZ cG σ)) :
    Met l y_SpectrumDesk_check v_SpectrumDesk_check (xrm 8) (va_Pc [.ref (ad 0)] (xS D classes (xT cI cJ cZ cC cG cP) N ad σ)) (va_Qi (fun r σ2 => r = nI 1 ∧ ∃ rk, upV ad cI cJ cZ cG cP σ A n V rk σ2) (xS D classes (xT cI cJ cZ cC cG cP) N ad) (xA N ad)) 0 0 (xA N ad) := by
  refine xr_met rfl (Nat.le_of_ble_eq_true rfl) ?_
  intro p e s m args below meth c ls hx hb X hr hlk hl I
  have hl : lv_has ls 2 [(0, .ref (ad 0))] := hl
  refine lv_aload_n hx hb d_SpectrumDesk_check_0 rfl (lv_at hl 0 rfl) ?_
  refine xr_callk (xr_runV (kc := 7) (kr := 8) (n := 0) (As := []) (rest := []) X I (by omega) hS0 rfl (c_SpectrumDesk_upToDate (A := A) (V := V) hN hS0 h1n hn hA hsA hgd hsp hst) (xg k_7fc044eb5f) (List.mem_cons_of_mem _ k_e6e30bc1cd) (List.mem_cons_of_mem _ k_d50a5cd376) (List.mem_cons_of_mem _ k_61afc8fd0f) (List.mem_cons_of_mem _ k_6836736ab7) (by decide +kernel) (by decide) rfl hl.1 rfl (Nat.le_of_ble_eq_true rfl) d_SpectrumDesk_check_1) I (fun σ1 H locs hp I => ?_)
  obtain ⟨rk, hU1⟩ := hp
  obtain ⟨-, z0, ⟨a1, -, -, -, a5, -, -, -, -⟩, t9, lf, Cl, Kn, sf, Ff, b1, b2, b3, b4, b5, b6, b7, b8, b9, -⟩ := id hU1
  have hlf := hgd.2.1 lf b3
  obtain ⟨bb, -, -, -, hl2, hl12⟩ := b3
  have hbl := bdF_le (n := n) hsA hn n hn
  have htb := trF_bd hsA n hn
  refine lv_astore_n (lv' := [(1, .ref (ad 18)), (0, .ref (ad 0))]) hx hb d_SpectrumDesk_check_4 rfl hl (by decide) rfl (fun ls hl => ?_)
  refine lv_aload_n hx hb d_SpectrumDesk_check_5 rfl (lv_at hl 0 rfl) ?_
  refine xr_calli (xr_runV (kc := 6) (kr := 8) (n := 0) (As := []) (rest := []) X I (by omega) b1 rfl (c_Spectrum_traceFits (V := V) hN b1 b5 b6 b8 a5 hn hl2 hl12 b9 hlf.1 hbl hlf.2 hgd.2.2.1 b7 hgd.2.2.2.1 (by rw [b2]; omega) (by rw [b2]; exact hgd.2.2.2.2.2.1)) (xg k_4a4029a7e3) (List.mem_cons_of_mem _ k_31839ea43c) (List.mem_cons_of_mem _ k_48362e2807) (List.mem_cons_of_mem _ k_0f77b78e91) (List.mem_cons_of_mem _ k_c663d572ae) (by decide +kernel) (by decide) rfl hl.1 rfl (Nat.le_of_ble_eq_true rfl) d_SpectrumDesk_check_6) I (fun x σ2 H locs hp I => ?_)
  obtain ⟨rfl, Cl2, Kn2, f2, c2, c3, c4, c5⟩ := hp
  have hU2 := upV_q hU1 hn f2 c2 c3 c4 c5
  clear a1 a5 z0 b1 b2 b4 b5 b6 b7 b8 b9 hlf hl2 hl12 bb
  refine lv_if_eq hx hb d_SpectrumDesk_check_9 rfl (fun hc => ?_) (fun hc => ?_)
  · exact absurd hc (by decide)
  · obtain ⟨-, z0, ⟨a1, -, -, -, a5, -, -, -, -⟩, t9, lf, Cl, Kn, sf, Ff, b1, b2, b3, b4, b5, b6, b7, b8, b9, -⟩ := id hU2
    have hlf := hgd.2.1 lf b3
    obtain ⟨bb, -, -, -, hl2, hl12⟩ := b3
    have hbl := bdF_le (n := n) hsA hn n hn
    refine lv_aload_n hx hb d_SpectrumDesk_check_12 rfl (lv_at hl 0 rfl) ?_
    have hbk := bkU_bks b4 hgd.1
    refine xr_calli (xr_runV (kc := 6) (kr := 8) (n := 0) (As := []) (rest := []) X I (by omega) b1 rfl (c_Spectrum_blocksInterlace (V := V) (pb := pB (iA A)) hN b1 b5 b6 b8 a5 hn hl2 hl12 b9 hlf.1 hbl hlf.2 hgd.2.2.1 b7 hgd.2.2.2.1 a1 hbk (fun i k hi hk => by have v := hgd.2.2.2.1 i hi; have h := hgd.2.2.2.2.1 k (Int64.ofInt (V i)) 1073741824 hk (by decide); rw [q_oT (by omega) (by omega), show (1073741824 : Int64).toInt = 1073741824 by decide] at h; exact h) hgd.2.2.2.2.2.2.1) (xg k_dbc28784c3) (List.mem_cons_of_mem _ k_dd100cd1b7) (List.mem_cons_of_mem _ k_9b11bb3723) (List.mem_cons_of_mem _ k_86f907f71a) (List.mem_cons_of_mem _ k_c663d572ae) (by decide +kernel) (by decide) rfl hl.1 rfl (Nat.le_of_ble_eq_true rfl) d_SpectrumDesk_check_13) I (fun y σ3 H locs hp I => ?_)
    obtain ⟨rfl, Cl3, Kn3, f3, d2, d3, d4, d5⟩ := hp
    refine lv_if_eq hx hb d_SpectrumDesk_check_16 rfl (fun hd => ?_) (fun hd => ?_)
    · exact absurd hd (by decide)
    · refine lv_iconst (v := nI 1) hx hb d_SpectrumDesk_check_19 (by decide) ?_
      refine lv_goto hx hb d_SpectrumDesk_check_20 rfl ?_
      exact xr_iret X I hr hlk ⟨rfl, rk, upV_q hU2 hn f3 d2 d3 d4 d5⟩ d_SpectrumDesk_check_24
set_option maxHeartbeats 4000000 in
set_option maxRecDepth 100000 in
theorem c_SpectrumDesk_distinct {l : Launch} {D : va_G} {cI cJ cZ cC cG cP : ClassId} {N : Nat} {ad : Nat → Nat} {σ : Nat → va_E} {n : Nat} {st : Int32} (hN : N = 193) (hS0 : σ 0 = .inr (ciS, [.ref (ad 1), .ref (ad 8), .ref (ad 9), .ref (ad 18), .ref (ad 179), .int (nI n), .int st])) {A : Nat → Nat → Int32} {V : Nat → Int} (h1n : 1 ≤ n) (hn : n ≤ 6) (hA : mat ad cI cG σ 1 2 A) (hsA : smA A) (hgd : gdM A n V) (hsp : spZ ad cI cG cP σ) (hst : (st = nI 0 ∧ ∃ rk, spV ad cI cJ cZ cG σ A n V rk) ∨ (st = nI 1 ∧ spN ad cI cJ cZ cG σ)) :
    Met l y_SpectrumDesk_distinct v_SpectrumDesk_distinct (xrm 8) (va_Pc [.ref (ad 0)] (xS D classes (xT cI cJ cZ cC cG cP) N ad σ)) (va_Qi (fun r σ2 => r = nI n - nI (ceD (pB (iA A) n) n) ∧ ∃ rk, upV ad cI cJ cZ cG cP σ A n V rk σ2) (xS D classes (xT cI cJ cZ cC cG cP) N ad) (xA N ad)) 0 0 (xA N ad) := by
  refine xr_met rfl (Nat.le_of_ble_eq_true rfl) ?_
  intro p e s m args below meth c ls hx hb X hr hlk hl I
  have hl : lv_has ls 2 [(0, .ref (ad 0))] := hl
  refine lv_aload_n hx hb d_SpectrumDesk_distinct_0 rfl (lv_at hl 0 rfl) ?_
  refine xr_callk (xr_runV (kc := 7) (kr := 8) (n := 0) (As := []) (rest := []) X I (by omega) hS0 rfl (c_SpectrumDesk_upToDate (A := A) (V := V) hN hS0 h1n hn hA hsA hgd hsp hst) (xg k_7fc044eb5f) (List.mem_cons_of_mem _ k_e6e30bc1cd) (List.mem_cons_of_mem _ k_d50a5cd376) (List.mem_cons_of_mem _ k_61afc8fd0f) (List.mem_cons_of_mem _ k_6836736ab7) (by decide +kernel) (by decide) rfl hl.1 rfl (Nat.le_of_ble_eq_true rfl) d_SpectrumDesk_distinct_1) I (fun σ1 H locs hp I => ?_)
  obtain ⟨rk, hU1⟩ := hp
  obtain ⟨_, _, _, _, _, _, bE, _⟩ : ∃ (t : Int64) (lf : Nat) (Cl : Nat → Int64) (Kn sf : Nat → Int32) (Ff : Nat → Nat → Int32), σ1 18 = .inr (ciE, eF ad rk (nI n) (nI (bdF A n n)) t) ∧ True := by obtain ⟨-, -, -, t, lf, Cl, Kn, sf, Ff, h, -⟩ := id hU1; exact ⟨t, lf, Cl, Kn, sf, Ff, h, trivial⟩
  refine lv_astore_n (lv' := [(1, .ref (ad 18)), (0, .ref (ad 0))]) hx hb d_SpectrumDesk_distinct_4 rfl hl (by decide) rfl (fun ls hl => ?_)
  refine lv_aload_n hx hb d_SpectrumDesk_distinct_5 rfl (lv_at hl 0 rfl) ?_
  refine xr_callv (xr_runV (kc := 7) (kr := 8) (n := 0) (As := []) (rest := []) X I (by omega) bE rfl (c_Spectrum_findRepeated (σb := σ) hN h1n hn hsA hgd hU1) (xg k_889f80dfba) (List.mem_cons_of_mem _ k_e2a333427a) (List.mem_cons_of_mem _ k_1181b6d3ff) (List.mem_cons_of_mem _ k_553cd8a29c) (List.mem_cons_of_mem _ k_c663d572ae) (by decide +kernel) (by decide) rfl hl.1 rfl (Nat.le_of_ble_eq_true rfl) d_SpectrumDesk_distinct_6) I (fun σ2 H locs hp I => ?_)
  have hU2 := hp
  obtain ⟨-, -, -, t9, lf, Cl, Kn, sf, Ff, b1, -, -, -, -, -, -, -, -, c1⟩ := id hU2
  obtain ⟨-, F2, s2, c2, -⟩ := c1.resolve_left (fun h => absurd h.1 (by decide))
  refine lv_aload_n hx hb d_SpectrumDesk_distinct_9 rfl (lv_at hl 0 rfl) ?_
  refine xr_calli (xr_runV (kc := 0) (kr := 8) (n := 0) (As := []) (rest := []) X I (by omega) b1 rfl (c_Spectrum_howManyDifferent hN b1 c2) (xg k_c88c46ce79) (List.mem_cons_of_mem _ k_09e2e7be1d) (List.mem_cons_of_mem _ k_057cf8b2da) (List.mem_cons_of_mem _ k_216379c982) (List.mem_cons_of_mem _ k_c663d572ae) (by decide +kernel) (by decide) rfl hl.1 rfl (Nat.le_of_ble_eq_true rfl) d_SpectrumDesk_distinct_10) I (fun x σ3 H locs hp I => ?_)
  obtain ⟨rfl, h9⟩ := hp; rw [h9] at I
  exact xr_iret X I hr hlk ⟨rfl, _, hU2⟩ d_SpectrumDesk_distinct_13
