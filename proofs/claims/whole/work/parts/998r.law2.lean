/-! the law: its own methods where the desk throws; make (written by wip/gen) -/
theorem k_c81757156a : (Jvm.Cond.methodLink "SpectrumDeskLaw" (7 : Nat) ({ cls := "SpectrumDesk", name := "make", desc := "(I)V" } : Jvm.MethodName)) ∈ AW := aw_4 (List.mem_of_getElem? (i := 73) (by decide +kernel)) (by decide +kernel)
theorem k_f28eb55fbb : (Jvm.Cond.instanceMethod ({ cls := "SpectrumDesk", name := "make", desc := "(I)V" } : Jvm.MethodName)) ∈ AW := aw_4 (List.mem_of_getElem? (i := 74) (by decide +kernel)) (by decide +kernel)
theorem k_38d35582ef : (Jvm.Cond.selects "SpectrumDesk" ({ cls := "SpectrumDesk", name := "make", desc := "(I)V" } : Jvm.MethodName) ({ cls := "SpectrumDesk", name := "make", desc := "(I)V" } : Jvm.MethodName)) ∈ AW := aw_4 (List.mem_of_getElem? (i := 75) (by decide +kernel)) (by decide +kernel)
theorem k_eed20bfcf8 : (Jvm.Cond.classLink "SpectrumDeskLaw" (13 : Nat) "java/lang/IllegalArgumentException") ∈ AW := aw_4 (List.mem_of_getElem? (i := 72) (by decide +kernel)) (by decide +kernel)
theorem k_53dc2a5d19 : (Jvm.Cond.methodLink "SpectrumDeskLaw" (15 : Nat) ({ cls := "SpectrumDesk", name := "put", desc := "(III)V" } : Jvm.MethodName)) ∈ AW := aw_4 (List.mem_of_getElem? (i := 90) (by decide +kernel)) (by decide +kernel)
theorem k_907051f5f4 : (Jvm.Cond.instanceMethod ({ cls := "SpectrumDesk", name := "put", desc := "(III)V" } : Jvm.MethodName)) ∈ AW := aw_4 (List.mem_of_getElem? (i := 91) (by decide +kernel)) (by decide +kernel)
theorem k_063ca71c10 : (Jvm.Cond.selects "SpectrumDesk" ({ cls := "SpectrumDesk", name := "put", desc := "(III)V" } : Jvm.MethodName) ({ cls := "SpectrumDesk", name := "put", desc := "(III)V" } : Jvm.MethodName)) ∈ AW := aw_4 (List.mem_of_getElem? (i := 92) (by decide +kernel)) (by decide +kernel)
theorem k_f1bb4a936c : (Jvm.Cond.classLink "SpectrumDeskLaw" (19 : Nat) "java/lang/IndexOutOfBoundsException") ∈ AW := aw_4 (List.mem_of_getElem? (i := 89) (by decide +kernel)) (by decide +kernel)
theorem k_777cd66aa1 : (Jvm.Cond.methodLink "SpectrumDeskLaw" (21 : Nat) ({ cls := "SpectrumDesk", name := "at", desc := "(II)I" } : Jvm.MethodName)) ∈ AW := aw_4 (List.mem_of_getElem? (i := 115) (by decide +kernel)) (by decide +kernel)
theorem k_32ac9011f2 : (Jvm.Cond.instanceMethod ({ cls := "SpectrumDesk", name := "at", desc := "(II)I" } : Jvm.MethodName)) ∈ AW := aw_4 (List.mem_of_getElem? (i := 116) (by decide +kernel)) (by decide +kernel)
theorem k_7ae7ef694e : (Jvm.Cond.selects "SpectrumDesk" ({ cls := "SpectrumDesk", name := "at", desc := "(II)I" } : Jvm.MethodName) ({ cls := "SpectrumDesk", name := "at", desc := "(II)I" } : Jvm.MethodName)) ∈ AW := aw_4 (List.mem_of_getElem? (i := 117) (by decide +kernel)) (by decide +kernel)
theorem k_82618050f6 : (Jvm.Cond.methodLink "SpectrumDeskLaw" (25 : Nat) ({ cls := "SpectrumDesk", name := "count", desc := "(IJJI)I" } : Jvm.MethodName)) ∈ AW := aw_4 (List.mem_of_getElem? (i := 122) (by decide +kernel)) (by decide +kernel)
theorem k_fb87d44909 : (Jvm.Cond.instanceMethod ({ cls := "SpectrumDesk", name := "count", desc := "(IJJI)I" } : Jvm.MethodName)) ∈ AW := aw_4 (List.mem_of_getElem? (i := 123) (by decide +kernel)) (by decide +kernel)
theorem k_90c619da39 : (Jvm.Cond.selects "SpectrumDesk" ({ cls := "SpectrumDesk", name := "count", desc := "(IJJI)I" } : Jvm.MethodName) ({ cls := "SpectrumDesk", name := "count", desc := "(IJJI)I" } : Jvm.MethodName)) ∈ AW := aw_4 (List.mem_of_getElem? (i := 124) (by decide +kernel)) (by decide +kernel)
theorem k_b1820bd929 : (Jvm.Cond.methodLink "SpectrumDeskLaw" (29 : Nat) ({ cls := "SpectrumDesk", name := "cell", desc := "(II)J" } : Jvm.MethodName)) ∈ AW := aw_4 (List.mem_of_getElem? (i := 136) (by decide +kernel)) (by decide +kernel)
theorem k_1f6ee19ff0 : (Jvm.Cond.instanceMethod ({ cls := "SpectrumDesk", name := "cell", desc := "(II)J" } : Jvm.MethodName)) ∈ AW := aw_4 (List.mem_of_getElem? (i := 137) (by decide +kernel)) (by decide +kernel)
theorem k_447c57d56a : (Jvm.Cond.selects "SpectrumDesk" ({ cls := "SpectrumDesk", name := "cell", desc := "(II)J" } : Jvm.MethodName) ({ cls := "SpectrumDesk", name := "cell", desc := "(II)J" } : Jvm.MethodName)) ∈ AW := aw_4 (List.mem_of_getElem? (i := 138) (by decide +kernel)) (by decide +kernel)
theorem k_45d2d7441a : (Jvm.Cond.methodLink "SpectrumDeskLaw" (33 : Nat) ({ cls := "SpectrumDesk", name := "multiplicity", desc := "(I)I" } : Jvm.MethodName)) ∈ AW := aw_4 (List.mem_of_getElem? (i := 146) (by decide +kernel)) (by decide +kernel)
theorem k_918e32c679 : (Jvm.Cond.instanceMethod ({ cls := "SpectrumDesk", name := "multiplicity", desc := "(I)I" } : Jvm.MethodName)) ∈ AW := aw_4 (List.mem_of_getElem? (i := 147) (by decide +kernel)) (by decide +kernel)
theorem k_34439ee148 : (Jvm.Cond.selects "SpectrumDesk" ({ cls := "SpectrumDesk", name := "multiplicity", desc := "(I)I" } : Jvm.MethodName) ({ cls := "SpectrumDesk", name := "multiplicity", desc := "(I)I" } : Jvm.MethodName)) ∈ AW := aw_4 (List.mem_of_getElem? (i := 148) (by decide +kernel)) (by decide +kernel)
theorem k_d4ddcee6c5 : (Jvm.Cond.methodLink "SpectrumDeskLaw" (37 : Nat) ({ cls := "SpectrumDesk", name := "whole", desc := "(I)Z" } : Jvm.MethodName)) ∈ AW := aw_4 (List.mem_of_getElem? (i := 164) (by decide +kernel)) (by decide +kernel)
theorem k_483b258309 : (Jvm.Cond.instanceMethod ({ cls := "SpectrumDesk", name := "whole", desc := "(I)Z" } : Jvm.MethodName)) ∈ AW := aw_4 (List.mem_of_getElem? (i := 165) (by decide +kernel)) (by decide +kernel)
theorem k_cc35f0af79 : (Jvm.Cond.selects "SpectrumDesk" ({ cls := "SpectrumDesk", name := "whole", desc := "(I)Z" } : Jvm.MethodName) ({ cls := "SpectrumDesk", name := "whole", desc := "(I)Z" } : Jvm.MethodName)) ∈ AW := aw_4 (List.mem_of_getElem? (i := 166) (by decide +kernel)) (by decide +kernel)
abbrev b_SpectrumDeskLaw_make : ByteArray := method_3_code
abbrev y_SpectrumDeskLaw_make : MethodName := ⟨"SpectrumDeskLaw", "make", "(LSpectrumDesk;I)I"⟩
abbrev v_SpectrumDeskLaw_make : List Cond := Cond.codeWith y_SpectrumDeskLaw_make b_SpectrumDeskLaw_make 3 (some .int) [(0, 5, 8, 13)] :: AW
theorem k_SpectrumDeskLaw_make : Cond.codeWith y_SpectrumDeskLaw_make b_SpectrumDeskLaw_make 3 (some .int) [(0, 5, 8, 13)] ∈ AW := aw_4 (List.mem_of_getElem? (i := 71) (by decide +kernel)) (by decide +kernel)
theorem d_SpectrumDeskLaw_make_0 : decode b_SpectrumDeskLaw_make 0 = .ok (.aload_n 0, 1) := by decide +kernel
theorem d_SpectrumDeskLaw_make_1 : decode b_SpectrumDeskLaw_make 1 = .ok (.iload_n 1, 1) := by decide +kernel
theorem d_SpectrumDeskLaw_make_2 : decode b_SpectrumDeskLaw_make 2 = .ok (.invokevirtual 7, 3) := by decide +kernel
theorem d_SpectrumDeskLaw_make_5 : decode b_SpectrumDeskLaw_make 5 = .ok (.goto (6), 3) := by decide +kernel
theorem d_SpectrumDeskLaw_make_8 : decode b_SpectrumDeskLaw_make 8 = .ok (.astore_n 2, 1) := by decide +kernel
theorem d_SpectrumDeskLaw_make_9 : decode b_SpectrumDeskLaw_make 9 = .ok (.iconst 1, 1) := by decide +kernel
theorem d_SpectrumDeskLaw_make_10 : decode b_SpectrumDeskLaw_make 10 = .ok (.ireturn, 1) := by decide +kernel
theorem d_SpectrumDeskLaw_make_11 : decode b_SpectrumDeskLaw_make 11 = .ok (.iconst 0, 1) := by decide +kernel
theorem d_SpectrumDeskLaw_make_12 : decode b_SpectrumDeskLaw_make 12 = .ok (.ireturn, 1) := by decide +kernel
abbrev b_SpectrumDeskLaw_put : ByteArray := method_4_code
abbrev y_SpectrumDeskLaw_put : MethodName := ⟨"SpectrumDeskLaw", "put", "(LSpectrumDesk;III)I"⟩
abbrev v_SpectrumDeskLaw_put : List Cond := Cond.codeWith y_SpectrumDeskLaw_put b_SpectrumDeskLaw_put 5 (some .int) [(0, 7, 10, 19), (0, 7, 14, 13)] :: AW
theorem k_SpectrumDeskLaw_put : Cond.codeWith y_SpectrumDeskLaw_put b_SpectrumDeskLaw_put 5 (some .int) [(0, 7, 10, 19), (0, 7, 14, 13)] ∈ AW := aw_4 (List.mem_of_getElem? (i := 88) (by decide +kernel)) (by decide +kernel)
theorem d_SpectrumDeskLaw_put_0 : decode b_SpectrumDeskLaw_put 0 = .ok (.aload_n 0, 1) := by decide +kernel
theorem d_SpectrumDeskLaw_put_1 : decode b_SpectrumDeskLaw_put 1 = .ok (.iload_n 1, 1) := by decide +kernel
theorem d_SpectrumDeskLaw_put_2 : decode b_SpectrumDeskLaw_put 2 = .ok (.iload_n 2, 1) := by decide +kernel
theorem d_SpectrumDeskLaw_put_3 : decode b_SpectrumDeskLaw_put 3 = .ok (.iload_n 3, 1) := by decide +kernel
theorem d_SpectrumDeskLaw_put_4 : decode b_SpectrumDeskLaw_put 4 = .ok (.invokevirtual 15, 3) := by decide +kernel
theorem d_SpectrumDeskLaw_put_7 : decode b_SpectrumDeskLaw_put 7 = .ok (.goto (11), 3) := by decide +kernel
theorem d_SpectrumDeskLaw_put_10 : decode b_SpectrumDeskLaw_put 10 = .ok (.astore 4, 2) := by decide +kernel
theorem d_SpectrumDeskLaw_put_12 : decode b_SpectrumDeskLaw_put 12 = .ok (.iconst 1, 1) := by decide +kernel
theorem d_SpectrumDeskLaw_put_13 : decode b_SpectrumDeskLaw_put 13 = .ok (.ireturn, 1) := by decide +kernel
theorem d_SpectrumDeskLaw_put_14 : decode b_SpectrumDeskLaw_put 14 = .ok (.astore 4, 2) := by decide +kernel
theorem d_SpectrumDeskLaw_put_16 : decode b_SpectrumDeskLaw_put 16 = .ok (.iconst 2, 1) := by decide +kernel
theorem d_SpectrumDeskLaw_put_17 : decode b_SpectrumDeskLaw_put 17 = .ok (.ireturn, 1) := by decide +kernel
theorem d_SpectrumDeskLaw_put_18 : decode b_SpectrumDeskLaw_put 18 = .ok (.iconst 0, 1) := by decide +kernel
theorem d_SpectrumDeskLaw_put_19 : decode b_SpectrumDeskLaw_put 19 = .ok (.ireturn, 1) := by decide +kernel
abbrev b_SpectrumDeskLaw_at : ByteArray := method_5_code
abbrev y_SpectrumDeskLaw_at : MethodName := ⟨"SpectrumDeskLaw", "at", "(LSpectrumDesk;II[J)I"⟩
abbrev v_SpectrumDeskLaw_at : List Cond := Cond.codeWith y_SpectrumDeskLaw_at b_SpectrumDeskLaw_at 5 (some .int) [(0, 10, 13, 19)] :: AW
theorem k_SpectrumDeskLaw_at : Cond.codeWith y_SpectrumDeskLaw_at b_SpectrumDeskLaw_at 5 (some .int) [(0, 10, 13, 19)] ∈ AW := aw_4 (List.mem_of_getElem? (i := 114) (by decide +kernel)) (by decide +kernel)
theorem d_SpectrumDeskLaw_at_0 : decode b_SpectrumDeskLaw_at 0 = .ok (.aload_n 3, 1) := by decide +kernel
theorem d_SpectrumDeskLaw_at_1 : decode b_SpectrumDeskLaw_at 1 = .ok (.iconst 0, 1) := by decide +kernel
theorem d_SpectrumDeskLaw_at_2 : decode b_SpectrumDeskLaw_at 2 = .ok (.aload_n 0, 1) := by decide +kernel
theorem d_SpectrumDeskLaw_at_3 : decode b_SpectrumDeskLaw_at 3 = .ok (.iload_n 1, 1) := by decide +kernel
theorem d_SpectrumDeskLaw_at_4 : decode b_SpectrumDeskLaw_at 4 = .ok (.iload_n 2, 1) := by decide +kernel
theorem d_SpectrumDeskLaw_at_5 : decode b_SpectrumDeskLaw_at 5 = .ok (.invokevirtual 21, 3) := by decide +kernel
theorem d_SpectrumDeskLaw_at_8 : decode b_SpectrumDeskLaw_at 8 = .ok (.i2l, 1) := by decide +kernel
theorem d_SpectrumDeskLaw_at_9 : decode b_SpectrumDeskLaw_at 9 = .ok (.lastore, 1) := by decide +kernel
theorem d_SpectrumDeskLaw_at_10 : decode b_SpectrumDeskLaw_at 10 = .ok (.goto (7), 3) := by decide +kernel
theorem d_SpectrumDeskLaw_at_13 : decode b_SpectrumDeskLaw_at 13 = .ok (.astore 4, 2) := by decide +kernel
theorem d_SpectrumDeskLaw_at_15 : decode b_SpectrumDeskLaw_at 15 = .ok (.iconst 1, 1) := by decide +kernel
theorem d_SpectrumDeskLaw_at_16 : decode b_SpectrumDeskLaw_at 16 = .ok (.ireturn, 1) := by decide +kernel
theorem d_SpectrumDeskLaw_at_17 : decode b_SpectrumDeskLaw_at 17 = .ok (.iconst 0, 1) := by decide +kernel
theorem d_SpectrumDeskLaw_at_18 : decode b_SpectrumDeskLaw_at 18 = .ok (.ireturn, 1) := by decide +kernel
abbrev b_SpectrumDeskLaw_count : ByteArray := method_6_code
abbrev y_SpectrumDeskLaw_count : MethodName := ⟨"SpectrumDeskLaw", "count", "(LSpectrumDesk;IJJI[J)I"⟩
abbrev v_SpectrumDeskLaw_count : List Cond := Cond.codeWith y_SpectrumDeskLaw_count b_SpectrumDeskLaw_count 9 (some .int) [(0, 15, 18, 13)] :: AW
theorem k_SpectrumDeskLaw_count : Cond.codeWith y_SpectrumDeskLaw_count b_SpectrumDeskLaw_count 9 (some .int) [(0, 15, 18, 13)] ∈ AW := aw_4 (List.mem_of_getElem? (i := 121) (by decide +kernel)) (by decide +kernel)
theorem d_SpectrumDeskLaw_count_0 : decode b_SpectrumDeskLaw_count 0 = .ok (.aload 7, 2) := by decide +kernel
theorem d_SpectrumDeskLaw_count_2 : decode b_SpectrumDeskLaw_count 2 = .ok (.iconst 0, 1) := by decide +kernel
theorem d_SpectrumDeskLaw_count_3 : decode b_SpectrumDeskLaw_count 3 = .ok (.aload_n 0, 1) := by decide +kernel
theorem d_SpectrumDeskLaw_count_4 : decode b_SpectrumDeskLaw_count 4 = .ok (.iload_n 1, 1) := by decide +kernel
theorem d_SpectrumDeskLaw_count_5 : decode b_SpectrumDeskLaw_count 5 = .ok (.lload_n 2, 1) := by decide +kernel
theorem d_SpectrumDeskLaw_count_6 : decode b_SpectrumDeskLaw_count 6 = .ok (.lload 4, 2) := by decide +kernel
theorem d_SpectrumDeskLaw_count_8 : decode b_SpectrumDeskLaw_count 8 = .ok (.iload 6, 2) := by decide +kernel
theorem d_SpectrumDeskLaw_count_10 : decode b_SpectrumDeskLaw_count 10 = .ok (.invokevirtual 25, 3) := by decide +kernel
theorem d_SpectrumDeskLaw_count_13 : decode b_SpectrumDeskLaw_count 13 = .ok (.i2l, 1) := by decide +kernel
theorem d_SpectrumDeskLaw_count_14 : decode b_SpectrumDeskLaw_count 14 = .ok (.lastore, 1) := by decide +kernel
theorem d_SpectrumDeskLaw_count_15 : decode b_SpectrumDeskLaw_count 15 = .ok (.goto (7), 3) := by decide +kernel
theorem d_SpectrumDeskLaw_count_18 : decode b_SpectrumDeskLaw_count 18 = .ok (.astore 8, 2) := by decide +kernel
theorem d_SpectrumDeskLaw_count_20 : decode b_SpectrumDeskLaw_count 20 = .ok (.iconst 1, 1) := by decide +kernel
theorem d_SpectrumDeskLaw_count_21 : decode b_SpectrumDeskLaw_count 21 = .ok (.ireturn, 1) := by decide +kernel
theorem d_SpectrumDeskLaw_count_22 : decode b_SpectrumDeskLaw_count 22 = .ok (.iconst 0, 1) := by decide +kernel
theorem d_SpectrumDeskLaw_count_23 : decode b_SpectrumDeskLaw_count 23 = .ok (.ireturn, 1) := by decide +kernel
abbrev b_SpectrumDeskLaw_cell : ByteArray := method_7_code
abbrev y_SpectrumDeskLaw_cell : MethodName := ⟨"SpectrumDeskLaw", "cell", "(LSpectrumDesk;II[J)I"⟩
abbrev v_SpectrumDeskLaw_cell : List Cond := Cond.codeWith y_SpectrumDeskLaw_cell b_SpectrumDeskLaw_cell 5 (some .int) [(0, 9, 12, 19), (0, 9, 16, 13)] :: AW
theorem k_SpectrumDeskLaw_cell : Cond.codeWith y_SpectrumDeskLaw_cell b_SpectrumDeskLaw_cell 5 (some .int) [(0, 9, 12, 19), (0, 9, 16, 13)] ∈ AW := aw_4 (List.mem_of_getElem? (i := 135) (by decide +kernel)) (by decide +kernel)
theorem d_SpectrumDeskLaw_cell_0 : decode b_SpectrumDeskLaw_cell 0 = .ok (.aload_n 3, 1) := by decide +kernel
theorem d_SpectrumDeskLaw_cell_1 : decode b_SpectrumDeskLaw_cell 1 = .ok (.iconst 0, 1) := by decide +kernel
theorem d_SpectrumDeskLaw_cell_2 : decode b_SpectrumDeskLaw_cell 2 = .ok (.aload_n 0, 1) := by decide +kernel
theorem d_SpectrumDeskLaw_cell_3 : decode b_SpectrumDeskLaw_cell 3 = .ok (.iload_n 1, 1) := by decide +kernel
theorem d_SpectrumDeskLaw_cell_4 : decode b_SpectrumDeskLaw_cell 4 = .ok (.iload_n 2, 1) := by decide +kernel
theorem d_SpectrumDeskLaw_cell_5 : decode b_SpectrumDeskLaw_cell 5 = .ok (.invokevirtual 29, 3) := by decide +kernel
theorem d_SpectrumDeskLaw_cell_8 : decode b_SpectrumDeskLaw_cell 8 = .ok (.lastore, 1) := by decide +kernel
theorem d_SpectrumDeskLaw_cell_9 : decode b_SpectrumDeskLaw_cell 9 = .ok (.goto (11), 3) := by decide +kernel
theorem d_SpectrumDeskLaw_cell_12 : decode b_SpectrumDeskLaw_cell 12 = .ok (.astore 4, 2) := by decide +kernel
theorem d_SpectrumDeskLaw_cell_14 : decode b_SpectrumDeskLaw_cell 14 = .ok (.iconst 1, 1) := by decide +kernel
theorem d_SpectrumDeskLaw_cell_15 : decode b_SpectrumDeskLaw_cell 15 = .ok (.ireturn, 1) := by decide +kernel
theorem d_SpectrumDeskLaw_cell_16 : decode b_SpectrumDeskLaw_cell 16 = .ok (.astore 4, 2) := by decide +kernel
theorem d_SpectrumDeskLaw_cell_18 : decode b_SpectrumDeskLaw_cell 18 = .ok (.iconst 2, 1) := by decide +kernel
theorem d_SpectrumDeskLaw_cell_19 : decode b_SpectrumDeskLaw_cell 19 = .ok (.ireturn, 1) := by decide +kernel
theorem d_SpectrumDeskLaw_cell_20 : decode b_SpectrumDeskLaw_cell 20 = .ok (.iconst 0, 1) := by decide +kernel
theorem d_SpectrumDeskLaw_cell_21 : decode b_SpectrumDeskLaw_cell 21 = .ok (.ireturn, 1) := by decide +kernel
abbrev b_SpectrumDeskLaw_multiplicity : ByteArray := method_8_code
abbrev y_SpectrumDeskLaw_multiplicity : MethodName := ⟨"SpectrumDeskLaw", "multiplicity", "(LSpectrumDesk;I[J)I"⟩
abbrev v_SpectrumDeskLaw_multiplicity : List Cond := Cond.codeWith y_SpectrumDeskLaw_multiplicity b_SpectrumDeskLaw_multiplicity 4 (some .int) [(0, 9, 12, 19)] :: AW
theorem k_SpectrumDeskLaw_multiplicity : Cond.codeWith y_SpectrumDeskLaw_multiplicity b_SpectrumDeskLaw_multiplicity 4 (some .int) [(0, 9, 12, 19)] ∈ AW := aw_4 (List.mem_of_getElem? (i := 145) (by decide +kernel)) (by decide +kernel)
theorem d_SpectrumDeskLaw_multiplicity_0 : decode b_SpectrumDeskLaw_multiplicity 0 = .ok (.aload_n 2, 1) := by decide +kernel
theorem d_SpectrumDeskLaw_multiplicity_1 : decode b_SpectrumDeskLaw_multiplicity 1 = .ok (.iconst 0, 1) := by decide +kernel
theorem d_SpectrumDeskLaw_multiplicity_2 : decode b_SpectrumDeskLaw_multiplicity 2 = .ok (.aload_n 0, 1) := by decide +kernel
theorem d_SpectrumDeskLaw_multiplicity_3 : decode b_SpectrumDeskLaw_multiplicity 3 = .ok (.iload_n 1, 1) := by decide +kernel
theorem d_SpectrumDeskLaw_multiplicity_4 : decode b_SpectrumDeskLaw_multiplicity 4 = .ok (.invokevirtual 33, 3) := by decide +kernel
theorem d_SpectrumDeskLaw_multiplicity_7 : decode b_SpectrumDeskLaw_multiplicity 7 = .ok (.i2l, 1) := by decide +kernel
theorem d_SpectrumDeskLaw_multiplicity_8 : decode b_SpectrumDeskLaw_multiplicity 8 = .ok (.lastore, 1) := by decide +kernel
theorem d_SpectrumDeskLaw_multiplicity_9 : decode b_SpectrumDeskLaw_multiplicity 9 = .ok (.goto (6), 3) := by decide +kernel
theorem d_SpectrumDeskLaw_multiplicity_12 : decode b_SpectrumDeskLaw_multiplicity 12 = .ok (.astore_n 3, 1) := by decide +kernel
theorem d_SpectrumDeskLaw_multiplicity_13 : decode b_SpectrumDeskLaw_multiplicity 13 = .ok (.iconst 1, 1) := by decide +kernel
theorem d_SpectrumDeskLaw_multiplicity_14 : decode b_SpectrumDeskLaw_multiplicity 14 = .ok (.ireturn, 1) := by decide +kernel
theorem d_SpectrumDeskLaw_multiplicity_15 : decode b_SpectrumDeskLaw_multiplicity 15 = .ok (.iconst 0, 1) := by decide +kernel
theorem d_SpectrumDeskLaw_multiplicity_16 : decode b_SpectrumDeskLaw_multiplicity 16 = .ok (.ireturn, 1) := by decide +kernel
abbrev b_SpectrumDeskLaw_whole : ByteArray := method_9_code
abbrev y_SpectrumDeskLaw_whole : MethodName := ⟨"SpectrumDeskLaw", "whole", "(LSpectrumDesk;I[J)I"⟩
abbrev v_SpectrumDeskLaw_whole : List Cond := Cond.codeWith y_SpectrumDeskLaw_whole b_SpectrumDeskLaw_whole 4 (some .int) [(0, 16, 19, 19)] :: AW
theorem k_SpectrumDeskLaw_whole : Cond.codeWith y_SpectrumDeskLaw_whole b_SpectrumDeskLaw_whole 4 (some .int) [(0, 16, 19, 19)] ∈ AW := aw_4 (List.mem_of_getElem? (i := 163) (by decide +kernel)) (by decide +kernel)
theorem d_SpectrumDeskLaw_whole_0 : decode b_SpectrumDeskLaw_whole 0 = .ok (.aload_n 2, 1) := by decide +kernel
theorem d_SpectrumDeskLaw_whole_1 : decode b_SpectrumDeskLaw_whole 1 = .ok (.iconst 0, 1) := by decide +kernel
theorem d_SpectrumDeskLaw_whole_2 : decode b_SpectrumDeskLaw_whole 2 = .ok (.aload_n 0, 1) := by decide +kernel
theorem d_SpectrumDeskLaw_whole_3 : decode b_SpectrumDeskLaw_whole 3 = .ok (.iload_n 1, 1) := by decide +kernel
theorem d_SpectrumDeskLaw_whole_4 : decode b_SpectrumDeskLaw_whole 4 = .ok (.invokevirtual 37, 3) := by decide +kernel
theorem d_SpectrumDeskLaw_whole_7 : decode b_SpectrumDeskLaw_whole 7 = .ok (.ifCond .eq (7), 3) := by decide +kernel
theorem d_SpectrumDeskLaw_whole_10 : decode b_SpectrumDeskLaw_whole 10 = .ok (.lconst 1, 1) := by decide +kernel
theorem d_SpectrumDeskLaw_whole_11 : decode b_SpectrumDeskLaw_whole 11 = .ok (.goto (4), 3) := by decide +kernel
theorem d_SpectrumDeskLaw_whole_14 : decode b_SpectrumDeskLaw_whole 14 = .ok (.lconst 0, 1) := by decide +kernel
theorem d_SpectrumDeskLaw_whole_15 : decode b_SpectrumDeskLaw_whole 15 = .ok (.lastore, 1) := by decide +kernel
theorem d_SpectrumDeskLaw_whole_16 : decode b_SpectrumDeskLaw_whole 16 = .ok (.goto (6), 3) := by decide +kernel
theorem d_SpectrumDeskLaw_whole_19 : decode b_SpectrumDeskLaw_whole 19 = .ok (.astore_n 3, 1) := by decide +kernel
theorem d_SpectrumDeskLaw_whole_20 : decode b_SpectrumDeskLaw_whole 20 = .ok (.iconst 1, 1) := by decide +kernel
theorem d_SpectrumDeskLaw_whole_21 : decode b_SpectrumDeskLaw_whole 21 = .ok (.ireturn, 1) := by decide +kernel
theorem d_SpectrumDeskLaw_whole_22 : decode b_SpectrumDeskLaw_whole 22 = .ok (.iconst 0, 1) := by decide +kernel
theorem d_SpectrumDeskLaw_whole_23 : decode b_SpectrumDeskLaw_whole 23 = .ok (.ireturn, 1) := by decide +kernel
set_option maxHeartbeats 4000000 in
set_option maxRecDepth 100000 in
theorem c_SpectrumDeskLaw_make_ok {l : Launch} {D : va_G} {cI cJ cZ cC cG cP : ClassId} {N : Nat} {ad : Nat → Nat} {σ : Nat → va_E} {n : Nat} {st : Int32} (hN : N = 193) (hS0 : σ 0 = .inr (ciS, [.ref (ad 1), .ref (ad 8), .ref (ad 9), .ref (ad 18), .ref (ad 179), .int (nI n), .int st])) {A P : Nat → Nat → Int32} {S : Nat → Int32} {rw k9 : Nat} (hA : mat ad cI cG σ 1 2 A) (hU : σ 9 = .inr (ciU, [.ref (ad 10), .ref (ad 11), .int (nI rw)])) (hS : σ 10 = .inl (cI, 6, .inl S)) (hP : mat ad cI cG σ 11 12 P) (h1 : 1 ≤ k9) (h6 : k9 ≤ 6) :
    Met l y_SpectrumDeskLaw_make v_SpectrumDeskLaw_make uR (va_Pc [.ref (ad 0), .int (nI k9)] (uS D classes (xT cI cJ cZ cC cG cP) N ad σ)) (va_Qi (fun r σ2 => r = nI 0 ∧ ∃ (A' P' : Nat → Nat → Int32) (S' : Nat → Int32), (∀ q, q = 8 ∨ 18 ≤ q → σ2 q = σ q) ∧ σ2 0 = .inr (ciS, [.ref (ad 1), .ref (ad 8), .ref (ad 9), .ref (ad 18), .ref (ad 179), .int (nI k9), .int (nI 1)]) ∧ mat ad cI cG σ2 1 2 A' ∧ (∀ i j, i < 6 → j < 6 → A' i j = if i < k9 then nI 0 else A i j) ∧ σ2 9 = .inr (ciU, [.ref (ad 10), .ref (ad 11), .int (nI 0)]) ∧ σ2 10 = .inl (cI, 6, .inl S') ∧ mat ad cI cG σ2 11 12 P' ∧ (∀ i, i < 6 → S' i = nI 0) ∧ ∀ i j, i < 6 → j < 6 → P' i j = nI 0) (uS D classes (xT cI cJ cZ cC cG cP) N ad) (xA N ad)) 1 6 (xA N ad) := by
  refine xu_met rfl (Nat.le_of_ble_eq_true rfl) ?_
  intro p e s m args below meth c ls hx hb X hr hlk htab hT hl I
  have hl : lv_has ls 3 [(0, .ref (ad 0)), (1, .int (nI k9))] := hl
  refine lv_aload_n hx hb d_SpectrumDeskLaw_make_0 rfl (lv_at hl 0 rfl) ?_
  refine lv_iload_n hx hb d_SpectrumDeskLaw_make_1 rfl (lv_at hl 1 rfl) ?_
  refine xr_callv (xt_runV (kc := 2) (n := 1) (As := [.int (nI k9)]) (rest := []) X I (by omega) hS0 rfl (c_SpectrumDesk_make_ok hN hS0 hA hU hS hP h1 h6) (xg k_b3ec70f8c8) (List.mem_cons_of_mem _ k_c81757156a) (List.mem_cons_of_mem _ k_f28eb55fbb) (List.mem_cons_of_mem _ k_38d35582ef) (List.mem_cons_of_mem _ k_6836736ab7) (by decide +kernel) (by decide) rfl hl.1 rfl (Nat.le_of_ble_eq_true rfl) d_SpectrumDeskLaw_make_2) I (fun σ1 H locs hp I => ?_)
  refine lv_goto hx hb d_SpectrumDeskLaw_make_5 rfl ?_
  refine lv_iconst (v := nI 0) hx hb d_SpectrumDeskLaw_make_11 (by decide) ?_
  exact xu_iret X I hT hr hlk (by decide) (by decide) ⟨rfl, hp⟩ d_SpectrumDeskLaw_make_12
set_option maxHeartbeats 4000000 in
set_option maxRecDepth 100000 in
theorem c_SpectrumDeskLaw_make_bad {l : Launch} {D : va_G} {cI cJ cZ cC cG cP : ClassId} {N : Nat} {ad : Nat → Nat} {σ : Nat → va_E} (hfl : l.flags = Jvm.pinnedFlags ++ [Jvm.noTraceFlag]) {n : Nat} {st : Int32} (hN : N = 193) (hS0 : σ 0 = .inr (ciS, [.ref (ad 1), .ref (ad 8), .ref (ad 9), .ref (ad 18), .ref (ad 179), .int (nI n), .int st])) {v : Int32} (hv : v < nI 1 ∨ nI 6 < v) :
    Met l y_SpectrumDeskLaw_make v_SpectrumDeskLaw_make uR (va_Pc [.ref (ad 0), .int v] (uS D classes (xT cI cJ cZ cC cG cP) N ad σ)) (va_Qi (fun r σ2 => r = nI 1 ∧ σ2 = σ) (uS D classes (xT cI cJ cZ cC cG cP) N ad) (xA N ad)) 1 6 (xA N ad) := by
  refine xu_met rfl (Nat.le_of_ble_eq_true rfl) ?_
  intro p e s m args below meth c ls hx hb X hr hlk htab hT hl I
  have hl : lv_has ls 3 [(0, .ref (ad 0)), (1, .int v)] := hl
  refine lv_aload_n hx hb d_SpectrumDeskLaw_make_0 rfl (lv_at hl 0 rfl) ?_
  refine lv_iload_n hx hb d_SpectrumDeskLaw_make_1 rfl (lv_at hl 1 rfl) ?_
  refine xu_catch (n := 1) (As := [.int v]) (rest := []) X I hT (by omega) hS0 rfl (t_SpectrumDesk_make hfl hv) rfl rfl (xg k_b3ec70f8c8) (List.mem_cons_of_mem _ k_c81757156a) (List.mem_cons_of_mem _ k_f28eb55fbb) (List.mem_cons_of_mem _ k_38d35582ef) (List.mem_cons_of_mem _ k_6836736ab7) (by decide +kernel) ⟨by decide, by decide, by decide, by decide⟩ rfl hl.1 rfl (Nat.le_of_ble_eq_true rfl) d_SpectrumDeskLaw_make_2 [] ⟨0, 5, 8, 13⟩ [] htab (fun r hr9 => by cases hr9) (by decide) (by decide) (List.mem_cons_of_mem _ k_eed20bfcf8) (fun a9 H I => ?_)
  refine lv_astore_n (lv' := [(2, .ref a9), (0, .ref (ad 0)), (1, .int v)]) hx hb d_SpectrumDeskLaw_make_8 rfl hl (by decide) rfl (fun ls hl => ?_)
  refine lv_iconst (v := nI 1) hx hb d_SpectrumDeskLaw_make_9 (by decide) ?_
  exact xu_iret X I hT hr hlk (Nat.le_refl _) (Nat.le_refl _) ⟨rfl, rfl⟩ d_SpectrumDeskLaw_make_10
set_option maxHeartbeats 4000000 in
set_option maxRecDepth 100000 in
theorem c_SpectrumDeskLaw_put_bad1 {l : Launch} {D : va_G} {cI cJ cZ cC cG cP : ClassId} {N : Nat} {ad : Nat → Nat} {σ : Nat → va_E} (hfl : l.flags = Jvm.pinnedFlags ++ [Jvm.noTraceFlag]) {n : Nat} {st : Int32} (hN : N = 193) (hS0 : σ 0 = .inr (ciS, [.ref (ad 1), .ref (ad 8), .ref (ad 9), .ref (ad 18), .ref (ad 179), .int (nI n), .int st])) {i j v : Int32} (hi : (i < 0 ∨ nI n ≤ i)) :
    Met l y_SpectrumDeskLaw_put v_SpectrumDeskLaw_put uR (va_Pc [.ref (ad 0), .int i, .int j, .int v] (uS D classes (xT cI cJ cZ cC cG cP) N ad σ)) (va_Qi (fun r σ2 => r = nI 1 ∧ σ2 = σ) (uS D classes (xT cI cJ cZ cC cG cP) N ad) (xA N ad)) 1 6 (xA N ad) := by
  refine xu_met rfl (Nat.le_of_ble_eq_true rfl) ?_
  intro p e s m args below meth c ls hx hb X hr hlk htab hT hl I
  have hl : lv_has ls 5 [(0, .ref (ad 0)), (1, .int i), (2, .int j), (3, .int v)] := hl
  refine lv_aload_n hx hb d_SpectrumDeskLaw_put_0 rfl (lv_at hl 0 rfl) ?_
  refine lv_iload_n hx hb d_SpectrumDeskLaw_put_1 rfl (lv_at hl 1 rfl) ?_
  refine lv_iload_n hx hb d_SpectrumDeskLaw_put_2 rfl (lv_at hl 2 rfl) ?_
  refine lv_iload_n hx hb d_SpectrumDeskLaw_put_3 rfl (lv_at hl 3 rfl) ?_
  refine xu_catch (n := 3) (As := [.int i, .int j, .int v]) (rest := []) X I hT (by omega) hS0 rfl (t_SpectrumDesk_put_1 hfl hN hS0 hi) rfl rfl (xg k_ef988f04f8) (List.mem_cons_of_mem _ k_53dc2a5d19) (List.mem_cons_of_mem _ k_907051f5f4) (List.mem_cons_of_mem _ k_063ca71c10) (List.mem_cons_of_mem _ k_6836736ab7) (by decide +kernel) ⟨by decide, by decide, by decide, by decide⟩ rfl hl.1 rfl (Nat.le_of_ble_eq_true rfl) d_SpectrumDeskLaw_put_4 [] ⟨0, 7, 10, 19⟩ [⟨0, 7, 14, 13⟩] htab (fun r hr9 => by cases hr9) (by decide) (by decide) (List.mem_cons_of_mem _ k_f1bb4a936c) (fun a9 H I => ?_)
  refine lv_astore (lv' := [(4, .ref a9), (0, .ref (ad 0)), (1, .int i), (2, .int j), (3, .int v)]) hx hb d_SpectrumDeskLaw_put_10 hl (by decide) rfl (fun ls hl => ?_)
  refine lv_iconst (v := nI 1) hx hb d_SpectrumDeskLaw_put_12 (by decide) ?_
  exact xu_iret X I hT hr hlk (Nat.le_refl _) (Nat.le_refl _) ⟨rfl, rfl⟩ d_SpectrumDeskLaw_put_13
set_option maxHeartbeats 4000000 in
set_option maxRecDepth 100000 in
theorem c_SpectrumDeskLaw_put_bad2 {l : Launch} {D : va_G} {cI cJ cZ cC cG cP : ClassId} {N : Nat} {ad : Nat → Nat} {σ : Nat → va_E} (hfl : l.flags = Jvm.pinnedFlags ++ [Jvm.noTraceFlag]) {n : Nat} {st : Int32} (hN : N = 193) (hS0 : σ 0 = .inr (ciS, [.ref (ad 1), .ref (ad 8), .ref (ad 9), .ref (ad 18), .ref (ad 179), .int (nI n), .int st])) {i : Nat} {j v : Int32} (hn : n ≤ 6) (hi : i < n) (hj : (j < 0 ∨ nI n ≤ j)) :
    Met l y_SpectrumDeskLaw_put v_SpectrumDeskLaw_put uR (va_Pc [.ref (ad 0), .int (nI i), .int j, .int v] (uS D classes (xT cI cJ cZ cC cG cP) N ad σ)) (va_Qi (fun r σ2 => r = nI 1 ∧ σ2 = σ) (uS D classes (xT cI cJ cZ cC cG cP) N ad) (xA N ad)) 1 6 (xA N ad) := by
  refine xu_met rfl (Nat.le_of_ble_eq_true rfl) ?_
  intro p e s m args below meth c ls hx hb X hr hlk htab hT hl I
  have hl : lv_has ls 5 [(0, .ref (ad 0)), (1, .int (nI i)), (2, .int j), (3, .int v)] := hl
  refine lv_aload_n hx hb d_SpectrumDeskLaw_put_0 rfl (lv_at hl 0 rfl) ?_
  refine lv_iload_n hx hb d_SpectrumDeskLaw_put_1 rfl (lv_at hl 1 rfl) ?_
  refine lv_iload_n hx hb d_SpectrumDeskLaw_put_2 rfl (lv_at hl 2 rfl) ?_
  refine lv_iload_n hx hb d_SpectrumDeskLaw_put_3 rfl (lv_at hl 3 rfl) ?_
  refine xu_catch (n := 3) (As := [.int (nI i), .int j, .int v]) (rest := []) X I hT (by omega) hS0 rfl (t_SpectrumDesk_put_2 hfl hN hS0 hn hi hj) rfl rfl (xg k_ef988f04f8) (List.mem_cons_of_mem _ k_53dc2a5d19) (List.mem_cons_of_mem _ k_907051f5f4) (List.mem_cons_of_mem _ k_063ca71c10) (List.mem_cons_of_mem _ k_6836736ab7) (by decide +kernel) ⟨by decide, by decide, by decide, by decide⟩ rfl hl.1 rfl (Nat.le_of_ble_eq_true rfl) d_SpectrumDeskLaw_put_4 [] ⟨0, 7, 10, 19⟩ [⟨0, 7, 14, 13⟩] htab (fun r hr9 => by cases hr9) (by decide) (by decide) (List.mem_cons_of_mem _ k_f1bb4a936c) (fun a9 H I => ?_)
  refine lv_astore (lv' := [(4, .ref a9), (0, .ref (ad 0)), (1, .int (nI i)), (2, .int j), (3, .int v)]) hx hb d_SpectrumDeskLaw_put_10 hl (by decide) rfl (fun ls hl => ?_)
  refine lv_iconst (v := nI 1) hx hb d_SpectrumDeskLaw_put_12 (by decide) ?_
  exact xu_iret X I hT hr hlk (Nat.le_refl _) (Nat.le_refl _) ⟨rfl, rfl⟩ d_SpectrumDeskLaw_put_13
set_option maxHeartbeats 4000000 in
set_option maxRecDepth 100000 in
theorem c_SpectrumDeskLaw_put_bad3 {l : Launch} {D : va_G} {cI cJ cZ cC cG cP : ClassId} {N : Nat} {ad : Nat → Nat} {σ : Nat → va_E} (hfl : l.flags = Jvm.pinnedFlags ++ [Jvm.noTraceFlag]) {n : Nat} {st : Int32} (hN : N = 193) (hS0 : σ 0 = .inr (ciS, [.ref (ad 1), .ref (ad 8), .ref (ad 9), .ref (ad 18), .ref (ad 179), .int (nI n), .int st])) {i j : Nat} {v : Int32} (hn : n ≤ 6) (hi : i < n) (hj : j < n) (hv : v.toInt > 1000000 ∨ v.toInt < -1000000) :
    Met l y_SpectrumDeskLaw_put v_SpectrumDeskLaw_put uR (va_Pc [.ref (ad 0), .int (nI i), .int (nI j), .int v] (uS D classes (xT cI cJ cZ cC cG cP) N ad σ)) (va_Qi (fun r σ2 => r = nI 2 ∧ σ2 = σ) (uS D classes (xT cI cJ cZ cC cG cP) N ad) (xA N ad)) 1 6 (xA N ad) := by
  refine xu_met rfl (Nat.le_of_ble_eq_true rfl) ?_
  intro p e s m args below meth c ls hx hb X hr hlk htab hT hl I
  have hl : lv_has ls 5 [(0, .ref (ad 0)), (1, .int (nI i)), (2, .int (nI j)), (3, .int v)] := hl
  refine lv_aload_n hx hb d_SpectrumDeskLaw_put_0 rfl (lv_at hl 0 rfl) ?_
  refine lv_iload_n hx hb d_SpectrumDeskLaw_put_1 rfl (lv_at hl 1 rfl) ?_
  refine lv_iload_n hx hb d_SpectrumDeskLaw_put_2 rfl (lv_at hl 2 rfl) ?_
  refine lv_iload_n hx hb d_SpectrumDeskLaw_put_3 rfl (lv_at hl 3 rfl) ?_
  refine xu_catch (n := 3) (As := [.int (nI i), .int (nI j), .int v]) (rest := []) X I hT (by omega) hS0 rfl (t_SpectrumDesk_put_3 hfl hN hS0 hn hi hj hv) rfl rfl (xg k_ef988f04f8) (List.mem_cons_of_mem _ k_53dc2a5d19) (List.mem_cons_of_mem _ k_907051f5f4) (List.mem_cons_of_mem _ k_063ca71c10) (List.mem_cons_of_mem _ k_6836736ab7) (by decide +kernel) ⟨by decide, by decide, by decide, by decide⟩ rfl hl.1 rfl (Nat.le_of_ble_eq_true rfl) d_SpectrumDeskLaw_put_4 [⟨0, 7, 10, 19⟩] ⟨0, 7, 14, 13⟩ [] htab (fun r hr9 => by rw [List.mem_singleton] at hr9; rw [hr9]; exact ⟨by decide, xt_I, (List.mem_cons_of_mem _ k_f1bb4a936c), hT.2.2.2.2.2.2.2.2⟩) (by decide) (by decide) (List.mem_cons_of_mem _ k_eed20bfcf8) (fun a9 H I => ?_)
  refine lv_astore (lv' := [(4, .ref a9), (0, .ref (ad 0)), (1, .int (nI i)), (2, .int (nI j)), (3, .int v)]) hx hb d_SpectrumDeskLaw_put_14 hl (by decide) rfl (fun ls hl => ?_)
  refine lv_iconst (v := nI 2) hx hb d_SpectrumDeskLaw_put_16 (by decide) ?_
  exact xu_iret X I hT hr hlk (Nat.le_refl _) (Nat.le_refl _) ⟨rfl, rfl⟩ d_SpectrumDeskLaw_put_17
set_option maxHeartbeats 4000000 in
set_option maxRecDepth 100000 in
theorem c_SpectrumDeskLaw_at_bad1 {l : Launch} {D : va_G} {cI cJ cZ cC cG cP : ClassId} {N : Nat} {ad : Nat → Nat} {σ : Nat → va_E} (hfl : l.flags = Jvm.pinnedFlags ++ [Jvm.noTraceFlag]) {n : Nat} {st : Int32} (hN : N = 193) (hS0 : σ 0 = .inr (ciS, [.ref (ad 1), .ref (ad 8), .ref (ad 9), .ref (ad 18), .ref (ad 179), .int (nI n), .int st])) {i j : Int32} (hi : (i < 0 ∨ nI n ≤ i)) :
    Met l y_SpectrumDeskLaw_at v_SpectrumDeskLaw_at uR (va_Pc [.ref (ad 0), .int i, .int j, .ref (ad 192)] (uS D classes (xT cI cJ cZ cC cG cP) N ad σ)) (va_Qi (fun r σ2 => r = nI 1 ∧ σ2 = σ) (uS D classes (xT cI cJ cZ cC cG cP) N ad) (xA N ad)) 1 6 (xA N ad) := by
  refine xu_met rfl (Nat.le_of_ble_eq_true rfl) ?_
  intro p e s m args below meth c ls hx hb X hr hlk htab hT hl I
  have hl : lv_has ls 5 [(0, .ref (ad 0)), (1, .int i), (2, .int j), (3, .ref (ad 192))] := hl
  refine lv_aload_n hx hb d_SpectrumDeskLaw_at_0 rfl (lv_at hl 3 rfl) ?_
  refine lv_iconst (v := nI 0) hx hb d_SpectrumDeskLaw_at_1 (by decide) ?_
  refine lv_aload_n hx hb d_SpectrumDeskLaw_at_2 rfl (lv_at hl 0 rfl) ?_
  refine lv_iload_n hx hb d_SpectrumDeskLaw_at_3 rfl (lv_at hl 1 rfl) ?_
  refine lv_iload_n hx hb d_SpectrumDeskLaw_at_4 rfl (lv_at hl 2 rfl) ?_
  refine xu_catch (n := 2) (As := [.int i, .int j]) (rest := [.int (nI 0), .ref (ad 192)]) X I hT (by omega) hS0 rfl (t_SpectrumDesk_at_1 hfl hN hS0 hi) rfl rfl (xg k_366308e1c8) (List.mem_cons_of_mem _ k_777cd66aa1) (List.mem_cons_of_mem _ k_32ac9011f2) (List.mem_cons_of_mem _ k_7ae7ef694e) (List.mem_cons_of_mem _ k_6836736ab7) (by decide +kernel) ⟨by decide, by decide, by decide, by decide⟩ rfl hl.1 rfl (Nat.le_of_ble_eq_true rfl) d_SpectrumDeskLaw_at_5 [] ⟨0, 10, 13, 19⟩ [] htab (fun r hr9 => by cases hr9) (by decide) (by decide) (List.mem_cons_of_mem _ k_f1bb4a936c) (fun a9 H I => ?_)
  refine lv_astore (lv' := [(4, .ref a9), (0, .ref (ad 0)), (1, .int i), (2, .int j), (3, .ref (ad 192))]) hx hb d_SpectrumDeskLaw_at_13 hl (by decide) rfl (fun ls hl => ?_)
  refine lv_iconst (v := nI 1) hx hb d_SpectrumDeskLaw_at_15 (by decide) ?_
  exact xu_iret X I hT hr hlk (Nat.le_refl _) (Nat.le_refl _) ⟨rfl, rfl⟩ d_SpectrumDeskLaw_at_16
set_option maxHeartbeats 4000000 in
set_option maxRecDepth 100000 in
theorem c_SpectrumDeskLaw_at_bad2 {l : Launch} {D : va_G} {cI cJ cZ cC cG cP : ClassId} {N : Nat} {ad : Nat → Nat} {σ : Nat → va_E} (hfl : l.flags = Jvm.pinnedFlags ++ [Jvm.noTraceFlag]) {n : Nat} {st : Int32} (hN : N = 193) (hS0 : σ 0 = .inr (ciS, [.ref (ad 1), .ref (ad 8), .ref (ad 9), .ref (ad 18), .ref (ad 179), .int (nI n), .int st])) {i : Nat} {j : Int32} (hn : n ≤ 6) (hi : i < n) (hj : (j < 0 ∨ nI n ≤ j)) :
    Met l y_SpectrumDeskLaw_at v_SpectrumDeskLaw_at uR (va_Pc [.ref (ad 0), .int (nI i), .int j, .ref (ad 192)] (uS D classes (xT cI cJ cZ cC cG cP) N ad σ)) (va_Qi (fun r σ2 => r = nI 1 ∧ σ2 = σ) (uS D classes (xT cI cJ cZ cC cG cP) N ad) (xA N ad)) 1 6 (xA N ad) := by
  refine xu_met rfl (Nat.le_of_ble_eq_true rfl) ?_
  intro p e s m args below meth c ls hx hb X hr hlk htab hT hl I
  have hl : lv_has ls 5 [(0, .ref (ad 0)), (1, .int (nI i)), (2, .int j), (3, .ref (ad 192))] := hl
  refine lv_aload_n hx hb d_SpectrumDeskLaw_at_0 rfl (lv_at hl 3 rfl) ?_
  refine lv_iconst (v := nI 0) hx hb d_SpectrumDeskLaw_at_1 (by decide) ?_
  refine lv_aload_n hx hb d_SpectrumDeskLaw_at_2 rfl (lv_at hl 0 rfl) ?_
  refine lv_iload_n hx hb d_SpectrumDeskLaw_at_3 rfl (lv_at hl 1 rfl) ?_
  refine lv_iload_n hx hb d_SpectrumDeskLaw_at_4 rfl (lv_at hl 2 rfl) ?_
  refine xu_catch (n := 2) (As := [.int (nI i), .int j]) (rest := [.int (nI 0), .ref (ad 192)]) X I hT (by omega) hS0 rfl (t_SpectrumDesk_at_2 hfl hN hS0 hn hi hj) rfl rfl (xg k_366308e1c8) (List.mem_cons_of_mem _ k_777cd66aa1) (List.mem_cons_of_mem _ k_32ac9011f2) (List.mem_cons_of_mem _ k_7ae7ef694e) (List.mem_cons_of_mem _ k_6836736ab7) (by decide +kernel) ⟨by decide, by decide, by decide, by decide⟩ rfl hl.1 rfl (Nat.le_of_ble_eq_true rfl) d_SpectrumDeskLaw_at_5 [] ⟨0, 10, 13, 19⟩ [] htab (fun r hr9 => by cases hr9) (by decide) (by decide) (List.mem_cons_of_mem _ k_f1bb4a936c) (fun a9 H I => ?_)
  refine lv_astore (lv' := [(4, .ref a9), (0, .ref (ad 0)), (1, .int (nI i)), (2, .int j), (3, .ref (ad 192))]) hx hb d_SpectrumDeskLaw_at_13 hl (by decide) rfl (fun ls hl => ?_)
  refine lv_iconst (v := nI 1) hx hb d_SpectrumDeskLaw_at_15 (by decide) ?_
  exact xu_iret X I hT hr hlk (Nat.le_refl _) (Nat.le_refl _) ⟨rfl, rfl⟩ d_SpectrumDeskLaw_at_16
set_option maxHeartbeats 4000000 in
set_option maxRecDepth 100000 in
theorem c_SpectrumDeskLaw_count_bad {l : Launch} {D : va_G} {cI cJ cZ cC cG cP : ClassId} {N : Nat} {ad : Nat → Nat} {σ : Nat → va_E} (hfl : l.flags = Jvm.pinnedFlags ++ [Jvm.noTraceFlag]) {n : Nat} {st : Int32} (hN : N = 193) (hS0 : σ 0 = .inr (ciS, [.ref (ad 1), .ref (ad 8), .ref (ad 9), .ref (ad 18), .ref (ad 179), .int (nI n), .int st])) {k9 wy : Int32} {tp bt : Int64} (hbad : k9 < nI 1 ∨ nI n < k9 ∨ wy < 0 ∨ nI 2 < wy ∨ ¬ 0 < bt) :
    Met l y_SpectrumDeskLaw_count v_SpectrumDeskLaw_count uR (va_Pc [.ref (ad 0), .int k9, .long tp, .long bt, .int wy, .ref (ad 192)] (uS D classes (xT cI cJ cZ cC cG cP) N ad σ)) (va_Qi (fun r σ2 => r = nI 1 ∧ σ2 = σ) (uS D classes (xT cI cJ cZ cC cG cP) N ad) (xA N ad)) 1 6 (xA N ad) := by
  refine xu_met rfl (Nat.le_of_ble_eq_true rfl) ?_
  intro p e s m args below meth c ls hx hb X hr hlk htab hT hl I
  have hl : lv_has ls 9 [(0, .ref (ad 0)), (1, .int k9), (2, .long tp), (4, .long bt), (6, .int wy), (7, .ref (ad 192))] := hl
  refine lv_aload hx hb d_SpectrumDeskLaw_count_0 (lv_at hl 5 rfl) ?_
  refine lv_iconst (v := nI 0) hx hb d_SpectrumDeskLaw_count_2 (by decide) ?_
  refine lv_aload_n hx hb d_SpectrumDeskLaw_count_3 rfl (lv_at hl 0 rfl) ?_
  refine lv_iload_n hx hb d_SpectrumDeskLaw_count_4 rfl (lv_at hl 1 rfl) ?_
  refine lv_lload_n hx hb d_SpectrumDeskLaw_count_5 rfl (lv_at hl 2 rfl) ?_
  refine lv_lload hx hb d_SpectrumDeskLaw_count_6 (lv_at hl 3 rfl) ?_
  refine lv_iload hx hb d_SpectrumDeskLaw_count_8 (lv_at hl 4 rfl) ?_
  refine xu_catch (n := 4) (As := [.int k9, .long tp, .long bt, .int wy]) (rest := [.int (nI 0), .ref (ad 192)]) X I hT (by omega) hS0 rfl (t_SpectrumDesk_count hfl hN hS0 hbad) rfl rfl (xg k_67671de29f) (List.mem_cons_of_mem _ k_82618050f6) (List.mem_cons_of_mem _ k_fb87d44909) (List.mem_cons_of_mem _ k_90c619da39) (List.mem_cons_of_mem _ k_6836736ab7) (by decide +kernel) ⟨by decide, by decide, by decide, by decide⟩ rfl hl.1 rfl (Nat.le_of_ble_eq_true rfl) d_SpectrumDeskLaw_count_10 [] ⟨0, 15, 18, 13⟩ [] htab (fun r hr9 => by cases hr9) (by decide) (by decide) (List.mem_cons_of_mem _ k_eed20bfcf8) (fun a9 H I => ?_)
  refine lv_astore (lv' := [(8, .ref a9), (0, .ref (ad 0)), (1, .int k9), (2, .long tp), (4, .long bt), (6, .int wy), (7, .ref (ad 192))]) hx hb d_SpectrumDeskLaw_count_18 hl (by decide) rfl (fun ls hl => ?_)
  refine lv_iconst (v := nI 1) hx hb d_SpectrumDeskLaw_count_20 (by decide) ?_
  exact xu_iret X I hT hr hlk (Nat.le_refl _) (Nat.le_refl _) ⟨rfl, rfl⟩ d_SpectrumDeskLaw_count_21
set_option maxHeartbeats 4000000 in
set_option maxRecDepth 100000 in
theorem c_SpectrumDeskLaw_cell_bad1 {l : Launch} {D : va_G} {cI cJ cZ cC cG cP : ClassId} {N : Nat} {ad : Nat → Nat} {σ : Nat → va_E} (hfl : l.flags = Jvm.pinnedFlags ++ [Jvm.noTraceFlag]) {n : Nat} {st : Int32} (hN : N = 193) (hS0 : σ 0 = .inr (ciS, [.ref (ad 1), .ref (ad 8), .ref (ad 9), .ref (ad 18), .ref (ad 179), .int (nI n), .int st])) {i w9 : Int32} (hi : (i < 0 ∨ nI n ≤ i)) :
    Met l y_SpectrumDeskLaw_cell v_SpectrumDeskLaw_cell uR (va_Pc [.ref (ad 0), .int i, .int w9, .ref (ad 192)] (uS D classes (xT cI cJ cZ cC cG cP) N ad σ)) (va_Qi (fun r σ2 => r = nI 1 ∧ σ2 = σ) (uS D classes (xT cI cJ cZ cC cG cP) N ad) (xA N ad)) 1 6 (xA N ad) := by
  refine xu_met rfl (Nat.le_of_ble_eq_true rfl) ?_
  intro p e s m args below meth c ls hx hb X hr hlk htab hT hl I
  have hl : lv_has ls 5 [(0, .ref (ad 0)), (1, .int i), (2, .int w9), (3, .ref (ad 192))] := hl
  refine lv_aload_n hx hb d_SpectrumDeskLaw_cell_0 rfl (lv_at hl 3 rfl) ?_
  refine lv_iconst (v := nI 0) hx hb d_SpectrumDeskLaw_cell_1 (by decide) ?_
  refine lv_aload_n hx hb d_SpectrumDeskLaw_cell_2 rfl (lv_at hl 0 rfl) ?_
  refine lv_iload_n hx hb d_SpectrumDeskLaw_cell_3 rfl (lv_at hl 1 rfl) ?_
  refine lv_iload_n hx hb d_SpectrumDeskLaw_cell_4 rfl (lv_at hl 2 rfl) ?_
  refine xu_catch (n := 2) (As := [.int i, .int w9]) (rest := [.int (nI 0), .ref (ad 192)]) X I hT (by omega) hS0 rfl (t_SpectrumDesk_cell hfl hN hS0 hi) rfl rfl (xg k_8c8e09c5aa) (List.mem_cons_of_mem _ k_b1820bd929) (List.mem_cons_of_mem _ k_1f6ee19ff0) (List.mem_cons_of_mem _ k_447c57d56a) (List.mem_cons_of_mem _ k_6836736ab7) (by decide +kernel) ⟨by decide, by decide, by decide, by decide⟩ rfl hl.1 rfl (Nat.le_of_ble_eq_true rfl) d_SpectrumDeskLaw_cell_5 [] ⟨0, 9, 12, 19⟩ [⟨0, 9, 16, 13⟩] htab (fun r hr9 => by cases hr9) (by decide) (by decide) (List.mem_cons_of_mem _ k_f1bb4a936c) (fun a9 H I => ?_)
  refine lv_astore (lv' := [(4, .ref a9), (0, .ref (ad 0)), (1, .int i), (2, .int w9), (3, .ref (ad 192))]) hx hb d_SpectrumDeskLaw_cell_12 hl (by decide) rfl (fun ls hl => ?_)
  refine lv_iconst (v := nI 1) hx hb d_SpectrumDeskLaw_cell_14 (by decide) ?_
  exact xu_iret X I hT hr hlk (Nat.le_refl _) (Nat.le_refl _) ⟨rfl, rfl⟩ d_SpectrumDeskLaw_cell_15
set_option maxHeartbeats 4000000 in
set_option maxRecDepth 100000 in
theorem c_SpectrumDeskLaw_cell_bad2 {l : Launch} {D : va_G} {cI cJ cZ cC cG cP : ClassId} {N : Nat} {ad : Nat → Nat} {σ : Nat → va_E} (hfl : l.flags = Jvm.pinnedFlags ++ [Jvm.noTraceFlag]) {n : Nat} {st : Int32} (hN : N = 193) (hS0 : σ 0 = .inr (ciS, [.ref (ad 1), .ref (ad 8), .ref (ad 9), .ref (ad 18), .ref (ad 179), .int (nI n), .int st])) {i : Nat} {w9 : Int32} (hn : n ≤ 6) (hi : i < n) (hw : w9 < 0 ∨ nI 30 < w9) :
    Met l y_SpectrumDeskLaw_cell v_SpectrumDeskLaw_cell uR (va_Pc [.ref (ad 0), .int (nI i), .int w9, .ref (ad 192)] (uS D classes (xT cI cJ cZ cC cG cP) N ad σ)) (va_Qi (fun r σ2 => r = nI 2 ∧ σ2 = σ) (uS D classes (xT cI cJ cZ cC cG cP) N ad) (xA N ad)) 1 6 (xA N ad) := by
  refine xu_met rfl (Nat.le_of_ble_eq_true rfl) ?_
  intro p e s m args below meth c ls hx hb X hr hlk htab hT hl I
  have hl : lv_has ls 5 [(0, .ref (ad 0)), (1, .int (nI i)), (2, .int w9), (3, .ref (ad 192))] := hl
  refine lv_aload_n hx hb d_SpectrumDeskLaw_cell_0 rfl (lv_at hl 3 rfl) ?_
  refine lv_iconst (v := nI 0) hx hb d_SpectrumDeskLaw_cell_1 (by decide) ?_
  refine lv_aload_n hx hb d_SpectrumDeskLaw_cell_2 rfl (lv_at hl 0 rfl) ?_
  refine lv_iload_n hx hb d_SpectrumDeskLaw_cell_3 rfl (lv_at hl 1 rfl) ?_
  refine lv_iload_n hx hb d_SpectrumDeskLaw_cell_4 rfl (lv_at hl 2 rfl) ?_
  refine xu_catch (n := 2) (As := [.int (nI i), .int w9]) (rest := [.int (nI 0), .ref (ad 192)]) X I hT (by omega) hS0 rfl (t_SpectrumDesk_cell_2 hfl hN hS0 hn hi hw) rfl rfl (xg k_8c8e09c5aa) (List.mem_cons_of_mem _ k_b1820bd929) (List.mem_cons_of_mem _ k_1f6ee19ff0) (List.mem_cons_of_mem _ k_447c57d56a) (List.mem_cons_of_mem _ k_6836736ab7) (by decide +kernel) ⟨by decide, by decide, by decide, by decide⟩ rfl hl.1 rfl (Nat.le_of_ble_eq_true rfl) d_SpectrumDeskLaw_cell_5 [⟨0, 9, 12, 19⟩] ⟨0, 9, 16, 13⟩ [] htab (fun r hr9 => by rw [List.mem_singleton] at hr9; rw [hr9]; exact ⟨by decide, xt_I, (List.mem_cons_of_mem _ k_f1bb4a936c), hT.2.2.2.2.2.2.2.2⟩) (by decide) (by decide) (List.mem_cons_of_mem _ k_eed20bfcf8) (fun a9 H I => ?_)
  refine lv_astore (lv' := [(4, .ref a9), (0, .ref (ad 0)), (1, .int (nI i)), (2, .int w9), (3, .ref (ad 192))]) hx hb d_SpectrumDeskLaw_cell_16 hl (by decide) rfl (fun ls hl => ?_)
  refine lv_iconst (v := nI 2) hx hb d_SpectrumDeskLaw_cell_18 (by decide) ?_
  exact xu_iret X I hT hr hlk (Nat.le_refl _) (Nat.le_refl _) ⟨rfl, rfl⟩ d_SpectrumDeskLaw_cell_19
set_option maxHeartbeats 4000000 in
set_option maxRecDepth 100000 in
theorem c_SpectrumDeskLaw_multiplicity_bad {l : Launch} {D : va_G} {cI cJ cZ cC cG cP : ClassId} {N : Nat} {ad : Nat → Nat} {σ : Nat → va_E} (hfl : l.flags = Jvm.pinnedFlags ++ [Jvm.noTraceFlag]) {n : Nat} {st : Int32} (hN : N = 193) (hS0 : σ 0 = .inr (ciS, [.ref (ad 1), .ref (ad 8), .ref (ad 9), .ref (ad 18), .ref (ad 179), .int (nI n), .int st])) {i : Int32} (hi : (i < 0 ∨ nI n ≤ i)) :
    Met l y_SpectrumDeskLaw_multiplicity v_SpectrumDeskLaw_multiplicity uR (va_Pc [.ref (ad 0), .int i, .ref (ad 192)] (uS D classes (xT cI cJ cZ cC cG cP) N ad σ)) (va_Qi (fun r σ2 => r = nI 1 ∧ σ2 = σ) (uS D classes (xT cI cJ cZ cC cG cP) N ad) (xA N ad)) 1 6 (xA N ad) := by
  refine xu_met rfl (Nat.le_of_ble_eq_true rfl) ?_
  intro p e s m args below meth c ls hx hb X hr hlk htab hT hl I
  have hl : lv_has ls 4 [(0, .ref (ad 0)), (1, .int i), (2, .ref (ad 192))] := hl
  refine lv_aload_n hx hb d_SpectrumDeskLaw_multiplicity_0 rfl (lv_at hl 2 rfl) ?_
  refine lv_iconst (v := nI 0) hx hb d_SpectrumDeskLaw_multiplicity_1 (by decide) ?_
  refine lv_aload_n hx hb d_SpectrumDeskLaw_multiplicity_2 rfl (lv_at hl 0 rfl) ?_
  refine lv_iload_n hx hb d_SpectrumDeskLaw_multiplicity_3 rfl (lv_at hl 1 rfl) ?_
  refine xu_catch (n := 1) (As := [.int i]) (rest := [.int (nI 0), .ref (ad 192)]) X I hT (by omega) hS0 rfl (t_SpectrumDesk_multiplicity hfl hN hS0 hi) rfl rfl (xg k_149da778ce) (List.mem_cons_of_mem _ k_45d2d7441a) (List.mem_cons_of_mem _ k_918e32c679) (List.mem_cons_of_mem _ k_34439ee148) (List.mem_cons_of_mem _ k_6836736ab7) (by decide +kernel) ⟨by decide, by decide, by decide, by decide⟩ rfl hl.1 rfl (Nat.le_of_ble_eq_true rfl) d_SpectrumDeskLaw_multiplicity_4 [] ⟨0, 9, 12, 19⟩ [] htab (fun r hr9 => by cases hr9) (by decide) (by decide) (List.mem_cons_of_mem _ k_f1bb4a936c) (fun a9 H I => ?_)
  refine lv_astore_n (lv' := [(3, .ref a9), (0, .ref (ad 0)), (1, .int i), (2, .ref (ad 192))]) hx hb d_SpectrumDeskLaw_multiplicity_12 rfl hl (by decide) rfl (fun ls hl => ?_)
  refine lv_iconst (v := nI 1) hx hb d_SpectrumDeskLaw_multiplicity_13 (by decide) ?_
  exact xu_iret X I hT hr hlk (Nat.le_refl _) (Nat.le_refl _) ⟨rfl, rfl⟩ d_SpectrumDeskLaw_multiplicity_14
set_option maxHeartbeats 4000000 in
set_option maxRecDepth 100000 in
theorem c_SpectrumDeskLaw_whole_bad {l : Launch} {D : va_G} {cI cJ cZ cC cG cP : ClassId} {N : Nat} {ad : Nat → Nat} {σ : Nat → va_E} (hfl : l.flags = Jvm.pinnedFlags ++ [Jvm.noTraceFlag]) {n : Nat} {st : Int32} (hN : N = 193) (hS0 : σ 0 = .inr (ciS, [.ref (ad 1), .ref (ad 8), .ref (ad 9), .ref (ad 18), .ref (ad 179), .int (nI n), .int st])) {i : Int32} (hi : (i < 0 ∨ nI n ≤ i)) :
    Met l y_SpectrumDeskLaw_whole v_SpectrumDeskLaw_whole uR (va_Pc [.ref (ad 0), .int i, .ref (ad 192)] (uS D classes (xT cI cJ cZ cC cG cP) N ad σ)) (va_Qi (fun r σ2 => r = nI 1 ∧ σ2 = σ) (uS D classes (xT cI cJ cZ cC cG cP) N ad) (xA N ad)) 1 6 (xA N ad) := by
  refine xu_met rfl (Nat.le_of_ble_eq_true rfl) ?_
  intro p e s m args below meth c ls hx hb X hr hlk htab hT hl I
  have hl : lv_has ls 4 [(0, .ref (ad 0)), (1, .int i), (2, .ref (ad 192))] := hl
  refine lv_aload_n hx hb d_SpectrumDeskLaw_whole_0 rfl (lv_at hl 2 rfl) ?_
  refine lv_iconst (v := nI 0) hx hb d_SpectrumDeskLaw_whole_1 (by decide) ?_
  refine lv_aload_n hx hb d_SpectrumDeskLaw_whole_2 rfl (lv_at hl 0 rfl) ?_
  refine lv_iload_n hx hb d_SpectrumDeskLaw_whole_3 rfl (lv_at hl 1 rfl) ?_
  refine xu_catch (n := 1) (As := [.int i]) (rest := [.int (nI 0), .ref (ad 192)]) X I hT (by omega) hS0 rfl (t_SpectrumDesk_whole hfl hN hS0 hi) rfl rfl (xg k_3e457abe36) (List.mem_cons_of_mem _ k_d4ddcee6c5) (List.mem_cons_of_mem _ k_483b258309) (List.mem_cons_of_mem _ k_cc35f0af79) (List.mem_cons_of_mem _ k_6836736ab7) (by decide +kernel) ⟨by decide, by decide, by decide, by decide⟩ rfl hl.1 rfl (Nat.le_of_ble_eq_true rfl) d_SpectrumDeskLaw_whole_4 [] ⟨0, 16, 19, 19⟩ [] htab (fun r hr9 => by cases hr9) (by decide) (by decide) (List.mem_cons_of_mem _ k_f1bb4a936c) (fun a9 H I => ?_)
  refine lv_astore_n (lv' := [(3, .ref a9), (0, .ref (ad 0)), (1, .int i), (2, .ref (ad 192))]) hx hb d_SpectrumDeskLaw_whole_19 rfl hl (by decide) rfl (fun ls hl => ?_)
  refine lv_iconst (v := nI 1) hx hb d_SpectrumDeskLaw_whole_20 (by decide) ?_
  exact xu_iret X I hT hr hlk (Nat.le_refl _) (Nat.le_refl _) ⟨rfl, rfl⟩ d_SpectrumDeskLaw_whole_21
