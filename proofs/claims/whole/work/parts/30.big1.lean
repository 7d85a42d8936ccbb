/-! the reference: bigSign, bigAt, bigTrim, bigSet, bigCopy (written by wip/gen) -/
abbrev b_SpectrumDeskModel_bigSign : ByteArray := prog_10_method_4_code
abbrev y_SpectrumDeskModel_bigSign : MethodName := ⟨"SpectrumDeskModel", "bigSign", "(I)I"⟩
abbrev v_SpectrumDeskModel_bigSign : List Cond := Cond.code y_SpectrumDeskModel_bigSign b_SpectrumDeskModel_bigSign 2 (some .int) :: AW
theorem d_SpectrumDeskModel_bigSign_0 : decode b_SpectrumDeskModel_bigSign 0 = .ok (.aload_n 0, 1) := by decide +kernel
theorem d_SpectrumDeskModel_bigSign_1 : decode b_SpectrumDeskModel_bigSign 1 = .ok (.getfield 13, 3) := by decide +kernel
theorem d_SpectrumDeskModel_bigSign_4 : decode b_SpectrumDeskModel_bigSign 4 = .ok (.iload_n 1, 1) := by decide +kernel
theorem d_SpectrumDeskModel_bigSign_5 : decode b_SpectrumDeskModel_bigSign 5 = .ok (.iaload, 1) := by decide +kernel
theorem d_SpectrumDeskModel_bigSign_6 : decode b_SpectrumDeskModel_bigSign 6 = .ok (.ifCond .ne (7), 3) := by decide +kernel
theorem d_SpectrumDeskModel_bigSign_9 : decode b_SpectrumDeskModel_bigSign 9 = .ok (.iconst 0, 1) := by decide +kernel
theorem d_SpectrumDeskModel_bigSign_10 : decode b_SpectrumDeskModel_bigSign 10 = .ok (.goto (17), 3) := by decide +kernel
theorem d_SpectrumDeskModel_bigSign_13 : decode b_SpectrumDeskModel_bigSign 13 = .ok (.aload_n 0, 1) := by decide +kernel
theorem d_SpectrumDeskModel_bigSign_14 : decode b_SpectrumDeskModel_bigSign 14 = .ok (.getfield 1, 3) := by decide +kernel
theorem d_SpectrumDeskModel_bigSign_17 : decode b_SpectrumDeskModel_bigSign 17 = .ok (.iload_n 1, 1) := by decide +kernel
theorem d_SpectrumDeskModel_bigSign_18 : decode b_SpectrumDeskModel_bigSign 18 = .ok (.baload, 1) := by decide +kernel
theorem d_SpectrumDeskModel_bigSign_19 : decode b_SpectrumDeskModel_bigSign 19 = .ok (.ifCond .eq (7), 3) := by decide +kernel
theorem d_SpectrumDeskModel_bigSign_22 : decode b_SpectrumDeskModel_bigSign 22 = .ok (.iconst (-1), 1) := by decide +kernel
theorem d_SpectrumDeskModel_bigSign_23 : decode b_SpectrumDeskModel_bigSign 23 = .ok (.goto (4), 3) := by decide +kernel
theorem d_SpectrumDeskModel_bigSign_26 : decode b_SpectrumDeskModel_bigSign 26 = .ok (.iconst 1, 1) := by decide +kernel
theorem d_SpectrumDeskModel_bigSign_27 : decode b_SpectrumDeskModel_bigSign 27 = .ok (.ireturn, 1) := by decide +kernel
abbrev b_SpectrumDeskModel_bigAt : ByteArray := prog_10_method_6_code
abbrev y_SpectrumDeskModel_bigAt : MethodName := ⟨"SpectrumDeskModel", "bigAt", "(II)I"⟩
abbrev v_SpectrumDeskModel_bigAt : List Cond := Cond.code y_SpectrumDeskModel_bigAt b_SpectrumDeskModel_bigAt 3 (some .int) :: AW
theorem d_SpectrumDeskModel_bigAt_0 : decode b_SpectrumDeskModel_bigAt 0 = .ok (.iload_n 2, 1) := by decide +kernel
theorem d_SpectrumDeskModel_bigAt_1 : decode b_SpectrumDeskModel_bigAt 1 = .ok (.aload_n 0, 1) := by decide +kernel
theorem d_SpectrumDeskModel_bigAt_2 : decode b_SpectrumDeskModel_bigAt 2 = .ok (.getfield 13, 3) := by decide +kernel
theorem d_SpectrumDeskModel_bigAt_5 : decode b_SpectrumDeskModel_bigAt 5 = .ok (.iload_n 1, 1) := by decide +kernel
theorem d_SpectrumDeskModel_bigAt_6 : decode b_SpectrumDeskModel_bigAt 6 = .ok (.iaload, 1) := by decide +kernel
theorem d_SpectrumDeskModel_bigAt_7 : decode b_SpectrumDeskModel_bigAt 7 = .ok (.if_icmp .ge (18), 3) := by decide +kernel
theorem d_SpectrumDeskModel_bigAt_10 : decode b_SpectrumDeskModel_bigAt 10 = .ok (.aload_n 0, 1) := by decide +kernel
theorem d_SpectrumDeskModel_bigAt_11 : decode b_SpectrumDeskModel_bigAt 11 = .ok (.getfield 7, 3) := by decide +kernel
theorem d_SpectrumDeskModel_bigAt_14 : decode b_SpectrumDeskModel_bigAt 14 = .ok (.sipush (300), 3) := by decide +kernel
theorem d_SpectrumDeskModel_bigAt_17 : decode b_SpectrumDeskModel_bigAt 17 = .ok (.iload_n 1, 1) := by decide +kernel
theorem d_SpectrumDeskModel_bigAt_18 : decode b_SpectrumDeskModel_bigAt 18 = .ok (.imul, 1) := by decide +kernel
theorem d_SpectrumDeskModel_bigAt_19 : decode b_SpectrumDeskModel_bigAt 19 = .ok (.iload_n 2, 1) := by decide +kernel
theorem d_SpectrumDeskModel_bigAt_20 : decode b_SpectrumDeskModel_bigAt 20 = .ok (.iadd, 1) := by decide +kernel
theorem d_SpectrumDeskModel_bigAt_21 : decode b_SpectrumDeskModel_bigAt 21 = .ok (.iaload, 1) := by decide +kernel
theorem d_SpectrumDeskModel_bigAt_22 : decode b_SpectrumDeskModel_bigAt 22 = .ok (.goto (4), 3) := by decide +kernel
theorem d_SpectrumDeskModel_bigAt_25 : decode b_SpectrumDeskModel_bigAt 25 = .ok (.iconst 0, 1) := by decide +kernel
theorem d_SpectrumDeskModel_bigAt_26 : decode b_SpectrumDeskModel_bigAt 26 = .ok (.ireturn, 1) := by decide +kernel
abbrev b_SpectrumDeskModel_bigTrim : ByteArray := prog_10_method_7_code
abbrev y_SpectrumDeskModel_bigTrim : MethodName := ⟨"SpectrumDeskModel", "bigTrim", "(I)V"⟩
abbrev v_SpectrumDeskModel_bigTrim : List Cond := Cond.code y_SpectrumDeskModel_bigTrim b_SpectrumDeskModel_bigTrim 2 none :: AW
theorem d_SpectrumDeskModel_bigTrim_0 : decode b_SpectrumDeskModel_bigTrim 0 = .ok (.aload_n 0, 1) := by decide +kernel
theorem d_SpectrumDeskModel_bigTrim_1 : decode b_SpectrumDeskModel_bigTrim 1 = .ok (.getfield 13, 3) := by decide +kernel
theorem d_SpectrumDeskModel_bigTrim_4 : decode b_SpectrumDeskModel_bigTrim 4 = .ok (.iload_n 1, 1) := by decide +kernel
theorem d_SpectrumDeskModel_bigTrim_5 : decode b_SpectrumDeskModel_bigTrim 5 = .ok (.iaload, 1) := by decide +kernel
theorem d_SpectrumDeskModel_bigTrim_6 : decode b_SpectrumDeskModel_bigTrim 6 = .ok (.ifCond .le (38), 3) := by decide +kernel
theorem d_SpectrumDeskModel_bigTrim_9 : decode b_SpectrumDeskModel_bigTrim 9 = .ok (.aload_n 0, 1) := by decide +kernel
theorem d_SpectrumDeskModel_bigTrim_10 : decode b_SpectrumDeskModel_bigTrim 10 = .ok (.getfield 7, 3) := by decide +kernel
theorem d_SpectrumDeskModel_bigTrim_13 : decode b_SpectrumDeskModel_bigTrim 13 = .ok (.sipush (300), 3) := by decide +kernel
theorem d_SpectrumDeskModel_bigTrim_16 : decode b_SpectrumDeskModel_bigTrim 16 = .ok (.iload_n 1, 1) := by decide +kernel
theorem d_SpectrumDeskModel_bigTrim_17 : decode b_SpectrumDeskModel_bigTrim 17 = .ok (.imul, 1) := by decide +kernel
theorem d_SpectrumDeskModel_bigTrim_18 : decode b_SpectrumDeskModel_bigTrim 18 = .ok (.aload_n 0, 1) := by decide +kernel
theorem d_SpectrumDeskModel_bigTrim_19 : decode b_SpectrumDeskModel_bigTrim 19 = .ok (.getfield 13, 3) := by decide +kernel
theorem d_SpectrumDeskModel_bigTrim_22 : decode b_SpectrumDeskModel_bigTrim 22 = .ok (.iload_n 1, 1) := by decide +kernel
theorem d_SpectrumDeskModel_bigTrim_23 : decode b_SpectrumDeskModel_bigTrim 23 = .ok (.iaload, 1) := by decide +kernel
theorem d_SpectrumDeskModel_bigTrim_24 : decode b_SpectrumDeskModel_bigTrim 24 = .ok (.iadd, 1) := by decide +kernel
theorem d_SpectrumDeskModel_bigTrim_25 : decode b_SpectrumDeskModel_bigTrim 25 = .ok (.iconst 1, 1) := by decide +kernel
theorem d_SpectrumDeskModel_bigTrim_26 : decode b_SpectrumDeskModel_bigTrim 26 = .ok (.isub, 1) := by decide +kernel
theorem d_SpectrumDeskModel_bigTrim_27 : decode b_SpectrumDeskModel_bigTrim 27 = .ok (.iaload, 1) := by decide +kernel
theorem d_SpectrumDeskModel_bigTrim_28 : decode b_SpectrumDeskModel_bigTrim 28 = .ok (.ifCond .ne (16), 3) := by decide +kernel
theorem d_SpectrumDeskModel_bigTrim_31 : decode b_SpectrumDeskModel_bigTrim 31 = .ok (.aload_n 0, 1) := by decide +kernel
theorem d_SpectrumDeskModel_bigTrim_32 : decode b_SpectrumDeskModel_bigTrim 32 = .ok (.getfield 13, 3) := by decide +kernel
theorem d_SpectrumDeskModel_bigTrim_35 : decode b_SpectrumDeskModel_bigTrim 35 = .ok (.iload_n 1, 1) := by decide +kernel
theorem d_SpectrumDeskModel_bigTrim_36 : decode b_SpectrumDeskModel_bigTrim 36 = .ok (.dup2, 1) := by decide +kernel
theorem d_SpectrumDeskModel_bigTrim_37 : decode b_SpectrumDeskModel_bigTrim 37 = .ok (.iaload, 1) := by decide +kernel
theorem d_SpectrumDeskModel_bigTrim_38 : decode b_SpectrumDeskModel_bigTrim 38 = .ok (.iconst 1, 1) := by decide +kernel
theorem d_SpectrumDeskModel_bigTrim_39 : decode b_SpectrumDeskModel_bigTrim 39 = .ok (.isub, 1) := by decide +kernel
theorem d_SpectrumDeskModel_bigTrim_40 : decode b_SpectrumDeskModel_bigTrim 40 = .ok (.iastore, 1) := by decide +kernel
theorem d_SpectrumDeskModel_bigTrim_41 : decode b_SpectrumDeskModel_bigTrim 41 = .ok (.goto (-41), 3) := by decide +kernel
theorem d_SpectrumDeskModel_bigTrim_44 : decode b_SpectrumDeskModel_bigTrim 44 = .ok (.return_, 1) := by decide +kernel
abbrev b_SpectrumDeskModel_bigSet : ByteArray := prog_10_method_1_code
abbrev y_SpectrumDeskModel_bigSet : MethodName := ⟨"SpectrumDeskModel", "bigSet", "(IJ)V"⟩
abbrev v_SpectrumDeskModel_bigSet : List Cond := Cond.code y_SpectrumDeskModel_bigSet b_SpectrumDeskModel_bigSet 7 none :: AW
theorem d_SpectrumDeskModel_bigSet_0 : decode b_SpectrumDeskModel_bigSet 0 = .ok (.aload_n 0, 1) := by decide +kernel
theorem d_SpectrumDeskModel_bigSet_1 : decode b_SpectrumDeskModel_bigSet 1 = .ok (.getfield 1, 3) := by decide +kernel
theorem d_SpectrumDeskModel_bigSet_4 : decode b_SpectrumDeskModel_bigSet 4 = .ok (.iload_n 1, 1) := by decide +kernel
theorem d_SpectrumDeskModel_bigSet_5 : decode b_SpectrumDeskModel_bigSet 5 = .ok (.lload_n 2, 1) := by decide +kernel
theorem d_SpectrumDeskModel_bigSet_6 : decode b_SpectrumDeskModel_bigSet 6 = .ok (.lconst 0, 1) := by decide +kernel
theorem d_SpectrumDeskModel_bigSet_7 : decode b_SpectrumDeskModel_bigSet 7 = .ok (.lcmp, 1) := by decide +kernel
theorem d_SpectrumDeskModel_bigSet_8 : decode b_SpectrumDeskModel_bigSet 8 = .ok (.ifCond .ge (7), 3) := by decide +kernel
theorem d_SpectrumDeskModel_bigSet_11 : decode b_SpectrumDeskModel_bigSet 11 = .ok (.iconst 1, 1) := by decide +kernel
theorem d_SpectrumDeskModel_bigSet_12 : decode b_SpectrumDeskModel_bigSet 12 = .ok (.goto (4), 3) := by decide +kernel
theorem d_SpectrumDeskModel_bigSet_15 : decode b_SpectrumDeskModel_bigSet 15 = .ok (.iconst 0, 1) := by decide +kernel
theorem d_SpectrumDeskModel_bigSet_16 : decode b_SpectrumDeskModel_bigSet 16 = .ok (.bastore, 1) := by decide +kernel
theorem d_SpectrumDeskModel_bigSet_17 : decode b_SpectrumDeskModel_bigSet 17 = .ok (.iconst 0, 1) := by decide +kernel
theorem d_SpectrumDeskModel_bigSet_18 : decode b_SpectrumDeskModel_bigSet 18 = .ok (.istore 4, 2) := by decide +kernel
theorem d_SpectrumDeskModel_bigSet_20 : decode b_SpectrumDeskModel_bigSet 20 = .ok (.lload_n 2, 1) := by decide +kernel
theorem d_SpectrumDeskModel_bigSet_21 : decode b_SpectrumDeskModel_bigSet 21 = .ok (.lconst 0, 1) := by decide +kernel
theorem d_SpectrumDeskModel_bigSet_22 : decode b_SpectrumDeskModel_bigSet 22 = .ok (.lcmp, 1) := by decide +kernel
theorem d_SpectrumDeskModel_bigSet_23 : decode b_SpectrumDeskModel_bigSet 23 = .ok (.ifCond .ge (8), 3) := by decide +kernel
theorem d_SpectrumDeskModel_bigSet_26 : decode b_SpectrumDeskModel_bigSet 26 = .ok (.lload_n 2, 1) := by decide +kernel
theorem d_SpectrumDeskModel_bigSet_27 : decode b_SpectrumDeskModel_bigSet 27 = .ok (.lneg, 1) := by decide +kernel
theorem d_SpectrumDeskModel_bigSet_28 : decode b_SpectrumDeskModel_bigSet 28 = .ok (.goto (4), 3) := by decide +kernel
theorem d_SpectrumDeskModel_bigSet_31 : decode b_SpectrumDeskModel_bigSet 31 = .ok (.lload_n 2, 1) := by decide +kernel
theorem d_SpectrumDeskModel_bigSet_32 : decode b_SpectrumDeskModel_bigSet 32 = .ok (.lstore 5, 2) := by decide +kernel
theorem d_SpectrumDeskModel_bigSet_34 : decode b_SpectrumDeskModel_bigSet 34 = .ok (.lload 5, 2) := by decide +kernel
theorem d_SpectrumDeskModel_bigSet_36 : decode b_SpectrumDeskModel_bigSet 36 = .ok (.lconst 0, 1) := by decide +kernel
theorem d_SpectrumDeskModel_bigSet_37 : decode b_SpectrumDeskModel_bigSet 37 = .ok (.lcmp, 1) := by decide +kernel
theorem d_SpectrumDeskModel_bigSet_38 : decode b_SpectrumDeskModel_bigSet 38 = .ok (.ifCond .eq (36), 3) := by decide +kernel
theorem d_SpectrumDeskModel_bigSet_41 : decode b_SpectrumDeskModel_bigSet 41 = .ok (.aload_n 0, 1) := by decide +kernel
theorem d_SpectrumDeskModel_bigSet_42 : decode b_SpectrumDeskModel_bigSet 42 = .ok (.getfield 7, 3) := by decide +kernel
theorem d_SpectrumDeskModel_bigSet_45 : decode b_SpectrumDeskModel_bigSet 45 = .ok (.sipush (300), 3) := by decide +kernel
theorem d_SpectrumDeskModel_bigSet_48 : decode b_SpectrumDeskModel_bigSet 48 = .ok (.iload_n 1, 1) := by decide +kernel
theorem d_SpectrumDeskModel_bigSet_49 : decode b_SpectrumDeskModel_bigSet 49 = .ok (.imul, 1) := by decide +kernel
theorem d_SpectrumDeskModel_bigSet_50 : decode b_SpectrumDeskModel_bigSet 50 = .ok (.iload 4, 2) := by decide +kernel
theorem d_SpectrumDeskModel_bigSet_52 : decode b_SpectrumDeskModel_bigSet 52 = .ok (.iadd, 1) := by decide +kernel
theorem d_SpectrumDeskModel_bigSet_53 : decode b_SpectrumDeskModel_bigSet 53 = .ok (.lload 5, 2) := by decide +kernel
theorem d_SpectrumDeskModel_bigSet_55 : decode b_SpectrumDeskModel_bigSet 55 = .ok (.ldc2_w 11, 3) := by decide +kernel
theorem d_SpectrumDeskModel_bigSet_58 : decode b_SpectrumDeskModel_bigSet 58 = .ok (.land, 1) := by decide +kernel
theorem d_SpectrumDeskModel_bigSet_59 : decode b_SpectrumDeskModel_bigSet 59 = .ok (.l2i, 1) := by decide +kernel
theorem d_SpectrumDeskModel_bigSet_60 : decode b_SpectrumDeskModel_bigSet 60 = .ok (.iastore, 1) := by decide +kernel
theorem d_SpectrumDeskModel_bigSet_61 : decode b_SpectrumDeskModel_bigSet 61 = .ok (.iinc 4 (1), 3) := by decide +kernel
theorem d_SpectrumDeskModel_bigSet_64 : decode b_SpectrumDeskModel_bigSet 64 = .ok (.lload 5, 2) := by decide +kernel
theorem d_SpectrumDeskModel_bigSet_66 : decode b_SpectrumDeskModel_bigSet 66 = .ok (.bipush (24), 2) := by decide +kernel
theorem d_SpectrumDeskModel_bigSet_68 : decode b_SpectrumDeskModel_bigSet 68 = .ok (.lushr, 1) := by decide +kernel
theorem d_SpectrumDeskModel_bigSet_69 : decode b_SpectrumDeskModel_bigSet 69 = .ok (.lstore 5, 2) := by decide +kernel
theorem d_SpectrumDeskModel_bigSet_71 : decode b_SpectrumDeskModel_bigSet 71 = .ok (.goto (-37), 3) := by decide +kernel
theorem d_SpectrumDeskModel_bigSet_74 : decode b_SpectrumDeskModel_bigSet 74 = .ok (.aload_n 0, 1) := by decide +kernel
theorem d_SpectrumDeskModel_bigSet_75 : decode b_SpectrumDeskModel_bigSet 75 = .ok (.getfield 13, 3) := by decide +kernel
theorem d_SpectrumDeskModel_bigSet_78 : decode b_SpectrumDeskModel_bigSet 78 = .ok (.iload_n 1, 1) := by decide +kernel
theorem d_SpectrumDeskModel_bigSet_79 : decode b_SpectrumDeskModel_bigSet 79 = .ok (.iload 4, 2) := by decide +kernel
theorem d_SpectrumDeskModel_bigSet_81 : decode b_SpectrumDeskModel_bigSet 81 = .ok (.iastore, 1) := by decide +kernel
theorem d_SpectrumDeskModel_bigSet_82 : decode b_SpectrumDeskModel_bigSet 82 = .ok (.return_, 1) := by decide +kernel
abbrev b_SpectrumDeskModel_bigCopy : ByteArray := prog_10_method_2_code
abbrev y_SpectrumDeskModel_bigCopy : MethodName := ⟨"SpectrumDeskModel", "bigCopy", "(II)V"⟩
abbrev v_SpectrumDeskModel_bigCopy : List Cond := Cond.code y_SpectrumDeskModel_bigCopy b_SpectrumDeskModel_bigCopy 4 none :: AW
theorem d_SpectrumDeskModel_bigCopy_0 : decode b_SpectrumDeskModel_bigCopy 0 = .ok (.aload_n 0, 1) := by decide +kernel
theorem d_SpectrumDeskModel_bigCopy_1 : decode b_SpectrumDeskModel_bigCopy 1 = .ok (.getfield 1, 3) := by decide +kernel
theorem d_SpectrumDeskModel_bigCopy_4 : decode b_SpectrumDeskModel_bigCopy 4 = .ok (.iload_n 1, 1) := by decide +kernel
theorem d_SpectrumDeskModel_bigCopy_5 : decode b_SpectrumDeskModel_bigCopy 5 = .ok (.aload_n 0, 1) := by decide +kernel
theorem d_SpectrumDeskModel_bigCopy_6 : decode b_SpectrumDeskModel_bigCopy 6 = .ok (.getfield 1, 3) := by decide +kernel
theorem d_SpectrumDeskModel_bigCopy_9 : decode b_SpectrumDeskModel_bigCopy 9 = .ok (.iload_n 2, 1) := by decide +kernel
theorem d_SpectrumDeskModel_bigCopy_10 : decode b_SpectrumDeskModel_bigCopy 10 = .ok (.baload, 1) := by decide +kernel
theorem d_SpectrumDeskModel_bigCopy_11 : decode b_SpectrumDeskModel_bigCopy 11 = .ok (.bastore, 1) := by decide +kernel
theorem d_SpectrumDeskModel_bigCopy_12 : decode b_SpectrumDeskModel_bigCopy 12 = .ok (.aload_n 0, 1) := by decide +kernel
theorem d_SpectrumDeskModel_bigCopy_13 : decode b_SpectrumDeskModel_bigCopy 13 = .ok (.getfield 13, 3) := by decide +kernel
theorem d_SpectrumDeskModel_bigCopy_16 : decode b_SpectrumDeskModel_bigCopy 16 = .ok (.iload_n 1, 1) := by decide +kernel
theorem d_SpectrumDeskModel_bigCopy_17 : decode b_SpectrumDeskModel_bigCopy 17 = .ok (.aload_n 0, 1) := by decide +kernel
theorem d_SpectrumDeskModel_bigCopy_18 : decode b_SpectrumDeskModel_bigCopy 18 = .ok (.getfield 13, 3) := by decide +kernel
theorem d_SpectrumDeskModel_bigCopy_21 : decode b_SpectrumDeskModel_bigCopy 21 = .ok (.iload_n 2, 1) := by decide +kernel
theorem d_SpectrumDeskModel_bigCopy_22 : decode b_SpectrumDeskModel_bigCopy 22 = .ok (.iaload, 1) := by decide +kernel
theorem d_SpectrumDeskModel_bigCopy_23 : decode b_SpectrumDeskModel_bigCopy 23 = .ok (.iastore, 1) := by decide +kernel
theorem d_SpectrumDeskModel_bigCopy_24 : decode b_SpectrumDeskModel_bigCopy 24 = .ok (.iconst 0, 1) := by decide +kernel
theorem d_SpectrumDeskModel_bigCopy_25 : decode b_SpectrumDeskModel_bigCopy 25 = .ok (.istore_n 3, 1) := by decide +kernel
theorem d_SpectrumDeskModel_bigCopy_26 : decode b_SpectrumDeskModel_bigCopy 26 = .ok (.iload_n 3, 1) := by decide +kernel
theorem d_SpectrumDeskModel_bigCopy_27 : decode b_SpectrumDeskModel_bigCopy 27 = .ok (.aload_n 0, 1) := by decide +kernel
theorem d_SpectrumDeskModel_bigCopy_28 : decode b_SpectrumDeskModel_bigCopy 28 = .ok (.getfield 13, 3) := by decide +kernel
theorem d_SpectrumDeskModel_bigCopy_31 : decode b_SpectrumDeskModel_bigCopy 31 = .ok (.iload_n 2, 1) := by decide +kernel
theorem d_SpectrumDeskModel_bigCopy_32 : decode b_SpectrumDeskModel_bigCopy 32 = .ok (.iaload, 1) := by decide +kernel
theorem d_SpectrumDeskModel_bigCopy_33 : decode b_SpectrumDeskModel_bigCopy 33 = .ok (.if_icmp .ge (33), 3) := by decide +kernel
theorem d_SpectrumDeskModel_bigCopy_36 : decode b_SpectrumDeskModel_bigCopy 36 = .ok (.aload_n 0, 1) := by decide +kernel
theorem d_SpectrumDeskModel_bigCopy_37 : decode b_SpectrumDeskModel_bigCopy 37 = .ok (.getfield 7, 3) := by decide +kernel
theorem d_SpectrumDeskModel_bigCopy_40 : decode b_SpectrumDeskModel_bigCopy 40 = .ok (.sipush (300), 3) := by decide +kernel
theorem d_SpectrumDeskModel_bigCopy_43 : decode b_SpectrumDeskModel_bigCopy 43 = .ok (.iload_n 1, 1) := by decide +kernel
theorem d_SpectrumDeskModel_bigCopy_44 : decode b_SpectrumDeskModel_bigCopy 44 = .ok (.imul, 1) := by decide +kernel
theorem d_SpectrumDeskModel_bigCopy_45 : decode b_SpectrumDeskModel_bigCopy 45 = .ok (.iload_n 3, 1) := by decide +kernel
theorem d_SpectrumDeskModel_bigCopy_46 : decode b_SpectrumDeskModel_bigCopy 46 = .ok (.iadd, 1) := by decide +kernel
theorem d_SpectrumDeskModel_bigCopy_47 : decode b_SpectrumDeskModel_bigCopy 47 = .ok (.aload_n 0, 1) := by decide +kernel
theorem d_SpectrumDeskModel_bigCopy_48 : decode b_SpectrumDeskModel_bigCopy 48 = .ok (.getfield 7, 3) := by decide +kernel
theorem d_SpectrumDeskModel_bigCopy_51 : decode b_SpectrumDeskModel_bigCopy 51 = .ok (.sipush (300), 3) := by decide +kernel
theorem d_SpectrumDeskModel_bigCopy_54 : decode b_SpectrumDeskModel_bigCopy 54 = .ok (.iload_n 2, 1) := by decide +kernel
theorem d_SpectrumDeskModel_bigCopy_55 : decode b_SpectrumDeskModel_bigCopy 55 = .ok (.imul, 1) := by decide +kernel
theorem d_SpectrumDeskModel_bigCopy_56 : decode b_SpectrumDeskModel_bigCopy 56 = .ok (.iload_n 3, 1) := by decide +kernel
theorem d_SpectrumDeskModel_bigCopy_57 : decode b_SpectrumDeskModel_bigCopy 57 = .ok (.iadd, 1) := by decide +kernel
theorem d_SpectrumDeskModel_bigCopy_58 : decode b_SpectrumDeskModel_bigCopy 58 = .ok (.iaload, 1) := by decide +kernel
theorem d_SpectrumDeskModel_bigCopy_59 : decode b_SpectrumDeskModel_bigCopy 59 = .ok (.iastore, 1) := by decide +kernel
theorem d_SpectrumDeskModel_bigCopy_60 : decode b_SpectrumDeskModel_bigCopy 60 = .ok (.iinc 3 (1), 3) := by decide +kernel
theorem d_SpectrumDeskModel_bigCopy_63 : decode b_SpectrumDeskModel_bigCopy 63 = .ok (.goto (-37), 3) := by decide +kernel
theorem d_SpectrumDeskModel_bigCopy_66 : decode b_SpectrumDeskModel_bigCopy 66 = .ok (.return_, 1) := by decide +kernel
theorem k_4ae214c350 : (Jvm.Cond.fieldLink "SpectrumDeskModel" (13 : Nat) "SpectrumDeskModel" "lengths" "[I") ∈ AW := aw_4 (List.mem_of_getElem? (i := 181) (by decide +kernel)) (by decide +kernel)
theorem k_7646d4378e : (Jvm.Cond.fieldLink "SpectrumDeskModel" (1 : Nat) "SpectrumDeskModel" "minus" "[Z") ∈ AW := aw_4 (List.mem_of_getElem? (i := 182) (by decide +kernel)) (by decide +kernel)
theorem k_eae5455160 : (Jvm.Cond.fieldLink "SpectrumDeskModel" (7 : Nat) "SpectrumDeskModel" "parts" "[I") ∈ AW := aw_4 (List.mem_of_getElem? (i := 180) (by decide +kernel)) (by decide +kernel)
theorem k_3ec0f02ce9 : (Jvm.Cond.constantLong "SpectrumDeskModel" (11 : Nat) (16777215 : Int64)) ∈ AW := aw_5 (List.mem_of_getElem? (i := 40) (by decide +kernel)) (by decide +kernel)
theorem k_e13fc765ad : (Jvm.Cond.code ({ cls := "SpectrumDeskModel", name := "bigSign", desc := "(I)I" } : Jvm.MethodName) prog_10_method_4_code (2 : Nat) (Option.some Jvm.ClassFile.FieldType.int)) ∈ AW := aw_5 (List.mem_of_getElem? (i := 84) (by decide +kernel)) (by decide +kernel)
theorem k_9795bdc343 : (Jvm.Cond.code ({ cls := "SpectrumDeskModel", name := "bigAt", desc := "(II)I" } : Jvm.MethodName) prog_10_method_6_code (3 : Nat) (Option.some Jvm.ClassFile.FieldType.int)) ∈ AW := aw_5 (List.mem_of_getElem? (i := 71) (by decide +kernel)) (by decide +kernel)
theorem k_10a67c202b : (Jvm.Cond.code ({ cls := "SpectrumDeskModel", name := "bigTrim", desc := "(I)V" } : Jvm.MethodName) prog_10_method_7_code (2 : Nat) (Option.none : Option Jvm.ClassFile.FieldType)) ∈ AW := aw_5 (List.mem_of_getElem? (i := 59) (by decide +kernel)) (by decide +kernel)
theorem k_5f300b8d49 : (Jvm.Cond.code ({ cls := "SpectrumDeskModel", name := "bigSet", desc := "(IJ)V" } : Jvm.MethodName) prog_10_method_1_code (7 : Nat) (Option.none : Option Jvm.ClassFile.FieldType)) ∈ AW := aw_5 (List.mem_of_getElem? (i := 39) (by decide +kernel)) (by decide +kernel)
theorem k_b9c8150a19 : (Jvm.Cond.code ({ cls := "SpectrumDeskModel", name := "bigCopy", desc := "(II)V" } : Jvm.MethodName) prog_10_method_2_code (4 : Nat) (Option.none : Option Jvm.ClassFile.FieldType)) ∈ AW := aw_5 (List.mem_of_getElem? (i := 88) (by decide +kernel)) (by decide +kernel)
set_option maxHeartbeats 4000000 in
set_option maxRecDepth 100000 in
theorem c_SpectrumDeskModel_bigSign {l : Launch} {D : va_G} {cI cJ cZ cC cG cP : ClassId} {ad : Nat → Nat} {σ0 : Nat → va_E} {fs : List Value} {P L M : Nat → Int32} {w : Nat} {x : Int} (hF : mF ad fs) (hw : w < 112) (hx0 : rb P L M w x) :
    Met l y_SpectrumDeskModel_bigSign v_SpectrumDeskModel_bigSign (xrm 0) (va_Pc [.ref (ad 183), .int (nI w)] (xS D classes (xT cI cJ cZ cC cG cP) 193 ad (rw3 σ0 ciM cI cZ fs P L M))) (va_Qi (fun r σ2 => r = sg x ∧ σ2 = rw3 σ0 ciM cI cZ fs P L M) (xS D classes (xT cI cJ cZ cC cG cP) 193 ad) (xA 193 ad)) 0 0 (xA 193 ad) := by
  have hz := rb_zero hx0
  obtain ⟨n, n1, n2, n3, n4, n5⟩ := hx0
  refine xr_met rfl (Nat.le_of_ble_eq_true rfl) ?_
  intro p e s m args below meth c ls hx hb X hr hlk hl I
  have hl : lv_has ls 2 [(0, .ref (ad 183)), (1, .int (nI w))] := hl
  refine lv_aload_n hx hb d_SpectrumDeskModel_bigSign_0 rfl (lv_at hl 0 rfl) ?_
  refine xr_get X I fin_M 183 (by decide) (r183 ..) rfl 1 (by decide) (List.mem_cons_of_mem _ k_4ae214c350) rfl (mF_lengths hF) d_SpectrumDeskModel_bigSign_1 ?_
  refine lv_iload_n hx hb d_SpectrumDeskModel_bigSign_4 rfl (lv_at hl 1 rfl) ?_
  refine xr_iald X I 185 0 (by decide) (r185 ..) rfl (by omega) (by decide) d_SpectrumDeskModel_bigSign_5 ?_
  refine lv_if_ne hx hb d_SpectrumDeskModel_bigSign_6 rfl (fun hc => ?_) (fun hc => ?_)
  · refine lv_aload_n hx hb d_SpectrumDeskModel_bigSign_13 rfl (lv_at hl 0 rfl) ?_
    refine xr_get X I fin_M 183 (by decide) (r183 ..) rfl 2 (by decide) (List.mem_cons_of_mem _ k_7646d4378e) rfl (mF_minus hF) d_SpectrumDeskModel_bigSign_14 ?_
    refine lv_iload_n hx hb d_SpectrumDeskModel_bigSign_17 rfl (lv_at hl 1 rfl) ?_
    refine xr_zald X I 186 2 (by decide) (r186 ..) rfl (by omega) (by decide) d_SpectrumDeskModel_bigSign_18 ?_
    refine lv_if_eq hx hb d_SpectrumDeskModel_bigSign_19 rfl (fun hm => ?_) (fun hm => ?_)
    · refine lv_iconst (v := nI 1) hx hb d_SpectrumDeskModel_bigSign_26 (by decide) ?_
      exact xr_iret X I hr hlk ⟨rb_sgp n2 n3 n4 n5 hc hm, rfl⟩ d_SpectrumDeskModel_bigSign_27
    · refine lv_iconst (v := (-1)) hx hb d_SpectrumDeskModel_bigSign_22 (by decide) ?_
      refine lv_goto hx hb d_SpectrumDeskModel_bigSign_23 rfl ?_
      exact xr_iret X I hr hlk ⟨rb_sgn n2 n3 n4 n5 hc hm, rfl⟩ d_SpectrumDeskModel_bigSign_27
  · refine lv_iconst (v := nI 0) hx hb d_SpectrumDeskModel_bigSign_9 (by decide) ?_
    refine lv_goto hx hb d_SpectrumDeskModel_bigSign_10 rfl ?_
    exact xr_iret X I hr hlk ⟨by rw [hz.mpr hc]; rfl, rfl⟩ d_SpectrumDeskModel_bigSign_27
set_option maxHeartbeats 4000000 in
set_option maxRecDepth 100000 in
theorem c_SpectrumDeskModel_bigAt {l : Launch} {D : va_G} {cI cJ cZ cC cG cP : ClassId} {ad : Nat → Nat} {σ0 : Nat → va_E} {fs : List Value} {P L M : Nat → Int32} {w i n : Nat} (hF : mF ad fs) (hw : w < 112) (hn : n ≤ 300) (hi : i < 2 ^ 31) (hL : L w = nI n) :
    Met l y_SpectrumDeskModel_bigAt v_SpectrumDeskModel_bigAt (xrm 0) (va_Pc [.ref (ad 183), .int (nI w), .int (nI i)] (xS D classes (xT cI cJ cZ cC cG cP) 193 ad (rw3 σ0 ciM cI cZ fs P L M))) (va_Qi (fun r σ2 => r = (if i < n then P (300 * w + i) else 0) ∧ σ2 = rw3 σ0 ciM cI cZ fs P L M) (xS D classes (xT cI cJ cZ cC cG cP) 193 ad) (xA 193 ad)) 0 0 (xA 193 ad) := by
  refine xr_met rfl (Nat.le_of_ble_eq_true rfl) ?_
  intro p e s m args below meth c ls hx hb X hr hlk hl I
  have hl : lv_has ls 3 [(0, .ref (ad 183)), (1, .int (nI w)), (2, .int (nI i))] := hl
  refine lv_iload_n hx hb d_SpectrumDeskModel_bigAt_0 rfl (lv_at hl 2 rfl) ?_
  refine lv_aload_n hx hb d_SpectrumDeskModel_bigAt_1 rfl (lv_at hl 0 rfl) ?_
  refine xr_get X I fin_M 183 (by decide) (r183 ..) rfl 1 (by decide) (List.mem_cons_of_mem _ k_4ae214c350) rfl (mF_lengths hF) d_SpectrumDeskModel_bigAt_2 ?_
  refine lv_iload_n hx hb d_SpectrumDeskModel_bigAt_5 rfl (lv_at hl 1 rfl) ?_
  refine xr_iald X I 185 0 (by decide) (r185 ..) rfl (by omega) (by decide) d_SpectrumDeskModel_bigAt_6 ?_
  refine xr_topi (y := nI n) hL ?_
  refine lv_icmp_ge hx hb d_SpectrumDeskModel_bigAt_7 rfl (fun hc => ?_) (fun hc => ?_)
  · have h : ¬ i < n := fun h => absurd hc (nI_ge h (by omega))
    refine lv_iconst (v := nI 0) hx hb d_SpectrumDeskModel_bigAt_25 (by decide) ?_
    exact xr_iret X I hr hlk ⟨by rw [if_neg h]; rfl, rfl⟩ d_SpectrumDeskModel_bigAt_26
  · have h : i < n := Nat.lt_of_not_le fun h => hc (nI_le h (by omega))
    refine lv_aload_n hx hb d_SpectrumDeskModel_bigAt_10 rfl (lv_at hl 0 rfl) ?_
    refine xr_get X I fin_M 183 (by decide) (r183 ..) rfl 0 (by decide) (List.mem_cons_of_mem _ k_eae5455160) rfl (mF_parts hF) d_SpectrumDeskModel_bigAt_11 ?_
    refine lv_sipush (v := nI 300) hx hb d_SpectrumDeskModel_bigAt_14 (by decide) ?_
    refine lv_iload_n hx hb d_SpectrumDeskModel_bigAt_17 rfl (lv_at hl 1 rfl) ?_
    refine lv_imul hx hb d_SpectrumDeskModel_bigAt_18 (xr_topi (y := nI (300 * w)) (pk_mul 300 w) ?_)
    refine lv_iload_n hx hb d_SpectrumDeskModel_bigAt_19 rfl (lv_at hl 2 rfl) ?_
    refine lv_iadd hx hb d_SpectrumDeskModel_bigAt_20 (xr_topi (y := nI ((300 * w) + i)) (nI_add (300 * w) i) ?_)
    refine xr_iald X I 184 0 (by decide) (r184 ..) rfl (by omega) (by decide) d_SpectrumDeskModel_bigAt_21 ?_
    refine lv_goto hx hb d_SpectrumDeskModel_bigAt_22 rfl ?_
    exact xr_iret X I hr hlk ⟨by rw [if_pos h], rfl⟩ d_SpectrumDeskModel_bigAt_26
set_option maxHeartbeats 4000000 in
set_option maxRecDepth 100000 in
theorem c_SpectrumDeskModel_bigTrim {l : Launch} {D : va_G} {cI cJ cZ cC cG cP : ClassId} {ad : Nat → Nat} {σ0 : Nat → va_E} {fs : List Value} {P L M : Nat → Int32} {w n : Nat} (hF : mF ad fs) (hw : w < 112) (hn : n ≤ 300) (hL : L w = nI n) :
    Met l y_SpectrumDeskModel_bigTrim v_SpectrumDeskModel_bigTrim (xrm 0) (va_Pc [.ref (ad 183), .int (nI w)] (xS D classes (xT cI cJ cZ cC cG cP) 193 ad (rw3 σ0 ciM cI cZ fs P L M))) (va_Qv (fun σ2 => ∃ n2 : Nat, n2 ≤ n ∧ σ2 = rw3 σ0 ciM cI cZ fs P (upd L w (nI n2)) M ∧ rg P (300 * w) n2 = rg P (300 * w) n ∧ (0 < n2 → P (300 * w + (n2 - 1)) ≠ 0)) (xS D classes (xT cI cJ cZ cC cG cP) 193 ad) (xA 193 ad)) 0 0 (xA 193 ad) := by
  refine xr_met rfl (Nat.le_of_ble_eq_true rfl) ?_
  intro p e s m args below meth c ls hx hb X hr hlk hl I
  have hl : lv_has ls 2 [(0, .ref (ad 183)), (1, .int (nI w))] := hl
  have loop : ∀ (k : Nat)  (ls : Array Slot) (H : Heap) (locs : List Loc), k ≤ n → rg P (300 * w) k = rg P (300 * w) n → lv_has ls 2 [(0, .ref (ad 183)), (1, .int (nI w))] → xI D classes 193 ad s.heap (rw3 σ0 ciM cI cZ fs P (upd L w (nI k)) M) H locs → W p l e (xrm 0) s m args below meth c H locs 0 0 (MQ below (va_Qv (fun σ2 => ∃ n2 : Nat, n2 ≤ n ∧ σ2 = rw3 σ0 ciM cI cZ fs P (upd L w (nI n2)) M ∧ rg P (300 * w) n2 = rg P (300 * w) n ∧ (0 < n2 → P (300 * w + (n2 - 1)) ≠ 0)) (xS D classes (xT cI cJ cZ cC cG cP) 193 ad) (xA 193 ad)) args s 0 0 (xA 193 ad)) (F0 m 0 ls []) := by
    intro k
    induction k with
    | zero =>
      intro ls H locs hk hv hl I
      refine lv_aload_n hx hb d_SpectrumDeskModel_bigTrim_0 rfl (lv_at hl 0 rfl) ?_
      refine xr_get X I fin_M 183 (by decide) (r183 ..) rfl 1 (by decide) (List.mem_cons_of_mem _ k_4ae214c350) rfl (mF_lengths hF) d_SpectrumDeskModel_bigTrim_1 ?_
      refine lv_iload_n hx hb d_SpectrumDeskModel_bigTrim_4 rfl (lv_at hl 1 rfl) ?_
      refine xr_iald X I 185 0 (by decide) (r185 ..) rfl (by omega) (by decide) d_SpectrumDeskModel_bigTrim_5 ?_
      refine xr_topi (y := nI 0) upd_s ?_
      refine lv_if_le hx hb d_SpectrumDeskModel_bigTrim_6 rfl (fun hc => ?_) (fun hc => ?_)
      · exact xr_vret X I hr hlk ⟨0, by omega, rfl, hv, fun h => absurd h (by decide)⟩ d_SpectrumDeskModel_bigTrim_44
      · exact absurd (by decide) hc
    | succ k ih =>
      intro ls H locs hk hv hl I
      refine lv_aload_n hx hb d_SpectrumDeskModel_bigTrim_0 rfl (lv_at hl 0 rfl) ?_
      refine xr_get X I fin_M 183 (by decide) (r183 ..) rfl 1 (by decide) (List.mem_cons_of_mem _ k_4ae214c350) rfl (mF_lengths hF) d_SpectrumDeskModel_bigTrim_1 ?_
      refine lv_iload_n hx hb d_SpectrumDeskModel_bigTrim_4 rfl (lv_at hl 1 rfl) ?_
      refine xr_iald X I 185 0 (by decide) (r185 ..) rfl (by omega) (by decide) d_SpectrumDeskModel_bigTrim_5 ?_
      refine xr_topi (y := nI (k + 1)) upd_s ?_
      refine lv_if_le hx hb d_SpectrumDeskModel_bigTrim_6 rfl (fun hc => ?_) (fun hc => ?_)
      · exact absurd hc (nI_nle (by omega) (by omega))
      · refine lv_aload_n hx hb d_SpectrumDeskModel_bigTrim_9 rfl (lv_at hl 0 rfl) ?_
        refine xr_get X I fin_M 183 (by decide) (r183 ..) rfl 0 (by decide) (List.mem_cons_of_mem _ k_eae5455160) rfl (mF_parts hF) d_SpectrumDeskModel_bigTrim_10 ?_
        refine lv_sipush (v := nI 300) hx hb d_SpectrumDeskModel_bigTrim_13 (by decide) ?_
        refine lv_iload_n hx hb d_SpectrumDeskModel_bigTrim_16 rfl (lv_at hl 1 rfl) ?_
        refine lv_imul hx hb d_SpectrumDeskModel_bigTrim_17 (xr_topi (y := nI (300 * w)) (pk_mul 300 w) ?_)
        refine lv_aload_n hx hb d_SpectrumDeskModel_bigTrim_18 rfl (lv_at hl 0 rfl) ?_
        refine xr_get X I fin_M 183 (by decide) (r183 ..) rfl 1 (by decide) (List.mem_cons_of_mem _ k_4ae214c350) rfl (mF_lengths hF) d_SpectrumDeskModel_bigTrim_19 ?_
        refine lv_iload_n hx hb d_SpectrumDeskModel_bigTrim_22 rfl (lv_at hl 1 rfl) ?_
        refine xr_iald X I 185 0 (by decide) (r185 ..) rfl (by omega) (by decide) d_SpectrumDeskModel_bigTrim_23 ?_
        refine xr_topi (y := nI (k + 1)) upd_s ?_
        refine lv_iadd hx hb d_SpectrumDeskModel_bigTrim_24 (xr_topi (y := nI ((300 * w) + (k + 1))) (nI_add (300 * w) (k + 1)) ?_)
        refine lv_iconst (v := nI 1) hx hb d_SpectrumDeskModel_bigTrim_25 (by decide) ?_
        refine lv_isub hx hb d_SpectrumDeskModel_bigTrim_26 (xr_topi (y := nI (300 * w + k)) (pk_sub (a := 300 * w + (k + 1)) (b := 1) (by omega)) ?_)
        refine xr_iald X I 184 0 (by decide) (r184 ..) rfl (by omega) (by decide) d_SpectrumDeskModel_bigTrim_27 ?_
        refine lv_if_ne hx hb d_SpectrumDeskModel_bigTrim_28 rfl (fun hz => ?_) (fun hz => ?_)
        · exact xr_vret X I hr hlk ⟨k + 1, by omega, rfl, hv, fun _ => hz⟩ d_SpectrumDeskModel_bigTrim_44
        · refine lv_aload_n hx hb d_SpectrumDeskModel_bigTrim_31 rfl (lv_at hl 0 rfl) ?_
          refine xr_get X I fin_M 183 (by decide) (r183 ..) rfl 1 (by decide) (List.mem_cons_of_mem _ k_4ae214c350) rfl (mF_lengths hF) d_SpectrumDeskModel_bigTrim_32 ?_
          refine lv_iload_n hx hb d_SpectrumDeskModel_bigTrim_35 rfl (lv_at hl 1 rfl) ?_
          refine lv_dup2_11 hx hb d_SpectrumDeskModel_bigTrim_36 rfl rfl ?_
          refine xr_iald X I 185 0 (by decide) (r185 ..) rfl (by omega) (by decide) d_SpectrumDeskModel_bigTrim_37 ?_
          refine xr_topi (y := nI (k + 1)) upd_s ?_
          refine lv_iconst (v := nI 1) hx hb d_SpectrumDeskModel_bigTrim_38 (by decide) ?_
          refine lv_isub hx hb d_SpectrumDeskModel_bigTrim_39 (xr_topi (y := nI k) (pk_sub (a := k + 1) (b := 1) (by omega)) ?_)
          refine xr_iast X I 185 0 (by decide) (r185 ..) rfl (by omega) (by decide) d_SpectrumDeskModel_bigTrim_40 (fun H locs I => ?_)
          rw [rw3_L] at I
          rw [upd_upd] at I
          refine lv_goto hx hb d_SpectrumDeskModel_bigTrim_41 rfl ?_
          exact ih ls H locs (by omega) (by rw [rg, hz] at hv; simp at hv; exact hv) hl I
  exact loop n ls _ _ (Nat.le_refl _) rfl hl (by rw [upd_same hL]; exact I)
set_option maxHeartbeats 4000000 in
set_option maxRecDepth 100000 in
theorem c_SpectrumDeskModel_bigSet {l : Launch} {D : va_G} {cI cJ cZ cC cG cP : ClassId} {ad : Nat → Nat} {σ0 : Nat → va_E} {fs : List Value} {P L M : Nat → Int32} {w : Nat} {v : Int64} (hF : mF ad fs) (hw : w < 112) :
    Met l y_SpectrumDeskModel_bigSet v_SpectrumDeskModel_bigSet (xrm 0) (va_Pc [.ref (ad 183), .int (nI w), .long v] (xS D classes (xT cI cJ cZ cC cG cP) 193 ad (rw3 σ0 ciM cI cZ fs P L M))) (va_Qv (rb_up σ0 ciM cI cZ fs P L M w v.toInt) (xS D classes (xT cI cJ cZ cC cG cP) 193 ad) (xA 193 ad)) 0 0 (xA 193 ad) := by
  refine xr_met rfl (Nat.le_of_ble_eq_true rfl) ?_
  intro p e s m args below meth c ls hx hb X hr hlk hl I
  have hl : lv_has ls 7 [(0, .ref (ad 183)), (1, .int (nI w)), (2, .long v)] := hl
  have loop : ∀ (k : Nat) (u0 : Nat) (M2 : Nat → Int32) (hM1 : ∀ j, j ≠ w → M2 j = M j) (hM2 : (M2 w = 0 ∧ v.toInt = (u0 : Int)) ∨ (M2 w = 1 ∧ v.toInt = -(u0 : Int))) (hb0 : u0 < 2 ^ 64) (i u : Nat) (P2 : Nat → Int32) (ls : Array Slot) (H : Heap) (locs : List Loc), u < k → u < 2 ^ 64 → rg P2 (300 * w) i + (u : Int) * 16777216 ^ i = (u0 : Int) → rg_ok P2 (300 * w) i → (∀ j, j < 300 * w ∨ 300 * w + 300 ≤ j → P2 j = P j) → (0 < i → u = 0 → P2 (300 * w + (i - 1)) ≠ 0) → i ≤ 3 → lv_has ls 7 [(5, .long (lN u)), (4, .int (nI i)), (0, .ref (ad 183)), (1, .int (nI w)), (2, .long v)] → xI D classes 193 ad s.heap (rw3 σ0 ciM cI cZ fs P2 L M2) H locs → W p l e (xrm 0) s m args below meth c H locs 0 0 (MQ below (va_Qv (rb_up σ0 ciM cI cZ fs P L M w v.toInt) (xS D classes (xT cI cJ cZ cC cG cP) 193 ad) (xA 193 ad)) args s 0 0 (xA 193 ad)) (F0 m 34 ls []) := by
    intro k
    induction k with
    | zero =>
      intro u0 M2 hM1 hM2 hb0 i u P2 ls H locs hk hu hs hok hfr ht hi hl I
      exact absurd hk (Nat.not_lt_zero _)
    | succ k ih =>
      intro u0 M2 hM1 hM2 hb0 i u P2 ls H locs hk hu hs hok hfr ht hi hl I
      refine lv_lload hx hb d_SpectrumDeskModel_bigSet_34 (lv_at hl 0 rfl) ?_
      refine lv_lconst (v := 0) hx hb d_SpectrumDeskModel_bigSet_36 (by decide) ?_
      refine W.lcmp hx hb d_SpectrumDeskModel_bigSet_37 ?_
      refine lv_if_eq hx hb d_SpectrumDeskModel_bigSet_38 rfl (fun hc => ?_) (fun hc => ?_)
      · have hu0 : u = 0 := (q_lN0 hu).mp ((lg_cmp_eq _ _).mp hc)
        refine lv_aload_n hx hb d_SpectrumDeskModel_bigSet_74 rfl (lv_at hl 2 rfl) ?_
        refine xr_get X I fin_M 183 (by decide) (r183 ..) rfl 1 (by decide) (List.mem_cons_of_mem _ k_4ae214c350) rfl (mF_lengths hF) d_SpectrumDeskModel_bigSet_75 ?_
        refine lv_iload_n hx hb d_SpectrumDeskModel_bigSet_78 rfl (lv_at hl 3 rfl) ?_
        refine lv_iload hx hb d_SpectrumDeskModel_bigSet_79 (lv_at hl 1 rfl) ?_
        refine xr_iast X I 185 0 (by decide) (r185 ..) rfl (by omega) (by decide) d_SpectrumDeskModel_bigSet_81 (fun H locs I => ?_)
        rw [rw3_L] at I
        exact xr_vret X I hr hlk ⟨P2, upd L w (nI i), M2, rfl, ⟨hfr, fun j hj => upd_n hj, hM1⟩, i, by omega, upd_s, hok, fun h => ht h hu0, by rw [hu0] at hs; simp at hs; rw [hs]; exact hM2⟩ d_SpectrumDeskModel_bigSet_82
      · have hu0 : u ≠ 0 := fun h => hc ((lg_cmp_eq _ _).mpr ((q_lN0 hu).mpr h))
        have hi2 : i ≤ 2 := rs_few hs hok hu0 hb0
        refine lv_aload_n hx hb d_SpectrumDeskModel_bigSet_41 rfl (lv_at hl 2 rfl) ?_
        refine xr_get X I fin_M 183 (by decide) (r183 ..) rfl 0 (by decide) (List.mem_cons_of_mem _ k_eae5455160) rfl (mF_parts hF) d_SpectrumDeskModel_bigSet_42 ?_
        refine lv_sipush (v := nI 300) hx hb d_SpectrumDeskModel_bigSet_45 (by decide) ?_
        refine lv_iload_n hx hb d_SpectrumDeskModel_bigSet_48 rfl (lv_at hl 3 rfl) ?_
        refine lv_imul hx hb d_SpectrumDeskModel_bigSet_49 (xr_topi (y := nI (300 * w)) (pk_mul 300 w) ?_)
        refine lv_iload hx hb d_SpectrumDeskModel_bigSet_50 (lv_at hl 1 rfl) ?_
        refine lv_iadd hx hb d_SpectrumDeskModel_bigSet_52 (xr_topi (y := nI ((300 * w) + i)) (nI_add (300 * w) i) ?_)
        refine lv_lload hx hb d_SpectrumDeskModel_bigSet_53 (lv_at hl 0 rfl) ?_
        refine lv_ldc2 (v := 16777215) hx hb X.1.2.2.2.1 (X.1.2.2.2.2 _ (List.mem_cons_of_mem _ k_3ec0f02ce9)) d_SpectrumDeskModel_bigSet_55 ?_
        refine lv_land hx hb d_SpectrumDeskModel_bigSet_58 ?_
        refine lv_l2i hx hb d_SpectrumDeskModel_bigSet_59 rfl ?_
        refine xr_topi (y := nI (u % 16777216)) (q_u24 hu) ?_
        refine xr_iast X I 184 0 (by decide) (r184 ..) rfl (by omega) (by decide) d_SpectrumDeskModel_bigSet_60 (fun H locs I => ?_)
        rw [rw3_P] at I
        refine lv_iinc (k := 1) (v := nI (i + 1)) (lv' := [(4, .int (nI (i + 1))), (5, .long (lN u)), (0, .ref (ad 183)), (1, .int (nI w)), (2, .long v)]) hx hb d_SpectrumDeskModel_bigSet_61 hl rfl (nI_1 i) (by decide) rfl (fun ls hl => ?_)
        refine lv_lload hx hb d_SpectrumDeskModel_bigSet_64 (lv_at hl 1 rfl) ?_
        refine lv_bipush (v := nI 24) hx hb d_SpectrumDeskModel_bigSet_66 (by decide) ?_
        refine lv_lushr hx hb d_SpectrumDeskModel_bigSet_68 rfl ?_
        refine xr_topl (y := lN (u / 16777216)) (q_ushr24 hu) ?_
        refine lv_lstore (lv' := [(5, .long (lN (u / 16777216))), (4, .int (nI (i + 1))), (0, .ref (ad 183)), (1, .int (nI w)), (2, .long v)]) hx hb d_SpectrumDeskModel_bigSet_69 hl (by decide) rfl (fun ls hl => ?_)
        refine lv_goto hx hb d_SpectrumDeskModel_bigSet_71 rfl ?_
        obtain ⟨s1, s2⟩ := rs_step hs hok
        refine ih u0 M2 hM1 hM2 hb0 (i + 1) (u / 16777216) _ ls H locs (by omega) (by omega) s2 s1 (fun j hj => (upd_n (by omega)).trans (hfr j hj)) (fun _ h => ?_) (by omega) hl I
        rw [Nat.add_sub_cancel, upd_s]; intro h2; have h3 := (nI_eq (a := u % 16777216) (b := 0) (by omega) (by decide)).mp h2; omega
  refine lv_aload_n hx hb d_SpectrumDeskModel_bigSet_0 rfl (lv_at hl 0 rfl) ?_
  refine xr_get X I fin_M 183 (by decide) (r183 ..) rfl 2 (by decide) (List.mem_cons_of_mem _ k_7646d4378e) rfl (mF_minus hF) d_SpectrumDeskModel_bigSet_1 ?_
  refine lv_iload_n hx hb d_SpectrumDeskModel_bigSet_4 rfl (lv_at hl 1 rfl) ?_
  refine lv_lload_n hx hb d_SpectrumDeskModel_bigSet_5 rfl (lv_at hl 2 rfl) ?_
  refine lv_lconst (v := 0) hx hb d_SpectrumDeskModel_bigSet_6 (by decide) ?_
  refine W.lcmp hx hb d_SpectrumDeskModel_bigSet_7 ?_
  refine lv_if_ge hx hb d_SpectrumDeskModel_bigSet_8 rfl (fun hc => ?_) (fun hc => ?_)
  · have h0 : 0 ≤ v := (lg_cmp_ge _ _).mp hc
    refine lv_iconst (v := nI 0) hx hb d_SpectrumDeskModel_bigSet_15 (by decide) ?_
    refine xr_zast X I 186 2 (by decide) (r186 ..) rfl (by omega) (by decide) d_SpectrumDeskModel_bigSet_16 (fun H locs I => ?_)
    rw [rw3_M, show vp_nar .boolean (nI 0) = 0 by decide] at I
    refine lv_iconst (v := nI 0) hx hb d_SpectrumDeskModel_bigSet_17 (by decide) ?_
    refine lv_istore (lv' := [(4, .int (nI 0)), (0, .ref (ad 183)), (1, .int (nI w)), (2, .long v)]) hx hb d_SpectrumDeskModel_bigSet_18 hl (by decide) rfl (fun ls hl => ?_)
    refine lv_lload_n hx hb d_SpectrumDeskModel_bigSet_20 rfl (lv_at hl 3 rfl) ?_
    refine lv_lconst (v := 0) hx hb d_SpectrumDeskModel_bigSet_21 (by decide) ?_
    refine W.lcmp hx hb d_SpectrumDeskModel_bigSet_22 ?_
    refine lv_if_ge hx hb d_SpectrumDeskModel_bigSet_23 rfl (fun hd => ?_) (fun hd => ?_)
    · obtain ⟨u0, a1, a2, a3⟩ := q_pos (v := v) (Int64.not_lt.mpr h0)
      refine lv_lload_n hx hb d_SpectrumDeskModel_bigSet_31 rfl (lv_at hl 3 rfl) ?_
      refine xr_topl (y := lN u0) a2 ?_
      refine lv_lstore (lv' := [(5, .long (lN u0)), (4, .int (nI 0)), (0, .ref (ad 183)), (1, .int (nI w)), (2, .long v)]) hx hb d_SpectrumDeskModel_bigSet_32 hl (by decide) rfl (fun ls hl => ?_)
      exact loop (u0 + 1) u0 (upd M w 0) (fun j hj => upd_n hj) (Or.inl ⟨upd_s, by omega⟩) a1 0 u0 P ls _ _ (by omega) a1 (by simp [rg]) (fun j hj => absurd hj (Nat.not_lt_zero _)) (fun _ _ => rfl) (fun h => absurd h (by decide)) (by decide) hl I
    · exact absurd h0 (fun h => hd ((lg_cmp_ge _ _).mpr h))
  · have hn : ¬ 0 ≤ v := fun h => hc ((lg_cmp_ge _ _).mpr h)
    refine lv_iconst (v := nI 1) hx hb d_SpectrumDeskModel_bigSet_11 (by decide) ?_
    refine lv_goto hx hb d_SpectrumDeskModel_bigSet_12 rfl ?_
    refine xr_zast X I 186 2 (by decide) (r186 ..) rfl (by omega) (by decide) d_SpectrumDeskModel_bigSet_16 (fun H locs I => ?_)
    rw [rw3_M, show vp_nar .boolean (nI 1) = 1 by decide] at I
    refine lv_iconst (v := nI 0) hx hb d_SpectrumDeskModel_bigSet_17 (by decide) ?_
    refine lv_istore (lv' := [(4, .int (nI 0)), (0, .ref (ad 183)), (1, .int (nI w)), (2, .long v)]) hx hb d_SpectrumDeskModel_bigSet_18 hl (by decide) rfl (fun ls hl => ?_)
    refine lv_lload_n hx hb d_SpectrumDeskModel_bigSet_20 rfl (lv_at hl 3 rfl) ?_
    refine lv_lconst (v := 0) hx hb d_SpectrumDeskModel_bigSet_21 (by decide) ?_
    refine W.lcmp hx hb d_SpectrumDeskModel_bigSet_22 ?_
    refine lv_if_ge hx hb d_SpectrumDeskModel_bigSet_23 rfl (fun hd => ?_) (fun hd => ?_)
    · exact absurd ((lg_cmp_ge _ _).mp hd) hn
    · obtain ⟨u0, a1, a2, a3⟩ := q_abs (v := v) (by have := Int64.not_le.mp hn; exact this)
      refine lv_lload_n hx hb d_SpectrumDeskModel_bigSet_26 rfl (lv_at hl 3 rfl) ?_
      refine lv_lneg hx hb d_SpectrumDeskModel_bigSet_27 ?_
      refine xr_topl (y := lN u0) a2 ?_
      refine lv_goto hx hb d_SpectrumDeskModel_bigSet_28 rfl ?_
      refine lv_lstore (lv' := [(5, .long (lN u0)), (4, .int (nI 0)), (0, .ref (ad 183)), (1, .int (nI w)), (2, .long v)]) hx hb d_SpectrumDeskModel_bigSet_32 hl (by decide) rfl (fun ls hl => ?_)
      exact loop (u0 + 1) u0 (upd M w 1) (fun j hj => upd_n hj) (Or.inr ⟨upd_s, by omega⟩) a1 0 u0 P ls _ _ (by omega) a1 (by simp [rg]) (fun j hj => absurd hj (Nat.not_lt_zero _)) (fun _ _ => rfl) (fun h => absurd h (by decide)) (by decide) hl I
set_option maxHeartbeats 4000000 in
set_option maxRecDepth 100000 in
theorem c_SpectrumDeskModel_bigCopy {l : Launch} {D : va_G} {cI cJ cZ cC cG cP : ClassId} {ad : Nat → Nat} {σ0 : Nat → va_E} {fs : List Value} {P L M : Nat → Int32} {w u : Nat} {x : Int} (hF : mF ad fs) (hw : w < 112) (hu : u < 112) (hne : u ≠ w) (hx0 : rb P L M u x) :
    Met l y_SpectrumDeskModel_bigCopy v_SpectrumDeskModel_bigCopy (xrm 0) (va_Pc [.ref (ad 183), .int (nI w), .int (nI u)] (xS D classes (xT cI cJ cZ cC cG cP) 193 ad (rw3 σ0 ciM cI cZ fs P L M))) (va_Qv (rb_up σ0 ciM cI cZ fs P L M w x) (xS D classes (xT cI cJ cZ cC cG cP) 193 ad) (xA 193 ad)) 0 0 (xA 193 ad) := by
  obtain ⟨n, n1, n2, n3, n4, n5⟩ := hx0
  have hnar : vp_nar .boolean (M u) = M u := by rcases n5 with ⟨h, -⟩ | ⟨h, -⟩ <;> rw [h] <;> decide
  refine xr_met rfl (Nat.le_of_ble_eq_true rfl) ?_
  intro p e s m args below meth c ls hx hb X hr hlk hl I
  have hl : lv_has ls 4 [(0, .ref (ad 183)), (1, .int (nI w)), (2, .int (nI u))] := hl
  refine lv_aload_n hx hb d_SpectrumDeskModel_bigCopy_0 rfl (lv_at hl 0 rfl) ?_
  refine xr_get X I fin_M 183 (by decide) (r183 ..) rfl 2 (by decide) (List.mem_cons_of_mem _ k_7646d4378e) rfl (mF_minus hF) d_SpectrumDeskModel_bigCopy_1 ?_
  refine lv_iload_n hx hb d_SpectrumDeskModel_bigCopy_4 rfl (lv_at hl 1 rfl) ?_
  refine lv_aload_n hx hb d_SpectrumDeskModel_bigCopy_5 rfl (lv_at hl 0 rfl) ?_
  refine xr_get X I fin_M 183 (by decide) (r183 ..) rfl 2 (by decide) (List.mem_cons_of_mem _ k_7646d4378e) rfl (mF_minus hF) d_SpectrumDeskModel_bigCopy_6 ?_
  refine lv_iload_n hx hb d_SpectrumDeskModel_bigCopy_9 rfl (lv_at hl 2 rfl) ?_
  refine xr_zald X I 186 2 (by decide) (r186 ..) rfl (by omega) (by decide) d_SpectrumDeskModel_bigCopy_10 ?_
  refine xr_zast X I 186 2 (by decide) (r186 ..) rfl (by omega) (by decide) d_SpectrumDeskModel_bigCopy_11 (fun H locs I => ?_)
  rw [rw3_M, hnar] at I
  refine lv_aload_n hx hb d_SpectrumDeskModel_bigCopy_12 rfl (lv_at hl 0 rfl) ?_
  refine xr_get X I fin_M 183 (by decide) (r183 ..) rfl 1 (by decide) (List.mem_cons_of_mem _ k_4ae214c350) rfl (mF_lengths hF) d_SpectrumDeskModel_bigCopy_13 ?_
  refine lv_iload_n hx hb d_SpectrumDeskModel_bigCopy_16 rfl (lv_at hl 1 rfl) ?_
  refine lv_aload_n hx hb d_SpectrumDeskModel_bigCopy_17 rfl (lv_at hl 0 rfl) ?_
  refine xr_get X I fin_M 183 (by decide) (r183 ..) rfl 1 (by decide) (List.mem_cons_of_mem _ k_4ae214c350) rfl (mF_lengths hF) d_SpectrumDeskModel_bigCopy_18 ?_
  refine lv_iload_n hx hb d_SpectrumDeskModel_bigCopy_21 rfl (lv_at hl 2 rfl) ?_
  refine xr_iald X I 185 0 (by decide) (r185 ..) rfl (by omega) (by decide) d_SpectrumDeskModel_bigCopy_22 ?_
  refine xr_topi (y := nI n) n2 ?_
  refine xr_iast X I 185 0 (by decide) (r185 ..) rfl (by omega) (by decide) d_SpectrumDeskModel_bigCopy_23 (fun H locs I => ?_)
  rw [rw3_L] at I
  refine lv_iconst (v := nI 0) hx hb d_SpectrumDeskModel_bigCopy_24 (by decide) ?_
  refine lv_istore_n (lv' := [(3, .int (nI 0)), (0, .ref (ad 183)), (1, .int (nI w)), (2, .int (nI u))]) hx hb d_SpectrumDeskModel_bigCopy_25 rfl hl (by decide) rfl (fun ls hl => ?_)
  have loop : ∀ (k : Nat) (i : Nat) (P2 : Nat → Int32) (ls : Array Slot) (H : Heap) (locs : List Loc), i + k = n → (∀ j, j < 300 * w ∨ 300 * w + 300 ≤ j → P2 j = P j) → (∀ j, j < i → P2 (300 * w + j) = P (300 * u + j)) → lv_has ls 4 [(3, .int (nI i)), (0, .ref (ad 183)), (1, .int (nI w)), (2, .int (nI u))] → xI D classes 193 ad s.heap (rw3 σ0 ciM cI cZ fs P2 (upd L w (nI n)) (upd M w (M u))) H locs → W p l e (xrm 0) s m args below meth c H locs 0 0 (MQ below (va_Qv (rb_up σ0 ciM cI cZ fs P L M w x) (xS D classes (xT cI cJ cZ cC cG cP) 193 ad) (xA 193 ad)) args s 0 0 (xA 193 ad)) (F0 m 26 ls []) := by
    intro k
    induction k with
    | zero =>
      intro i P2 ls H locs hk hfr hcp hl I
      obtain rfl : i = n := by omega
      refine lv_iload_n hx hb d_SpectrumDeskModel_bigCopy_26 rfl (lv_at hl 0 rfl) ?_
      refine lv_aload_n hx hb d_SpectrumDeskModel_bigCopy_27 rfl (lv_at hl 1 rfl) ?_
      refine xr_get X I fin_M 183 (by decide) (r183 ..) rfl 1 (by decide) (List.mem_cons_of_mem _ k_4ae214c350) rfl (mF_lengths hF) d_SpectrumDeskModel_bigCopy_28 ?_
      refine lv_iload_n hx hb d_SpectrumDeskModel_bigCopy_31 rfl (lv_at hl 3 rfl) ?_
      refine xr_iald X I 185 0 (by decide) (r185 ..) rfl (by omega) (by decide) d_SpectrumDeskModel_bigCopy_32 ?_
      refine xr_topi (y := nI i) ((upd_n hne).trans n2) ?_
      refine lv_icmp_ge hx hb d_SpectrumDeskModel_bigCopy_33 rfl (fun hc => ?_) (fun hc => ?_)
      · exact xr_vret X I hr hlk ⟨P2, upd L w (nI i), upd M w (M u), rfl, ⟨hfr, fun j hj => upd_n hj, fun j hj => upd_n hj⟩, i, n1, upd_s, rg_ok_congr (P' := P) (o' := 300 * u) (fun j hj => hcp j hj) n3, fun h => by rw [hcp _ (by omega)]; exact n4 h, by rw [upd_s, rg_congr (P' := P) (o' := 300 * u) (fun j hj => hcp j hj)]; exact n5⟩ d_SpectrumDeskModel_bigCopy_66
      · exact absurd (nI_le (Nat.le_refl _) (by omega)) hc
    | succ k ih =>
      intro i P2 ls H locs hk hfr hcp hl I
      refine lv_iload_n hx hb d_SpectrumDeskModel_bigCopy_26 rfl (lv_at hl 0 rfl) ?_
      refine lv_aload_n hx hb d_SpectrumDeskModel_bigCopy_27 rfl (lv_at hl 1 rfl) ?_
      refine xr_get X I fin_M 183 (by decide) (r183 ..) rfl 1 (by decide) (List.mem_cons_of_mem _ k_4ae214c350) rfl (mF_lengths hF) d_SpectrumDeskModel_bigCopy_28 ?_
      refine lv_iload_n hx hb d_SpectrumDeskModel_bigCopy_31 rfl (lv_at hl 3 rfl) ?_
      refine xr_iald X I 185 0 (by decide) (r185 ..) rfl (by omega) (by decide) d_SpectrumDeskModel_bigCopy_32 ?_
      refine xr_topi (y := nI n) ((upd_n hne).trans n2) ?_
      refine lv_icmp_ge hx hb d_SpectrumDeskModel_bigCopy_33 rfl (fun hc => ?_) (fun hc => ?_)
      · exact absurd hc (nI_ge (by omega) (by omega))
      · refine lv_aload_n hx hb d_SpectrumDeskModel_bigCopy_36 rfl (lv_at hl 1 rfl) ?_
        refine xr_get X I fin_M 183 (by decide) (r183 ..) rfl 0 (by decide) (List.mem_cons_of_mem _ k_eae5455160) rfl (mF_parts hF) d_SpectrumDeskModel_bigCopy_37 ?_
        refine lv_sipush (v := nI 300) hx hb d_SpectrumDeskModel_bigCopy_40 (by decide) ?_
        refine lv_iload_n hx hb d_SpectrumDeskModel_bigCopy_43 rfl (lv_at hl 2 rfl) ?_
        refine lv_imul hx hb d_SpectrumDeskModel_bigCopy_44 (xr_topi (y := nI (300 * w)) (pk_mul 300 w) ?_)
        refine lv_iload_n hx hb d_SpectrumDeskModel_bigCopy_45 rfl (lv_at hl 0 rfl) ?_
        refine lv_iadd hx hb d_SpectrumDeskModel_bigCopy_46 (xr_topi (y := nI ((300 * w) + i)) (nI_add (300 * w) i) ?_)
        refine lv_aload_n hx hb d_SpectrumDeskModel_bigCopy_47 rfl (lv_at hl 1 rfl) ?_
        refine xr_get X I fin_M 183 (by decide) (r183 ..) rfl 0 (by decide) (List.mem_cons_of_mem _ k_eae5455160) rfl (mF_parts hF) d_SpectrumDeskModel_bigCopy_48 ?_
        refine lv_sipush (v := nI 300) hx hb d_SpectrumDeskModel_bigCopy_51 (by decide) ?_
        refine lv_iload_n hx hb d_SpectrumDeskModel_bigCopy_54 rfl (lv_at hl 3 rfl) ?_
        refine lv_imul hx hb d_SpectrumDeskModel_bigCopy_55 (xr_topi (y := nI (300 * u)) (pk_mul 300 u) ?_)
        refine lv_iload_n hx hb d_SpectrumDeskModel_bigCopy_56 rfl (lv_at hl 0 rfl) ?_
        refine lv_iadd hx hb d_SpectrumDeskModel_bigCopy_57 (xr_topi (y := nI ((300 * u) + i)) (nI_add (300 * u) i) ?_)
        refine xr_iald X I 184 0 (by decide) (r184 ..) rfl (by omega) (by decide) d_SpectrumDeskModel_bigCopy_58 ?_
        refine xr_topi (y := P (300 * u + i)) (hfr _ (by omega)) ?_
        refine xr_iast X I 184 0 (by decide) (r184 ..) rfl (by omega) (by decide) d_SpectrumDeskModel_bigCopy_59 (fun H locs I => ?_)
        rw [rw3_P] at I
        refine lv_iinc (k := 0) (v := nI (i + 1)) (lv' := [(3, .int (nI (i + 1))), (0, .ref (ad 183)), (1, .int (nI w)), (2, .int (nI u))]) hx hb d_SpectrumDeskModel_bigCopy_60 hl rfl (nI_1 i) (by decide) rfl (fun ls hl => ?_)
        refine lv_goto hx hb d_SpectrumDeskModel_bigCopy_63 rfl ?_
        refine ih (i + 1) _ ls H locs (by omega) (fun j hj => (upd_n (by omega)).trans (hfr j hj)) (fun j hj => ?_) hl I
        by_cases ej : j = i
        · rw [ej, upd_s]
        · rw [upd_n (by omega)]; exact hcp j (by omega)
  exact loop n 0 P ls _ _ (by omega) (fun _ _ => rfl) (fun j hj => absurd hj (Nat.not_lt_zero _)) hl I
